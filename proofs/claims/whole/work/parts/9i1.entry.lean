/-! what holds at the law's entry -/
def preB : String := "Ljava/util/function/BiFunction;"
def enT : List Cond := [.stringRef "SixCarry$Reader" (sIdx.getD 0 0) (stx.getD 0 ""), .stringRef "SixCarry$Reader" (sIdx.getD 1 0) (stx.getD 1 ""), .laysStatic "java/lang/String" "COMPACT_STRINGS" "Z", .initialized "java/lang/String", .laysStatic "jdk/internal/util/Preconditions" "SIOOBE_FORMATTER" preB, .initialized "jdk/internal/util/Preconditions", .arrayOver (.object "SixCarry$Moment")]
def enW : List Cond := nestW ++ enT
theorem en_in : psOk enW [(4, 219), (4, 232), (6, 5), (4, 147), (6, 10), (2, 64), (2, 66), (3, 152), (2, 234), (5, 102), (2, 167), (5, 13), (4, 121), (1, 38), (1, 80), (1, 125), (1, 148), (1, 180), (2, 59), (2, 118), (3, 38), (3, 161), (3, 218), (3, 171), (1, 15), (3, 187), (1, 17), (3, 37)] = true := by decide +kernel
def tmS (i : Nat) : Term := .string "SixCarry$Reader" (sIdx.getD i 0)
def tmV (i : Nat) : Term := .field (tmS i) "java/lang/String" "value" "[B"
def strA (i : Nat) : List Cond := [.exactly (tmS i) "java/lang/String", .eq (.field (tmS i) "java/lang/String" "coder" "B") (.int 0), .arrayOf (tmV i) .byte, .eq (.length (tmV i)) (.int (Int32.ofNat (lenS.getD i 0)))]
def strB (i : Nat) : List Cond := (List.range (lenS.getD i 0)).map fun j => .eq (.elem (tmV i) (.int (Int32.ofNat j))) (.int ((bytS.getD i []).getD j 0))
def nrT : List Cond := [.eq (.static "java/lang/String" "COMPACT_STRINGS" "Z") (.int 1), .isRef (.static "jdk/internal/util/Preconditions" "SIOOBE_FORMATTER" preB)]
def nrL : List Cond := (flatC (Jvm.Cond.and given_1 narrow_1)).take 4 ++ (nrT ++ ((flatC (Jvm.Cond.and given_1 narrow_1)).drop 6).take 3 ++ (strA 0 ++ (strB 0 ++ (strA 1 ++ (strB 1 ++ [.not (.eq (tmS 0) (tmS 1))])))))
theorem nr_eq : flatC (Jvm.Cond.and given_1 narrow_1) = nrL := by decide +kernel
theorem nr_of {args : Array Value} {s : State} (h : (Jvm.Cond.and given_1 narrow_1).before args s = true) : ∀ w ∈ nrL, w.before args s = true := by
  rw [← nr_eq]
  exact flat_of_before _ h
theorem nr_in : (∀ w ∈ nrT, w ∈ nrL) ∧ (∀ w ∈ strA 0, w ∈ nrL) ∧ (∀ w ∈ strB 0, w ∈ nrL) ∧ (∀ w ∈ strA 1, w ∈ nrL) ∧ (∀ w ∈ strB 1, w ∈ nrL) ∧ Jvm.Cond.not (.eq (tmS 0) (tmS 1)) ∈ nrL := by
  unfold nrL
  simp only [List.mem_append, List.mem_singleton]
  exact ⟨fun w h => Or.inr (Or.inl (Or.inl h)), fun w h => Or.inr (Or.inr (Or.inl h)), fun w h => Or.inr (Or.inr (Or.inr (Or.inl h))), fun w h => Or.inr (Or.inr (Or.inr (Or.inr (Or.inl h)))), fun w h => Or.inr (Or.inr (Or.inr (Or.inr (Or.inr (Or.inl h))))), Or.inr (Or.inr (Or.inr (Or.inr (Or.inr (Or.inr trivial)))))⟩
theorem cls_len : cls.length = 13 := by decide +kernel
theorem ent_K {s : State} {args : Array Value} (hts : ∀ w ∈ TB, w.before args s = true) (hao : (Cond.arrayOver (.object "SixCarry$Moment")).before args s = true) : ∃ (D : va_G) (cs : ClassId × ClassId × ClassId), va_K D cls (tys3 cs) s := by
  have hk1 : ∀ k : Nat, k < 13 → ∃ (cC : ClassId) (iS : Nat → Nat), u_Kn s (clsA k).1 (clsA k).2.1 (clsA k).2.2 cC iS := fun k hk =>
    u_known (n := (clsA k).2.2) hts (cls_lays hk) (hts _ (in_inst (List.mem_flatMap.mpr ⟨k, List.mem_range.mpr hk, by simp⟩)))
  obtain ⟨c0, i0, -⟩ := hk1 0 (by decide)
  have h0 : ∀ k : Nat, ∃ q : ClassId × (Nat → Nat), k < 13 → u_Kn s (clsA k).1 (clsA k).2.1 (clsA k).2.2 q.1 q.2 := by
    intro k
    by_cases hk : k < 13
    · obtain ⟨cC, iS, h⟩ := hk1 k hk
      exact ⟨(cC, iS), fun _ => h⟩
    · exact ⟨(c0, i0), fun h => absurd h hk⟩
  obtain ⟨f, hf⟩ := Classical.axiomOfChoice h0
  obtain ⟨cI, kI, qI, a1, a2, a3⟩ := Cond.arrayClass_spec (args := args) (first := s) (o := none) (s := s) (idx := []) (type := .int) (hts (.arrayClass .int) (in_misc (by simp [miscW])))
  obtain ⟨cB, kB, qB, b1, b2, b3⟩ := Cond.arrayClass_spec (args := args) (first := s) (o := none) (s := s) (idx := []) (type := .byte) (hts (.arrayClass .byte) (in_misc (by simp [miscW])))
  obtain ⟨qM, cM, kM, o1, -, o3, o4, o5⟩ := Cond.arrayOver_spec (args := args) (first := s) (o := none) (s := s) (idx := []) (n := "SixCarry$Moment") hao
  refine ⟨(fun k => (f k).1, fun k => (f k).2), (cI, cB, cM), ?_, ?_⟩
  · intro k q hq
    have hk : k < 13 := by
      have := (List.getElem?_eq_some_iff.mp hq).1
      rw [cls_len] at this
      exact this
    rw [cls_at k hk] at hq
    cases hq
    exact hf k hk
  · intro k q hq
    match k, hq with
    | 0, hq => cases hq; exact ⟨fun n z => ⟨fun k h => (by cases h), kI, a2, qI, a3⟩, a1⟩
    | 1, hq => cases hq; exact ⟨fun n z => ⟨fun k h => (by cases h), kB, b2, qB, b3⟩, b1⟩
    | 2, hq => cases hq; exact ⟨fun n z => ⟨fun k h => (by cases h), kM, o3, qM, o4⟩, kM, qM, o3, o4, o1, o5⟩
    | k + 3, hq => simp [tys3] at hq
theorem ent_S {s : State} {args : Array Value} (hts : ∀ w ∈ enT, w.before args s = true) (hnr : ∀ w ∈ nrL, w.before args s = true) : ∃ ak : AK, SF ak (AA s.heap.size) s s.heap := by
  have hA : ∀ a : Nat, a < s.heap.size → ¬ AA s.heap.size a := fun a h1 h2 => absurd h2 (Nat.not_le.mpr h1)
  have hi2 : ∀ i : Nat, i < 2 → i = 0 ∨ i = 1 := fun i h => by omega
  have hA0 : ∀ i : Nat, i < 2 → ∀ w ∈ strA i, w.before args s = true := fun i hi w hw => by
    rcases hi2 i hi with rfl | rfl
    · exact hnr w (nr_in.2.1 w hw)
    · exact hnr w (nr_in.2.2.2.1 w hw)
  have hB0 : ∀ i : Nat, i < 2 → ∀ w ∈ strB i, w.before args s = true := fun i hi w hw => by
    rcases hi2 i hi with rfl | rfl
    · exact hnr w (nr_in.2.2.1 w hw)
    · exact hnr w (nr_in.2.2.2.2.1 w hw)
  obtain ⟨adK, adV, hS, hE⟩ := vk_Sof (args := args) (s := s) (N := 2) (tm := tmS) (len := lenS) (byt := bytS) (A := AA s.heap.size)
    (fun i hi => by rcases hi2 i hi with rfl | rfl <;> decide +kernel)
    (fun i hi => hA0 i hi _ (by simp [strA])) (fun i hi => hA0 i hi _ (by simp [strA])) (fun i hi => hA0 i hi _ (by simp [strA, tmV])) (fun i hi => hA0 i hi _ (by simp [strA, tmV]))
    (fun i hi j hj => hB0 i hi _ (List.mem_map.mpr ⟨j, List.mem_range.mpr hj, rfl⟩))
    (fun i j hi hj hne => by
      rcases hi2 i hi with rfl | rfl <;> rcases hi2 j hj with rfl | rfl
      · exact absurd rfl hne
      · exact Or.inl (hnr _ nr_in.2.2.2.2.2)
      · exact Or.inr (hnr _ nr_in.2.2.2.2.2)
      · exact absurd rfl hne) hA
  have hC := va_Zof (A := AA s.heap.size) (hts (.laysStatic "java/lang/String" "COMPACT_STRINGS" "Z") (by simp [enT])) (hts (.initialized "java/lang/String") (by simp [enT])) (va_eqt (hnr _ (nr_in.1 _ (List.mem_cons_self)))) hA
  have hQ := va_Zqof (A := AA s.heap.size) (hts (.laysStatic "jdk/internal/util/Preconditions" "SIOOBE_FORMATTER" preB) (by simp [enT])) (hts (.initialized "jdk/internal/util/Preconditions") (by simp [enT])) (hnr _ (nr_in.1 _ (List.mem_cons_of_mem _ List.mem_cons_self))) hA
  obtain ⟨o, ho⟩ : ∃ o : Option Nat, va_Z "jdk/internal/util/Preconditions" "SIOOBE_FORMATTER" preB (va_rf o) (AA s.heap.size) s s.heap := by
    rcases hQ with h | ⟨t, h⟩
    · exact ⟨none, h⟩
    · exact ⟨some t, h⟩
  refine ⟨(fun j => if j < 10 then adK j else adV (j - 10), o), ?_, ⟨?_, ?_⟩, hC, ho⟩
  · intro j hj
    rcases hi2 j hj with rfl | rfl
    · exact vk_R.of (A := args) (hts _ List.mem_cons_self) (hE 0 (by decide))
    · exact vk_R.of (A := args) (hts _ (List.mem_cons_of_mem _ List.mem_cons_self)) (hE 1 (by decide))
  · intro i hi
    rcases hi2 i hi with rfl | rfl
    · exact hS.1 0 (by decide)
    · exact hS.1 1 (by decide)
  · intro i j hi hj h
    rcases hi2 i hi with rfl | rfl <;> rcases hi2 j hj with rfl | rfl
    · rfl
    · exact hS.2 0 1 hi hj h
    · exact hS.2 1 0 hi hj h
    · rfl
theorem ent_all {s : State} {b : Nat} (hts : ∀ w ∈ lw_tbl, w.before #[Value.ref b] s = true) (hgv : (Jvm.Cond.and given_1 narrow_1).before #[Value.ref b] s = true) : ∃ (D : va_G) (cs : ClassId × ClassId × ClassId) (ak : AK), va_K D cls (tys3 cs) s ∧ (∀ w ∈ nestW, va_Nw w s) ∧ va_AO "SixCarry$Moment" s ∧ SF ak (AA s.heap.size) s s.heap := by
  have hen : ∀ w ∈ enW, w.before #[Value.ref b] s = true := fun w h => hts w (psOk_in en_in w h)
  have hT : ∀ w ∈ enT, w.before #[Value.ref b] s = true := fun w h => hen w (List.mem_append_right _ h)
  have hao := hT (.arrayOver (.object "SixCarry$Moment")) (by simp [enT])
  obtain ⟨D, cs, hK⟩ := ent_K (fun w h => hts w (tb_in w h)) hao
  obtain ⟨ak, hSF⟩ := ent_S hT (nr_of hgv)
  refine ⟨D, cs, ak, hK, ?_, va_AO.of hao, hSF⟩
  intro w hw
  have h := hen w (List.mem_append_left _ hw)
  obtain ⟨a, i, x, y, rfl⟩ := nest_on w hw
  exact va_Nw.of rfl h
