/-! L3: paces and undo, the class -/
noncomputable def pzS (B T : LW) : Nat → Sig → List Sig → Sig × List Sig × Nat
  | 0, w, L => (w, L, 0)
  | k + 1, w, L => @ite (Sig × List Sig × Nat) (hasP w) (Classical.propDecidable _) ((pzS B T k (goW B T false w) (kL L ++ [w])).1, (pzS B T k (goW B T false w) (kL L ++ [w])).2.1, (pzS B T k (goW B T false w) (kL L ++ [w])).2.2 + 1) (w, L, 0)
theorem pz_n {B T : LW} {k : Nat} {w : Sig} {L : List Sig} (h : ¬ hasP w) : pzS B T k w L = (w, L, 0) := by
  cases k with
  | zero => rfl
  | succ k => rw [pzS]; exact if_neg h
theorem pz_y {B T : LW} {k : Nat} {w : Sig} {L : List Sig} (h : hasP w) : pzS B T (k + 1) w L = ((pzS B T k (goW B T false w) (kL L ++ [w])).1, (pzS B T k (goW B T false w) (kL L ++ [w])).2.1, (pzS B T k (goW B T false w) (kL L ++ [w])).2.2 + 1) := by
  rw [pzS]; exact if_pos h
theorem pz_ok {B T : LW} : ∀ k (w : Sig) (L : List Sig), WI B T w → UL B T L w → WI B T (pzS B T k w L).1 ∧ UL B T (pzS B T k w L).2.1 (pzS B T k w L).1 := by
  intro k
  induction k with
  | zero => intro w L hW h; exact ⟨hW, h⟩
  | succ k ih =>
    intro w L hW h
    by_cases hp : hasP w
    · rw [pz_y hp]; exact ih _ _ (WI_go hW hp) (UL_go h hW (Td_go hW hp))
    · rw [pz_n hp]; exact ⟨hW, h⟩
abbrev pzC (ω : Sig) (a : Int32) : Prop := (1 ≤ a ∧ a ≤ 200) ∧ ω 1 6 + a ≤ 99999
noncomputable def pz3 (B T : LW) (ω : Sig) (L : List Sig) (a : Int32) : Sig × List Sig × Nat := if pzC ω a then pzS B T a.toNatClampNeg ω L else (ω, L, 0)
noncomputable def pacesA (B T : LW) (ω : Sig) (L : List Sig) (a : Int32) : Int32 := if pzC ω a then nI (pz3 B T ω L a).2.2 else -1
theorem CU_fr {L : List Sig} {σ σ' : Sig} (h : CU L σ) (e8 : σ' 0 8 = σ 0 8) (e7 : σ' 0 7 = σ 0 7) (f : ∀ q, 88 ≤ q → q < 112 → σ' q = σ q) : CU L σ' := by
  obtain ⟨h8, o, ho, h7, hm⟩ := h
  refine ⟨e8.trans h8, o, ho, e7.trans h7, fun j hj => ?_⟩
  have h1 : (o + j) % 6 < 6 := by omega
  exact MM_fr (hm j hj) (f _ (by omega) (by omega)) (f _ (by omega) (by omega)) (f _ (by omega) (by omega)) (f _ (by omega) (by omega))
theorem MM_w {w σ σ' : Sig} {q : Nat} (r : RW false w σ) (h : MM σ q σ') : MM w q σ' := by
  have e1 : σ 1 = w 1 := RW_q r (by omega) (by omega) (by omega) (by omega)
  have e7 : σ 7 = w 7 := RW_q r (by omega) (by omega) (by omega) (by omega)
  have e9 : σ 9 = w 9 := RW_q r (by omega) (by omega) (by omega) (by omega)
  have e10 : σ 10 = w 10 := RW_q r (by omega) (by omega) (by omega) (by omega)
  have e25 : σ 25 = w 25 := (r.2.1 rfl).1
  unfold MM at h ⊢
  rw [e1, e7, e9, e10, e25] at h
  exact h
def SCP : List Nat := SCV ++ [88, 89, 90, 91, 92, 93, 94, 95, 96, 97, 98, 99, 100, 101, 102, 103, 104, 105, 106, 107, 108, 109, 110, 111]
def SLP : List (Nat × Nat) := (0, 7) :: (0, 8) :: SLC
theorem SCP_m {q : Nat} (h1 : 88 ≤ q) (h2 : q < 112) : q ∈ SCP := by unfold SCP; rw [List.mem_append]; right; simp; omega
theorem SCV_n {q : Nat} (h1 : 88 ≤ q) (h2 : q < 112) : q ∉ SCV := by unfold SCV; simp; omega
theorem SLC_n {q : Nat} (h1 : 88 ≤ q) (h2 : q < 112) : ∀ x ∈ SLC, x.1 ≠ q := by unfold SLC; simp; omega
theorem c_paces (d : Nat) {B T : LW} {L : List Sig} {σ : Sig} (a : Int32) (hW : WI B T σ) (h0 : σ 67 8 = 0) (hU : UL B T L σ) (hC : CU L σ) :
    ∃ σ', Ex (d + 7) 108 0 [.ref 0, .int a, .null] [] G0 σ = some (some (.int (pacesA B T σ L a)), G0, σ') ∧ RW false (pz3 B T σ L a).1 σ' ∧ CU (pz3 B T σ L a).2.1 σ' ∧ Fr SCP ((0, 10) :: SLP) σ σ' ∧ (pzC σ a → σ' 0 10 = 0) ∧ (¬ pzC σ a → σ' = σ) := by
  have main : ∀ n, n ≤ 200 → ∀ k i (w : Sig) (L : List Sig) (σ1 : Sig), i + k = n → WI B T w → RW false w σ1 → UL B T L w → CU L σ1 → σ1 67 8 = 0 → ∃ σ', Ex (d + 7) 108 34 [.ref 0, .int (nI n), .int (nI i)] [] G0 σ1 = some (some (.int (nI (i + (pzS B T k w L).2.2))), G0, σ') ∧ RW false (pzS B T k w L).1 σ' ∧ CU (pzS B T k w L).2.1 σ' ∧ Fr SCP SLP σ1 σ' := by
    intro n hn k
    induction k with
    | zero =>
      intro i w L σ1 hi hWw r hU hC z
      rw [b108_34]
      have q : (nI n ≤ nI i) = True := by rw [nJ_le (by omega) (by omega)]; exact eq_true (by omega)
      simp only [q, i10, i01, eq_self, if_true, if_false, true_and, false_and, and_true, and_false, not_true, not_false_iff, true_or, or_true, false_or, or_false, ne_eq, not_true_eq_false, not_false_eq_true]
      exact ⟨σ1, rfl, r, hC, Fr_r⟩
    | succ k ih =>
      intro i w L σ1 hi hWw r hU hC z
      rw [b108_34]
      have q : (nI n ≤ nI i) = False := by rw [nJ_le (by omega) (by omega)]; exact eq_false (by omega)
      simp only [q, i10, i01, eq_self, if_true, if_false, true_and, false_and, and_true, and_false, not_true, not_false_iff, true_or, or_true, false_or, or_false, ne_eq, not_true_eq_false, not_false_eq_true, (fun d => c_hasPace d hWw r), Option.bind_some, Option.toList_some, Option.toList_none, List.cons_append, List.nil_append, i01a, i01b, if_true, if_false, b108_46]
      by_cases hp : hasP w
      · rw [@bI_T _ (Classical.propDecidable _) hp, pz_y hp]
        obtain ⟨σ2, j, hj, e2, f2, g2⟩ := c_nextM (d + 6) hC hU.1
        obtain ⟨σ3, e3, f3, m3⟩ := c_takeM (d + 4) σ2 hj
        have r2 : RW false w σ2 := RW_fr r f2 (by simp) (by simp)
        have r3 : RW false w σ3 := RW_fr r2 f3 (by simp; omega) (by simp)
        have hC3 := g2 w σ3 f3 (MM_w r2 m3)
        have z3 : σ3 67 8 = 0 := by rw [f3 67 8 (by simp; omega) (by simp), f2 67 8 (by simp) (by simp)]; exact z
        obtain ⟨σ4, e4, r4, f4⟩ := c_step d hWw r3 z3 hp
        have hC4 : CU (kL L ++ [w]) σ4 := CU_fr hC3 (f4 0 8 (by decide) (by decide)) (f4 0 7 (by decide) (by decide)) (fun q h1 h2 => Fr_q f4 (SCV_n h1 h2) (SLC_n h1 h2))
        simp only [i10, i01, eq_self, if_true, if_false, true_and, false_and, and_true, and_false, not_true, not_false_iff, true_or, or_true, false_or, or_false, ne_eq, not_true_eq_false, not_false_eq_true, e2, Option.bind_some, Option.toList_some, Option.toList_none, List.cons_append, List.nil_append, i01a, i01b, if_true, if_false, b108_53]
        rw [ca108 (d + 6) _ _ _ hj]
        simp only [e3, Option.bind_some, Option.toList_some, Option.toList_none, List.cons_append, List.nil_append, i01a, i01b, if_true, if_false, b108_60, e4, b108_67, nI_s]
        obtain ⟨σ', e', w1, w2, w3⟩ := ih (i + 1) (goW B T false w) (kL L ++ [w]) σ4 (by omega) (WI_go hWw hp) r4 (UL_go hU hWw (Td_go hWw hp)) hC4 (by rw [f4 67 8 (by decide) (by decide)]; exact z3)
        refine ⟨σ', ?_, w1, w2, Fr_t (Fr_m f2 (by simp) (by unfold SLP; simp)) (Fr_t (Fr_m f3 ?_ (by simp)) (Fr_t (Fr_m f4 (by decide) (fun x hx => Or.inl (by unfold SLP; simp [hx]))) w3))⟩
        · rw [e']
          rw [show i + 1 + (pzS B T k (goW B T false w) (kL L ++ [w])).2.2 = i + ((pzS B T k (goW B T false w) (kL L ++ [w])).2.2 + 1) by omega]
        · intro q hq
          have hj' : j ≤ 5 := Nat.le_of_lt_succ hj
          simp at hq
          have a1 : 88 ≤ q := by omega
          have a2 : q < 112 := by rcases hq with h | h | h | h <;> rw [h] <;> omega
          exact SCP_m a1 a2
      · rw [@bI_F _ (Classical.propDecidable _) hp, pz_n hp]
        simp only [i10, i01, eq_self, if_true, if_false, true_and, false_and, and_true, and_false, not_true, not_false_iff, true_or, or_true, false_or, or_false, ne_eq, not_true_eq_false, not_false_eq_true]
        exact ⟨σ1, rfl, r, hC, Fr_r⟩
  simp only [b108_0, c_within, Option.bind_some, Option.toList_some, Option.toList_none, List.cons_append, List.nil_append, i01a, i01b, if_true, if_false, b108_8, bI_z, bI_o, bI_em, ite_not]
  unfold pacesA pz3
  by_cases c : pzC σ a
  · have c1 := c.1
    have c2 := c.2
    obtain ⟨n, en, n1, n2, n3⟩ := bwN (x := a) (a := 1) (b := 200) ⟨by have := c1.1; rw [Int32.le_iff_toInt_le] at this; exact this, by have := c1.2; rw [Int32.le_iff_toInt_le] at this; exact this⟩
    obtain ⟨σ', e', w1, w2, w3⟩ := main n (by omega) n 0 σ L (pt σ 0 10 0) (by omega) hW (RW_fr (RW_r hW false) (Fr_p Fr_r (Or.inr (by simp)) : Fr [] [(0, 10)] σ (pt σ 0 10 0)) (by simp) (by simp)) hU (CU_fr hC (pt_k (by decide)) (pt_k (by decide)) (fun q h1 h2 => pt_q (by omega))) (by rw [pt_q (by decide)]; exact h0)
    have e2 : Ex (d + 7) 108 34 [.ref 0, .int a, .int 0] [] G0 (pt σ 0 10 0) = _ := (congrArg (fun x => Ex (d + 7) 108 34 [.ref 0, .int x, .int 0] [] G0 (pt σ 0 10 0)) en).trans e'
    simp only [c1, c2, eq_true c, i10, i01, eq_self, if_true, if_false, true_and, false_and, and_true, and_false, not_true, not_false_iff, true_or, or_true, false_or, or_false, ne_eq, not_true_eq_false, not_false_eq_true, e2, n3, Nat.zero_add]
    refine ⟨σ', rfl, w1, w2, Fr_t (Fr_p Fr_r (Or.inr (by simp))) (Fr_m w3 (fun q h => h) (fun x hx => Or.inl (by simp [hx]))), fun _ => ?_, fun h => h.elim⟩
    rw [w3 0 10 (by decide) (by decide), pt_e]
  · simp only [eq_false c, i10, i01, eq_self, if_true, if_false, true_and, false_and, and_true, and_false, not_true, not_false_iff, true_or, or_true, false_or, or_false, ne_eq, not_true_eq_false, not_false_eq_true]
    refine ⟨σ, ?_, RW_r hW false, hC, Fr_r, fun h => h.elim, fun _ => rfl⟩
    by_cases c1 : 1 ≤ a ∧ a ≤ 200
    · have c2 : ¬ σ 1 6 + a ≤ 99999 := fun h => c ⟨c1, h⟩
      simp only [c1, c2, i10, i01, eq_self, if_true, if_false, true_and, false_and, and_true, and_false, not_true, not_false_iff, true_or, or_true, false_or, or_false, ne_eq, not_true_eq_false, not_false_eq_true]
    · simp only [c1, i10, i01, eq_self, if_true, if_false, true_and, false_and, and_true, and_false, not_true, not_false_iff, true_or, or_true, false_or, or_false, ne_eq, not_true_eq_false, not_false_eq_true]
theorem c_undo0 (d : Nat) {σ : Sig} (hC : CU [] σ) : Ex (d + 3) 128 0 [.ref 0] [] G0 σ = some (some (.int 0), G0, σ) := by
  have e8 : σ 0 8 = 0 := hC.1
  simp only [b128_0, e8, i10, i01, eq_self, if_true, if_false, true_and, false_and, and_true, and_false, not_true, not_false_iff, true_or, or_true, false_or, or_false, ne_eq, not_true_eq_false, not_false_eq_true]
theorem c_undo1 (d : Nat) {L : List Sig} {v σ : Sig} (hC : CU (L ++ [v]) σ) (hl : L.length < 6) (t : Td v σ) : ∃ σ', Ex (d + 3) 128 0 [.ref 0] [] G0 σ = some (some (.int 1), G0, σ') ∧ Wb v σ' ∧ CU L σ' ∧ σ' 0 10 = 0 ∧ Fr [7, 9, 10] [(1, 5), (1, 6), (1, 7), (1, 8), (1, 9), (1, 10), (25, 0), (0, 8), (0, 10)] σ σ' := by
  obtain ⟨h8, o, ho, h7, hm⟩ := hC
  have e8 : σ 0 8 = nI (L.length + 1) := by rw [h8, List.length_append]; rfl
  have q : (nI (L.length + 1) = 0) = False := by rw [nI_z (by omega)]; exact eq_false (by omega)
  have e9 : nI (L.length + 1) - 1 = nI L.length := nI_sub' (b := 1) (by omega)
  have ix : nI o + nI L.length - (nI o + nI L.length) / 6 * 6 = nI ((o + L.length) % 6) := by
    have a1 : nI o + nI L.length = nI (o + L.length) := (Int32.ofNat_add _ _).symm
    rw [a1, md6 (by omega)]
  have hj : (o + L.length) % 6 < 6 := Nat.mod_lt _ (by decide)
  have hmv : MM v (88 + 4 * ((o + L.length) % 6)) σ := by
    have := hm L.length (by rw [List.length_append]; simp)
    rw [List.getElem_append_right (by omega)] at this
    simpa using this
  obtain ⟨σ2, e2, f2, m2, k2⟩ := c_giveM d (pt σ 0 8 (nI L.length)) hj
  simp only [b128_0, e8, q, e9, i10, i01, eq_self, if_true, if_false, true_and, false_and, and_true, and_false, not_true, not_false_iff, true_or, or_true, false_or, or_false, ne_eq, not_true_eq_false, not_false_eq_true]
  simp (disch := decide) only [pt_e, pt_k, h7, ix]
  rw [aa128 _ _ hj, b128_36, ca128 (d + 2) _ hj, e2]
  simp only [Option.bind_some, Option.toList_some, Option.toList_none, List.cons_append, List.nil_append, i01a, i01b, if_true, if_false, b128_43]
  have f1 : Fr [7, 9, 10] [(1, 5), (1, 6), (1, 7), (1, 8), (1, 9), (1, 10), (25, 0), (0, 8), (0, 10)] σ (pt σ 0 8 (nI L.length)) := Fr_p Fr_r (Or.inr (by simp))
  have th : Th v (pt σ 0 8 (nI L.length)) := by
    obtain ⟨⟨t1, t2, t3, t4, t5⟩, _⟩ := t
    exact ⟨fun q a b c => by rw [pt_q (by omega)]; exact t1 q a b c, fun k hk => by rw [pt_q (by decide)]; exact t2 k hk, fun k hk => by rw [pt_q (by decide), pt_q (by decide), pt_q (by decide)]; exact t3 k hk, fun k hk => by rw [pt_q (by decide)]; exact t4 k hk, fun i hi => by rw [pt_q (by decide)]; exact t5 i hi⟩
  have wb := Th_end th (MM_fr hmv (pt_q (by omega)) (pt_q (by omega)) (pt_q (by omega)) (pt_q (by omega))) f2 m2 k2
  refine ⟨_, rfl, ⟨fun q a b c1 c2 c3 => by rw [pt_q (by omega)]; exact wb.1 q a b c1 c2 c3, fun i hi => by rw [pt_q (by decide)]; exact wb.2 i hi⟩, ⟨?_, o, ho, ?_, fun j hjj => ?_⟩, pt_e, ?_⟩
  · rw [pt_k (by decide), f2 0 8 (by decide) (by simp), pt_e]
  · rw [pt_k (by decide), f2 0 7 (by decide) (by simp), pt_k (by decide)]; exact h7
  · have h1 : (o + j) % 6 < 6 := by omega
    have := hm j (by rw [List.length_append]; omega)
    rw [List.getElem_append_left hjj] at this
    have fq : ∀ q, 88 ≤ q → pt σ2 0 10 0 q = σ q := fun q hq => by rw [pt_q (by omega), Fr_q f2 (by simp; omega) (by simp; omega), pt_q (by omega)]
    exact MM_fr this (fq _ (by omega)) (fq _ (by omega)) (fq _ (by omega)) (fq _ (by omega))
  · exact Fr_p (Fr_t f1 (Fr_m f2 (by simp) (by simp))) (Or.inr (by simp))
