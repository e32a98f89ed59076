/-! a case of the law's switch -/
def av (xs : Nat → Int32) (i k : Nat) : Int32 := xs (nI (i + k)).toNatClampNeg
def argOk (pc k : Nat) : Bool := decide (fnd pc lawT = some (.aload_n 0, 1, [])) && (decide (fnd (pc + 1) lawT = some (.iload_n 3, 1, [])) && (decide (fnd (pc + 2) lawT = some (.iconst (k : Int), 1, [])) && (decide (fnd (pc + 3) lawT = some (.iadd, 1, [])) && decide (fnd (pc + 4) lawT = some (.iaload, 1, [])))))
def argsOk : Nat → Nat → Nat → Bool
  | _, _, 0 => true
  | pc, k, n + 1 => argOk pc k && argsOk (pc + 5) (k + 1) n
def avs (xs : Nat → Int32) (i : Nat) : Nat → Nat → List Int32
  | _, 0 => []
  | k, n + 1 => av xs i k :: avs xs i (k + 1) n
theorem avs_len (xs : Nat → Int32) (i : Nat) : ∀ n k, (avs xs i k n).length = n := by
  intro n
  induction n with
  | zero => intro k; rfl
  | succ n ih => intro k; simp [avs, ih]
theorem i6 : ∀ k : Nat, k < 6 → Int32.ofInt (k : Int) = nI k := by decide
def caseOk (pc n M1 M2 i1 i2 : Nat) : Bool :=
  decide (fnd pc lawT = some (.aload_n 1, 1, [])) && (argsOk (pc + 1) 1 n && (decide (fnd (pc + 1 + 5 * n) lawT = some (.invokevirtual i1, 3, [])) && (decide (fnd (pc + 4 + 5 * n) lawT = some (.aload_n 2, 1, [])) && (argsOk (pc + 5 + 5 * n) 1 n && (decide (fnd (pc + 5 + 10 * n) lawT = some (.invokevirtual i2, 3, [])) && (decide (fnd (pc + 8 + 10 * n) lawT = some (.if_icmp .eq (1021 - ((pc + 8 + 10 * n : Nat) : Int)), 3, [])) && (lcOk M1 n 11 0 && (lcOk M2 n 12 0 && Nat.ble n 5))))))))
def fOk (pc : Nat) : Bool := argOk pc 1 && (decide (fnd (pc + 5) lawT = some (.ifCond .eq 7, 3, [])) && (decide (fnd (pc + 8) lawT = some (.iconst 1, 1, [])) && (decide (fnd (pc + 9) lawT = some (.goto 4, 3, [])) && decide (fnd (pc + 12) lawT = some (.iconst 0, 1, [])))))
def fl01 (v : Int32) : Int32 := bif decide (v = 0) then 0 else 1
theorem g0c : G0.length ≤ 600000 := by decide +kernel
theorem g0s : szG G0 ≤ 7302250 := by decide +kernel
theorem g0o : isO G0 0 11 = true := by decide +kernel
theorem g0m : isO G0 112 12 = true := by decide +kernel
theorem ent_eq {M k : Nat} (h : mL M = k) (as : List Value) : ent M as = as ++ List.replicate (k - as.length) .null := by
  unfold ent
  rw [h]
section LAWD
variable {p : Program} {l : Launch} {e : Env} {s : State} {m : MethodId} {below : List Frame} {meth : Method} {c : Code} {Q : State → Prop}
variable {D : va_G} {cs : ClassId × ClassId × ClassId} {ak : AK} {b L : Nat} {xs : Nat → Int32}
variable {pc : Nat} {σ : Sig} {H : Heap} {locs : List Loc} {ls : Array Slot} {cells slots : Nat}
theorem law_arg (C : LC p s m c D cs ak b L xs) {i k : Nat} {rest : List Value} (hk : k < 6) (hi : i + 6 ≤ L) (hL : L ≤ 3072) (h0 : ls[0]? = some (.val (.ref b))) (h3 : ls[3]? = some (.val (.int (nI i)))) (hS : va_S (AA s.heap.size) s.heap H locs) (hck : argOk pc k = true)
    (kk : W p l e room_1 s m #[Value.ref b] below meth c H locs cells slots Q (F0 m (pc + 5) ls (.int (av xs i k) :: rest))) : W p l e room_1 s m #[Value.ref b] below meth c H locs cells slots Q (F0 m pc ls rest) := by
  obtain ⟨hx, hb, hml, hown, hts, hX, hbl, hK, hN, hAO, hSF⟩ := C
  unfold argOk at hck
  simp only [Bool.and_eq_true, decide_eq_true_eq] at hck
  obtain ⟨d0, d1, d2, d3, d4⟩ := hck
  have hbA : ¬ AA s.heap.size b := Nat.not_le.mpr hbl
  refine lv_aload_n hx hb (ld d0 rfl) rfl h0 ?_
  refine lv_iload_n hx hb (ld d1 rfl) rfl h3 ?_
  refine lv_iconst hx hb (ld d2 rfl) (i6 k hk) ?_
  refine lv_iadd hx hb (ld d3 rfl) ?_
  rw [nI_add]
  exact va_sld hx hb hX hbl hbA hS (vp_in_nI (by omega) (by omega)) (ld d4 rfl) kk
theorem law_args (C : LC p s m c D cs ak b L xs) {i : Nat} (hi : i + 6 ≤ L) (hL : L ≤ 3072) (h0 : ls[0]? = some (.val (.ref b))) (h3 : ls[3]? = some (.val (.int (nI i)))) (hS : va_S (AA s.heap.size) s.heap H locs) : ∀ (n k pc : Nat) (rest : List Value), k + n ≤ 6 → argsOk pc k n = true → W p l e room_1 s m #[Value.ref b] below meth c H locs cells slots Q (F0 m (pc + 5 * n) ls (((avs xs i k n).map Value.int).reverse ++ rest)) → W p l e room_1 s m #[Value.ref b] below meth c H locs cells slots Q (F0 m pc ls rest) := by
  intro n
  induction n with
  | zero => intro k pc rest _ _ h; exact h
  | succ n ih =>
    intro k pc rest hk hck h
    simp only [argsOk, Bool.and_eq_true] at hck
    refine law_arg C (k := k) (by omega) hi hL h0 h3 hS hck.1 ?_
    refine ih (k + 1) (pc + 5) _ (by omega) hck.2 ?_
    simp only [avs, List.map_cons, List.reverse_cons, List.append_assoc, List.singleton_append] at h
    rw [show pc + 5 + 5 * n = pc + 5 * (n + 1) by omega]
    exact h
theorem law_flag (C : LC p s m c D cs ak b L xs) {i : Nat} {rest : List Value} (hi : i + 6 ≤ L) (hL : L ≤ 3072) (h0 : ls[0]? = some (.val (.ref b))) (h3 : ls[3]? = some (.val (.int (nI i)))) (hS : va_S (AA s.heap.size) s.heap H locs) (hck : fOk pc = true)
    (kk : W p l e room_1 s m #[Value.ref b] below meth c H locs cells slots Q (F0 m (pc + 13) ls (.int (fl01 (av xs i 1)) :: rest))) : W p l e room_1 s m #[Value.ref b] below meth c H locs cells slots Q (F0 m pc ls rest) := by
  unfold fOk at hck
  simp only [Bool.and_eq_true, decide_eq_true_eq] at hck
  obtain ⟨a1, d1, d2, d3, d4⟩ := hck
  refine law_arg C (k := 1) (by decide) hi hL h0 h3 hS a1 ?_
  obtain ⟨hx, hb, hml, hown, hts, hX, hbl, hK, hN, hAO, hSF⟩ := C
  refine lv_if_eq (tgt := pc + 12) hx hb (ld d1 rfl) (by omega) (fun h => ?_) (fun h => ?_)
  · refine lv_iconst (v := 0) hx hb (ld d4 rfl) (by decide) ?_
    have e : fl01 (av xs i 1) = 0 := by unfold fl01; rw [decide_eq_true h]; rfl
    rw [e] at kk
    exact kk
  · refine lv_iconst (v := 1) hx hb (ld d2 rfl) (by decide) ?_
    refine lv_goto (tgt := pc + 13) hx hb (ld d3 rfl) (by omega) ?_
    have e : fl01 (av xs i 1) = 1 := by unfold fl01; rw [decide_eq_false h]; rfl
    rw [e] at kk
    exact kk
set_option maxHeartbeats 4000000 in
theorem law_case (C : LC p s m c D cs ak b L xs) {i n M1 M2 i1 i2 : Nat} (hi : i + 6 ≤ L) (hL : L ≤ 3072) (hl : lv_has ls 4 [(0, .ref b), (1, .ref s.heap.size), (2, .ref (s.heap.size + 112)), (3, .int (nI i))]) (hck : caseOk pc n M1 M2 i1 i2 = true) (k1 : Cond.methodLink R_law i1 (mN M1) ∈ lw_tbl) (k2 : Cond.methodLink R_law i2 (mN M2) ∈ lw_tbl) (hw : Wo D cs s.heap.size (AA s.heap.size) s.heap G0 σ H locs)
    (hq : ∃ u σ1 σ2, Ex (0 + 40) M1 0 (ent M1 (.ref 0 :: (avs xs i 1 n).map Value.int)) [] G0 σ = some (some (.int u), G0, σ1) ∧ Ex (0 + 40) M2 0 (ent M2 (.ref 112 :: (avs xs i 1 n).map Value.int)) [] G0 σ1 = some (some (.int u), G0, σ2) ∧ INV σ2)
    (kk : ∀ (σ2 : Sig) (H1 : Heap) (locs1 : List Loc), INV σ2 → Wo D cs s.heap.size (AA s.heap.size) s.heap G0 σ2 H1 locs1 → W p l e room_1 s m #[Value.ref b] below meth c H1 locs1 G0.length (szG G0) Q (F0 m 1021 ls [])) : W p l e room_1 s m #[Value.ref b] below meth c H locs G0.length (szG G0) Q (F0 m pc ls []) := by
  obtain ⟨hx, hb, -⟩ := id C
  unfold caseOk at hck
  simp only [Bool.and_eq_true, decide_eq_true_eq] at hck
  obtain ⟨d0, a1, d1, d2, a2, d3, d4, o1, o2, hn⟩ := hck
  have hn := Nat.le_of_ble_eq_true hn
  obtain ⟨u, σ1, σ2, e1, e2, hI⟩ := hq
  have h0 := lv_at hl 0 rfl
  have h1 := lv_at hl 1 rfl
  have h2 := lv_at hl 2 rfl
  have h3 := lv_at hl 3 rfl
  refine lv_aload_n hx hb (ld d0 rfl) rfl h1 ?_
  refine law_args C hi hL h0 h3 hw.2.2 n 1 (pc + 1) _ (by omega) a1 ?_
  refine law_callV C (vs := avs xs i 1 n) (q := 0) (rest := []) o1 k1 (ld d1 rfl) g0o (avs_len xs i n 1) rfl (Nat.le_of_ble_eq_true rfl) (Nat.le_of_ble_eq_true rfl) e1 hl.1 g0c g0s hw ?_
  intro H1 locs1 hw1
  rw [show pc + 1 + 5 * n + 3 = pc + 4 + 5 * n by omega]
  refine lv_aload_n hx hb (ld d2 rfl) rfl h2 ?_
  rw [show pc + 4 + 5 * n + 1 = pc + 5 + 5 * n by omega]
  refine law_args C hi hL h0 h3 hw1.2.2 n 1 _ _ (by omega) a2 ?_
  rw [show pc + 5 + 5 * n + 5 * n = pc + 5 + 10 * n by omega]
  refine law_callV C (vs := avs xs i 1 n) (q := 112) (rest := [.int u]) o2 k2 (ld d3 rfl) g0m (avs_len xs i n 1) rfl (Nat.le_of_ble_eq_true rfl) (Nat.le_of_ble_eq_true rfl) e2 hl.1 g0c g0s hw1 ?_
  intro H2 locs2 hw2
  rw [show pc + 5 + 10 * n + 3 = pc + 8 + 10 * n by omega]
  exact lv_icmp_eq (x := u) (y := u) (rest := []) (tgt := 1021) hx hb (ld d4 rfl) (by omega) (fun _ => kk σ2 H2 locs2 hI hw2) (fun h => absurd rfl h)
end LAWD
