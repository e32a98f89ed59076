/-! L3: the class's shares -/
def MEM (B : LW) (σ : Sig) : Prop := σ 67 8 = 0 ∨ (σ 67 8 = 1 ∧ (σ 67 9 = 0 ∨ σ 67 9 = 1) ∧ ∀ p x j, p < 8 → x < 8 → j < 47 → σ 73 ((p * 8 + x) * 47 + j) = -1 ∨ σ 73 ((p * 8 + x) * 47 + j) = shareX B σ 0 p (if σ 67 9 = 0 then x else wN σ p) (if σ 67 9 = 0 then σ 10 p else nI x) (nI (40 + j)))
theorem c_describe (d : Nat) (σ : Sig) (p b : Nat) (s : Int32) (hp : p < 8) (hb : b < 8) (hw : σ 9 p = nI b) :
    ∃ σ', Ex (d + 1) 5 0 [.ref 67, .ref 1, .int (nI p), .int s, .null] [] G0 σ = some (none, G0, σ') ∧ Fr [69] [] σ σ' ∧ (∀ k, k < 10 → σ' 69 k = fxX σ s p b (σ 10 p) k) ∧ ∀ k, 10 ≤ k → σ' 69 k = σ 69 k := by
  simp only [b5_0, b5_59, b5_99, b5_120, b5_133, i8 hp, c8 hp, hw, i8 hb, c8 hb, c_max, i10, i01, eq_self, if_true, if_false, true_and, false_and, and_true, and_false, not_true, not_false_iff, true_or, or_true, false_or, or_false, ne_eq, not_true_eq_false, not_false_eq_true, Option.bind_some, Option.toList_some, Option.toList_none, List.cons_append, List.nil_append, i01a, i01b, if_true, if_false, pt_q (show (4 : Nat) ≠ 69 by decide), pt_q (show (6 : Nat) ≠ 69 by decide), pt_q (show (7 : Nat) ≠ 69 by decide), pt_q (show (10 : Nat) ≠ 69 by decide), pt_q (show (1 : Nat) ≠ 69 by decide), pt_q (show (9 : Nat) ≠ 69 by decide)]
  refine ⟨_, rfl, ?_, ?_, ?_⟩
  · repeat (refine Fr_p ?_ (Or.inl (by simp)))
    exact Fr_r
  · intro k hk
    have : k = 0 ∨ k = 1 ∨ k = 2 ∨ k = 3 ∨ k = 4 ∨ k = 5 ∨ k = 6 ∨ k = 7 ∨ k = 8 ∨ k = 9 := by omega
    rcases this with e | e | e | e | e | e | e | e | e | e <;> subst e <;> simp only [pt_ap] <;> simp [fxX]
  · intro k hk
    simp only [pt_ap, true_and]
    repeat rw [if_neg (by omega)]
theorem fx_ok {B : LW} {σ σ' : Sig} {s : Int32} {p b : Nat} {c ov o : Int32} (hf : okFa 0 B) (h1 : ∀ k, k < 10 → σ' 69 k = fxX σ s p b c k) (h2 : σ' 69 10 = ov) : lawS (σ' 69) B o = lawS (fun k => if k = 10 then ov else fxX σ s p b c k) B o := by
  refine lawS_f (j := 0) (fun k hk => ?_) B o hf
  have := hk.2.1 rfl
  by_cases e : k = 10
  · subst e; rw [if_pos rfl]; exact h2
  · rw [if_neg e]; exact h1 k (by omega)
theorem mnov {v : Int32} (h : 0 ≤ v.toInt) : mn v 999 = mx 0 (mn 999 v) := by
  rw [mxmn (by decide), if_pos (Int32.le_iff_toInt_le.mpr (show (0 : Int32).toInt ≤ v.toInt from h))]
  unfold mn
  by_cases k : 999 < v
  · rw [if_pos k, if_neg (Int32.not_le.mpr k)]
  · rw [if_neg k, if_pos (Int32.not_lt.mp k)]
theorem c_shareAt (d : Nat) (B T : LW) (σ : Sig) (p b : Nat) (s l : Int32) (hW : WI B T σ) (hp : p < np σ) (hb : b < sz σ) (hw : σ 9 p = nI b) (hs : bw s (-9) 9)
    (ht : σ 70 p = topX σ s p b (σ 10 p)) (hov : 0 ≤ (topX σ s p b (σ 10 p) - l).toInt) (hM : MEM B σ) (hr : σ 67 8 ≠ 0 → s = 0) :
    ∃ σ', Ex (d + 2) 4 0 [.ref 67, .ref 1, .int (nI p), .int s, .int l, .null, .null, .null] [] G0 σ = some (some (.int (shareX B σ s p b (σ 10 p) l)), G0, σ') ∧ Fr [16, 69, 73] [] σ σ' ∧ MEM B σ' := by
  have hp8 : p < 8 := by have := (WI_np hW).2.1; omega
  have hb8 : b < 8 := by have h5 : wi B T σ 5 := hW 5; have := h5.2; omega
  obtain ⟨hc20, hk20, hf20⟩ : wi B T σ 20 := hW 20
  have hands : wi B T σ 1 := hW 1
  have MEM_fr : ∀ σ', Fr [16, 69] [] σ σ' → MEM B σ' := by
    intro σ' f
    have e : ∀ q, q ∉ [16, 69] → σ' q = σ q := fun q hq => Fr_q f hq (by simp)
    unfold MEM shareX topX wN at *
    simp only [e 67 (by decide), e 73 (by decide), e 10 (by decide), e 9 (by decide), e 1 (by decide), e 3 (by decide), e 8 (by decide)]
    have : ∀ (p b : Nat) (c : Int32), fxX σ' 0 p b c = fxX σ 0 p b c := by
      intro p b c; funext k
      unfold fxX
      simp only [e 3 (by decide), e 4 (by decide), e 6 (by decide), e 7 (by decide), e 1 (by decide)]
    simp only [this]
    exact hM
  -- the law is asked
  have asks : ∀ a6 : Int32, ∃ σ2, (Ex (d + 1) 5 0 [.ref 67, .ref 1, .int (nI p), .int s, .null] [] G0 σ).bind (fun o => Ex (d + 1 + 1) 4 134 [.ref 67, .ref 1, .int (nI p), .int s, .int l, .int (topX σ s p b (σ 10 p) - l), .int a6, .null] (o.1.toList ++ []) o.2.1 o.2.2)
      = Ex (d + 1 + 1) 4 175 [.ref 67, .ref 1, .int (nI p), .int s, .int l, .int (topX σ s p b (σ 10 p) - l), .int a6, .null] [.int (shareX B σ s p b (σ 10 p) l)] G0 σ2 ∧ Fr [16, 69] [] σ σ2 := by
    intro a6
    obtain ⟨σ1, e1, f1, g1, _⟩ := c_describe d σ p b s hp8 hb8 hw
    have e11 : (pt σ1 69 10 (topX σ s p b (σ 10 p) - l)) 1 1 = σ 1 1 := by rw [pt_q (by decide), f1 1 1 (by decide) (by simp)]
    obtain ⟨σ2, e2, f2⟩ := c_askb d (pt σ1 69 10 (topX σ s p b (σ 10 p) - l)) (if σ 1 1 = 1 then 1 else topX σ s p b (σ 10 p) - l) B (by
      rw [pt_q (by decide), pt_q (by decide), Fr_q f1 (by decide) (by simp), Fr_q f1 (by decide) (by simp)]; exact hc20) hk20
    have hl := fx_ok (B := B) (σ := σ) (σ' := pt σ1 69 10 (topX σ s p b (σ 10 p) - l)) (s := s) (p := p) (b := b) (c := σ 10 p) (ov := topX σ s p b (σ 10 p) - l) (o := if σ 1 1 = 1 then 1 else topX σ s p b (σ 10 p) - l) hf20 (fun k hk => by rw [pt_k (by omega)]; exact g1 k hk) pt_e
    rw [hl] at e2
    refine ⟨σ2, ?_, Fr_t (Fr_m f1 (by simp) (by simp)) (Fr_t (Fr_p Fr_r (Or.inl (by simp))) (Fr_m f2 (by simp) (by simp)))⟩
    rw [e1]
    simp only [Option.bind_some, Option.toList_some, Option.toList_none, List.cons_append, List.nil_append, i01a, i01b, if_true, if_false]
    rw [b4_134, e11]
    by_cases h1 : σ 1 1 = 1
    · simp only [h1, if_true] at e2 ⊢
      rw [e2]
      simp only [Option.bind_some, Option.toList_some, Option.toList_none, List.cons_append, List.nil_append, i01a, i01b, if_true, if_false, b4_168, c_heldTo]
      unfold shareX
      simp only [h1, if_true]
    · simp only [h1, if_false] at e2 ⊢
      rw [e2]
      simp only [Option.bind_some, Option.toList_some, Option.toList_none, List.cons_append, List.nil_append, i01a, i01b, if_true, if_false, b4_168, c_heldTo]
      unfold shareX
      simp only [h1, if_false]
  rw [b4_0]
  simp only [i8 hp8, c8 hp8, ht, i10, i01, eq_self, if_true, if_false, true_and, false_and, and_true, and_false, not_true, not_false_iff, true_or, or_true, false_or, or_false, ne_eq, not_true_eq_false, not_false_eq_true]
  by_cases h0 : σ 14 0 = 0
  · have hB : B = [] := by
      have := hc20.1
      rw [h0] at this
      have h16 := hk20.1
      have h2 := (nJ_e (a := 0) (b := B.length) (by omega) (by omega)).mp this
      exact List.eq_nil_of_length_eq_zero h2.symm
    have hv : shareX B σ s p b (σ 10 p) l = if σ 1 1 = 1 then 1 else mn (topX σ s p b (σ 10 p) - l) 999 := by
      unfold shareX
      rw [hB, lawS_0]
      by_cases h1 : σ 1 1 = 1
      · simp only [h1, if_true]; decide
      · simp only [h1, if_false]; exact (mnov hov).symm
    rw [hv]
    by_cases h1 : σ 1 1 = 1
    · simp only [h0, h1, i10, i01, eq_self, if_true, if_false, true_and, false_and, and_true, and_false, not_true, not_false_iff, true_or, or_true, false_or, or_false, ne_eq, not_true_eq_false, not_false_eq_true, b4_41]
      exact ⟨σ, rfl, Fr_r, hM⟩
    · simp only [h0, h1, i10, i01, eq_self, if_true, if_false, true_and, false_and, and_true, and_false, not_true, not_false_iff, true_or, or_true, false_or, or_false, ne_eq, not_true_eq_false, not_false_eq_true, c_min, Option.bind_some, Option.toList_some, Option.toList_none, List.cons_append, List.nil_append, i01a, i01b, if_true, if_false, b4_41]
      exact ⟨σ, rfl, Fr_r, hM⟩
  · simp only [h0, i10, i01, eq_self, if_true, if_false, true_and, false_and, and_true, and_false, not_true, not_false_iff, true_or, or_true, false_or, or_false, ne_eq, not_true_eq_false, not_false_eq_true]
    by_cases hrec : σ 67 8 = 0
    · simp only [hrec, i10, i01, eq_self, if_true, if_false, true_and, false_and, and_true, and_false, not_true, not_false_iff, true_or, or_true, false_or, or_false, ne_eq, not_true_eq_false, not_false_eq_true]
      obtain ⟨σ2, e2, f2⟩ := asks (-1)
      rw [e2, b4_175]
      simp only [i10, i01, eq_self, if_true, if_false, true_and, false_and, and_true, and_false, not_true, not_false_iff, true_or, or_true, false_or, or_false, ne_eq, not_true_eq_false, not_false_eq_true]
      exact ⟨σ2, rfl, Fr_m f2 (by simp) (by simp), MEM_fr σ2 f2⟩
    · have hs0 := hr hrec
      subst hs0
      obtain ⟨hr1, hby, hme⟩ := hM.resolve_left hrec
      simp only [hrec, i10, i01, eq_self, if_true, if_false, true_and, false_and, and_true, and_false, not_true, not_false_iff, true_or, or_true, false_or, or_false, ne_eq, not_true_eq_false, not_false_eq_true, c_within, Option.bind_some, Option.toList_some, Option.toList_none, List.cons_append, List.nil_append, i01a, i01b, if_true, if_false]
      rw [b4_61]
      simp only [bI_z, bI_o, bI_em, ite_not]
      by_cases hin : 40 ≤ l ∧ l ≤ 86
      · obtain ⟨n, en, n1, n2, _⟩ := bwN (x := l) (a := 40) (b := 86) ⟨Int32.le_iff_toInt_le.mp hin.1, Int32.le_iff_toInt_le.mp hin.2⟩
        have hcl : wi B T σ 8 := hW 8
        obtain ⟨c, ec, _, c2, _⟩ := bwN (a := 0) (b := 6) (hcl p hp8)
        -- the slot
        have slot : ∀ x, x < 8 → (nI p * 8 + nI x) * 47 + nI n - 40 = nI ((p * 8 + x) * 47 + (n - 40)) := by
          intro x hx
          have a1 : nI p * 8 = nI (p * 8) := nI_mul' p 8
          have a2 : nI (p * 8 + x) * 47 = nI ((p * 8 + x) * 47) := nI_mul' _ 47
          have a3 : nI ((p * 8 + x) * 47 + n) - 40 = nI ((p * 8 + x) * 47 + n - 40) := nI_sub' (b := 40) (by omega)
          rw [a1, nI_add, a2, nI_add, a3]
          congr 1; omega
        have fin : ∀ x, x < 8 → (σ 67 9 = 0 → x = b) → (σ 67 9 = 1 → nI x = σ 10 p) → ∃ σ', Ex (d + 1 + 1) 4 96 [.ref 67, .ref 1, .int (nI p), .int 0, .int (nI n), .int (topX σ 0 p b (σ 10 p) - nI n), .int (-1), .null] [.int (nI x), .int (nI p * 8)] G0 σ = some (some (.int (shareX B σ 0 p b (σ 10 p) (nI n))), G0, σ') ∧ Fr [16, 69, 73] [] σ σ' ∧ MEM B σ' := by
          intro x hx hx0 hx1
          have hsl : (p * 8 + x) * 47 + (n - 40) < 3008 := by omega
          have hid : shareX B σ 0 p (if σ 67 9 = 0 then x else wN σ p) (if σ 67 9 = 0 then σ 10 p else nI x) (nI (40 + (n - 40))) = shareX B σ 0 p b (σ 10 p) (nI n) := by
            rw [show 40 + (n - 40) = n by omega]
            rcases hby with hb0 | hb1
            · rw [if_pos hb0, if_pos hb0, hx0 hb0]
            · have : ¬ σ 67 9 = 0 := by rw [hb1]; decide
              rw [if_neg this, if_neg this, hx1 hb1]
              have : wN σ p = b := by unfold wN; rw [hw, nI_c (by omega)]
              rw [this]
          rw [b4_96, slot x hx]
          simp only [inb_n hsl (show _ < 2 ^ 31 by omega), nI_c (show (p * 8 + x) * 47 + (n - 40) < 2 ^ 31 by omega), i10, i01, eq_self, if_true, if_false, true_and, false_and, and_true, and_false, not_true, not_false_iff, true_or, or_true, false_or, or_false, ne_eq, not_true_eq_false, not_false_eq_true]
          have hm := hme p x (n - 40) hp8 hx (by omega)
          by_cases z : σ 73 ((p * 8 + x) * 47 + (n - 40)) = -1
          · simp only [z, i10, i01, eq_self, if_true, if_false, true_and, false_and, and_true, and_false, not_true, not_false_iff, true_or, or_true, false_or, or_false, ne_eq, not_true_eq_false, not_false_eq_true]
            have asks' := asks (nI ((p * 8 + x) * 47 + (n - 40)))
            rw [en] at asks'
            obtain ⟨σ2, e2, f2⟩ := asks'
            rw [e2, b4_175]
            have nm1 : ¬ nI ((p * 8 + x) * 47 + (n - 40)) = -1 := by
              intro e
              have := congrArg Int32.toInt e
              rw [nI_i (by omega)] at this
              have h2 : (-1 : Int32).toInt = -1 := rfl
              omega
            simp only [nm1, inb_n hsl (show _ < 2 ^ 31 by omega), nI_c (show (p * 8 + x) * 47 + (n - 40) < 2 ^ 31 by omega), i10, i01, eq_self, if_true, if_false, true_and, false_and, and_true, and_false, not_true, not_false_iff, true_or, or_true, false_or, or_false, ne_eq, not_true_eq_false, not_false_eq_true]
            refine ⟨_, rfl, Fr_p (Fr_m f2 (by simp) (by simp)) (Or.inl (by simp)), ?_⟩
            have e : ∀ q, q ∉ [16, 69, 73] → (pt σ2 73 ((p * 8 + x) * 47 + (n - 40)) (shareX B σ 0 p b (σ 10 p) (nI n))) q = σ q := fun q hq => by
              rw [pt_q (by simp at hq; omega)]; exact Fr_q f2 (by simp at hq ⊢; omega) (by simp)
            have e73 : σ2 73 = σ 73 := Fr_q f2 (by decide) (by simp)
            have hfx : ∀ (q b : Nat) (c l : Int32), shareX B (pt σ2 73 ((p * 8 + x) * 47 + (n - 40)) (shareX B σ 0 p b (σ 10 p) (nI n))) 0 q b c l = shareX B (pt σ2 73 ((p * 8 + x) * 47 + (n - 40)) (shareX B σ 0 p b (σ 10 p) (nI n))) 0 q b c l := fun _ _ _ _ => rfl
            generalize hv : shareX B σ 0 p b (σ 10 p) (nI n) = v at e hid hm ⊢
            right
            have hsx : ∀ (q b : Nat) (c l : Int32), shareX B (pt σ2 73 ((p * 8 + x) * 47 + (n - 40)) v) 0 q b c l = shareX B σ 0 q b c l := by
              intro q b c l
              have : fxX (pt σ2 73 ((p * 8 + x) * 47 + (n - 40)) v) 0 q b c = fxX σ 0 q b c := by
                funext k; unfold fxX
                simp only [e 3 (by decide), e 4 (by decide), e 6 (by decide), e 7 (by decide), e 1 (by decide)]
              unfold shareX topX
              simp only [e 1 (by decide), e 3 (by decide), e 8 (by decide), this]
            refine ⟨by rw [e 67 (by decide)]; exact hr1, by rw [e 67 (by decide)]; exact hby, fun p' x' j' hp' hx' hj' => ?_⟩
            rw [hsx, e 67 (by decide), e 10 (by decide)]
            have hwn : wN (pt σ2 73 ((p * 8 + x) * 47 + (n - 40)) v) p' = wN σ p' := by unfold wN; rw [e 9 (by decide)]
            rw [hwn]
            by_cases same : (p' * 8 + x') * 47 + j' = (p * 8 + x) * 47 + (n - 40)
            · have ep : p' = p := by omega
              have ex : x' = x := by omega
              have ej : j' = n - 40 := by omega
              subst ep; subst ex; subst ej
              rw [pt_e]
              right
              exact hid.symm
            · rw [pt_k same, e73]
              exact hme p' x' j' hp' hx' hj'
          · simp only [z, i10, i01, eq_self, if_true, if_false, true_and, false_and, and_true, and_false, not_true, not_false_iff, true_or, or_true, false_or, or_false, ne_eq, not_true_eq_false, not_false_eq_true]
            have hv := (hm.resolve_left z).trans hid
            exact ⟨σ, by rw [hv], Fr_r, hM⟩
        rw [en] at hin
        rw [en]
        simp only [hin, i10, i01, eq_self, if_true, if_false, true_and, false_and, and_true, and_false, not_true, not_false_iff, true_or, or_true, false_or, or_false, ne_eq, not_true_eq_false, not_false_eq_true, i8 hp8, c8 hp8, hw]
        rcases hby with hb0 | hb1
        · simp only [hb0, i10, i01, eq_self, if_true, if_false, true_and, false_and, and_true, and_false, not_true, not_false_iff, true_or, or_true, false_or, or_false, ne_eq, not_true_eq_false, not_false_eq_true]
          exact fin b hb8 (fun _ => rfl) (fun e => by rw [hb0] at e; exact absurd e (by decide))
        · simp only [hb1, i10, i01, eq_self, if_true, if_false, true_and, false_and, and_true, and_false, not_true, not_false_iff, true_or, or_true, false_or, or_false, ne_eq, not_true_eq_false, not_false_eq_true, ec]
          have := fin c (by omega) (fun e => by rw [hb1] at e; exact absurd e (by decide)) (fun _ => ec.symm)
          rw [ec] at this
          exact this
      · simp only [hin, i10, i01, eq_self, if_true, if_false, true_and, false_and, and_true, and_false, not_true, not_false_iff, true_or, or_true, false_or, or_false, ne_eq, not_true_eq_false, not_false_eq_true]
        obtain ⟨σ2, e2, f2⟩ := asks (-1)
        rw [e2, b4_175]
        simp only [i10, i01, eq_self, if_true, if_false, true_and, false_and, and_true, and_false, not_true, not_false_iff, true_or, or_true, false_or, or_false, ne_eq, not_true_eq_false, not_false_eq_true]
        exact ⟨σ2, rfl, Fr_m f2 (by simp) (by simp), MEM_fr σ2 f2⟩
