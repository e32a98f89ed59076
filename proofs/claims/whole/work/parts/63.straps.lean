/-! L3: straps, the call -/
def wsF (ω : Sig) : Nat → Nat → Nat := fun k w => if lvS ω (k + 1) ≤ lvS ω w then w else k + 1
def wsI (ω : Sig) (n : Nat) : Nat := fo (wsF ω) n 0
theorem wsI_le {ω : Sig} : ∀ n, wsI ω n ≤ n := by
  intro n
  induction n with
  | zero => exact Nat.le_refl _
  | succ n ih =>
    show wsF ω n (wsI ω n) ≤ n + 1
    unfold wsF; split <;> omega
noncomputable def strapA (ω : Sig) (a b : Int32) : Int32 := @ite Int32 ((0 ≤ a ∧ a ≤ 60) ∧ (0 ≤ b ∧ b ≤ 2) ∧ ∃ p, hold ω 0 p) (Classical.propDecidable _) (if b = 0 then lvS ω a.toNatClampNeg else if b = 1 then lvS ω (wsI ω a.toNatClampNeg) else nI (wsI ω a.toNatClampNeg)) (-1)
theorem strapA_t {ω : Sig} {a b : Int32} (h : (0 ≤ a ∧ a ≤ 60) ∧ (0 ≤ b ∧ b ≤ 2) ∧ ∃ p, hold ω 0 p) : strapA ω a b = if b = 0 then lvS ω a.toNatClampNeg else if b = 1 then lvS ω (wsI ω a.toNatClampNeg) else nI (wsI ω a.toNatClampNeg) := by
  unfold strapA; exact if_pos h
theorem strapA_f {ω : Sig} {a b : Int32} (h : ¬ ((0 ≤ a ∧ a ≤ 60) ∧ (0 ≤ b ∧ b ≤ 2) ∧ ∃ p, hold ω 0 p)) : strapA ω a b = -1 := by
  unfold strapA; exact if_neg h
theorem lvS_0 {B T : LW} {ω : Sig} (hW : WI B T ω) {n : Nat} (hn : n ≤ 60) (he : ∃ p, hold ω 0 p) : -1 < lvS ω n := by
  obtain ⟨r, hr⟩ := he
  have n8' := (WI_np hW).2.1
  have key : ∀ m, (-1 ≤ (fo (gMx ω 0 (vvN ω n)) m (-1)).toInt ∧ (fo (gMx ω 0 (vvN ω n)) m (-1)).toInt ≤ 86 ∧ 0 ≤ (fo (gMn ω 0 (vvN ω n)) m 1000000).toInt) ∧ (r < m → 0 ≤ (fo (gMx ω 0 (vvN ω n)) m (-1)).toInt ∧ (vvN ω n r : Int) ≤ (fo (gMx ω 0 (vvN ω n)) m (-1)).toInt ∧ (fo (gMn ω 0 (vvN ω n)) m 1000000).toInt ≤ vvN ω n r) := by
    intro m
    induction m with
    | zero => exact ⟨(by decide : (-1 : Int) ≤ (-1 : Int32).toInt ∧ (-1 : Int32).toInt ≤ 86 ∧ (0 : Int) ≤ (1000000 : Int32).toInt), fun h => by omega⟩
    | succ m ih =>
      rw [fo, fo]
      generalize fo (gMx ω 0 (vvN ω n)) m (-1) = A at *
      generalize fo (gMn ω 0 (vvN ω n)) m 1000000 = C at *
      unfold gMx gMn
      by_cases hh : hold ω 0 m
      · rw [if_pos hh, if_pos hh]
        have vb := (vv_n hW hn hh).2
        have a1 := mn_i (a := C) (b := nI (vvN ω n m))
        rw [nI_i (by omega)] at a1
        have a2 : A.toInt ≤ (mx A (nI (vvN ω n m))).toInt ∧ (vvN ω n m : Int) ≤ (mx A (nI (vvN ω n m))).toInt ∧ ((mx A (nI (vvN ω n m))).toInt = A.toInt ∨ (mx A (nI (vvN ω n m))).toInt = vvN ω n m) := by
          unfold mx
          by_cases c : A < nI (vvN ω n m)
          · rw [if_pos c]; rw [Int32.lt_iff_toInt_lt, nI_i (by omega)] at c; rw [nI_i (by omega)]; omega
          · rw [if_neg c]; have c' := Int32.not_lt.mp c; rw [Int32.le_iff_toInt_le, nI_i (by omega)] at c'; omega
        refine ⟨by omega, fun hm => ?_⟩
        by_cases e : r = m
        · subst e; omega
        · have := ih.2 (by omega); omega
      · rw [if_neg hh, if_neg hh]
        refine ⟨ih.1, fun hm => ?_⟩
        have : r ≠ m := fun e => hh (e ▸ hr)
        exact ih.2 (by omega)
  have k8 := key 8
  have := k8.2 (by have := hr.1; omega)
  unfold lvS
  rw [Int32.lt_iff_toInt_lt, Int32.toInt_sub, Int.bmod_eq_of_le (by omega) (by omega)]
  have h2 : (-1 : Int32).toInt = -1 := rfl
  omega
theorem c_straps (d : Nat) {B T : LW} {σ : Sig} (a b : Int32) (hW : WI B T σ) : Ex (d + 2) 123 0 [.ref 0, .int a, .int b, .null, .null, .null, .null] [] G0 σ = some (some (.int (strapA σ a b)), G0, σ) := by
  simp only [b123_0, c_within, Option.bind_some, Option.toList_some, Option.toList_none, List.cons_append, List.nil_append, i01a, i01b, if_true, if_false, b123_7, bI_z, bI_o, bI_em, ite_not]
  by_cases h1 : 0 ≤ a ∧ a ≤ 60
  · obtain ⟨n, hn, en, _⟩ := ix_of (m := 60) (M := 60) rfl h1
    subst en
    simp only [h1, i10, i01, eq_self, if_true, if_false, true_and, false_and, and_true, and_false, not_true, not_false_iff, true_or, or_true, false_or, or_false, ne_eq, not_true_eq_false, not_false_eq_true, b123_16, bI_z, bI_o, bI_em, ite_not, c_within, Option.bind_some, Option.toList_some, Option.toList_none, List.cons_append, List.nil_append, i01a, i01b, if_true, if_false]
    by_cases h2 : 0 ≤ b ∧ b ≤ 2
    · obtain ⟨v, ev, hv⟩ := c_heldSet (d + 1) hW
      simp only [h2, i10, i01, eq_self, if_true, if_false, true_and, false_and, and_true, and_false, not_true, not_false_iff, true_or, or_true, false_or, or_false, ne_eq, not_true_eq_false, not_false_eq_true, ev, Option.bind_some, Option.toList_some, Option.toList_none, List.cons_append, List.nil_append, i01a, i01b, if_true, if_false, b123_29]
      have hz : (v = 0) = ¬ ∃ p, hold σ 0 p := by
        rw [M_z hv]
        refine propext ⟨fun h ⟨p, hp⟩ => ?_, fun h p _ => decide_eq_false (fun e => h ⟨p, e⟩)⟩
        have := (WI_np hW).2.1
        exact of_decide_eq_false (h p (by have := hp.1; omega)) hp
      simp only [hz, ite_not]
      by_cases he : ∃ p, hold σ 0 p
      · rw [strapA_t ⟨h1, h2, he⟩, nI_c (by omega)]
        simp only [he, i10, i01, eq_self, if_true, if_false, true_and, false_and, and_true, and_false, not_true, not_false_iff, true_or, or_true, false_or, or_false, ne_eq, not_true_eq_false, not_false_eq_true]
        by_cases z : b = 0
        · simp only [eq_true z, i10, i01, eq_self, if_true, if_false, true_and, false_and, and_true, and_false, not_true, not_false_iff, true_or, or_true, false_or, or_false, ne_eq, not_true_eq_false, not_false_eq_true, c_level d hW hn he, Option.bind_some, Option.toList_some, Option.toList_none, List.cons_append, List.nil_append, i01a, i01b, if_true, if_false, b123_46]
        · simp only [eq_false z, i10, i01, eq_self, if_true, if_false, true_and, false_and, and_true, and_false, not_true, not_false_iff, true_or, or_true, false_or, or_false, ne_eq, not_true_eq_false, not_false_eq_true]
          have lv := fun k (hk : k ≤ 60) => c_level d hW hk he
          -- behind the first second
          have e0 : Ex (d + 2) 123 55 [.ref 0, .int (nI n), .int b, .int (-1), .int 0, .int 0, .null] [] G0 σ = Ex (d + 2) 123 55 [.ref 0, .int (nI n), .int b, .int (lvS σ 0), .int (nI 0), .int (nI 1), .int (lvS σ 0)] [] G0 σ := by
            rw [b123_55]
            have q : (nI n < 0) = False := by
              have : (nI n < 0) = (n < 0) := nJ_lt (b := 0) (by omega) (by omega)
              rw [this]; exact eq_false (by omega)
            have lv0 : Ex (d + 1) 95 0 [.ref 1, .int 0, .null, .null, .null, .null] [] G0 σ = _ := lv 0 (by omega)
            have q2 : (lvS σ 0 ≤ -1) = False := eq_false (Int32.not_le.mpr (lvS_0 hW (by omega) he))
            simp only [q, i10, i01, eq_self, if_true, if_false, true_and, false_and, and_true, and_false, not_true, not_false_iff, true_or, or_true, false_or, or_false, ne_eq, not_true_eq_false, not_false_eq_true, lv0, Option.bind_some, Option.toList_some, Option.toList_none, List.cons_append, List.nil_append, i01a, i01b, if_true, if_false, b123_70, q2]
            rfl
          obtain ⟨v6, e1⟩ : ∃ v6, Ex (d + 2) 123 55 [.ref 0, .int (nI n), .int b, .int (lvS σ 0), .int (nI 0), .int (nI 1), .int (lvS σ 0)] [] G0 σ = Ex (d + 2) 123 55 [.ref 0, .int (nI n), .int b, .int (lvS σ (wsI σ n)), .int (nI (wsI σ n)), .int (nI (n + 1)), v6] [] G0 σ := by
            obtain ⟨v6, e, _⟩ := loop_ex (fun k (x : Value) => Ex (d + 2) 123 55 [.ref 0, .int (nI n), .int b, .int (lvS σ (wsI σ k)), .int (nI (wsI σ k)), .int (nI (k + 1)), x] [] G0 σ) (fun _ _ => True) n (.int (lvS σ 0)) trivial (by
              intro k x hk _
              show ∃ a', Ex (d + 2) 123 55 [.ref 0, .int (nI n), .int b, .int (lvS σ (wsI σ k)), .int (nI (wsI σ k)), .int (nI (k + 1)), x] [] G0 σ = _ ∧ _
              rw [b123_55]
              have q : (nI n < nI (k + 1)) = False := by rw [nJ_lt (by omega) (by omega)]; exact eq_false (by omega)
              have es : wsI σ (k + 1) = if lvS σ (k + 1) ≤ lvS σ (wsI σ k) then wsI σ k else k + 1 := rfl
              rw [es]
              simp only [q, i10, i01, eq_self, if_true, if_false, true_and, false_and, and_true, and_false, not_true, not_false_iff, true_or, or_true, false_or, or_false, ne_eq, not_true_eq_false, not_false_eq_true, lv (k + 1) (by omega), Option.bind_some, Option.toList_some, Option.toList_none, List.cons_append, List.nil_append, i01a, i01b, if_true, if_false, b123_70, nI_s]
              by_cases c : lvS σ (k + 1) ≤ lvS σ (wsI σ k)
              · simp only [eq_true c, i10, i01, eq_self, if_true, if_false, true_and, false_and, and_true, and_false, not_true, not_false_iff, true_or, or_true, false_or, or_false, ne_eq, not_true_eq_false, not_false_eq_true]
                exact ⟨_, rfl⟩
              · simp only [eq_false c, i10, i01, eq_self, if_true, if_false, true_and, false_and, and_true, and_false, not_true, not_false_iff, true_or, or_true, false_or, or_false, ne_eq, not_true_eq_false, not_false_eq_true]
                exact ⟨_, rfl⟩)
            exact ⟨v6, e⟩
          rw [e0, e1, b123_55]
          have q : (nI n < nI (n + 1)) = True := by rw [nJ_lt (by omega) (by omega)]; exact eq_true (by omega)
          simp only [q, i10, i01, eq_self, if_true, if_false, true_and, false_and, and_true, and_false, not_true, not_false_iff, true_or, or_true, false_or, or_false, ne_eq, not_true_eq_false, not_false_eq_true]
          split <;> rfl
      · rw [strapA_f (fun h => he h.2.2)]
        simp only [he, i10, i01, eq_self, if_true, if_false, true_and, false_and, and_true, and_false, not_true, not_false_iff, true_or, or_true, false_or, or_false, ne_eq, not_true_eq_false, not_false_eq_true]
    · rw [strapA_f (fun h => h2 h.2.1)]
      simp only [h2, i10, i01, eq_self, if_true, if_false, true_and, false_and, and_true, and_false, not_true, not_false_iff, true_or, or_true, false_or, or_false, ne_eq, not_true_eq_false, not_false_eq_true]
  · rw [strapA_f (fun h => h1 h.1)]
    simp only [h1, i10, i01, eq_self, if_true, if_false, true_and, false_and, and_true, and_false, not_true, not_false_iff, true_or, or_true, false_or, or_false, ne_eq, not_true_eq_false, not_false_eq_true]
theorem m_straps (d : Nat) {B T : LW} {ω σ : Sig} (a b : Int32) (hM : MR B T ω σ) (hW : WI B T ω) : Ex (d + 3) 261 0 [.ref 112, .int a, .int b, .null, .null] [] G0 σ = some (some (.int (strapA ω a b)), G0, pt σ 112 0 0) := by
  have hM0 : MR B T ω (pt σ 112 0 0) := MR_S hM (Fr_p Fr_r (Or.inr (by simp)) : Fr [] [(112, 0)] σ (pt σ 112 0 0)) (by decide) (by simp)
  simp only [b261_0, m_isIn, Option.bind_some, Option.toList_some, Option.toList_none, List.cons_append, List.nil_append, i01a, i01b, if_true, if_false, b261_13, bI_z, bI_o, bI_em, ite_not]
  by_cases h1 : 0 ≤ a ∧ a ≤ 60
  · obtain ⟨n, hn, en, _⟩ := ix_of (m := 60) (M := 60) rfl h1
    subst en
    simp only [h1, i10, i01, eq_self, if_true, if_false, true_and, false_and, and_true, and_false, not_true, not_false_iff, true_or, or_true, false_or, or_false, ne_eq, not_true_eq_false, not_false_eq_true, b261_23, bI_z, bI_o, bI_em, ite_not, m_isIn, Option.bind_some, Option.toList_some, Option.toList_none, List.cons_append, List.nil_append, i01a, i01b, if_true, if_false]
    by_cases h2 : 0 ≤ b ∧ b ≤ 2
    · obtain ⟨v0, ev0, hv0, hv0'⟩ := m_uneven d hM0 hW (n := 0) (by omega)
      have ev0' : Ex (d + 2) 260 0 [.ref 112, .int 0, .null, .null, .null, .null] [] G0 (pt σ 112 0 0) = _ := ev0
      simp only [h2, i10, i01, eq_self, if_true, if_false, true_and, false_and, and_true, and_false, not_true, not_false_iff, true_or, or_true, false_or, or_false, ne_eq, not_true_eq_false, not_false_eq_true, ev0', Option.bind_some, Option.toList_some, Option.toList_none, List.cons_append, List.nil_append, i01a, i01b, if_true, if_false, b261_31]
      by_cases he : ∃ p, hold ω 0 p
      · rw [strapA_t ⟨h1, h2, he⟩, nI_c (by omega)]
        have lv : ∀ k, k ≤ 60 → Ex (d + 2) 260 0 [.ref 112, .int (nI k), .null, .null, .null, .null] [] G0 (pt σ 112 0 0) = some (some (.int (lvS ω k)), G0, pt σ 112 0 0) := fun k hk => by
          obtain ⟨v, e, h, _⟩ := m_uneven d hM0 hW hk
          rw [e, (h he).1]
        simp only [eq_false (hv0 he).2, i10, i01, eq_self, if_true, if_false, true_and, false_and, and_true, and_false, not_true, not_false_iff, true_or, or_true, false_or, or_false, ne_eq, not_true_eq_false, not_false_eq_true]
        by_cases z : b = 0
        · simp only [eq_true z, i10, i01, eq_self, if_true, if_false, true_and, false_and, and_true, and_false, not_true, not_false_iff, true_or, or_true, false_or, or_false, ne_eq, not_true_eq_false, not_false_eq_true, lv n hn, Option.bind_some, Option.toList_some, Option.toList_none, List.cons_append, List.nil_append, i01a, i01b, if_true, if_false, b261_46]
        · simp only [eq_false z, i10, i01, eq_self, if_true, if_false, true_and, false_and, and_true, and_false, not_true, not_false_iff, true_or, or_true, false_or, or_false, ne_eq, not_true_eq_false, not_false_eq_true]
          have e1 := loop_fo (fun k (w : Nat) => Ex (d + 3) 261 52 [.ref 112, .int (nI n), .int b, .int (nI (wsI ω k)), .int (nI (k + 1))] [] G0 (pt σ 112 0 0)) (fun _ w => w) n 0 (by
            intro k w hk
            show Ex (d + 3) 261 52 [.ref 112, .int (nI n), .int b, .int (nI (wsI ω k)), .int (nI (k + 1))] [] G0 (pt σ 112 0 0) = _
            rw [b261_52]
            have q : (nI n < nI (k + 1)) = False := by rw [nJ_lt (by omega) (by omega)]; exact eq_false (by omega)
            have es : wsI ω (k + 1) = if lvS ω (k + 1) ≤ lvS ω (wsI ω k) then wsI ω k else k + 1 := rfl
            have hw := wsI_le (ω := ω) k
            rw [es]
            simp only [q, i10, i01, eq_self, if_true, if_false, true_and, false_and, and_true, and_false, not_true, not_false_iff, true_or, or_true, false_or, or_false, ne_eq, not_true_eq_false, not_false_eq_true, lv (k + 1) (by omega), lv (wsI ω k) (by omega), Option.bind_some, Option.toList_some, Option.toList_none, List.cons_append, List.nil_append, i01a, i01b, if_true, if_false, b261_64, b261_69, nI_s]
            by_cases c : lvS ω (k + 1) ≤ lvS ω (wsI ω k)
            · simp only [eq_true c, i10, i01, eq_self, if_true, if_false, true_and, false_and, and_true, and_false, not_true, not_false_iff, true_or, or_true, false_or, or_false, ne_eq, not_true_eq_false, not_false_eq_true]
            · simp only [eq_false c, i10, i01, eq_self, if_true, if_false, true_and, false_and, and_true, and_false, not_true, not_false_iff, true_or, or_true, false_or, or_false, ne_eq, not_true_eq_false, not_false_eq_true])
          rw [show Ex (d + 3) 261 52 [.ref 112, .int (nI n), .int b, .int 0, .int 1] [] G0 (pt σ 112 0 0) = _ from e1, b261_52]
          have q : (nI n < nI (n + 1)) = True := by rw [nJ_lt (by omega) (by omega)]; exact eq_true (by omega)
          have hw := wsI_le (ω := ω) n
          simp only [q, i10, i01, eq_self, if_true, if_false, true_and, false_and, and_true, and_false, not_true, not_false_iff, true_or, or_true, false_or, or_false, ne_eq, not_true_eq_false, not_false_eq_true, lv (wsI ω n) (by omega), Option.bind_some, Option.toList_some, Option.toList_none, List.cons_append, List.nil_append, i01a, i01b, if_true, if_false, b261_91]
          split <;> rfl
      · rw [strapA_f (fun h => he h.2.2)]
        simp only [hv0' he, i10, i01, eq_self, if_true, if_false, true_and, false_and, and_true, and_false, not_true, not_false_iff, true_or, or_true, false_or, or_false, ne_eq, not_true_eq_false, not_false_eq_true]
    · rw [strapA_f (fun h => h2 h.2.1)]
      simp only [h2, i10, i01, eq_self, if_true, if_false, true_and, false_and, and_true, and_false, not_true, not_false_iff, true_or, or_true, false_or, or_false, ne_eq, not_true_eq_false, not_false_eq_true]
  · rw [strapA_f (fun h => h1 h.1)]
    simp only [h1, i10, i01, eq_self, if_true, if_false, true_and, false_and, and_true, and_false, not_true, not_false_iff, true_or, or_true, false_or, or_false, ne_eq, not_true_eq_false, not_false_eq_true]
