/-! L3: at -/
def atV (ω : Sig) (n : Nat) (b c : Int32) : Int32 := if b = 0 then ω 9 n else if b = 1 then ω 10 n else if b = 2 then ω 11 n else if b = 3 then ω 12 n else if b = 4 then ω 13 n else if b = 5 then c else -2
def atA (ω : Sig) (a b : Int32) : Int32 := if 0 ≤ a ∧ a < 2 * ω 8 0 then atV ω a.toNatClampNeg b (if ω 9 a.toNatClampNeg = -1 then -1 else topS ω 0 a.toNatClampNeg) else -2
theorem at_w {B T : LW} {ω : Sig} (hW : WI B T ω) {n : Nat} (hn : n < 8) (h : ω 9 n ≠ -1) : ∃ b, b < 8 ∧ ω 9 n = nI b ∧ topX ω 0 n b (ω 10 n) = topS ω 0 n := by
  have h6 : wi B T ω 6 := hW 6
  have s5 : wi B T ω 5 := hW 5
  have s8 := s5.2
  rcases h6 n hn with e | ⟨_, b, hb, e⟩
  · exact absurd e h
  · refine ⟨b, by omega, e, ?_⟩
    unfold topS wN
    rw [e, nI_c (by omega)]
theorem c_at (d : Nat) {B T : LW} {σ : Sig} (a b : Int32) (hW : WI B T σ) : Ex (d + 1) 110 0 [.ref 0, .int a, .int b, .null] [] G0 σ = some (some (.int (atA σ a b)), G0, σ) := by
  simp only [b110_0, c_placesHas, Option.bind_some, Option.toList_some, Option.toList_none, List.cons_append, List.nil_append, i01a, i01b, if_true, if_false, b110_13, bI_z, bI_o, bI_em, ite_not]
  unfold atA
  by_cases c1 : 0 ≤ a ∧ a < 2 * σ 8 0
  · have hn := pl_n hW c1
    have n8' := (WI_np hW).2.1
    have i : inb a 8 = true := by rw [hn.2]; exact inb_n (by omega) (by omega)
    rw [if_pos c1]
    unfold atV
    by_cases c2 : σ 9 a.toNatClampNeg = -1
    · simp only [eq_true c1, i, c2, i10, i01, eq_self, if_true, if_false, true_and, false_and, and_true, and_false, not_true, not_false_iff, true_or, or_true, false_or, or_false, ne_eq, not_true_eq_false, not_false_eq_true, b110_118, it_a]
    · obtain ⟨w, hw, e, et⟩ := at_w hW (show a.toNatClampNeg < 8 by omega) c2
      have ht : ∀ d, Ex d 94 0 [.ref 1, .int a, .int 0, .null] [] G0 σ = some (some (.int (topS σ 0 a.toNatClampNeg)), G0, σ) := fun d => by
        have := c_top d σ a.toNatClampNeg w 0 (by omega) hw e
        rw [← hn.2, et] at this; exact this
      simp only [eq_true c1, i, eq_false c2, i10, i01, eq_self, if_true, if_false, true_and, false_and, and_true, and_false, not_true, not_false_iff, true_or, or_true, false_or, or_false, ne_eq, not_true_eq_false, not_false_eq_true, ht, Option.bind_some, Option.toList_some, Option.toList_none, List.cons_append, List.nil_append, i01a, i01b, if_true, if_false, b110_118, it_a]
  · rw [if_neg c1]
    simp only [eq_false c1, i10, i01, eq_self, if_true, if_false, true_and, false_and, and_true, and_false, not_true, not_false_iff, true_or, or_true, false_or, or_false, ne_eq, not_true_eq_false, not_false_eq_true]
theorem m_at (d : Nat) {B T : LW} {ω σ : Sig} (a b : Int32) (hM : MR B T ω σ) (hW : WI B T ω) : Ex (d + 3) 232 0 [.ref 112, .int a, .int b] [] G0 σ = some (some (.int (atA ω a b)), G0, pt σ 112 0 0) := by
  have hM0 : MR B T ω (pt σ 112 0 0) := MR_S hM (Fr_p Fr_r (Or.inr (by simp)) : Fr [] [(112, 0)] σ (pt σ 112 0 0)) (by decide) (by simp)
  simp only [b232_0, m_isPlace, m_pp hM0, Option.bind_some, Option.toList_some, Option.toList_none, List.cons_append, List.nil_append, i01a, i01b, if_true, if_false, b232_10, bI_z, bI_o, bI_em, ite_not]
  unfold atA
  by_cases c1 : 0 ≤ a ∧ a < 2 * ω 8 0
  · have hn := pl_n hW c1
    have n8' := (WI_np hW).2.1
    generalize hN : a.toNatClampNeg = n at *
    have en : a = nI n := hn.2
    have i : inb a 8 = true := by rw [en]; exact inb_n (by omega) (by omega)
    have e15 : 15 + a = nI (15 + n) := by rw [en]; exact nI_add 15 n
    have i15 : inb (nI (15 + n)) 31 = true := inb_n (by omega) (by omega)
    have c15 : (nI (15 + n)).toNatClampNeg = 15 + n := nI_c (by omega)
    have v9 : pt σ 112 0 0 113 (7 + n) - 1 = ω 9 n := by rw [show pt σ 112 0 0 113 (7 + n) = _ from hM0 14 n (by omega), Int32.add_sub_cancel]
    have hw : ∀ d, Ex d 158 0 [.ref 112, .int a] [] G0 (pt σ 112 0 0) = some (some (.int (ω 9 n)), G0, pt σ 112 0 0) := fun d => by rw [en, m_whoAt d _ n (by omega), v9]
    have v10 : pt σ 112 0 0 113 (15 + n) = ω 10 n := hM0 15 n (by omega)
    have v11 : pt σ 112 0 0 120 n = ω 11 n := hM0 21 n (by omega)
    have v12 : pt σ 112 0 0 121 n + 1 = ω 12 n := by rw [show pt σ 112 0 0 121 n = _ from hM0 22 n (by omega), Int32.sub_add_cancel]
    have v13 : pt σ 112 0 0 122 n - 1 = ω 13 n := by rw [show pt σ 112 0 0 122 n = _ from hM0 23 n (by omega), Int32.add_sub_cancel]
    rw [if_pos c1]
    unfold atV
    by_cases c2 : ω 9 n = -1
    · simp only [eq_true c1, i, hN, e15, i15, c15, hw, v10, v11, v12, v13, c2, i10, i01, eq_self, if_true, if_false, true_and, false_and, and_true, and_false, not_true, not_false_iff, true_or, or_true, false_or, or_false, ne_eq, not_true_eq_false, not_false_eq_true, Option.bind_some, Option.toList_some, Option.toList_none, List.cons_append, List.nil_append, i01a, i01b, if_true, if_false, b232_25, b232_91, it_a]
    · obtain ⟨w, hw8, e, et⟩ := at_w hW (show n < 8 by omega) c2
      have ht : ∀ d, Ex (d + 1) 206 0 [.ref 112, .int a, .int 0] [] G0 (pt σ 112 0 0) = some (some (.int (topS ω 0 n)), G0, pt σ 112 0 0) := fun d => by
        rw [en, m_topOf d hM0 0 (by omega) hw8 e, et]
      simp only [eq_true c1, i, hN, e15, i15, c15, hw, v10, v11, v12, v13, eq_false c2, i10, i01, eq_self, if_true, if_false, true_and, false_and, and_true, and_false, not_true, not_false_iff, true_or, or_true, false_or, or_false, ne_eq, not_true_eq_false, not_false_eq_true, ht, Option.bind_some, Option.toList_some, Option.toList_none, List.cons_append, List.nil_append, i01a, i01b, if_true, if_false, b232_25, b232_91, b232_105, it_a]
  · rw [if_neg c1]
    simp only [eq_false c1, i10, i01, eq_self, if_true, if_false, true_and, false_and, and_true, and_false, not_true, not_false_iff, true_or, or_true, false_or, or_false, ne_eq, not_true_eq_false, not_false_eq_true]
