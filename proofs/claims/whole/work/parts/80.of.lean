/-! L3: of -/
def ofV (ω : Sig) (a b : Int32) (c : Int32) : Int32 := if b = 0 then ω 3 a.toNatClampNeg else if b = 1 then ω 4 a.toNatClampNeg else if b = 2 then ω 5 a.toNatClampNeg else if b = 3 then ω 6 a.toNatClampNeg else if b = 4 then ω 7 a.toNatClampNeg else if b = 5 then c else if b = 6 then plS ω a else -2
def ofA (ω : Sig) (a b : Int32) : Int32 := if 0 ≤ a ∧ a < ω 2 0 then ofV ω a b (canB ω a.toNatClampNeg) else -2
theorem c_of (d : Nat) {B T : LW} {σ : Sig} (a b : Int32) (hW : WI B T σ) : Ex (d + 1) 109 0 [.ref 0, .int a, .int b, .null] [] G0 σ = some (some (.int (ofA σ a b)), G0, σ) := by
  simp only [b109_0, c_crewHas, Option.bind_some, Option.toList_some, Option.toList_none, List.cons_append, List.nil_append, i01a, i01b, if_true, if_false, b109_13, bI_z, bI_o, bI_em, ite_not]
  unfold ofA
  by_cases c1 : 0 ≤ a ∧ a < σ 2 0
  · obtain ⟨n, hn, en⟩ := cr_n hW c1
    have s5 : wi B T σ 5 := hW 5
    have s8 := s5.2
    have i : inb a 8 = true := by rw [en]; exact inb_n (by omega) (by omega)
    have cn : a.toNatClampNeg = n := by rw [en]; exact nI_c (by omega)
    have ne : a ≠ -1 := fun e => by
      have := nI_ne1 (n := n) (by omega)
      rw [← en] at this
      exact this.mp e
    have hc : ∀ d, Ex d 17 0 [.ref 2, .int a] [] G0 σ = some (some (.int (canB σ n)), G0, σ) := fun d => by rw [en]; exact c_can d σ n (by omega)
    rw [if_pos c1, cn]
    unfold ofV
    simp only [eq_true c1, i, cn, i10, i01, eq_self, if_true, if_false, true_and, false_and, and_true, and_false, not_true, not_false_iff, true_or, or_true, false_or, or_false, ne_eq, not_true_eq_false, not_false_eq_true, hc, (fun d => c_placeOf d hW ne), Option.bind_some, Option.toList_some, Option.toList_none, List.cons_append, List.nil_append, i01a, i01b, if_true, if_false, b109_104, b109_116, it_a]
  · rw [if_neg c1]
    simp only [eq_false c1, i10, i01, eq_self, if_true, if_false, true_and, false_and, and_true, and_false, not_true, not_false_iff, true_or, or_true, false_or, or_false, ne_eq, not_true_eq_false, not_false_eq_true]
theorem m_of (d : Nat) {B T : LW} {ω σ : Sig} (a b : Int32) (hM : MR B T ω σ) (hW : WI B T ω) : Ex (d + 2) 231 0 [.ref 112, .int a, .int b] [] G0 σ = some (some (.int (ofA ω a b)), G0, pt σ 112 0 0) := by
  have hM0 : MR B T ω (pt σ 112 0 0) := MR_S hM (Fr_p Fr_r (Or.inr (by simp)) : Fr [] [(112, 0)] σ (pt σ 112 0 0)) (by decide) (by simp)
  have e12 : pt σ 112 0 0 112 12 = ω 2 0 := hM0 6
  simp only [b231_0, m_isBearer, e12, Option.bind_some, Option.toList_some, Option.toList_none, List.cons_append, List.nil_append, i01a, i01b, if_true, if_false, b231_10, bI_z, bI_o, bI_em, ite_not]
  unfold ofA
  by_cases c1 : 0 ≤ a ∧ a < ω 2 0
  · obtain ⟨n, hn, en⟩ := cr_n hW c1
    have s5 : wi B T ω 5 := hW 5
    have s8 := s5.2
    have i : inb a 8 = true := by rw [en]; exact inb_n (by omega) (by omega)
    have cn : a.toNatClampNeg = n := by rw [en]; exact nI_c (by omega)
    have e23 : 23 + a = nI (23 + n) := by rw [en]; exact nI_add 23 n
    have i23 : inb (nI (23 + n)) 31 = true := inb_n (by omega) (by omega)
    have c23 : (nI (23 + n)).toNatClampNeg = 23 + n := nI_c (by omega)
    have hc : ∀ d, Ex d 205 0 [.ref 112, .int a] [] G0 (pt σ 112 0 0) = some (some (.int (canB ω n)), G0, pt σ 112 0 0) := fun d => by rw [en]; exact m_canOf d hM0 (by omega)
    have v3 : pt σ 112 0 0 116 n = ω 3 n := hM0 17 n (by omega)
    have v4 : pt σ 112 0 0 117 n = ω 4 n := hM0 18 n (by omega)
    have v5 : pt σ 112 0 0 118 n = ω 5 n := hM0 19 n (by omega)
    have v6 : pt σ 112 0 0 119 n = ω 6 n := hM0 20 n (by omega)
    have v7 : pt σ 112 0 0 113 (23 + n) = ω 7 n := hM0 16 n (by omega)
    rw [if_pos c1, cn]
    unfold ofV
    simp only [eq_true c1, i, cn, e23, i23, c23, v3, v4, v5, v6, v7, i10, i01, eq_self, if_true, if_false, true_and, false_and, and_true, and_false, not_true, not_false_iff, true_or, or_true, false_or, or_false, ne_eq, not_true_eq_false, not_false_eq_true, hc, (fun d => m_placeOf d hM0 a), Option.bind_some, Option.toList_some, Option.toList_none, List.cons_append, List.nil_append, i01a, i01b, if_true, if_false, b231_88, b231_102, it_a]
  · rw [if_neg c1]
    simp only [eq_false c1, i10, i01, eq_self, if_true, if_false, true_and, false_and, and_true, and_false, not_true, not_false_iff, true_or, or_true, false_or, or_false, ne_eq, not_true_eq_false, not_false_eq_true]
