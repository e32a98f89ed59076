/-! L3: set -/
theorem bI_tt {i : Decidable True} : @bI True i = 1 := bI_T trivial
theorem bI_ff {i : Decidable False} : @bI False i = 0 := bI_F (fun h => h)
def bgS (ω : Sig) (v : Int32) : Sig := fiS (fiS (fiS (fiS (fiS (pt ω 8 0 v) 9 8 (-1)) 10 8 0) 11 8 0) 12 8 1) 13 8 (-1)
theorem bgS_q {ω : Sig} {v : Int32} {q : Nat} (h : q ∉ [8, 9, 10, 11, 12, 13]) : bgS ω v q = ω q := by
  simp at h
  unfold bgS
  rw [fiS_q (by omega), fiS_q (by omega), fiS_q (by omega), fiS_q (by omega), fiS_q (by omega), pt_q (by omega)]
theorem bgS_8 {ω : Sig} {v : Int32} : bgS ω v 8 0 = v := by
  unfold bgS
  rw [fiS_q (by decide), fiS_q (by decide), fiS_q (by decide), fiS_q (by decide), fiS_q (by decide), pt_e]
theorem bgS_p {ω : Sig} {v : Int32} {p : Nat} (hp : p < 8) : bgS ω v 9 p = -1 ∧ bgS ω v 10 p = 0 ∧ bgS ω v 11 p = 0 ∧ bgS ω v 12 p = 1 ∧ bgS ω v 13 p = -1 := by
  unfold bgS
  refine ⟨?_, ?_, ?_, ?_, ?_⟩
  · rw [fiS_q (by decide), fiS_q (by decide), fiS_q (by decide), fiS_q (by decide), fiS_k hp]
  · rw [fiS_q (by decide), fiS_q (by decide), fiS_q (by decide), fiS_k hp]
  · rw [fiS_q (by decide), fiS_q (by decide), fiS_k hp]
  · rw [fiS_q (by decide), fiS_k hp]
  · rw [fiS_k hp]
theorem c_begin (d : Nat) (σ : Sig) (v : Int32) : Ex (d + 1) 31 0 [.ref 8, .int v] [] G0 σ = some (none, G0, bgS σ v) := by
  simp only [b31_0, b31_13, b31_21, b31_29, b31_37, b31_45, c_fill9, c_fill10, c_fill11, c_fill12, c_fill13, Option.bind_some, Option.toList_some, Option.toList_none, List.cons_append, List.nil_append, i01a, i01b, if_true, if_false]
  rfl
theorem c_tell0 (d : Nat) (σ : Sig) (v : Int32) : Ex (d + 2) 131 0 [.ref 0, .int 0, .int v] [] G0 σ = if 1 ≤ v ∧ v ≤ 999 then some (some (.int 1), G0, pt σ 1 0 v) else some (some (.int 0), G0, σ) := by
  by_cases h : 1 ≤ v ∧ v ≤ 999
  · simp [b131_0, b131_12, b131_26, b131_37, b131_51, b131_65, b131_92, b131_106, b131_119, b131_146, c_within, bI_z, bI_o, bI_em, ite_not, h, c_begin]
  · simp only [b131_0, b131_12, b131_26, b131_37, b131_51, b131_65, b131_92, b131_106, b131_119, b131_146, c_within, Option.bind_some, Option.toList_some, Option.toList_none, List.cons_append, List.nil_append, i01a, i01b, if_true, if_false, bI_z, bI_o, bI_em, ite_not, eq_false h, i10, i01, eq_self, if_true, if_false, true_and, false_and, and_true, and_false, not_true, not_false_iff, true_or, or_true, false_or, or_false, ne_eq, not_true_eq_false, not_false_eq_true]
    simp [b131_0, b131_12, b131_26, b131_37, b131_51, b131_65, b131_92, b131_106, b131_119, b131_146]
theorem c_set0 (d : Nat) (σ : Sig) (b v : Int32) : Ex (d + 3) 102 0 [.ref 0, .int 0, .int b, .int v, .null] [] G0 σ = if 1 ≤ v ∧ v ≤ 999 then some (some (.int 1), G0, pt (pt (pt σ 1 0 v) 0 8 0) 0 10 0) else some (some (.int 0), G0, σ) := by
  have w1 : ((0 : Int32) ≤ 0 ∧ (0 : Int32) ≤ 5) = True := eq_true (by decide)
  simp only [b102_0, c_within, Option.bind_some, Option.toList_some, Option.toList_none, List.cons_append, List.nil_append, i01a, i01b, if_true, if_false, w1, b102_9, bI_z, bI_o, bI_em, ite_not, c_tell0, i10, i01, eq_self, if_true, if_false, true_and, false_and, and_true, and_false, not_true, not_false_iff, true_or, or_true, false_or, or_false, ne_eq, not_true_eq_false, not_false_eq_true]
  by_cases h : 1 ≤ v ∧ v ≤ 999
  · simp only [eq_true h, i10, i01, eq_self, if_true, if_false, true_and, false_and, and_true, and_false, not_true, not_false_iff, true_or, or_true, false_or, or_false, ne_eq, not_true_eq_false, not_false_eq_true, Option.bind_some, Option.toList_some, Option.toList_none, List.cons_append, List.nil_append, i01a, i01b, if_true, if_false, b102_18, c_forget, b102_119]
  · simp only [eq_false h, i10, i01, eq_self, if_true, if_false, true_and, false_and, and_true, and_false, not_true, not_false_iff, true_or, or_true, false_or, or_false, ne_eq, not_true_eq_false, not_false_eq_true, Option.bind_some, Option.toList_some, Option.toList_none, List.cons_append, List.nil_append, i01a, i01b, if_true, if_false, b102_18, c_forget, b102_119]
theorem c_tell1 (d : Nat) (σ : Sig) (v : Int32) : Ex (d + 2) 131 0 [.ref 0, .int 1, .int v] [] G0 σ = if 2 ≤ v ∧ v ≤ 4 then some (some (.int 1), G0, bgS σ v) else some (some (.int 0), G0, σ) := by
  by_cases h : 2 ≤ v ∧ v ≤ 4
  · simp [b131_0, b131_12, b131_26, b131_37, b131_51, b131_65, b131_92, b131_106, b131_119, b131_146, c_within, bI_z, bI_o, bI_em, ite_not, h, c_begin]
  · simp only [b131_0, b131_12, b131_26, b131_37, b131_51, b131_65, b131_92, b131_106, b131_119, b131_146, c_within, Option.bind_some, Option.toList_some, Option.toList_none, List.cons_append, List.nil_append, i01a, i01b, if_true, if_false, bI_z, bI_o, bI_em, ite_not, eq_false h, i10, i01, eq_self, if_true, if_false, true_and, false_and, and_true, and_false, not_true, not_false_iff, true_or, or_true, false_or, or_false, ne_eq, not_true_eq_false, not_false_eq_true]
    simp [b131_0, b131_12, b131_26, b131_37, b131_51, b131_65, b131_92, b131_106, b131_119, b131_146]
theorem c_set1 (d : Nat) (σ : Sig) (b v : Int32) : Ex (d + 3) 102 0 [.ref 0, .int 1, .int b, .int v, .null] [] G0 σ = if 2 ≤ v ∧ v ≤ 4 then some (some (.int 1), G0, pt (pt (bgS σ v) 0 8 0) 0 10 0) else some (some (.int 0), G0, σ) := by
  have w1 : ((0 : Int32) ≤ 1 ∧ (1 : Int32) ≤ 5) = True := eq_true (by decide)
  simp only [b102_0, c_within, Option.bind_some, Option.toList_some, Option.toList_none, List.cons_append, List.nil_append, i01a, i01b, if_true, if_false, w1, b102_9, bI_z, bI_o, bI_em, ite_not, c_tell1, i10, i01, eq_self, if_true, if_false, true_and, false_and, and_true, and_false, not_true, not_false_iff, true_or, or_true, false_or, or_false, ne_eq, not_true_eq_false, not_false_eq_true]
  by_cases h : 2 ≤ v ∧ v ≤ 4
  · simp only [eq_true h, i10, i01, eq_self, if_true, if_false, true_and, false_and, and_true, and_false, not_true, not_false_iff, true_or, or_true, false_or, or_false, ne_eq, not_true_eq_false, not_false_eq_true, Option.bind_some, Option.toList_some, Option.toList_none, List.cons_append, List.nil_append, i01a, i01b, if_true, if_false, b102_18, c_forget, b102_119]
  · simp only [eq_false h, i10, i01, eq_self, if_true, if_false, true_and, false_and, and_true, and_false, not_true, not_false_iff, true_or, or_true, false_or, or_false, ne_eq, not_true_eq_false, not_false_eq_true, Option.bind_some, Option.toList_some, Option.toList_none, List.cons_append, List.nil_append, i01a, i01b, if_true, if_false, b102_18, c_forget, b102_119]
theorem c_tell2 (d : Nat) (σ : Sig) (v : Int32) : Ex (d + 2) 131 0 [.ref 0, .int 2, .int v] [] G0 σ = if 0 ≤ v ∧ v ≤ 1 then some (some (.int 1), G0, pt σ 1 1 v) else some (some (.int 0), G0, σ) := by
  by_cases h : 0 ≤ v ∧ v ≤ 1
  · simp [b131_0, b131_12, b131_26, b131_37, b131_51, b131_65, b131_92, b131_106, b131_119, b131_146, c_within, bI_z, bI_o, bI_em, ite_not, h, c_begin]
  · simp only [b131_0, b131_12, b131_26, b131_37, b131_51, b131_65, b131_92, b131_106, b131_119, b131_146, c_within, Option.bind_some, Option.toList_some, Option.toList_none, List.cons_append, List.nil_append, i01a, i01b, if_true, if_false, bI_z, bI_o, bI_em, ite_not, eq_false h, i10, i01, eq_self, if_true, if_false, true_and, false_and, and_true, and_false, not_true, not_false_iff, true_or, or_true, false_or, or_false, ne_eq, not_true_eq_false, not_false_eq_true]
    simp [b131_0, b131_12, b131_26, b131_37, b131_51, b131_65, b131_92, b131_106, b131_119, b131_146]
theorem c_set2 (d : Nat) (σ : Sig) (b v : Int32) : Ex (d + 3) 102 0 [.ref 0, .int 2, .int b, .int v, .null] [] G0 σ = if 0 ≤ v ∧ v ≤ 1 then some (some (.int 1), G0, pt (pt (pt σ 1 1 v) 0 8 0) 0 10 0) else some (some (.int 0), G0, σ) := by
  have w1 : ((0 : Int32) ≤ 2 ∧ (2 : Int32) ≤ 5) = True := eq_true (by decide)
  simp only [b102_0, c_within, Option.bind_some, Option.toList_some, Option.toList_none, List.cons_append, List.nil_append, i01a, i01b, if_true, if_false, w1, b102_9, bI_z, bI_o, bI_em, ite_not, c_tell2, i10, i01, eq_self, if_true, if_false, true_and, false_and, and_true, and_false, not_true, not_false_iff, true_or, or_true, false_or, or_false, ne_eq, not_true_eq_false, not_false_eq_true]
  by_cases h : 0 ≤ v ∧ v ≤ 1
  · simp only [eq_true h, i10, i01, eq_self, if_true, if_false, true_and, false_and, and_true, and_false, not_true, not_false_iff, true_or, or_true, false_or, or_false, ne_eq, not_true_eq_false, not_false_eq_true, Option.bind_some, Option.toList_some, Option.toList_none, List.cons_append, List.nil_append, i01a, i01b, if_true, if_false, b102_18, c_forget, b102_119]
  · simp only [eq_false h, i10, i01, eq_self, if_true, if_false, true_and, false_and, and_true, and_false, not_true, not_false_iff, true_or, or_true, false_or, or_false, ne_eq, not_true_eq_false, not_false_eq_true, Option.bind_some, Option.toList_some, Option.toList_none, List.cons_append, List.nil_append, i01a, i01b, if_true, if_false, b102_18, c_forget, b102_119]
theorem c_tell3 (d : Nat) (σ : Sig) (v : Int32) : Ex (d + 2) 131 0 [.ref 0, .int 3, .int v] [] G0 σ = if 0 ≤ v ∧ v ≤ 200 then some (some (.int 1), G0, pt σ 1 2 v) else some (some (.int 0), G0, σ) := by
  by_cases h : 0 ≤ v ∧ v ≤ 200
  · simp [b131_0, b131_12, b131_26, b131_37, b131_51, b131_65, b131_92, b131_106, b131_119, b131_146, c_within, bI_z, bI_o, bI_em, ite_not, h, c_begin]
  · simp only [b131_0, b131_12, b131_26, b131_37, b131_51, b131_65, b131_92, b131_106, b131_119, b131_146, c_within, Option.bind_some, Option.toList_some, Option.toList_none, List.cons_append, List.nil_append, i01a, i01b, if_true, if_false, bI_z, bI_o, bI_em, ite_not, eq_false h, i10, i01, eq_self, if_true, if_false, true_and, false_and, and_true, and_false, not_true, not_false_iff, true_or, or_true, false_or, or_false, ne_eq, not_true_eq_false, not_false_eq_true]
    simp [b131_0, b131_12, b131_26, b131_37, b131_51, b131_65, b131_92, b131_106, b131_119, b131_146]
theorem c_set3 (d : Nat) (σ : Sig) (b v : Int32) : Ex (d + 3) 102 0 [.ref 0, .int 3, .int b, .int v, .null] [] G0 σ = if 0 ≤ v ∧ v ≤ 200 then some (some (.int 1), G0, pt (pt (pt σ 1 2 v) 0 8 0) 0 10 0) else some (some (.int 0), G0, σ) := by
  have w1 : ((0 : Int32) ≤ 3 ∧ (3 : Int32) ≤ 5) = True := eq_true (by decide)
  simp only [b102_0, c_within, Option.bind_some, Option.toList_some, Option.toList_none, List.cons_append, List.nil_append, i01a, i01b, if_true, if_false, w1, b102_9, bI_z, bI_o, bI_em, ite_not, c_tell3, i10, i01, eq_self, if_true, if_false, true_and, false_and, and_true, and_false, not_true, not_false_iff, true_or, or_true, false_or, or_false, ne_eq, not_true_eq_false, not_false_eq_true]
  by_cases h : 0 ≤ v ∧ v ≤ 200
  · simp only [eq_true h, i10, i01, eq_self, if_true, if_false, true_and, false_and, and_true, and_false, not_true, not_false_iff, true_or, or_true, false_or, or_false, ne_eq, not_true_eq_false, not_false_eq_true, Option.bind_some, Option.toList_some, Option.toList_none, List.cons_append, List.nil_append, i01a, i01b, if_true, if_false, b102_18, c_forget, b102_119]
  · simp only [eq_false h, i10, i01, eq_self, if_true, if_false, true_and, false_and, and_true, and_false, not_true, not_false_iff, true_or, or_true, false_or, or_false, ne_eq, not_true_eq_false, not_false_eq_true, Option.bind_some, Option.toList_some, Option.toList_none, List.cons_append, List.nil_append, i01a, i01b, if_true, if_false, b102_18, c_forget, b102_119]
theorem c_tell4 (d : Nat) (σ : Sig) (v : Int32) : Ex (d + 2) 131 0 [.ref 0, .int 4, .int v] [] G0 σ = if 0 ≤ v ∧ v ≤ 1000 then some (some (.int 1), G0, pt σ 1 3 v) else some (some (.int 0), G0, σ) := by
  by_cases h : 0 ≤ v ∧ v ≤ 1000
  · simp [b131_0, b131_12, b131_26, b131_37, b131_51, b131_65, b131_92, b131_106, b131_119, b131_146, c_within, bI_z, bI_o, bI_em, ite_not, h, c_begin]
  · simp only [b131_0, b131_12, b131_26, b131_37, b131_51, b131_65, b131_92, b131_106, b131_119, b131_146, c_within, Option.bind_some, Option.toList_some, Option.toList_none, List.cons_append, List.nil_append, i01a, i01b, if_true, if_false, bI_z, bI_o, bI_em, ite_not, eq_false h, i10, i01, eq_self, if_true, if_false, true_and, false_and, and_true, and_false, not_true, not_false_iff, true_or, or_true, false_or, or_false, ne_eq, not_true_eq_false, not_false_eq_true]
    simp [b131_0, b131_12, b131_26, b131_37, b131_51, b131_65, b131_92, b131_106, b131_119, b131_146]
theorem c_set4 (d : Nat) (σ : Sig) (b v : Int32) : Ex (d + 3) 102 0 [.ref 0, .int 4, .int b, .int v, .null] [] G0 σ = if 0 ≤ v ∧ v ≤ 1000 then some (some (.int 1), G0, pt (pt (pt σ 1 3 v) 0 8 0) 0 10 0) else some (some (.int 0), G0, σ) := by
  have w1 : ((0 : Int32) ≤ 4 ∧ (4 : Int32) ≤ 5) = True := eq_true (by decide)
  simp only [b102_0, c_within, Option.bind_some, Option.toList_some, Option.toList_none, List.cons_append, List.nil_append, i01a, i01b, if_true, if_false, w1, b102_9, bI_z, bI_o, bI_em, ite_not, c_tell4, i10, i01, eq_self, if_true, if_false, true_and, false_and, and_true, and_false, not_true, not_false_iff, true_or, or_true, false_or, or_false, ne_eq, not_true_eq_false, not_false_eq_true]
  by_cases h : 0 ≤ v ∧ v ≤ 1000
  · simp only [eq_true h, i10, i01, eq_self, if_true, if_false, true_and, false_and, and_true, and_false, not_true, not_false_iff, true_or, or_true, false_or, or_false, ne_eq, not_true_eq_false, not_false_eq_true, Option.bind_some, Option.toList_some, Option.toList_none, List.cons_append, List.nil_append, i01a, i01b, if_true, if_false, b102_18, c_forget, b102_119]
  · simp only [eq_false h, i10, i01, eq_self, if_true, if_false, true_and, false_and, and_true, and_false, not_true, not_false_iff, true_or, or_true, false_or, or_false, ne_eq, not_true_eq_false, not_false_eq_true, Option.bind_some, Option.toList_some, Option.toList_none, List.cons_append, List.nil_append, i01a, i01b, if_true, if_false, b102_18, c_forget, b102_119]
theorem c_tell5 (d : Nat) (σ : Sig) (v : Int32) : Ex (d + 2) 131 0 [.ref 0, .int 5, .int v] [] G0 σ = if 0 ≤ v ∧ v ≤ 1000 then some (some (.int 1), G0, pt σ 1 4 v) else some (some (.int 0), G0, σ) := by
  by_cases h : 0 ≤ v ∧ v ≤ 1000
  · simp [b131_0, b131_12, b131_26, b131_37, b131_51, b131_65, b131_92, b131_106, b131_119, b131_146, c_within, bI_z, bI_o, bI_em, ite_not, h, c_begin]
  · simp only [b131_0, b131_12, b131_26, b131_37, b131_51, b131_65, b131_92, b131_106, b131_119, b131_146, c_within, Option.bind_some, Option.toList_some, Option.toList_none, List.cons_append, List.nil_append, i01a, i01b, if_true, if_false, bI_z, bI_o, bI_em, ite_not, eq_false h, i10, i01, eq_self, if_true, if_false, true_and, false_and, and_true, and_false, not_true, not_false_iff, true_or, or_true, false_or, or_false, ne_eq, not_true_eq_false, not_false_eq_true]
    simp [b131_0, b131_12, b131_26, b131_37, b131_51, b131_65, b131_92, b131_106, b131_119, b131_146]
theorem c_set5 (d : Nat) (σ : Sig) (b v : Int32) : Ex (d + 3) 102 0 [.ref 0, .int 5, .int b, .int v, .null] [] G0 σ = if 0 ≤ v ∧ v ≤ 1000 then some (some (.int 1), G0, pt (pt (pt σ 1 4 v) 0 8 0) 0 10 0) else some (some (.int 0), G0, σ) := by
  have w1 : ((0 : Int32) ≤ 5 ∧ (5 : Int32) ≤ 5) = True := eq_true (by decide)
  simp only [b102_0, c_within, Option.bind_some, Option.toList_some, Option.toList_none, List.cons_append, List.nil_append, i01a, i01b, if_true, if_false, w1, b102_9, bI_z, bI_o, bI_em, ite_not, c_tell5, i10, i01, eq_self, if_true, if_false, true_and, false_and, and_true, and_false, not_true, not_false_iff, true_or, or_true, false_or, or_false, ne_eq, not_true_eq_false, not_false_eq_true]
  by_cases h : 0 ≤ v ∧ v ≤ 1000
  · simp only [eq_true h, i10, i01, eq_self, if_true, if_false, true_and, false_and, and_true, and_false, not_true, not_false_iff, true_or, or_true, false_or, or_false, ne_eq, not_true_eq_false, not_false_eq_true, Option.bind_some, Option.toList_some, Option.toList_none, List.cons_append, List.nil_append, i01a, i01b, if_true, if_false, b102_18, c_forget, b102_119]
  · simp only [eq_false h, i10, i01, eq_self, if_true, if_false, true_and, false_and, and_true, and_false, not_true, not_false_iff, true_or, or_true, false_or, or_false, ne_eq, not_true_eq_false, not_false_eq_true, Option.bind_some, Option.toList_some, Option.toList_none, List.cons_append, List.nil_append, i01a, i01b, if_true, if_false, b102_18, c_forget, b102_119]
theorem c_set6 (d : Nat) {B T : LW} {σ : Sig} (hW : WI B T σ) (b v : Int32) : Ex (d + 3) 102 0 [.ref 0, .int 6, .int b, .int v, .null] [] G0 σ = if (0 ≤ b ∧ b < 2 * σ 8 0) ∧ (0 ≤ v ∧ v ≤ 6) then some (some (.int 1), G0, pt (pt (pt σ 10 b.toNatClampNeg v) 0 8 0) 0 10 0) else some (some (.int 0), G0, σ) := by
  have w1 : ((0 : Int32) ≤ 6 ∧ (6 : Int32) ≤ 5) = False := eq_false (by decide)
  have w2 : ((6 : Int32) ≤ 6 ∧ (6 : Int32) ≤ 8) = True := eq_true (by decide)
  have w3 : ((6 : Int32) = 6) = (if 6 = 6 then True else False) := by simp
  have w4 : ((6 : Int32) = 7) = (if 6 = 7 then True else False) := by simp
  have w5 : ((6 : Int32) = 8) = (if 6 = 8 then True else False) := by simp
  simp only [b102_0, c_within, Option.bind_some, Option.toList_some, Option.toList_none, List.cons_append, List.nil_append, i01a, i01b, if_true, if_false, w1, b102_9, bI_z, bI_o, bI_em, ite_not, i10, i01, eq_self, if_true, if_false, true_and, false_and, and_true, and_false, not_true, not_false_iff, true_or, or_true, false_or, or_false, ne_eq, not_true_eq_false, not_false_eq_true, b102_31, w2, c_placesHas, b102_45]
  by_cases c1 : 0 ≤ b ∧ b < 2 * σ 8 0
  · have hn := pl_n hW c1
    have n8' := (WI_np hW).2.1
    have i : inb b 8 = true := by rw [hn.2]; exact inb_n (by omega) (by omega)
    by_cases h : 0 ≤ v ∧ v ≤ 6
    · simp [b132_0, b132_13, b132_32, b132_44, b132_76, c_within, bI_z, bI_o, bI_em, ite_not, c1, h, i, b102_55, c_forget, b102_119]
    · have e : Ex (d + 2) 132 0 [.ref 0, .int 6, .int b, .int v] [] G0 σ = some (some (.int 0), G0, σ) := by
        simp only [b132_0, b132_13, b132_32, b132_44, b132_76, c_within, Option.bind_some, Option.toList_some, Option.toList_none, List.cons_append, List.nil_append, i01a, i01b, if_true, if_false, bI_z, bI_o, bI_em, ite_not, eq_false h, i10, i01, eq_self, if_true, if_false, true_and, false_and, and_true, and_false, not_true, not_false_iff, true_or, or_true, false_or, or_false, ne_eq, not_true_eq_false, not_false_eq_true]
        simp [b132_0, b132_13, b132_32, b132_44, b132_76]
      simp only [eq_true c1, eq_false h, i10, i01, eq_self, if_true, if_false, true_and, false_and, and_true, and_false, not_true, not_false_iff, true_or, or_true, false_or, or_false, ne_eq, not_true_eq_false, not_false_eq_true, e, Option.bind_some, Option.toList_some, Option.toList_none, List.cons_append, List.nil_append, i01a, i01b, if_true, if_false, b102_55, b102_119]
  · simp only [eq_false c1, i10, i01, eq_self, if_true, if_false, true_and, false_and, and_true, and_false, not_true, not_false_iff, true_or, or_true, false_or, or_false, ne_eq, not_true_eq_false, not_false_eq_true, b102_119, Option.bind_some, Option.toList_some, Option.toList_none, List.cons_append, List.nil_append, i01a, i01b, if_true, if_false]
theorem c_set7 (d : Nat) {B T : LW} {σ : Sig} (hW : WI B T σ) (b v : Int32) : Ex (d + 3) 102 0 [.ref 0, .int 7, .int b, .int v, .null] [] G0 σ = if (0 ≤ b ∧ b < 2 * σ 8 0) ∧ (0 ≤ v ∧ v ≤ 1) then some (some (.int 1), G0, pt (pt (pt σ 11 b.toNatClampNeg v) 0 8 0) 0 10 0) else some (some (.int 0), G0, σ) := by
  have w1 : ((0 : Int32) ≤ 7 ∧ (7 : Int32) ≤ 5) = False := eq_false (by decide)
  have w2 : ((6 : Int32) ≤ 7 ∧ (7 : Int32) ≤ 8) = True := eq_true (by decide)
  have w3 : ((7 : Int32) = 6) = (if 7 = 6 then True else False) := by simp
  have w4 : ((7 : Int32) = 7) = (if 7 = 7 then True else False) := by simp
  have w5 : ((7 : Int32) = 8) = (if 7 = 8 then True else False) := by simp
  simp only [b102_0, c_within, Option.bind_some, Option.toList_some, Option.toList_none, List.cons_append, List.nil_append, i01a, i01b, if_true, if_false, w1, b102_9, bI_z, bI_o, bI_em, ite_not, i10, i01, eq_self, if_true, if_false, true_and, false_and, and_true, and_false, not_true, not_false_iff, true_or, or_true, false_or, or_false, ne_eq, not_true_eq_false, not_false_eq_true, b102_31, w2, c_placesHas, b102_45]
  by_cases c1 : 0 ≤ b ∧ b < 2 * σ 8 0
  · have hn := pl_n hW c1
    have n8' := (WI_np hW).2.1
    have i : inb b 8 = true := by rw [hn.2]; exact inb_n (by omega) (by omega)
    by_cases h : 0 ≤ v ∧ v ≤ 1
    · simp [b132_0, b132_13, b132_32, b132_44, b132_76, c_within, bI_z, bI_o, bI_em, ite_not, c1, h, i, b102_55, c_forget, b102_119]
    · have e : Ex (d + 2) 132 0 [.ref 0, .int 7, .int b, .int v] [] G0 σ = some (some (.int 0), G0, σ) := by
        simp only [b132_0, b132_13, b132_32, b132_44, b132_76, c_within, Option.bind_some, Option.toList_some, Option.toList_none, List.cons_append, List.nil_append, i01a, i01b, if_true, if_false, bI_z, bI_o, bI_em, ite_not, eq_false h, i10, i01, eq_self, if_true, if_false, true_and, false_and, and_true, and_false, not_true, not_false_iff, true_or, or_true, false_or, or_false, ne_eq, not_true_eq_false, not_false_eq_true]
        simp [b132_0, b132_13, b132_32, b132_44, b132_76]
      simp only [eq_true c1, eq_false h, i10, i01, eq_self, if_true, if_false, true_and, false_and, and_true, and_false, not_true, not_false_iff, true_or, or_true, false_or, or_false, ne_eq, not_true_eq_false, not_false_eq_true, e, Option.bind_some, Option.toList_some, Option.toList_none, List.cons_append, List.nil_append, i01a, i01b, if_true, if_false, b102_55, b102_119]
  · simp only [eq_false c1, i10, i01, eq_self, if_true, if_false, true_and, false_and, and_true, and_false, not_true, not_false_iff, true_or, or_true, false_or, or_false, ne_eq, not_true_eq_false, not_false_eq_true, b102_119, Option.bind_some, Option.toList_some, Option.toList_none, List.cons_append, List.nil_append, i01a, i01b, if_true, if_false]
theorem c_set8 (d : Nat) {B T : LW} {σ : Sig} (hW : WI B T σ) (b v : Int32) : Ex (d + 3) 102 0 [.ref 0, .int 8, .int b, .int v, .null] [] G0 σ = if (0 ≤ b ∧ b < 2 * σ 8 0) ∧ (1 ≤ v ∧ v ≤ 9) then some (some (.int 1), G0, pt (pt (pt σ 12 b.toNatClampNeg v) 0 8 0) 0 10 0) else some (some (.int 0), G0, σ) := by
  have w1 : ((0 : Int32) ≤ 8 ∧ (8 : Int32) ≤ 5) = False := eq_false (by decide)
  have w2 : ((6 : Int32) ≤ 8 ∧ (8 : Int32) ≤ 8) = True := eq_true (by decide)
  have w3 : ((8 : Int32) = 6) = (if 8 = 6 then True else False) := by simp
  have w4 : ((8 : Int32) = 7) = (if 8 = 7 then True else False) := by simp
  have w5 : ((8 : Int32) = 8) = (if 8 = 8 then True else False) := by simp
  simp only [b102_0, c_within, Option.bind_some, Option.toList_some, Option.toList_none, List.cons_append, List.nil_append, i01a, i01b, if_true, if_false, w1, b102_9, bI_z, bI_o, bI_em, ite_not, i10, i01, eq_self, if_true, if_false, true_and, false_and, and_true, and_false, not_true, not_false_iff, true_or, or_true, false_or, or_false, ne_eq, not_true_eq_false, not_false_eq_true, b102_31, w2, c_placesHas, b102_45]
  by_cases c1 : 0 ≤ b ∧ b < 2 * σ 8 0
  · have hn := pl_n hW c1
    have n8' := (WI_np hW).2.1
    have i : inb b 8 = true := by rw [hn.2]; exact inb_n (by omega) (by omega)
    by_cases h : 1 ≤ v ∧ v ≤ 9
    · simp [b132_0, b132_13, b132_32, b132_44, b132_76, c_within, bI_z, bI_o, bI_em, ite_not, c1, h, i, b102_55, c_forget, b102_119]
    · have e : Ex (d + 2) 132 0 [.ref 0, .int 8, .int b, .int v] [] G0 σ = some (some (.int 0), G0, σ) := by
        simp only [b132_0, b132_13, b132_32, b132_44, b132_76, c_within, Option.bind_some, Option.toList_some, Option.toList_none, List.cons_append, List.nil_append, i01a, i01b, if_true, if_false, bI_z, bI_o, bI_em, ite_not, eq_false h, i10, i01, eq_self, if_true, if_false, true_and, false_and, and_true, and_false, not_true, not_false_iff, true_or, or_true, false_or, or_false, ne_eq, not_true_eq_false, not_false_eq_true]
        simp [b132_0, b132_13, b132_32, b132_44, b132_76]
      simp only [eq_true c1, eq_false h, i10, i01, eq_self, if_true, if_false, true_and, false_and, and_true, and_false, not_true, not_false_iff, true_or, or_true, false_or, or_false, ne_eq, not_true_eq_false, not_false_eq_true, e, Option.bind_some, Option.toList_some, Option.toList_none, List.cons_append, List.nil_append, i01a, i01b, if_true, if_false, b102_55, b102_119]
  · simp only [eq_false c1, i10, i01, eq_self, if_true, if_false, true_and, false_and, and_true, and_false, not_true, not_false_iff, true_or, or_true, false_or, or_false, ne_eq, not_true_eq_false, not_false_eq_true, b102_119, Option.bind_some, Option.toList_some, Option.toList_none, List.cons_append, List.nil_append, i01a, i01b, if_true, if_false]
theorem c_set9 (d : Nat) {B T : LW} {σ : Sig} (hW : WI B T σ) (b v : Int32) : Ex (d + 3) 102 0 [.ref 0, .int 9, .int b, .int v, .null] [] G0 σ = if (0 ≤ b ∧ b < σ 2 0) ∧ (0 ≤ v ∧ v ≤ 300) then some (some (.int 1), G0, pt (pt (pt σ 4 b.toNatClampNeg v) 0 8 0) 0 10 0) else some (some (.int 0), G0, σ) := by
  have w1 : ((0 : Int32) ≤ 9 ∧ (9 : Int32) ≤ 5) = False := eq_false (by decide)
  have w2 : ((6 : Int32) ≤ 9 ∧ (9 : Int32) ≤ 8) = False := eq_false (by decide)
  have w3 : ((9 : Int32) ≤ 9 ∧ (9 : Int32) ≤ 10) = True := eq_true (by decide)
  simp only [b102_0, c_within, Option.bind_some, Option.toList_some, Option.toList_none, List.cons_append, List.nil_append, i01a, i01b, if_true, if_false, w1, b102_9, bI_z, bI_o, bI_em, ite_not, i10, i01, eq_self, if_true, if_false, true_and, false_and, and_true, and_false, not_true, not_false_iff, true_or, or_true, false_or, or_false, ne_eq, not_true_eq_false, not_false_eq_true, b102_31, w2, w3, b102_76, c_crewHas, b102_90]
  by_cases c1 : 0 ≤ b ∧ b < σ 2 0
  · obtain ⟨n, hn, n8', en⟩ := be_ix hW c1
    have i : inb b 8 = true := by rw [en]; exact inb_n n8' (by omega)
    by_cases h : 0 ≤ v ∧ v ≤ 300
    · simp [b133_0, b133_14, b133_47, c_within, bI_z, bI_o, bI_em, ite_not, c1, h, i, b102_100, c_forget, b102_119]
    · have e : Ex (d + 2) 133 0 [.ref 0, .int 9, .int b, .int v] [] G0 σ = some (some (.int 0), G0, σ) := by
        simp only [b133_0, b133_14, b133_47, c_within, Option.bind_some, Option.toList_some, Option.toList_none, List.cons_append, List.nil_append, i01a, i01b, if_true, if_false, bI_z, bI_o, bI_em, ite_not, eq_false h, i10, i01, eq_self, if_true, if_false, true_and, false_and, and_true, and_false, not_true, not_false_iff, true_or, or_true, false_or, or_false, ne_eq, not_true_eq_false, not_false_eq_true]
        simp [b133_0, b133_14, b133_47]
      simp only [eq_true c1, eq_false h, i10, i01, eq_self, if_true, if_false, true_and, false_and, and_true, and_false, not_true, not_false_iff, true_or, or_true, false_or, or_false, ne_eq, not_true_eq_false, not_false_eq_true, e, Option.bind_some, Option.toList_some, Option.toList_none, List.cons_append, List.nil_append, i01a, i01b, if_true, if_false, b102_100, b102_119]
  · simp only [eq_false c1, i10, i01, eq_self, if_true, if_false, true_and, false_and, and_true, and_false, not_true, not_false_iff, true_or, or_true, false_or, or_false, ne_eq, not_true_eq_false, not_false_eq_true, b102_119, Option.bind_some, Option.toList_some, Option.toList_none, List.cons_append, List.nil_append, i01a, i01b, if_true, if_false]
theorem c_set10 (d : Nat) {B T : LW} {σ : Sig} (hW : WI B T σ) (b v : Int32) : Ex (d + 3) 102 0 [.ref 0, .int 10, .int b, .int v, .null] [] G0 σ = if (0 ≤ b ∧ b < σ 2 0) ∧ (0 ≤ v ∧ v ≤ 1000) then some (some (.int 1), G0, pt (pt (pt σ 7 b.toNatClampNeg v) 0 8 0) 0 10 0) else some (some (.int 0), G0, σ) := by
  have w1 : ((0 : Int32) ≤ 10 ∧ (10 : Int32) ≤ 5) = False := eq_false (by decide)
  have w2 : ((6 : Int32) ≤ 10 ∧ (10 : Int32) ≤ 8) = False := eq_false (by decide)
  have w3 : ((9 : Int32) ≤ 10 ∧ (10 : Int32) ≤ 10) = True := eq_true (by decide)
  simp only [b102_0, c_within, Option.bind_some, Option.toList_some, Option.toList_none, List.cons_append, List.nil_append, i01a, i01b, if_true, if_false, w1, b102_9, bI_z, bI_o, bI_em, ite_not, i10, i01, eq_self, if_true, if_false, true_and, false_and, and_true, and_false, not_true, not_false_iff, true_or, or_true, false_or, or_false, ne_eq, not_true_eq_false, not_false_eq_true, b102_31, w2, w3, b102_76, c_crewHas, b102_90]
  by_cases c1 : 0 ≤ b ∧ b < σ 2 0
  · obtain ⟨n, hn, n8', en⟩ := be_ix hW c1
    have i : inb b 8 = true := by rw [en]; exact inb_n n8' (by omega)
    by_cases h : 0 ≤ v ∧ v ≤ 1000
    · simp [b133_0, b133_14, b133_47, c_within, bI_z, bI_o, bI_em, ite_not, c1, h, i, b102_100, c_forget, b102_119]
    · have e : Ex (d + 2) 133 0 [.ref 0, .int 10, .int b, .int v] [] G0 σ = some (some (.int 0), G0, σ) := by
        simp only [b133_0, b133_14, b133_47, c_within, Option.bind_some, Option.toList_some, Option.toList_none, List.cons_append, List.nil_append, i01a, i01b, if_true, if_false, bI_z, bI_o, bI_em, ite_not, eq_false h, i10, i01, eq_self, if_true, if_false, true_and, false_and, and_true, and_false, not_true, not_false_iff, true_or, or_true, false_or, or_false, ne_eq, not_true_eq_false, not_false_eq_true]
        simp [b133_0, b133_14, b133_47]
      simp only [eq_true c1, eq_false h, i10, i01, eq_self, if_true, if_false, true_and, false_and, and_true, and_false, not_true, not_false_iff, true_or, or_true, false_or, or_false, ne_eq, not_true_eq_false, not_false_eq_true, e, Option.bind_some, Option.toList_some, Option.toList_none, List.cons_append, List.nil_append, i01a, i01b, if_true, if_false, b102_100, b102_119]
  · simp only [eq_false c1, i10, i01, eq_self, if_true, if_false, true_and, false_and, and_true, and_false, not_true, not_false_iff, true_or, or_true, false_or, or_false, ne_eq, not_true_eq_false, not_false_eq_true, b102_119, Option.bind_some, Option.toList_some, Option.toList_none, List.cons_append, List.nil_append, i01a, i01b, if_true, if_false]
theorem c_setN (d : Nat) (σ : Sig) (a b v : Int32) (h : ¬ (0 ≤ a ∧ a ≤ 10)) : Ex (d + 3) 102 0 [.ref 0, .int a, .int b, .int v, .null] [] G0 σ = some (some (.int 0), G0, σ) := by
  have w1 : ((0 : Int32) ≤ a ∧ a ≤ 5) = False := eq_false (fun e => h ⟨e.1, Int32.le_trans e.2 (by decide)⟩)
  have w2 : ((6 : Int32) ≤ a ∧ a ≤ 8) = False := eq_false (fun e => h ⟨Int32.le_trans (by decide) e.1, Int32.le_trans e.2 (by decide)⟩)
  have w3 : ((9 : Int32) ≤ a ∧ a ≤ 10) = False := eq_false (fun e => h ⟨Int32.le_trans (by decide) e.1, e.2⟩)
  simp only [b102_0, c_within, Option.bind_some, Option.toList_some, Option.toList_none, List.cons_append, List.nil_append, i01a, i01b, if_true, if_false, w1, b102_9, bI_z, bI_o, bI_em, ite_not, i10, i01, eq_self, if_true, if_false, true_and, false_and, and_true, and_false, not_true, not_false_iff, true_or, or_true, false_or, or_false, ne_eq, not_true_eq_false, not_false_eq_true, b102_31, w2, w3, b102_76, b102_119]
