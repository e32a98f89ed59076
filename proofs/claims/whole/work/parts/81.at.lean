/-! L3: at -/
def atV (ω : Sig) (n : Nat) (b c : Int32) : Int32 := if b = 0 then ω 9 n else if b = 1 then ω 10 n else if b = 2 then ω 11 n else if b = 3 then ω 12 n else if b = 4 then ω 13 n else if b = 5 then c else -2
def atA (ω : Sig) (a b : Int32) : Int32 := if 0 ≤ a ∧ a < 2 * ω 8 0 then atV ω a.toNatClampNeg b (if ω 9 a.toNatClampNeg = -1 then -1 else topS ω 0 a.toNatClampNeg) else -2
theorem at_w {B T : LW} {ω : Sig} (hW : WI B T ω) {n : Nat} (hn : n < 8) (h : ω 9 n ≠ -1) : ∃ b, b < 8 ∧ ω 9 n = nI b ∧ topX ω 0 n b (ω 10 n) = topS ω 0 n := by
  have h6 : wi B T ω 6 := hW 6
  have s5 : wi B T ω 5 := hW 5
  have s8 := s5.2
  rcases h6 n hn with e | ⟨_, b, hb, e⟩
  · exact absurd e h
  · refine ⟨b, by omega, e, ?_⟩
    unfold topS wN
    rw [e, nI_c (by omega)]
theorem c_at (d : Nat) {B T : LW} {σ : Sig} (a b : Int32) (hW : WI B T σ) : Ex (d + 1) 110 0 [.ref 0, .int a, .int b, .null] [] G0 σ = some (some (.int (atA σ a b)), G0, σ) := by
  simp only [b110_0, c_placesHas, Option.bind_some, Option.toList_some, Option.toList_none, List.cons_append, List.nil_append, i01a, i01b, if_true, if_false, b110_13, bI_z, bI_o, bI_em, ite_not]
  unfold atA
  by_cases c1 : 0 ≤ a ∧ a < 2 * σ 8 0
  · have hn := pl_n hW c1
    have n8' := (WI_np hW).2.1
    have i : inb a 8 = true := by rw [hn.2]; exact inb_n (by omega) (by omega)
    rw [if_pos c1]
    unfold atV
    by_cases c2 : σ 9 a.toNatClampNeg = -1
    · simp only [eq_true c1, i, c2, i10, i01, eq_self, if_true, if_false, true_and, false_and, and_true, and_false, not_true, not_false_iff, true_or, or_true, false_or, or_false, ne_eq, not_true_eq_false, not_false_eq_true, b110_118, it_a]
    · obtain ⟨w, hw, e, et⟩ := at_w hW (show a.toNatClampNeg < 8 by omega) c2
      have ht : ∀ d, Ex d 94 0 [.ref 1, .int a, .int 0, .null] [] G0 σ = some (some (.int (topS σ 0 a.toNatClampNeg)), G0, σ) := fun d => by
        have := c_top d σ a.toNatClampNeg w 0 (by omega) hw e
        rw [← hn.2, et] at this; exact this
      simp only [eq_true c1, i, eq_false c2, i10, i01, eq_self, if_true, if_false, true_and, false_and, and_true, and_false, not_true, not_false_iff, true_or, or_true, false_or, or_false, ne_eq, not_true_eq_false, not_false_eq_true, ht, Option.bind_some, Option.toList_some, Option.toList_none, List.cons_append, List.nil_append, i01a, i01b, if_true, if_false, b110_118, it_a]
  · rw [if_neg c1]
    simp only [eq_false c1, i10, i01, eq_self, if_true, if_false, true_and, false_and, and_true, and_false, not_true, not_false_iff, true_or, or_true, false_or, or_false, ne_eq, not_true_eq_false, not_false_eq_true]
