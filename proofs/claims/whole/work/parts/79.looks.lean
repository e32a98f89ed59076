/-! L3: book, look -/
theorem it_a {c : Prop} [Decidable c] {x y : Int32} {σ : Sig} : (if c then some (some (Value.int x), G0, σ) else some (some (Value.int y), G0, σ)) = some (some (Value.int (if c then x else y)), G0, σ) := by split <;> rfl
abbrev bkC (ω : Sig) (a b : Int32) : Prop := (0 ≤ a ∧ a ≤ ω 25 0 - 1) ∧ (0 ≤ b ∧ b ≤ 3)
def bkA (ω : Sig) (a b : Int32) : Int32 := if bkC ω a b then ω 26 (4 * a.toNatClampNeg + b.toNatClampNeg) else -2
theorem bk_n {B T : LW} {ω : Sig} (hW : WI B T ω) {a b : Int32} (h : bkC ω a b) : a = nI a.toNatClampNeg ∧ b = nI b.toNatClampNeg ∧ a.toNatClampNeg < lns ω ∧ lns ω ≤ 150 ∧ b.toNatClampNeg < 4 := by
  obtain ⟨l, hl, el, cl⟩ := bkN hW
  obtain ⟨⟨h1, h2⟩, h3, h4⟩ := h
  rw [Int32.le_iff_toInt_le] at h1 h2 h3 h4
  have e0 : (0 : Int32).toInt = 0 := rfl
  have e3 : (3 : Int32).toInt = 3 := rfl
  have hs : (ω 25 0 - 1).toInt = (l : Int) - 1 := by
    rw [el]
    by_cases z : l = 0
    · subst z; rfl
    · rw [show nI l - 1 = nI (l - 1) from nI_sub' (b := 1) (by omega), nI_i (by omega)]; omega
  have ca : a.toNatClampNeg = a.toInt.toNat := rfl
  have cb : b.toNatClampNeg = b.toInt.toNat := rfl
  refine ⟨nI_of0 (by omega), nI_of0 (by omega), ?_, ?_, by omega⟩
  · unfold lns; omega
  · unfold lns; omega
theorem c_book (d : Nat) {B T : LW} {σ : Sig} (a b : Int32) (hW : WI B T σ) : Ex (d + 1) 111 0 [.ref 0, .int a, .int b] [] G0 σ = some (some (.int (bkA σ a b)), G0, σ) := by
  simp only [b111_0, c_within, Option.bind_some, Option.toList_some, Option.toList_none, List.cons_append, List.nil_append, i01a, i01b, if_true, if_false, b111_17, b111_26, bI_z, bI_o, bI_em, ite_not]
  unfold bkA
  by_cases c1 : 0 ≤ a ∧ a ≤ σ 25 0 - 1
  · by_cases c2 : 0 ≤ b ∧ b ≤ 3
    · have cc : bkC σ a b := ⟨c1, c2⟩
      obtain ⟨ea, eb, l1, l2, l3⟩ := bk_n hW cc
      have ix : a * 4 + b = nI (4 * a.toNatClampNeg + b.toNatClampNeg) := by
        have e1 : a * 4 = nI (a.toNatClampNeg * 4) := (congrArg (· * 4) ea).trans (nI_mul' _ 4)
        rw [e1, show nI (a.toNatClampNeg * 4) + b = nI (a.toNatClampNeg * 4) + nI b.toNatClampNeg by rw [← eb]]
        rw [show 4 * a.toNatClampNeg = a.toNatClampNeg * 4 by omega]
        exact (Int32.ofNat_add _ _).symm
      rw [if_pos cc]
      simp only [eq_true c1, eq_true c2, ix, inb_n (show 4 * a.toNatClampNeg + b.toNatClampNeg < 600 by omega) (by omega), nI_c (show 4 * a.toNatClampNeg + b.toNatClampNeg < 2 ^ 31 by omega), i10, i01, eq_self, if_true, if_false, true_and, false_and, and_true, and_false, not_true, not_false_iff, true_or, or_true, false_or, or_false, ne_eq, not_true_eq_false, not_false_eq_true]
    · have cc : ¬ bkC σ a b := fun h => c2 h.2
      rw [if_neg cc]
      simp only [eq_true c1, eq_false c2, i10, i01, eq_self, if_true, if_false, true_and, false_and, and_true, and_false, not_true, not_false_iff, true_or, or_true, false_or, or_false, ne_eq, not_true_eq_false, not_false_eq_true]
  · have cc : ¬ bkC σ a b := fun h => c1 h.1
    rw [if_neg cc]
    simp only [eq_false c1, i10, i01, eq_self, if_true, if_false, true_and, false_and, and_true, and_false, not_true, not_false_iff, true_or, or_true, false_or, or_false, ne_eq, not_true_eq_false, not_false_eq_true]
theorem m_book (d : Nat) {B T : LW} {ω σ : Sig} (a b : Int32) (hM : MR B T ω σ) (hW : WI B T ω) : Ex (d + 1) 233 0 [.ref 112, .int a, .int b] [] G0 σ = some (some (.int (bkA ω a b)), G0, pt σ 112 0 0) := by
  have e2 : pt σ 112 0 0 113 2 = ω 25 0 := by rw [pt_q (by decide)]; exact hM 9
  have h26 : mr B T ω σ 26 := hM 26
  simp only [b233_0, m_isIn, e2, Option.bind_some, Option.toList_some, Option.toList_none, List.cons_append, List.nil_append, i01a, i01b, if_true, if_false, b233_19, b233_29, bI_z, bI_o, bI_em, ite_not]
  unfold bkA
  by_cases c1 : 0 ≤ a ∧ a ≤ ω 25 0 - 1
  · by_cases c2 : 0 ≤ b ∧ b ≤ 3
    · have cc : bkC ω a b := ⟨c1, c2⟩
      obtain ⟨ea, eb, l1, l2, l3⟩ := bk_n hW cc
      have ix : 4 * a + b = nI (4 * a.toNatClampNeg + b.toNatClampNeg) := by
        have e1 : 4 * a = nI (4 * a.toNatClampNeg) := (congrArg (4 * ·) ea).trans (nI_mul' 4 _)
        rw [e1, show nI (4 * a.toNatClampNeg) + b = nI (4 * a.toNatClampNeg) + nI b.toNatClampNeg by rw [← eb]]
        exact (Int32.ofNat_add _ _).symm
      have hv : pt σ 112 0 0 123 (4 * a.toNatClampNeg + b.toNatClampNeg) = ω 26 (4 * a.toNatClampNeg + b.toNatClampNeg) := by rw [pt_q (by decide)]; exact h26 _ (by unfold lns at l1; omega)
      rw [if_pos cc]
      simp only [eq_true c1, eq_true c2, ix, inb_n (show 4 * a.toNatClampNeg + b.toNatClampNeg < 600 by omega) (by omega), nI_c (show 4 * a.toNatClampNeg + b.toNatClampNeg < 2 ^ 31 by omega), hv, i10, i01, eq_self, if_true, if_false, true_and, false_and, and_true, and_false, not_true, not_false_iff, true_or, or_true, false_or, or_false, ne_eq, not_true_eq_false, not_false_eq_true]
    · have cc : ¬ bkC ω a b := fun h => c2 h.2
      rw [if_neg cc]
      simp only [eq_true c1, eq_false c2, i10, i01, eq_self, if_true, if_false, true_and, false_and, and_true, and_false, not_true, not_false_iff, true_or, or_true, false_or, or_false, ne_eq, not_true_eq_false, not_false_eq_true]
  · have cc : ¬ bkC ω a b := fun h => c1 h.1
    rw [if_neg cc]
    simp only [eq_false c1, i10, i01, eq_self, if_true, if_false, true_and, false_and, and_true, and_false, not_true, not_false_iff, true_or, or_true, false_or, or_false, ne_eq, not_true_eq_false, not_false_eq_true]
def lkA (ω : Sig) (u a : Int32) : Int32 := if a = 0 then ω 1 0 else if a = 1 then ω 8 0 else if a = 2 then ω 2 0 else if a = 3 then ω 1 6 else if a = 4 then ω 1 7 else if a = 5 then ω 1 8 else if a = 6 then ω 25 0 else if a = 7 then ω 1 5 else if a = 8 then ω 14 0 else if a = 9 then ω 17 0 else if a = 10 then ω 20 0 - ω 1 9 else if a = 11 then u else if a = 20 then ω 1 1 else if a = 21 then ω 1 2 else if a = 22 then ω 1 3 else if a = 23 then ω 1 4 else -1
theorem c_look (d : Nat) (σ : Sig) (a : Int32) : Ex d 130 0 [.ref 0, .int a] [] G0 σ = some (some (.int (lkA σ (σ 0 8) a)), G0, σ) := by
  rw [b130_0]
  unfold lkA
  simp only [it_a]
theorem m_look (d : Nat) {B T : LW} {ω σ : Sig} (a : Int32) (hM : MR B T ω σ) : Ex (d + 1) 269 0 [.ref 112, .int a] [] G0 σ = some (some (.int (lkA ω (σ 112 3) a)), G0, pt σ 112 0 0) := by
  have hM0 : MR B T ω (pt σ 112 0 0) := MR_S hM (Fr_p Fr_r (Or.inr (by simp)) : Fr [] [(112, 0)] σ (pt σ 112 0 0)) (by decide) (by simp)
  have a0 : pt σ 112 0 0 112 6 + 400 = ω 1 0 := by rw [show pt σ 112 0 0 112 6 = _ from hM0 0, Int32.sub_add_cancel]
  have a1 : pt σ 112 0 0 112 7 + 3 = ω 8 0 := by rw [show pt σ 112 0 0 112 7 = _ from hM0 1, Int32.sub_add_cancel]
  have a2 : pt σ 112 0 0 112 8 + 50 = ω 1 2 := by rw [show pt σ 112 0 0 112 8 = _ from hM0 2, Int32.sub_add_cancel]
  have a3 : pt σ 112 0 0 112 9 + 100 = ω 1 3 := by rw [show pt σ 112 0 0 112 9 = _ from hM0 3, Int32.sub_add_cancel]
  have a4 : pt σ 112 0 0 112 10 = ω 1 1 := hM0 4
  have a5 : pt σ 112 0 0 112 11 = ω 1 4 := hM0 5
  have a6 : pt σ 112 0 0 112 12 = ω 2 0 := hM0 6
  have a7 : pt σ 112 0 0 113 0 = ω 1 6 := hM0 7
  have a8 : pt σ 112 0 0 113 1 = ω 1 5 := hM0 8
  have a9 : pt σ 112 0 0 113 2 = ω 25 0 := hM0 9
  have a10 : pt σ 112 0 0 113 3 = ω 1 7 := hM0 10
  have a11 : pt σ 112 0 0 113 4 = ω 1 8 := hM0 11
  have a12 : pt σ 112 0 0 113 5 = ω 1 9 := hM0 12
  have a13 : pt σ 112 0 0 112 43 = ω 20 0 := hM0 24
  have a14 : pt σ 112 0 0 126 0 = ω 14 0 := hM0 27
  have a15 : pt σ 112 0 0 126 1 = ω 17 0 := hM0 28
  have a16 : pt σ 112 0 0 112 3 = σ 112 3 := pt_k (by decide)
  simp only [b269_0, m_pounds, m_pairs, m_loose, m_ease, Option.bind_some, Option.toList_some, Option.toList_none, List.cons_append, List.nil_append, i01a, i01b, if_true, if_false, b269_13, b269_23, b269_89, b269_96, b269_172, b269_183, a0, a1, a2, a3, a4, a5, a6, a7, a8, a9, a10, a11, a12, a13, a14, a15, a16, it_a]
  rfl
