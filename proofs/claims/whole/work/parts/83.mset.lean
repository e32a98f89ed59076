/-! L3: set, the model -/
theorem m_can0 (d : Nat) (σ : Sig) (b v : Int32) : Ex (d + 3) 163 0 [.ref 112, .int 0, .int b, .int v] [] G0 σ = some (some (.int (bI (1 ≤ v ∧ v ≤ 999))), G0, σ) := by
  have w1 : ((0 : Int32) ≤ 0 ∧ (0 : Int32) ≤ 10) = True := eq_true (by decide)
  have w2 : ((6 : Int32) ≤ 0 ∧ (0 : Int32) ≤ 8) = False := eq_false (by decide)
  have w3 : ((0 : Int32) ≤ 8) = True := eq_true (by decide)
  simp only [b163_0, m_isIn, Option.bind_some, Option.toList_some, Option.toList_none, List.cons_append, List.nil_append, i01a, i01b, if_true, if_false, w1, b163_8, bI_z, bI_o, bI_em, ite_not, i10, i01, eq_self, if_true, if_false, true_and, false_and, and_true, and_false, not_true, not_false_iff, true_or, or_true, false_or, or_false, ne_eq, not_true_eq_false, not_false_eq_true, w2, b163_20, w3, b163_47, b162_0]
  simp [b163_78, m_isIn, b163_81, bI_01]
theorem m_can1 (d : Nat) (σ : Sig) (b v : Int32) : Ex (d + 3) 163 0 [.ref 112, .int 1, .int b, .int v] [] G0 σ = some (some (.int (bI (2 ≤ v ∧ v ≤ 4))), G0, σ) := by
  have w1 : ((0 : Int32) ≤ 1 ∧ (1 : Int32) ≤ 10) = True := eq_true (by decide)
  have w2 : ((6 : Int32) ≤ 1 ∧ (1 : Int32) ≤ 8) = False := eq_false (by decide)
  have w3 : ((1 : Int32) ≤ 8) = True := eq_true (by decide)
  simp only [b163_0, m_isIn, Option.bind_some, Option.toList_some, Option.toList_none, List.cons_append, List.nil_append, i01a, i01b, if_true, if_false, w1, b163_8, bI_z, bI_o, bI_em, ite_not, i10, i01, eq_self, if_true, if_false, true_and, false_and, and_true, and_false, not_true, not_false_iff, true_or, or_true, false_or, or_false, ne_eq, not_true_eq_false, not_false_eq_true, w2, b163_20, w3, b163_47, b162_0]
  simp [b163_78, m_isIn, b163_81, bI_01]
theorem m_can2 (d : Nat) (σ : Sig) (b v : Int32) : Ex (d + 3) 163 0 [.ref 112, .int 2, .int b, .int v] [] G0 σ = some (some (.int (bI (0 ≤ v ∧ v ≤ 1))), G0, σ) := by
  have w1 : ((0 : Int32) ≤ 2 ∧ (2 : Int32) ≤ 10) = True := eq_true (by decide)
  have w2 : ((6 : Int32) ≤ 2 ∧ (2 : Int32) ≤ 8) = False := eq_false (by decide)
  have w3 : ((2 : Int32) ≤ 8) = True := eq_true (by decide)
  simp only [b163_0, m_isIn, Option.bind_some, Option.toList_some, Option.toList_none, List.cons_append, List.nil_append, i01a, i01b, if_true, if_false, w1, b163_8, bI_z, bI_o, bI_em, ite_not, i10, i01, eq_self, if_true, if_false, true_and, false_and, and_true, and_false, not_true, not_false_iff, true_or, or_true, false_or, or_false, ne_eq, not_true_eq_false, not_false_eq_true, w2, b163_20, w3, b163_47, b162_0]
  simp [b163_78, m_isIn, b163_81, bI_01]
theorem m_can3 (d : Nat) (σ : Sig) (b v : Int32) : Ex (d + 3) 163 0 [.ref 112, .int 3, .int b, .int v] [] G0 σ = some (some (.int (bI (0 ≤ v ∧ v ≤ 200))), G0, σ) := by
  have w1 : ((0 : Int32) ≤ 3 ∧ (3 : Int32) ≤ 10) = True := eq_true (by decide)
  have w2 : ((6 : Int32) ≤ 3 ∧ (3 : Int32) ≤ 8) = False := eq_false (by decide)
  have w3 : ((3 : Int32) ≤ 8) = True := eq_true (by decide)
  simp only [b163_0, m_isIn, Option.bind_some, Option.toList_some, Option.toList_none, List.cons_append, List.nil_append, i01a, i01b, if_true, if_false, w1, b163_8, bI_z, bI_o, bI_em, ite_not, i10, i01, eq_self, if_true, if_false, true_and, false_and, and_true, and_false, not_true, not_false_iff, true_or, or_true, false_or, or_false, ne_eq, not_true_eq_false, not_false_eq_true, w2, b163_20, w3, b163_47, b162_0]
  simp [b163_78, m_isIn, b163_81, bI_01]
theorem m_can4 (d : Nat) (σ : Sig) (b v : Int32) : Ex (d + 3) 163 0 [.ref 112, .int 4, .int b, .int v] [] G0 σ = some (some (.int (bI (0 ≤ v ∧ v ≤ 1000))), G0, σ) := by
  have w1 : ((0 : Int32) ≤ 4 ∧ (4 : Int32) ≤ 10) = True := eq_true (by decide)
  have w2 : ((6 : Int32) ≤ 4 ∧ (4 : Int32) ≤ 8) = False := eq_false (by decide)
  have w3 : ((4 : Int32) ≤ 8) = True := eq_true (by decide)
  simp only [b163_0, m_isIn, Option.bind_some, Option.toList_some, Option.toList_none, List.cons_append, List.nil_append, i01a, i01b, if_true, if_false, w1, b163_8, bI_z, bI_o, bI_em, ite_not, i10, i01, eq_self, if_true, if_false, true_and, false_and, and_true, and_false, not_true, not_false_iff, true_or, or_true, false_or, or_false, ne_eq, not_true_eq_false, not_false_eq_true, w2, b163_20, w3, b163_47, b162_0]
  simp [b163_78, m_isIn, b163_81, bI_01]
theorem m_can5 (d : Nat) (σ : Sig) (b v : Int32) : Ex (d + 3) 163 0 [.ref 112, .int 5, .int b, .int v] [] G0 σ = some (some (.int (bI (0 ≤ v ∧ v ≤ 1000))), G0, σ) := by
  have w1 : ((0 : Int32) ≤ 5 ∧ (5 : Int32) ≤ 10) = True := eq_true (by decide)
  have w2 : ((6 : Int32) ≤ 5 ∧ (5 : Int32) ≤ 8) = False := eq_false (by decide)
  have w3 : ((5 : Int32) ≤ 8) = True := eq_true (by decide)
  simp only [b163_0, m_isIn, Option.bind_some, Option.toList_some, Option.toList_none, List.cons_append, List.nil_append, i01a, i01b, if_true, if_false, w1, b163_8, bI_z, bI_o, bI_em, ite_not, i10, i01, eq_self, if_true, if_false, true_and, false_and, and_true, and_false, not_true, not_false_iff, true_or, or_true, false_or, or_false, ne_eq, not_true_eq_false, not_false_eq_true, w2, b163_20, w3, b163_47, b162_0]
  simp [b163_78, m_isIn, b163_81, bI_01]
theorem m_can6 (d : Nat) {B T : LW} {ω σ : Sig} (hM : MR B T ω σ) (b v : Int32) : Ex (d + 3) 163 0 [.ref 112, .int 6, .int b, .int v] [] G0 σ = some (some (.int (bI ((0 ≤ b ∧ b < 2 * ω 8 0) ∧ (0 ≤ v ∧ v ≤ 6)))), G0, σ) := by
  have w1 : ((0 : Int32) ≤ 6 ∧ (6 : Int32) ≤ 10) = True := eq_true (by decide)
  have w2 : ((6 : Int32) ≤ 6 ∧ (6 : Int32) ≤ 8) = True := eq_true (by decide)
  have w3 : ((6 : Int32) ≤ 8) = True := eq_true (by decide)
  simp only [b163_0, m_isIn, Option.bind_some, Option.toList_some, Option.toList_none, List.cons_append, List.nil_append, i01a, i01b, if_true, if_false, w1, b163_8, bI_z, bI_o, bI_em, ite_not, i10, i01, eq_self, if_true, if_false, true_and, false_and, and_true, and_false, not_true, not_false_iff, true_or, or_true, false_or, or_false, ne_eq, not_true_eq_false, not_false_eq_true, w2, b163_20, m_isPlace, m_pp hM, b163_28]
  by_cases c1 : 0 ≤ b ∧ b < 2 * ω 8 0
  · simp only [eq_true c1, w3, i10, i01, eq_self, if_true, if_false, true_and, false_and, and_true, and_false, not_true, not_false_iff, true_or, or_true, false_or, or_false, ne_eq, not_true_eq_false, not_false_eq_true, b163_47, b162_0]
    simp [b163_78, m_isIn, b163_81, bI_01]
  · simp only [eq_false c1, i10, i01, eq_self, if_true, if_false, true_and, false_and, and_true, and_false, not_true, not_false_iff, true_or, or_true, false_or, or_false, ne_eq, not_true_eq_false, not_false_eq_true, bI_ff]
theorem m_can7 (d : Nat) {B T : LW} {ω σ : Sig} (hM : MR B T ω σ) (b v : Int32) : Ex (d + 3) 163 0 [.ref 112, .int 7, .int b, .int v] [] G0 σ = some (some (.int (bI ((0 ≤ b ∧ b < 2 * ω 8 0) ∧ (0 ≤ v ∧ v ≤ 1)))), G0, σ) := by
  have w1 : ((0 : Int32) ≤ 7 ∧ (7 : Int32) ≤ 10) = True := eq_true (by decide)
  have w2 : ((6 : Int32) ≤ 7 ∧ (7 : Int32) ≤ 8) = True := eq_true (by decide)
  have w3 : ((7 : Int32) ≤ 8) = True := eq_true (by decide)
  simp only [b163_0, m_isIn, Option.bind_some, Option.toList_some, Option.toList_none, List.cons_append, List.nil_append, i01a, i01b, if_true, if_false, w1, b163_8, bI_z, bI_o, bI_em, ite_not, i10, i01, eq_self, if_true, if_false, true_and, false_and, and_true, and_false, not_true, not_false_iff, true_or, or_true, false_or, or_false, ne_eq, not_true_eq_false, not_false_eq_true, w2, b163_20, m_isPlace, m_pp hM, b163_28]
  by_cases c1 : 0 ≤ b ∧ b < 2 * ω 8 0
  · simp only [eq_true c1, w3, i10, i01, eq_self, if_true, if_false, true_and, false_and, and_true, and_false, not_true, not_false_iff, true_or, or_true, false_or, or_false, ne_eq, not_true_eq_false, not_false_eq_true, b163_47, b162_0]
    simp [b163_78, m_isIn, b163_81, bI_01]
  · simp only [eq_false c1, i10, i01, eq_self, if_true, if_false, true_and, false_and, and_true, and_false, not_true, not_false_iff, true_or, or_true, false_or, or_false, ne_eq, not_true_eq_false, not_false_eq_true, bI_ff]
theorem m_can8 (d : Nat) {B T : LW} {ω σ : Sig} (hM : MR B T ω σ) (b v : Int32) : Ex (d + 3) 163 0 [.ref 112, .int 8, .int b, .int v] [] G0 σ = some (some (.int (bI ((0 ≤ b ∧ b < 2 * ω 8 0) ∧ (1 ≤ v ∧ v ≤ 9)))), G0, σ) := by
  have w1 : ((0 : Int32) ≤ 8 ∧ (8 : Int32) ≤ 10) = True := eq_true (by decide)
  have w2 : ((6 : Int32) ≤ 8 ∧ (8 : Int32) ≤ 8) = True := eq_true (by decide)
  have w3 : ((8 : Int32) ≤ 8) = True := eq_true (by decide)
  simp only [b163_0, m_isIn, Option.bind_some, Option.toList_some, Option.toList_none, List.cons_append, List.nil_append, i01a, i01b, if_true, if_false, w1, b163_8, bI_z, bI_o, bI_em, ite_not, i10, i01, eq_self, if_true, if_false, true_and, false_and, and_true, and_false, not_true, not_false_iff, true_or, or_true, false_or, or_false, ne_eq, not_true_eq_false, not_false_eq_true, w2, b163_20, m_isPlace, m_pp hM, b163_28]
  by_cases c1 : 0 ≤ b ∧ b < 2 * ω 8 0
  · simp only [eq_true c1, w3, i10, i01, eq_self, if_true, if_false, true_and, false_and, and_true, and_false, not_true, not_false_iff, true_or, or_true, false_or, or_false, ne_eq, not_true_eq_false, not_false_eq_true, b163_47, b162_0]
    simp [b163_78, m_isIn, b163_81, bI_01]
  · simp only [eq_false c1, i10, i01, eq_self, if_true, if_false, true_and, false_and, and_true, and_false, not_true, not_false_iff, true_or, or_true, false_or, or_false, ne_eq, not_true_eq_false, not_false_eq_true, bI_ff]
theorem m_can9 (d : Nat) {B T : LW} {ω σ : Sig} (hM : MR B T ω σ) (b v : Int32) : Ex (d + 3) 163 0 [.ref 112, .int 9, .int b, .int v] [] G0 σ = some (some (.int (bI ((0 ≤ b ∧ b < ω 2 0) ∧ (0 ≤ v ∧ v ≤ 300)))), G0, σ) := by
  have w1 : ((0 : Int32) ≤ 9 ∧ (9 : Int32) ≤ 10) = True := eq_true (by decide)
  have w2 : ((6 : Int32) ≤ 9 ∧ (9 : Int32) ≤ 8) = False := eq_false (by decide)
  have w3 : ((9 : Int32) ≤ 8) = False := eq_false (by decide)
  have e12 : σ 112 12 = ω 2 0 := hM 6
  simp only [b163_0, m_isIn, Option.bind_some, Option.toList_some, Option.toList_none, List.cons_append, List.nil_append, i01a, i01b, if_true, if_false, w1, b163_8, bI_z, bI_o, bI_em, ite_not, i10, i01, eq_self, if_true, if_false, true_and, false_and, and_true, and_false, not_true, not_false_iff, true_or, or_true, false_or, or_false, ne_eq, not_true_eq_false, not_false_eq_true, w2, b163_20, w3, m_isBearer, e12, b163_42]
  by_cases c1 : 0 ≤ b ∧ b < ω 2 0
  · simp only [eq_true c1, i10, i01, eq_self, if_true, if_false, true_and, false_and, and_true, and_false, not_true, not_false_iff, true_or, or_true, false_or, or_false, ne_eq, not_true_eq_false, not_false_eq_true, b163_47, b162_0]
    simp [b163_78, m_isIn, b163_81, bI_01]
  · simp only [eq_false c1, i10, i01, eq_self, if_true, if_false, true_and, false_and, and_true, and_false, not_true, not_false_iff, true_or, or_true, false_or, or_false, ne_eq, not_true_eq_false, not_false_eq_true, bI_ff]
theorem m_can10 (d : Nat) {B T : LW} {ω σ : Sig} (hM : MR B T ω σ) (b v : Int32) : Ex (d + 3) 163 0 [.ref 112, .int 10, .int b, .int v] [] G0 σ = some (some (.int (bI ((0 ≤ b ∧ b < ω 2 0) ∧ (0 ≤ v ∧ v ≤ 1000)))), G0, σ) := by
  have w1 : ((0 : Int32) ≤ 10 ∧ (10 : Int32) ≤ 10) = True := eq_true (by decide)
  have w2 : ((6 : Int32) ≤ 10 ∧ (10 : Int32) ≤ 8) = False := eq_false (by decide)
  have w3 : ((10 : Int32) ≤ 8) = False := eq_false (by decide)
  have e12 : σ 112 12 = ω 2 0 := hM 6
  simp only [b163_0, m_isIn, Option.bind_some, Option.toList_some, Option.toList_none, List.cons_append, List.nil_append, i01a, i01b, if_true, if_false, w1, b163_8, bI_z, bI_o, bI_em, ite_not, i10, i01, eq_self, if_true, if_false, true_and, false_and, and_true, and_false, not_true, not_false_iff, true_or, or_true, false_or, or_false, ne_eq, not_true_eq_false, not_false_eq_true, w2, b163_20, w3, m_isBearer, e12, b163_42]
  by_cases c1 : 0 ≤ b ∧ b < ω 2 0
  · simp only [eq_true c1, i10, i01, eq_self, if_true, if_false, true_and, false_and, and_true, and_false, not_true, not_false_iff, true_or, or_true, false_or, or_false, ne_eq, not_true_eq_false, not_false_eq_true, b163_47, b162_0]
    simp [b163_78, m_isIn, b163_81, bI_01]
  · simp only [eq_false c1, i10, i01, eq_self, if_true, if_false, true_and, false_and, and_true, and_false, not_true, not_false_iff, true_or, or_true, false_or, or_false, ne_eq, not_true_eq_false, not_false_eq_true, bI_ff]
theorem m_canN (d : Nat) (σ : Sig) (a b v : Int32) (h : ¬ (0 ≤ a ∧ a ≤ 10)) : Ex (d + 3) 163 0 [.ref 112, .int a, .int b, .int v] [] G0 σ = some (some (.int 0), G0, σ) := by
  simp only [b163_0, m_isIn, Option.bind_some, Option.toList_some, Option.toList_none, List.cons_append, List.nil_append, i01a, i01b, if_true, if_false, b163_8, bI_z, bI_o, bI_em, ite_not, eq_false h, i10, i01, eq_self, if_true, if_false, true_and, false_and, and_true, and_false, not_true, not_false_iff, true_or, or_true, false_or, or_false, ne_eq, not_true_eq_false, not_false_eq_true]
theorem MR_1_0 {B T : LW} {ω σ : Sig} (hM : MR B T ω σ) (v : Int32) : MR B T (pt ω 1 0 v) (pt σ 112 6 (v - 400)) := by
  intro i
  have h := hM i
  match i, h with
  | 0, h => (simp only [mr, pt_e])
  | 1, h => (simp only [mr] at h ⊢; (try simp (disch := decide) only [pt_q, pt_k, wl, paced]); first | done | exact h)
  | 2, h => (simp only [mr] at h ⊢; (try simp (disch := decide) only [pt_q, pt_k, wl, paced]); first | done | exact h)
  | 3, h => (simp only [mr] at h ⊢; (try simp (disch := decide) only [pt_q, pt_k, wl, paced]); first | done | exact h)
  | 4, h => (simp only [mr] at h ⊢; (try simp (disch := decide) only [pt_q, pt_k, wl, paced]); first | done | exact h)
  | 5, h => (simp only [mr] at h ⊢; (try simp (disch := decide) only [pt_q, pt_k, wl, paced]); first | done | exact h)
  | 6, h => (simp only [mr] at h ⊢; (try simp (disch := decide) only [pt_q, pt_k, wl, paced]); first | done | exact h)
  | 7, h => (simp only [mr] at h ⊢; (try simp (disch := decide) only [pt_q, pt_k, wl, paced]); first | done | exact h)
  | 8, h => (simp only [mr] at h ⊢; (try simp (disch := decide) only [pt_q, pt_k, wl, paced]); first | done | exact h)
  | 9, h => (simp only [mr] at h ⊢; (try simp (disch := decide) only [pt_q, pt_k, wl, paced]); first | done | exact h)
  | 10, h => (simp only [mr] at h ⊢; (try simp (disch := decide) only [pt_q, pt_k, wl, paced]); first | done | exact h)
  | 11, h => (simp only [mr] at h ⊢; (try simp (disch := decide) only [pt_q, pt_k, wl, paced]); first | done | exact h)
  | 12, h => (simp only [mr] at h ⊢; (try simp (disch := decide) only [pt_q, pt_k, wl, paced]); first | done | exact h)
  | 13, h => (simp only [mr] at h ⊢; (try simp (disch := decide) only [pt_q, pt_k, wl, paced]); first | done | exact h)
  | 14, h => (simp only [mr] at h ⊢; (try simp (disch := decide) only [pt_q, pt_k, wl, paced]); first | done | exact h)
  | 15, h => (simp only [mr] at h ⊢; (try simp (disch := decide) only [pt_q, pt_k, wl, paced]); first | done | exact h)
  | 16, h => (simp only [mr] at h ⊢; (try simp (disch := decide) only [pt_q, pt_k, wl, paced]); first | done | exact h)
  | 17, h => (simp only [mr] at h ⊢; (try simp (disch := decide) only [pt_q, pt_k, wl, paced]); first | done | exact h)
  | 18, h => (simp only [mr] at h ⊢; (try simp (disch := decide) only [pt_q, pt_k, wl, paced]); first | done | exact h)
  | 19, h => (simp only [mr] at h ⊢; (try simp (disch := decide) only [pt_q, pt_k, wl, paced]); first | done | exact h)
  | 20, h => (simp only [mr] at h ⊢; (try simp (disch := decide) only [pt_q, pt_k, wl, paced]); first | done | exact h)
  | 21, h => (simp only [mr] at h ⊢; (try simp (disch := decide) only [pt_q, pt_k, wl, paced]); first | done | exact h)
  | 22, h => (simp only [mr] at h ⊢; (try simp (disch := decide) only [pt_q, pt_k, wl, paced]); first | done | exact h)
  | 23, h => (simp only [mr] at h ⊢; (try simp (disch := decide) only [pt_q, pt_k, wl, paced]); first | done | exact h)
  | 24, h => (simp only [mr] at h ⊢; (try simp (disch := decide) only [pt_q, pt_k, wl, paced]); first | done | exact h)
  | 25, h => (simp only [mr] at h ⊢; (try simp (disch := decide) only [pt_q, pt_k, wl, paced]); first | done | exact h)
  | 26, h => (simp only [mr] at h ⊢; (try simp (disch := decide) only [pt_q, pt_k, wl, paced]); first | done | exact h)
  | 27, h => (simp only [mr] at h ⊢; (try simp (disch := decide) only [pt_q, pt_k, wl, paced]); first | done | exact h)
  | 28, h => (simp only [mr] at h ⊢; (try simp (disch := decide) only [pt_q, pt_k, wl, paced]); first | done | exact h)
  | 29, h => (simp only [mr] at h ⊢; (try simp (disch := decide) only [pt_q, pt_k, wl, paced]); first | done | exact h)
  | 30, h => (simp only [mr] at h ⊢; (try simp (disch := decide) only [pt_q, pt_k, wl, paced]); first | done | exact h)
  | _ + 31, _ => trivial
theorem MR_1_2 {B T : LW} {ω σ : Sig} (hM : MR B T ω σ) (v : Int32) : MR B T (pt ω 1 2 v) (pt σ 112 8 (v - 50)) := by
  intro i
  have h := hM i
  match i, h with
  | 0, h => (simp only [mr] at h ⊢; (try simp (disch := decide) only [pt_q, pt_k, wl, paced]); first | done | exact h)
  | 1, h => (simp only [mr] at h ⊢; (try simp (disch := decide) only [pt_q, pt_k, wl, paced]); first | done | exact h)
  | 2, h => (simp only [mr, pt_e])
  | 3, h => (simp only [mr] at h ⊢; (try simp (disch := decide) only [pt_q, pt_k, wl, paced]); first | done | exact h)
  | 4, h => (simp only [mr] at h ⊢; (try simp (disch := decide) only [pt_q, pt_k, wl, paced]); first | done | exact h)
  | 5, h => (simp only [mr] at h ⊢; (try simp (disch := decide) only [pt_q, pt_k, wl, paced]); first | done | exact h)
  | 6, h => (simp only [mr] at h ⊢; (try simp (disch := decide) only [pt_q, pt_k, wl, paced]); first | done | exact h)
  | 7, h => (simp only [mr] at h ⊢; (try simp (disch := decide) only [pt_q, pt_k, wl, paced]); first | done | exact h)
  | 8, h => (simp only [mr] at h ⊢; (try simp (disch := decide) only [pt_q, pt_k, wl, paced]); first | done | exact h)
  | 9, h => (simp only [mr] at h ⊢; (try simp (disch := decide) only [pt_q, pt_k, wl, paced]); first | done | exact h)
  | 10, h => (simp only [mr] at h ⊢; (try simp (disch := decide) only [pt_q, pt_k, wl, paced]); first | done | exact h)
  | 11, h => (simp only [mr] at h ⊢; (try simp (disch := decide) only [pt_q, pt_k, wl, paced]); first | done | exact h)
  | 12, h => (simp only [mr] at h ⊢; (try simp (disch := decide) only [pt_q, pt_k, wl, paced]); first | done | exact h)
  | 13, h => (simp only [mr] at h ⊢; (try simp (disch := decide) only [pt_q, pt_k, wl, paced]); first | done | exact h)
  | 14, h => (simp only [mr] at h ⊢; (try simp (disch := decide) only [pt_q, pt_k, wl, paced]); first | done | exact h)
  | 15, h => (simp only [mr] at h ⊢; (try simp (disch := decide) only [pt_q, pt_k, wl, paced]); first | done | exact h)
  | 16, h => (simp only [mr] at h ⊢; (try simp (disch := decide) only [pt_q, pt_k, wl, paced]); first | done | exact h)
  | 17, h => (simp only [mr] at h ⊢; (try simp (disch := decide) only [pt_q, pt_k, wl, paced]); first | done | exact h)
  | 18, h => (simp only [mr] at h ⊢; (try simp (disch := decide) only [pt_q, pt_k, wl, paced]); first | done | exact h)
  | 19, h => (simp only [mr] at h ⊢; (try simp (disch := decide) only [pt_q, pt_k, wl, paced]); first | done | exact h)
  | 20, h => (simp only [mr] at h ⊢; (try simp (disch := decide) only [pt_q, pt_k, wl, paced]); first | done | exact h)
  | 21, h => (simp only [mr] at h ⊢; (try simp (disch := decide) only [pt_q, pt_k, wl, paced]); first | done | exact h)
  | 22, h => (simp only [mr] at h ⊢; (try simp (disch := decide) only [pt_q, pt_k, wl, paced]); first | done | exact h)
  | 23, h => (simp only [mr] at h ⊢; (try simp (disch := decide) only [pt_q, pt_k, wl, paced]); first | done | exact h)
  | 24, h => (simp only [mr] at h ⊢; (try simp (disch := decide) only [pt_q, pt_k, wl, paced]); first | done | exact h)
  | 25, h => (simp only [mr] at h ⊢; (try simp (disch := decide) only [pt_q, pt_k, wl, paced]); first | done | exact h)
  | 26, h => (simp only [mr] at h ⊢; (try simp (disch := decide) only [pt_q, pt_k, wl, paced]); first | done | exact h)
  | 27, h => (simp only [mr] at h ⊢; (try simp (disch := decide) only [pt_q, pt_k, wl, paced]); first | done | exact h)
  | 28, h => (simp only [mr] at h ⊢; (try simp (disch := decide) only [pt_q, pt_k, wl, paced]); first | done | exact h)
  | 29, h => (simp only [mr] at h ⊢; (try simp (disch := decide) only [pt_q, pt_k, wl, paced]); first | done | exact h)
  | 30, h => (simp only [mr] at h ⊢; (try simp (disch := decide) only [pt_q, pt_k, wl, paced]); first | done | exact h)
  | _ + 31, _ => trivial
theorem MR_1_3 {B T : LW} {ω σ : Sig} (hM : MR B T ω σ) (v : Int32) : MR B T (pt ω 1 3 v) (pt σ 112 9 (v - 100)) := by
  intro i
  have h := hM i
  match i, h with
  | 0, h => (simp only [mr] at h ⊢; (try simp (disch := decide) only [pt_q, pt_k, wl, paced]); first | done | exact h)
  | 1, h => (simp only [mr] at h ⊢; (try simp (disch := decide) only [pt_q, pt_k, wl, paced]); first | done | exact h)
  | 2, h => (simp only [mr] at h ⊢; (try simp (disch := decide) only [pt_q, pt_k, wl, paced]); first | done | exact h)
  | 3, h => (simp only [mr, pt_e])
  | 4, h => (simp only [mr] at h ⊢; (try simp (disch := decide) only [pt_q, pt_k, wl, paced]); first | done | exact h)
  | 5, h => (simp only [mr] at h ⊢; (try simp (disch := decide) only [pt_q, pt_k, wl, paced]); first | done | exact h)
  | 6, h => (simp only [mr] at h ⊢; (try simp (disch := decide) only [pt_q, pt_k, wl, paced]); first | done | exact h)
  | 7, h => (simp only [mr] at h ⊢; (try simp (disch := decide) only [pt_q, pt_k, wl, paced]); first | done | exact h)
  | 8, h => (simp only [mr] at h ⊢; (try simp (disch := decide) only [pt_q, pt_k, wl, paced]); first | done | exact h)
  | 9, h => (simp only [mr] at h ⊢; (try simp (disch := decide) only [pt_q, pt_k, wl, paced]); first | done | exact h)
  | 10, h => (simp only [mr] at h ⊢; (try simp (disch := decide) only [pt_q, pt_k, wl, paced]); first | done | exact h)
  | 11, h => (simp only [mr] at h ⊢; (try simp (disch := decide) only [pt_q, pt_k, wl, paced]); first | done | exact h)
  | 12, h => (simp only [mr] at h ⊢; (try simp (disch := decide) only [pt_q, pt_k, wl, paced]); first | done | exact h)
  | 13, h => (simp only [mr] at h ⊢; (try simp (disch := decide) only [pt_q, pt_k, wl, paced]); first | done | exact h)
  | 14, h => (simp only [mr] at h ⊢; (try simp (disch := decide) only [pt_q, pt_k, wl, paced]); first | done | exact h)
  | 15, h => (simp only [mr] at h ⊢; (try simp (disch := decide) only [pt_q, pt_k, wl, paced]); first | done | exact h)
  | 16, h => (simp only [mr] at h ⊢; (try simp (disch := decide) only [pt_q, pt_k, wl, paced]); first | done | exact h)
  | 17, h => (simp only [mr] at h ⊢; (try simp (disch := decide) only [pt_q, pt_k, wl, paced]); first | done | exact h)
  | 18, h => (simp only [mr] at h ⊢; (try simp (disch := decide) only [pt_q, pt_k, wl, paced]); first | done | exact h)
  | 19, h => (simp only [mr] at h ⊢; (try simp (disch := decide) only [pt_q, pt_k, wl, paced]); first | done | exact h)
  | 20, h => (simp only [mr] at h ⊢; (try simp (disch := decide) only [pt_q, pt_k, wl, paced]); first | done | exact h)
  | 21, h => (simp only [mr] at h ⊢; (try simp (disch := decide) only [pt_q, pt_k, wl, paced]); first | done | exact h)
  | 22, h => (simp only [mr] at h ⊢; (try simp (disch := decide) only [pt_q, pt_k, wl, paced]); first | done | exact h)
  | 23, h => (simp only [mr] at h ⊢; (try simp (disch := decide) only [pt_q, pt_k, wl, paced]); first | done | exact h)
  | 24, h => (simp only [mr] at h ⊢; (try simp (disch := decide) only [pt_q, pt_k, wl, paced]); first | done | exact h)
  | 25, h => (simp only [mr] at h ⊢; (try simp (disch := decide) only [pt_q, pt_k, wl, paced]); first | done | exact h)
  | 26, h => (simp only [mr] at h ⊢; (try simp (disch := decide) only [pt_q, pt_k, wl, paced]); first | done | exact h)
  | 27, h => (simp only [mr] at h ⊢; (try simp (disch := decide) only [pt_q, pt_k, wl, paced]); first | done | exact h)
  | 28, h => (simp only [mr] at h ⊢; (try simp (disch := decide) only [pt_q, pt_k, wl, paced]); first | done | exact h)
  | 29, h => (simp only [mr] at h ⊢; (try simp (disch := decide) only [pt_q, pt_k, wl, paced]); first | done | exact h)
  | 30, h => (simp only [mr] at h ⊢; (try simp (disch := decide) only [pt_q, pt_k, wl, paced]); first | done | exact h)
  | _ + 31, _ => trivial
theorem MR_1_4 {B T : LW} {ω σ : Sig} (hM : MR B T ω σ) (v : Int32) : MR B T (pt ω 1 4 v) (pt σ 112 11 v) := by
  intro i
  have h := hM i
  match i, h with
  | 0, h => (simp only [mr] at h ⊢; (try simp (disch := decide) only [pt_q, pt_k, wl, paced]); first | done | exact h)
  | 1, h => (simp only [mr] at h ⊢; (try simp (disch := decide) only [pt_q, pt_k, wl, paced]); first | done | exact h)
  | 2, h => (simp only [mr] at h ⊢; (try simp (disch := decide) only [pt_q, pt_k, wl, paced]); first | done | exact h)
  | 3, h => (simp only [mr] at h ⊢; (try simp (disch := decide) only [pt_q, pt_k, wl, paced]); first | done | exact h)
  | 4, h => (simp only [mr] at h ⊢; (try simp (disch := decide) only [pt_q, pt_k, wl, paced]); first | done | exact h)
  | 5, h => (simp only [mr, pt_e])
  | 6, h => (simp only [mr] at h ⊢; (try simp (disch := decide) only [pt_q, pt_k, wl, paced]); first | done | exact h)
  | 7, h => (simp only [mr] at h ⊢; (try simp (disch := decide) only [pt_q, pt_k, wl, paced]); first | done | exact h)
  | 8, h => (simp only [mr] at h ⊢; (try simp (disch := decide) only [pt_q, pt_k, wl, paced]); first | done | exact h)
  | 9, h => (simp only [mr] at h ⊢; (try simp (disch := decide) only [pt_q, pt_k, wl, paced]); first | done | exact h)
  | 10, h => (simp only [mr] at h ⊢; (try simp (disch := decide) only [pt_q, pt_k, wl, paced]); first | done | exact h)
  | 11, h => (simp only [mr] at h ⊢; (try simp (disch := decide) only [pt_q, pt_k, wl, paced]); first | done | exact h)
  | 12, h => (simp only [mr] at h ⊢; (try simp (disch := decide) only [pt_q, pt_k, wl, paced]); first | done | exact h)
  | 13, h => (simp only [mr] at h ⊢; (try simp (disch := decide) only [pt_q, pt_k, wl, paced]); first | done | exact h)
  | 14, h => (simp only [mr] at h ⊢; (try simp (disch := decide) only [pt_q, pt_k, wl, paced]); first | done | exact h)
  | 15, h => (simp only [mr] at h ⊢; (try simp (disch := decide) only [pt_q, pt_k, wl, paced]); first | done | exact h)
  | 16, h => (simp only [mr] at h ⊢; (try simp (disch := decide) only [pt_q, pt_k, wl, paced]); first | done | exact h)
  | 17, h => (simp only [mr] at h ⊢; (try simp (disch := decide) only [pt_q, pt_k, wl, paced]); first | done | exact h)
  | 18, h => (simp only [mr] at h ⊢; (try simp (disch := decide) only [pt_q, pt_k, wl, paced]); first | done | exact h)
  | 19, h => (simp only [mr] at h ⊢; (try simp (disch := decide) only [pt_q, pt_k, wl, paced]); first | done | exact h)
  | 20, h => (simp only [mr] at h ⊢; (try simp (disch := decide) only [pt_q, pt_k, wl, paced]); first | done | exact h)
  | 21, h => (simp only [mr] at h ⊢; (try simp (disch := decide) only [pt_q, pt_k, wl, paced]); first | done | exact h)
  | 22, h => (simp only [mr] at h ⊢; (try simp (disch := decide) only [pt_q, pt_k, wl, paced]); first | done | exact h)
  | 23, h => (simp only [mr] at h ⊢; (try simp (disch := decide) only [pt_q, pt_k, wl, paced]); first | done | exact h)
  | 24, h => (simp only [mr] at h ⊢; (try simp (disch := decide) only [pt_q, pt_k, wl, paced]); first | done | exact h)
  | 25, h => (simp only [mr] at h ⊢; (try simp (disch := decide) only [pt_q, pt_k, wl, paced]); first | done | exact h)
  | 26, h => (simp only [mr] at h ⊢; (try simp (disch := decide) only [pt_q, pt_k, wl, paced]); first | done | exact h)
  | 27, h => (simp only [mr] at h ⊢; (try simp (disch := decide) only [pt_q, pt_k, wl, paced]); first | done | exact h)
  | 28, h => (simp only [mr] at h ⊢; (try simp (disch := decide) only [pt_q, pt_k, wl, paced]); first | done | exact h)
  | 29, h => (simp only [mr] at h ⊢; (try simp (disch := decide) only [pt_q, pt_k, wl, paced]); first | done | exact h)
  | 30, h => (simp only [mr] at h ⊢; (try simp (disch := decide) only [pt_q, pt_k, wl, paced]); first | done | exact h)
  | _ + 31, _ => trivial
theorem WI_1_0 {B T : LW} {ω : Sig} (hW : WI B T ω) {v : Int32} (hv : bw v 1 999) : WI B T (pt ω 1 0 v) := by
  intro i
  have h := hW i
  match i, h with
  | 0, h => (show bw (pt ω 1 0 v 1 0) 1 999; rw [pt_e]; exact hv)
  | 1, h => (simp only [wi, np, pr, sz, wl, paced] at h ⊢; (try simp (disch := decide) only [pt_q, pt_k]); first | done | exact h)
  | 2, h => (simp only [wi, np, pr, sz, wl, paced] at h ⊢; (try simp (disch := decide) only [pt_q, pt_k]); first | done | exact h)
  | 3, h => (simp only [wi, np, pr, sz, wl, paced] at h ⊢; (try simp (disch := decide) only [pt_q, pt_k]); first | done | exact h)
  | 4, h => (simp only [wi, np, pr, sz, wl, paced] at h ⊢; (try simp (disch := decide) only [pt_q, pt_k]); first | done | exact h)
  | 5, h => (simp only [wi, np, pr, sz, wl, paced] at h ⊢; (try simp (disch := decide) only [pt_q, pt_k]); first | done | exact h)
  | 6, h => (simp only [wi, np, pr, sz, wl, paced] at h ⊢; (try simp (disch := decide) only [pt_q, pt_k]); first | done | exact h)
  | 7, h => (simp only [wi, np, pr, sz, wl, paced] at h ⊢; (try simp (disch := decide) only [pt_q, pt_k]); first | done | exact h)
  | 8, h => (simp only [wi, np, pr, sz, wl, paced] at h ⊢; (try simp (disch := decide) only [pt_q, pt_k]); first | done | exact h)
  | 9, h => (simp only [wi, np, pr, sz, wl, paced] at h ⊢; (try simp (disch := decide) only [pt_q, pt_k]); first | done | exact h)
  | 10, h => (simp only [wi, np, pr, sz, wl, paced] at h ⊢; (try simp (disch := decide) only [pt_q, pt_k]); first | done | exact h)
  | 11, h => (simp only [wi, np, pr, sz, wl, paced] at h ⊢; (try simp (disch := decide) only [pt_q, pt_k]); first | done | exact h)
  | 12, h => (simp only [wi, np, pr, sz, wl, paced] at h ⊢; (try simp (disch := decide) only [pt_q, pt_k]); first | done | exact h)
  | 13, h => (simp only [wi, np, pr, sz, wl, paced] at h ⊢; (try simp (disch := decide) only [pt_q, pt_k]); first | done | exact h)
  | 14, h => (simp only [wi, np, pr, sz, wl, paced] at h ⊢; (try simp (disch := decide) only [pt_q, pt_k]); first | done | exact h)
  | 15, h => (simp only [wi, np, pr, sz, wl, paced] at h ⊢; (try simp (disch := decide) only [pt_q, pt_k]); first | done | exact h)
  | 16, h => (simp only [wi, np, pr, sz, wl, paced] at h ⊢; (try simp (disch := decide) only [pt_q, pt_k]); first | done | exact h)
  | 17, h => (simp only [wi, np, pr, sz, wl, paced] at h ⊢; (try simp (disch := decide) only [pt_q, pt_k]); first | done | exact h)
  | 18, h => (simp only [wi, np, pr, sz, wl, paced] at h ⊢; (try simp (disch := decide) only [pt_q, pt_k]); first | done | exact h)
  | 19, h => (simp only [wi, np, pr, sz, wl, paced] at h ⊢; (try simp (disch := decide) only [pt_q, pt_k]); first | done | exact h)
  | 20, h => (simp only [wi, np, pr, sz, wl, paced] at h ⊢; (try simp (disch := decide) only [pt_q, pt_k]); first | done | exact h)
  | 21, h => (simp only [wi, np, pr, sz, wl, paced] at h ⊢; (try simp (disch := decide) only [pt_q, pt_k]); first | done | exact h)
  | 22, h => (simp only [wi, np, pr, sz, wl, paced] at h ⊢; (try simp (disch := decide) only [pt_q, pt_k]); first | done | exact h)
  | _ + 23, _ => trivial
theorem WI_1_2 {B T : LW} {ω : Sig} (hW : WI B T ω) {v : Int32} : WI B T (pt ω 1 2 v) := by
  intro i
  have h := hW i
  match i, h with
  | 0, h => (simp only [wi, np, pr, sz, wl, paced] at h ⊢; (try simp (disch := decide) only [pt_q, pt_k]); first | done | exact h)
  | 1, h => (simp only [wi, np, pr, sz, wl, paced] at h ⊢; (try simp (disch := decide) only [pt_q, pt_k]); first | done | exact h)
  | 2, h => (simp only [wi, np, pr, sz, wl, paced] at h ⊢; (try simp (disch := decide) only [pt_q, pt_k]); first | done | exact h)
  | 3, h => (simp only [wi, np, pr, sz, wl, paced] at h ⊢; (try simp (disch := decide) only [pt_q, pt_k]); first | done | exact h)
  | 4, h => (simp only [wi, np, pr, sz, wl, paced] at h ⊢; (try simp (disch := decide) only [pt_q, pt_k]); first | done | exact h)
  | 5, h => (simp only [wi, np, pr, sz, wl, paced] at h ⊢; (try simp (disch := decide) only [pt_q, pt_k]); first | done | exact h)
  | 6, h => (simp only [wi, np, pr, sz, wl, paced] at h ⊢; (try simp (disch := decide) only [pt_q, pt_k]); first | done | exact h)
  | 7, h => (simp only [wi, np, pr, sz, wl, paced] at h ⊢; (try simp (disch := decide) only [pt_q, pt_k]); first | done | exact h)
  | 8, h => (simp only [wi, np, pr, sz, wl, paced] at h ⊢; (try simp (disch := decide) only [pt_q, pt_k]); first | done | exact h)
  | 9, h => (simp only [wi, np, pr, sz, wl, paced] at h ⊢; (try simp (disch := decide) only [pt_q, pt_k]); first | done | exact h)
  | 10, h => (simp only [wi, np, pr, sz, wl, paced] at h ⊢; (try simp (disch := decide) only [pt_q, pt_k]); first | done | exact h)
  | 11, h => (simp only [wi, np, pr, sz, wl, paced] at h ⊢; (try simp (disch := decide) only [pt_q, pt_k]); first | done | exact h)
  | 12, h => (simp only [wi, np, pr, sz, wl, paced] at h ⊢; (try simp (disch := decide) only [pt_q, pt_k]); first | done | exact h)
  | 13, h => (simp only [wi, np, pr, sz, wl, paced] at h ⊢; (try simp (disch := decide) only [pt_q, pt_k]); first | done | exact h)
  | 14, h => (simp only [wi, np, pr, sz, wl, paced] at h ⊢; (try simp (disch := decide) only [pt_q, pt_k]); first | done | exact h)
  | 15, h => (simp only [wi, np, pr, sz, wl, paced] at h ⊢; (try simp (disch := decide) only [pt_q, pt_k]); first | done | exact h)
  | 16, h => (simp only [wi, np, pr, sz, wl, paced] at h ⊢; (try simp (disch := decide) only [pt_q, pt_k]); first | done | exact h)
  | 17, h => (simp only [wi, np, pr, sz, wl, paced] at h ⊢; (try simp (disch := decide) only [pt_q, pt_k]); first | done | exact h)
  | 18, h => (simp only [wi, np, pr, sz, wl, paced] at h ⊢; (try simp (disch := decide) only [pt_q, pt_k]); first | done | exact h)
  | 19, h => (simp only [wi, np, pr, sz, wl, paced] at h ⊢; (try simp (disch := decide) only [pt_q, pt_k]); first | done | exact h)
  | 20, h => (simp only [wi, np, pr, sz, wl, paced] at h ⊢; (try simp (disch := decide) only [pt_q, pt_k]); first | done | exact h)
  | 21, h => (simp only [wi, np, pr, sz, wl, paced] at h ⊢; (try simp (disch := decide) only [pt_q, pt_k]); first | done | exact h)
  | 22, h => (simp only [wi, np, pr, sz, wl, paced] at h ⊢; (try simp (disch := decide) only [pt_q, pt_k]); first | done | exact h)
  | _ + 23, _ => trivial
theorem WI_1_3 {B T : LW} {ω : Sig} (hW : WI B T ω) {v : Int32} (hv : bw v 0 1000) : WI B T (pt ω 1 3 v) := by
  intro i
  have h := hW i
  match i, h with
  | 0, h => (simp only [wi, np, pr, sz, wl, paced] at h ⊢; (try simp (disch := decide) only [pt_q, pt_k]); first | done | exact h)
  | 1, h => (simp only [wi, np, pr, sz, wl, paced] at h ⊢; (try simp (disch := decide) only [pt_q, pt_k]); first | done | exact h)
  | 2, h => (show bw (pt ω 1 3 v 1 3) 0 1000; rw [pt_e]; exact hv)
  | 3, h => (simp only [wi, np, pr, sz, wl, paced] at h ⊢; (try simp (disch := decide) only [pt_q, pt_k]); first | done | exact h)
  | 4, h => (simp only [wi, np, pr, sz, wl, paced] at h ⊢; (try simp (disch := decide) only [pt_q, pt_k]); first | done | exact h)
  | 5, h => (simp only [wi, np, pr, sz, wl, paced] at h ⊢; (try simp (disch := decide) only [pt_q, pt_k]); first | done | exact h)
  | 6, h => (simp only [wi, np, pr, sz, wl, paced] at h ⊢; (try simp (disch := decide) only [pt_q, pt_k]); first | done | exact h)
  | 7, h => (simp only [wi, np, pr, sz, wl, paced] at h ⊢; (try simp (disch := decide) only [pt_q, pt_k]); first | done | exact h)
  | 8, h => (simp only [wi, np, pr, sz, wl, paced] at h ⊢; (try simp (disch := decide) only [pt_q, pt_k]); first | done | exact h)
  | 9, h => (simp only [wi, np, pr, sz, wl, paced] at h ⊢; (try simp (disch := decide) only [pt_q, pt_k]); first | done | exact h)
  | 10, h => (simp only [wi, np, pr, sz, wl, paced] at h ⊢; (try simp (disch := decide) only [pt_q, pt_k]); first | done | exact h)
  | 11, h => (simp only [wi, np, pr, sz, wl, paced] at h ⊢; (try simp (disch := decide) only [pt_q, pt_k]); first | done | exact h)
  | 12, h => (simp only [wi, np, pr, sz, wl, paced] at h ⊢; (try simp (disch := decide) only [pt_q, pt_k]); first | done | exact h)
  | 13, h => (simp only [wi, np, pr, sz, wl, paced] at h ⊢; (try simp (disch := decide) only [pt_q, pt_k]); first | done | exact h)
  | 14, h => (simp only [wi, np, pr, sz, wl, paced] at h ⊢; (try simp (disch := decide) only [pt_q, pt_k]); first | done | exact h)
  | 15, h => (simp only [wi, np, pr, sz, wl, paced] at h ⊢; (try simp (disch := decide) only [pt_q, pt_k]); first | done | exact h)
  | 16, h => (simp only [wi, np, pr, sz, wl, paced] at h ⊢; (try simp (disch := decide) only [pt_q, pt_k]); first | done | exact h)
  | 17, h => (simp only [wi, np, pr, sz, wl, paced] at h ⊢; (try simp (disch := decide) only [pt_q, pt_k]); first | done | exact h)
  | 18, h => (simp only [wi, np, pr, sz, wl, paced] at h ⊢; (try simp (disch := decide) only [pt_q, pt_k]); first | done | exact h)
  | 19, h => (simp only [wi, np, pr, sz, wl, paced] at h ⊢; (try simp (disch := decide) only [pt_q, pt_k]); first | done | exact h)
  | 20, h => (simp only [wi, np, pr, sz, wl, paced] at h ⊢; (try simp (disch := decide) only [pt_q, pt_k]); first | done | exact h)
  | 21, h => (simp only [wi, np, pr, sz, wl, paced] at h ⊢; (try simp (disch := decide) only [pt_q, pt_k]); first | done | exact h)
  | 22, h => (simp only [wi, np, pr, sz, wl, paced] at h ⊢; (try simp (disch := decide) only [pt_q, pt_k]); first | done | exact h)
  | _ + 23, _ => trivial
theorem WI_1_4 {B T : LW} {ω : Sig} (hW : WI B T ω) {v : Int32} (hv : bw v 0 1000) : WI B T (pt ω 1 4 v) := by
  intro i
  have h := hW i
  match i, h with
  | 0, h => (simp only [wi, np, pr, sz, wl, paced] at h ⊢; (try simp (disch := decide) only [pt_q, pt_k]); first | done | exact h)
  | 1, h => (simp only [wi, np, pr, sz, wl, paced] at h ⊢; (try simp (disch := decide) only [pt_q, pt_k]); first | done | exact h)
  | 2, h => (simp only [wi, np, pr, sz, wl, paced] at h ⊢; (try simp (disch := decide) only [pt_q, pt_k]); first | done | exact h)
  | 3, h => (show bw (pt ω 1 4 v 1 4) 0 1000; rw [pt_e]; exact hv)
  | 4, h => (simp only [wi, np, pr, sz, wl, paced] at h ⊢; (try simp (disch := decide) only [pt_q, pt_k]); first | done | exact h)
  | 5, h => (simp only [wi, np, pr, sz, wl, paced] at h ⊢; (try simp (disch := decide) only [pt_q, pt_k]); first | done | exact h)
  | 6, h => (simp only [wi, np, pr, sz, wl, paced] at h ⊢; (try simp (disch := decide) only [pt_q, pt_k]); first | done | exact h)
  | 7, h => (simp only [wi, np, pr, sz, wl, paced] at h ⊢; (try simp (disch := decide) only [pt_q, pt_k]); first | done | exact h)
  | 8, h => (simp only [wi, np, pr, sz, wl, paced] at h ⊢; (try simp (disch := decide) only [pt_q, pt_k]); first | done | exact h)
  | 9, h => (simp only [wi, np, pr, sz, wl, paced] at h ⊢; (try simp (disch := decide) only [pt_q, pt_k]); first | done | exact h)
  | 10, h => (simp only [wi, np, pr, sz, wl, paced] at h ⊢; (try simp (disch := decide) only [pt_q, pt_k]); first | done | exact h)
  | 11, h => (simp only [wi, np, pr, sz, wl, paced] at h ⊢; (try simp (disch := decide) only [pt_q, pt_k]); first | done | exact h)
  | 12, h => (simp only [wi, np, pr, sz, wl, paced] at h ⊢; (try simp (disch := decide) only [pt_q, pt_k]); first | done | exact h)
  | 13, h => (simp only [wi, np, pr, sz, wl, paced] at h ⊢; (try simp (disch := decide) only [pt_q, pt_k]); first | done | exact h)
  | 14, h => (simp only [wi, np, pr, sz, wl, paced] at h ⊢; (try simp (disch := decide) only [pt_q, pt_k]); first | done | exact h)
  | 15, h => (simp only [wi, np, pr, sz, wl, paced] at h ⊢; (try simp (disch := decide) only [pt_q, pt_k]); first | done | exact h)
  | 16, h => (simp only [wi, np, pr, sz, wl, paced] at h ⊢; (try simp (disch := decide) only [pt_q, pt_k]); first | done | exact h)
  | 17, h => (simp only [wi, np, pr, sz, wl, paced] at h ⊢; (try simp (disch := decide) only [pt_q, pt_k]); first | done | exact h)
  | 18, h => (simp only [wi, np, pr, sz, wl, paced] at h ⊢; (try simp (disch := decide) only [pt_q, pt_k]); first | done | exact h)
  | 19, h => (simp only [wi, np, pr, sz, wl, paced] at h ⊢; (try simp (disch := decide) only [pt_q, pt_k]); first | done | exact h)
  | 20, h => (simp only [wi, np, pr, sz, wl, paced] at h ⊢; (try simp (disch := decide) only [pt_q, pt_k]); first | done | exact h)
  | 21, h => (simp only [wi, np, pr, sz, wl, paced] at h ⊢; (try simp (disch := decide) only [pt_q, pt_k]); first | done | exact h)
  | 22, h => (simp only [wi, np, pr, sz, wl, paced] at h ⊢; (try simp (disch := decide) only [pt_q, pt_k]); first | done | exact h)
  | _ + 23, _ => trivial
theorem WI_i11 {B T : LW} {ω : Sig} (hW : WI B T ω) {n : Nat} {v : Int32} (hv : v = 0 ∨ v = 1) : WI B T (pt ω 11 n v) := by
  intro i
  have h := hW i
  match i, h with
  | 0, h => (simp only [wi, np, pr, sz, wl, paced] at h ⊢; (try simp (disch := decide) only [pt_q]); first | done | exact h)
  | 1, h => (simp only [wi, np, pr, sz, wl, paced] at h ⊢; (try simp (disch := decide) only [pt_q]); first | done | exact h)
  | 2, h => (simp only [wi, np, pr, sz, wl, paced] at h ⊢; (try simp (disch := decide) only [pt_q]); first | done | exact h)
  | 3, h => (simp only [wi, np, pr, sz, wl, paced] at h ⊢; (try simp (disch := decide) only [pt_q]); first | done | exact h)
  | 4, h => (simp only [wi, np, pr, sz, wl, paced] at h ⊢; (try simp (disch := decide) only [pt_q]); first | done | exact h)
  | 5, h => (simp only [wi, np, pr, sz, wl, paced] at h ⊢; (try simp (disch := decide) only [pt_q]); first | done | exact h)
  | 6, h => (simp only [wi, np, pr, sz, wl, paced] at h ⊢; (try simp (disch := decide) only [pt_q]); first | done | exact h)
  | 7, h => (simp only [wi, np, pr, sz, wl, paced] at h ⊢; (try simp (disch := decide) only [pt_q]); first | done | exact h)
  | 8, h => (simp only [wi, np, pr, sz, wl, paced] at h ⊢; (try simp (disch := decide) only [pt_q]); first | done | exact h)
  | 9, h => (intro p hp; by_cases e : p = n; (subst e; rw [pt_e]; exact hv); (rw [pt_k e]; exact h p hp))
  | 10, h => (simp only [wi, np, pr, sz, wl, paced] at h ⊢; (try simp (disch := decide) only [pt_q]); first | done | exact h)
  | 11, h => (simp only [wi, np, pr, sz, wl, paced] at h ⊢; (try simp (disch := decide) only [pt_q]); first | done | exact h)
  | 12, h => (simp only [wi, np, pr, sz, wl, paced] at h ⊢; (try simp (disch := decide) only [pt_q]); first | done | exact h)
  | 13, h => (simp only [wi, np, pr, sz, wl, paced] at h ⊢; (try simp (disch := decide) only [pt_q]); first | done | exact h)
  | 14, h => (simp only [wi, np, pr, sz, wl, paced] at h ⊢; (try simp (disch := decide) only [pt_q]); first | done | exact h)
  | 15, h => (simp only [wi, np, pr, sz, wl, paced] at h ⊢; (try simp (disch := decide) only [pt_q]); first | done | exact h)
  | 16, h => (simp only [wi, np, pr, sz, wl, paced] at h ⊢; (try simp (disch := decide) only [pt_q]); first | done | exact h)
  | 17, h => (simp only [wi, np, pr, sz, wl, paced] at h ⊢; (try simp (disch := decide) only [pt_q]); first | done | exact h)
  | 18, h => (simp only [wi, np, pr, sz, wl, paced] at h ⊢; (try simp (disch := decide) only [pt_q]); first | done | exact h)
  | 19, h => (simp only [wi, np, pr, sz, wl, paced] at h ⊢; (try simp (disch := decide) only [pt_q]); first | done | exact h)
  | 20, h => (simp only [wi, np, pr, sz, wl, paced] at h ⊢; (try simp (disch := decide) only [pt_q]); first | done | exact h)
  | 21, h => (simp only [wi, np, pr, sz, wl, paced] at h ⊢; (try simp (disch := decide) only [pt_q]); first | done | exact h)
  | 22, h => (simp only [wi, np, pr, sz, wl, paced] at h ⊢; (try simp (disch := decide) only [pt_q]); first | done | exact h)
  | _ + 23, _ => trivial
theorem WI_i12 {B T : LW} {ω : Sig} (hW : WI B T ω) {n : Nat} {v : Int32} (hv : bw v 1 9) : WI B T (pt ω 12 n v) := by
  intro i
  have h := hW i
  match i, h with
  | 0, h => (simp only [wi, np, pr, sz, wl, paced] at h ⊢; (try simp (disch := decide) only [pt_q]); first | done | exact h)
  | 1, h => (simp only [wi, np, pr, sz, wl, paced] at h ⊢; (try simp (disch := decide) only [pt_q]); first | done | exact h)
  | 2, h => (simp only [wi, np, pr, sz, wl, paced] at h ⊢; (try simp (disch := decide) only [pt_q]); first | done | exact h)
  | 3, h => (simp only [wi, np, pr, sz, wl, paced] at h ⊢; (try simp (disch := decide) only [pt_q]); first | done | exact h)
  | 4, h => (simp only [wi, np, pr, sz, wl, paced] at h ⊢; (try simp (disch := decide) only [pt_q]); first | done | exact h)
  | 5, h => (simp only [wi, np, pr, sz, wl, paced] at h ⊢; (try simp (disch := decide) only [pt_q]); first | done | exact h)
  | 6, h => (simp only [wi, np, pr, sz, wl, paced] at h ⊢; (try simp (disch := decide) only [pt_q]); first | done | exact h)
  | 7, h => (simp only [wi, np, pr, sz, wl, paced] at h ⊢; (try simp (disch := decide) only [pt_q]); first | done | exact h)
  | 8, h => (simp only [wi, np, pr, sz, wl, paced] at h ⊢; (try simp (disch := decide) only [pt_q]); first | done | exact h)
  | 9, h => (simp only [wi, np, pr, sz, wl, paced] at h ⊢; (try simp (disch := decide) only [pt_q]); first | done | exact h)
  | 10, h => (simp only [wi, np, pr, sz, wl, paced] at h ⊢; (try simp (disch := decide) only [pt_q]); first | done | exact h)
  | 11, h => (simp only [wi, np, pr, sz, wl, paced] at h ⊢; (try simp (disch := decide) only [pt_q]); first | done | exact h)
  | 12, h => (simp only [wi, np, pr, sz, wl, paced] at h ⊢; (try simp (disch := decide) only [pt_q]); first | done | exact h)
  | 13, h => (simp only [wi, np, pr, sz, wl, paced] at h ⊢; (try simp (disch := decide) only [pt_q]); first | done | exact h)
  | 14, h => (simp only [wi, np, pr, sz, wl, paced] at h ⊢; (try simp (disch := decide) only [pt_q]); first | done | exact h)
  | 15, h => (simp only [wi, np, pr, sz, wl, paced] at h ⊢; (try simp (disch := decide) only [pt_q]); first | done | exact h)
  | 16, h => (simp only [wi, np, pr, sz, wl, paced] at h ⊢; (try simp (disch := decide) only [pt_q]); first | done | exact h)
  | 17, h => (simp only [wi, np, pr, sz, wl, paced] at h ⊢; (try simp (disch := decide) only [pt_q]); first | done | exact h)
  | 18, h => (simp only [wi, np, pr, sz, wl, paced] at h ⊢; (try simp (disch := decide) only [pt_q]); first | done | exact h)
  | 19, h => (simp only [wi, np, pr, sz, wl, paced] at h ⊢; (try simp (disch := decide) only [pt_q]); first | done | exact h)
  | 20, h => (simp only [wi, np, pr, sz, wl, paced] at h ⊢; (try simp (disch := decide) only [pt_q]); first | done | exact h)
  | 21, h => (simp only [wi, np, pr, sz, wl, paced] at h ⊢; (try simp (disch := decide) only [pt_q]); first | done | exact h)
  | 22, h => (intro p hp; by_cases e : p = n; (subst e; rw [pt_e]; exact hv); (rw [pt_k e]; exact h p hp))
  | _ + 23, _ => trivial
theorem WI_i4 {B T : LW} {ω : Sig} (hW : WI B T ω) {n : Nat} {v : Int32} (hv : bw v 0 300) : WI B T (pt ω 4 n v) := by
  intro i
  have h := hW i
  match i, h with
  | 0, h => (simp only [wi, np, pr, sz, wl, paced] at h ⊢; (try simp (disch := decide) only [pt_q]); first | done | exact h)
  | 1, h => (simp only [wi, np, pr, sz, wl, paced] at h ⊢; (try simp (disch := decide) only [pt_q]); first | done | exact h)
  | 2, h => (simp only [wi, np, pr, sz, wl, paced] at h ⊢; (try simp (disch := decide) only [pt_q]); first | done | exact h)
  | 3, h => (simp only [wi, np, pr, sz, wl, paced] at h ⊢; (try simp (disch := decide) only [pt_q]); first | done | exact h)
  | 4, h => (simp only [wi, np, pr, sz, wl, paced] at h ⊢; (try simp (disch := decide) only [pt_q]); first | done | exact h)
  | 5, h => (simp only [wi, np, pr, sz, wl, paced] at h ⊢; (try simp (disch := decide) only [pt_q]); first | done | exact h)
  | 6, h => (simp only [wi, np, pr, sz, wl, paced] at h ⊢; (try simp (disch := decide) only [pt_q]); first | done | exact h)
  | 7, h => (simp only [wi, np, pr, sz, wl, paced] at h ⊢; (try simp (disch := decide) only [pt_q]); first | done | exact h)
  | 8, h => (simp only [wi, np, pr, sz, wl, paced] at h ⊢; (try simp (disch := decide) only [pt_q]); first | done | exact h)
  | 9, h => (simp only [wi, np, pr, sz, wl, paced] at h ⊢; (try simp (disch := decide) only [pt_q]); first | done | exact h)
  | 10, h => (simp only [wi, np, pr, sz, wl, paced] at h ⊢; (try simp (disch := decide) only [pt_q]); first | done | exact h)
  | 11, h => (simp only [wi, np, pr, sz, wl, paced] at h ⊢; (try simp (disch := decide) only [pt_q]); first | done | exact h)
  | 12, h => (intro p hp; by_cases e : p = n; (subst e; rw [pt_e]; exact hv); (rw [pt_k e]; exact h p hp))
  | 13, h => (simp only [wi, np, pr, sz, wl, paced] at h ⊢; (try simp (disch := decide) only [pt_q]); first | done | exact h)
  | 14, h => (simp only [wi, np, pr, sz, wl, paced] at h ⊢; (try simp (disch := decide) only [pt_q]); first | done | exact h)
  | 15, h => (simp only [wi, np, pr, sz, wl, paced] at h ⊢; (try simp (disch := decide) only [pt_q]); first | done | exact h)
  | 16, h => (simp only [wi, np, pr, sz, wl, paced] at h ⊢; (try simp (disch := decide) only [pt_q]); first | done | exact h)
  | 17, h => (simp only [wi, np, pr, sz, wl, paced] at h ⊢; (try simp (disch := decide) only [pt_q]); first | done | exact h)
  | 18, h => (simp only [wi, np, pr, sz, wl, paced] at h ⊢; (try simp (disch := decide) only [pt_q]); first | done | exact h)
  | 19, h => (simp only [wi, np, pr, sz, wl, paced] at h ⊢; (try simp (disch := decide) only [pt_q]); first | done | exact h)
  | 20, h => (simp only [wi, np, pr, sz, wl, paced] at h ⊢; (try simp (disch := decide) only [pt_q]); first | done | exact h)
  | 21, h => (simp only [wi, np, pr, sz, wl, paced] at h ⊢; (try simp (disch := decide) only [pt_q]); first | done | exact h)
  | 22, h => (simp only [wi, np, pr, sz, wl, paced] at h ⊢; (try simp (disch := decide) only [pt_q]); first | done | exact h)
  | _ + 23, _ => trivial
theorem WI_i7 {B T : LW} {ω : Sig} (hW : WI B T ω) {n : Nat} {v : Int32} (hv : bw v 0 1000) : WI B T (pt ω 7 n v) := by
  intro i
  have h := hW i
  match i, h with
  | 0, h => (simp only [wi, np, pr, sz, wl, paced] at h ⊢; (try simp (disch := decide) only [pt_q]); first | done | exact h)
  | 1, h => (simp only [wi, np, pr, sz, wl, paced] at h ⊢; (try simp (disch := decide) only [pt_q]); first | done | exact h)
  | 2, h => (simp only [wi, np, pr, sz, wl, paced] at h ⊢; (try simp (disch := decide) only [pt_q]); first | done | exact h)
  | 3, h => (simp only [wi, np, pr, sz, wl, paced] at h ⊢; (try simp (disch := decide) only [pt_q]); first | done | exact h)
  | 4, h => (simp only [wi, np, pr, sz, wl, paced] at h ⊢; (try simp (disch := decide) only [pt_q]); first | done | exact h)
  | 5, h => (simp only [wi, np, pr, sz, wl, paced] at h ⊢; (try simp (disch := decide) only [pt_q]); first | done | exact h)
  | 6, h => (simp only [wi, np, pr, sz, wl, paced] at h ⊢; (try simp (disch := decide) only [pt_q]); first | done | exact h)
  | 7, h => (simp only [wi, np, pr, sz, wl, paced] at h ⊢; (try simp (disch := decide) only [pt_q]); first | done | exact h)
  | 8, h => (simp only [wi, np, pr, sz, wl, paced] at h ⊢; (try simp (disch := decide) only [pt_q]); first | done | exact h)
  | 9, h => (simp only [wi, np, pr, sz, wl, paced] at h ⊢; (try simp (disch := decide) only [pt_q]); first | done | exact h)
  | 10, h => (simp only [wi, np, pr, sz, wl, paced] at h ⊢; (try simp (disch := decide) only [pt_q]); first | done | exact h)
  | 11, h => (simp only [wi, np, pr, sz, wl, paced] at h ⊢; (try simp (disch := decide) only [pt_q]); first | done | exact h)
  | 12, h => (simp only [wi, np, pr, sz, wl, paced] at h ⊢; (try simp (disch := decide) only [pt_q]); first | done | exact h)
  | 13, h => (intro p hp; by_cases e : p = n; (subst e; rw [pt_e]; exact hv); (rw [pt_k e]; exact h p hp))
  | 14, h => (simp only [wi, np, pr, sz, wl, paced] at h ⊢; (try simp (disch := decide) only [pt_q]); first | done | exact h)
  | 15, h => (simp only [wi, np, pr, sz, wl, paced] at h ⊢; (try simp (disch := decide) only [pt_q]); first | done | exact h)
  | 16, h => (simp only [wi, np, pr, sz, wl, paced] at h ⊢; (try simp (disch := decide) only [pt_q]); first | done | exact h)
  | 17, h => (simp only [wi, np, pr, sz, wl, paced] at h ⊢; (try simp (disch := decide) only [pt_q]); first | done | exact h)
  | 18, h => (simp only [wi, np, pr, sz, wl, paced] at h ⊢; (try simp (disch := decide) only [pt_q]); first | done | exact h)
  | 19, h => (simp only [wi, np, pr, sz, wl, paced] at h ⊢; (try simp (disch := decide) only [pt_q]); first | done | exact h)
  | 20, h => (simp only [wi, np, pr, sz, wl, paced] at h ⊢; (try simp (disch := decide) only [pt_q]); first | done | exact h)
  | 21, h => (simp only [wi, np, pr, sz, wl, paced] at h ⊢; (try simp (disch := decide) only [pt_q]); first | done | exact h)
  | 22, h => (simp only [wi, np, pr, sz, wl, paced] at h ⊢; (try simp (disch := decide) only [pt_q]); first | done | exact h)
  | _ + 23, _ => trivial
theorem MR_i11 {B T : LW} {ω σ : Sig} (hM : MR B T ω σ) (n : Nat) (v : Int32) : MR B T (pt ω 11 n v) (pt σ 120 n v) := by
  intro i
  have h := hM i
  match i, h with
  | 0, h => (simp only [mr] at h ⊢; (try simp (disch := decide) only [pt_q, wl, paced]); first | done | exact h)
  | 1, h => (simp only [mr] at h ⊢; (try simp (disch := decide) only [pt_q, wl, paced]); first | done | exact h)
  | 2, h => (simp only [mr] at h ⊢; (try simp (disch := decide) only [pt_q, wl, paced]); first | done | exact h)
  | 3, h => (simp only [mr] at h ⊢; (try simp (disch := decide) only [pt_q, wl, paced]); first | done | exact h)
  | 4, h => (simp only [mr] at h ⊢; (try simp (disch := decide) only [pt_q, wl, paced]); first | done | exact h)
  | 5, h => (simp only [mr] at h ⊢; (try simp (disch := decide) only [pt_q, wl, paced]); first | done | exact h)
  | 6, h => (simp only [mr] at h ⊢; (try simp (disch := decide) only [pt_q, wl, paced]); first | done | exact h)
  | 7, h => (simp only [mr] at h ⊢; (try simp (disch := decide) only [pt_q, wl, paced]); first | done | exact h)
  | 8, h => (simp only [mr] at h ⊢; (try simp (disch := decide) only [pt_q, wl, paced]); first | done | exact h)
  | 9, h => (simp only [mr] at h ⊢; (try simp (disch := decide) only [pt_q, wl, paced]); first | done | exact h)
  | 10, h => (simp only [mr] at h ⊢; (try simp (disch := decide) only [pt_q, wl, paced]); first | done | exact h)
  | 11, h => (simp only [mr] at h ⊢; (try simp (disch := decide) only [pt_q, wl, paced]); first | done | exact h)
  | 12, h => (simp only [mr] at h ⊢; (try simp (disch := decide) only [pt_q, wl, paced]); first | done | exact h)
  | 13, h => (simp only [mr] at h ⊢; (try simp (disch := decide) only [pt_q, wl, paced]); first | done | exact h)
  | 14, h => (simp only [mr] at h ⊢; (try simp (disch := decide) only [pt_q, wl, paced]); first | done | exact h)
  | 15, h => (simp only [mr] at h ⊢; (try simp (disch := decide) only [pt_q, wl, paced]); first | done | exact h)
  | 16, h => (simp only [mr] at h ⊢; (try simp (disch := decide) only [pt_q, wl, paced]); first | done | exact h)
  | 17, h => (simp only [mr] at h ⊢; (try simp (disch := decide) only [pt_q, wl, paced]); first | done | exact h)
  | 18, h => (simp only [mr] at h ⊢; (try simp (disch := decide) only [pt_q, wl, paced]); first | done | exact h)
  | 19, h => (simp only [mr] at h ⊢; (try simp (disch := decide) only [pt_q, wl, paced]); first | done | exact h)
  | 20, h => (simp only [mr] at h ⊢; (try simp (disch := decide) only [pt_q, wl, paced]); first | done | exact h)
  | 21, h => (intro q hq; by_cases e : q = n; (subst e; rw [pt_e, pt_e]); (rw [pt_k e, pt_k e]; exact h q hq))
  | 22, h => (simp only [mr] at h ⊢; (try simp (disch := decide) only [pt_q, wl, paced]); first | done | exact h)
  | 23, h => (simp only [mr] at h ⊢; (try simp (disch := decide) only [pt_q, wl, paced]); first | done | exact h)
  | 24, h => (simp only [mr] at h ⊢; (try simp (disch := decide) only [pt_q, wl, paced]); first | done | exact h)
  | 25, h => (simp only [mr] at h ⊢; (try simp (disch := decide) only [pt_q, wl, paced]); first | done | exact h)
  | 26, h => (simp only [mr] at h ⊢; (try simp (disch := decide) only [pt_q, wl, paced]); first | done | exact h)
  | 27, h => (simp only [mr] at h ⊢; (try simp (disch := decide) only [pt_q, wl, paced]); first | done | exact h)
  | 28, h => (simp only [mr] at h ⊢; (try simp (disch := decide) only [pt_q, wl, paced]); first | done | exact h)
  | 29, h => (simp only [mr] at h ⊢; (try simp (disch := decide) only [pt_q, wl, paced]); first | done | exact h)
  | 30, h => (simp only [mr] at h ⊢; (try simp (disch := decide) only [pt_q, wl, paced]); first | done | exact h)
  | _ + 31, _ => trivial
theorem MR_i12 {B T : LW} {ω σ : Sig} (hM : MR B T ω σ) (n : Nat) (v : Int32) : MR B T (pt ω 12 n v) (pt σ 121 n (v - 1)) := by
  intro i
  have h := hM i
  match i, h with
  | 0, h => (simp only [mr] at h ⊢; (try simp (disch := decide) only [pt_q, wl, paced]); first | done | exact h)
  | 1, h => (simp only [mr] at h ⊢; (try simp (disch := decide) only [pt_q, wl, paced]); first | done | exact h)
  | 2, h => (simp only [mr] at h ⊢; (try simp (disch := decide) only [pt_q, wl, paced]); first | done | exact h)
  | 3, h => (simp only [mr] at h ⊢; (try simp (disch := decide) only [pt_q, wl, paced]); first | done | exact h)
  | 4, h => (simp only [mr] at h ⊢; (try simp (disch := decide) only [pt_q, wl, paced]); first | done | exact h)
  | 5, h => (simp only [mr] at h ⊢; (try simp (disch := decide) only [pt_q, wl, paced]); first | done | exact h)
  | 6, h => (simp only [mr] at h ⊢; (try simp (disch := decide) only [pt_q, wl, paced]); first | done | exact h)
  | 7, h => (simp only [mr] at h ⊢; (try simp (disch := decide) only [pt_q, wl, paced]); first | done | exact h)
  | 8, h => (simp only [mr] at h ⊢; (try simp (disch := decide) only [pt_q, wl, paced]); first | done | exact h)
  | 9, h => (simp only [mr] at h ⊢; (try simp (disch := decide) only [pt_q, wl, paced]); first | done | exact h)
  | 10, h => (simp only [mr] at h ⊢; (try simp (disch := decide) only [pt_q, wl, paced]); first | done | exact h)
  | 11, h => (simp only [mr] at h ⊢; (try simp (disch := decide) only [pt_q, wl, paced]); first | done | exact h)
  | 12, h => (simp only [mr] at h ⊢; (try simp (disch := decide) only [pt_q, wl, paced]); first | done | exact h)
  | 13, h => (simp only [mr] at h ⊢; (try simp (disch := decide) only [pt_q, wl, paced]); first | done | exact h)
  | 14, h => (simp only [mr] at h ⊢; (try simp (disch := decide) only [pt_q, wl, paced]); first | done | exact h)
  | 15, h => (simp only [mr] at h ⊢; (try simp (disch := decide) only [pt_q, wl, paced]); first | done | exact h)
  | 16, h => (simp only [mr] at h ⊢; (try simp (disch := decide) only [pt_q, wl, paced]); first | done | exact h)
  | 17, h => (simp only [mr] at h ⊢; (try simp (disch := decide) only [pt_q, wl, paced]); first | done | exact h)
  | 18, h => (simp only [mr] at h ⊢; (try simp (disch := decide) only [pt_q, wl, paced]); first | done | exact h)
  | 19, h => (simp only [mr] at h ⊢; (try simp (disch := decide) only [pt_q, wl, paced]); first | done | exact h)
  | 20, h => (simp only [mr] at h ⊢; (try simp (disch := decide) only [pt_q, wl, paced]); first | done | exact h)
  | 21, h => (simp only [mr] at h ⊢; (try simp (disch := decide) only [pt_q, wl, paced]); first | done | exact h)
  | 22, h => (intro q hq; by_cases e : q = n; (subst e; rw [pt_e, pt_e]); (rw [pt_k e, pt_k e]; exact h q hq))
  | 23, h => (simp only [mr] at h ⊢; (try simp (disch := decide) only [pt_q, wl, paced]); first | done | exact h)
  | 24, h => (simp only [mr] at h ⊢; (try simp (disch := decide) only [pt_q, wl, paced]); first | done | exact h)
  | 25, h => (simp only [mr] at h ⊢; (try simp (disch := decide) only [pt_q, wl, paced]); first | done | exact h)
  | 26, h => (simp only [mr] at h ⊢; (try simp (disch := decide) only [pt_q, wl, paced]); first | done | exact h)
  | 27, h => (simp only [mr] at h ⊢; (try simp (disch := decide) only [pt_q, wl, paced]); first | done | exact h)
  | 28, h => (simp only [mr] at h ⊢; (try simp (disch := decide) only [pt_q, wl, paced]); first | done | exact h)
  | 29, h => (simp only [mr] at h ⊢; (try simp (disch := decide) only [pt_q, wl, paced]); first | done | exact h)
  | 30, h => (simp only [mr] at h ⊢; (try simp (disch := decide) only [pt_q, wl, paced]); first | done | exact h)
  | _ + 31, _ => trivial
theorem MR_i4 {B T : LW} {ω σ : Sig} (hM : MR B T ω σ) (n : Nat) (v : Int32) : MR B T (pt ω 4 n v) (pt σ 117 n v) := by
  intro i
  have h := hM i
  match i, h with
  | 0, h => (simp only [mr] at h ⊢; (try simp (disch := decide) only [pt_q, wl, paced]); first | done | exact h)
  | 1, h => (simp only [mr] at h ⊢; (try simp (disch := decide) only [pt_q, wl, paced]); first | done | exact h)
  | 2, h => (simp only [mr] at h ⊢; (try simp (disch := decide) only [pt_q, wl, paced]); first | done | exact h)
  | 3, h => (simp only [mr] at h ⊢; (try simp (disch := decide) only [pt_q, wl, paced]); first | done | exact h)
  | 4, h => (simp only [mr] at h ⊢; (try simp (disch := decide) only [pt_q, wl, paced]); first | done | exact h)
  | 5, h => (simp only [mr] at h ⊢; (try simp (disch := decide) only [pt_q, wl, paced]); first | done | exact h)
  | 6, h => (simp only [mr] at h ⊢; (try simp (disch := decide) only [pt_q, wl, paced]); first | done | exact h)
  | 7, h => (simp only [mr] at h ⊢; (try simp (disch := decide) only [pt_q, wl, paced]); first | done | exact h)
  | 8, h => (simp only [mr] at h ⊢; (try simp (disch := decide) only [pt_q, wl, paced]); first | done | exact h)
  | 9, h => (simp only [mr] at h ⊢; (try simp (disch := decide) only [pt_q, wl, paced]); first | done | exact h)
  | 10, h => (simp only [mr] at h ⊢; (try simp (disch := decide) only [pt_q, wl, paced]); first | done | exact h)
  | 11, h => (simp only [mr] at h ⊢; (try simp (disch := decide) only [pt_q, wl, paced]); first | done | exact h)
  | 12, h => (simp only [mr] at h ⊢; (try simp (disch := decide) only [pt_q, wl, paced]); first | done | exact h)
  | 13, h => (simp only [mr] at h ⊢; (try simp (disch := decide) only [pt_q, wl, paced]); first | done | exact h)
  | 14, h => (simp only [mr] at h ⊢; (try simp (disch := decide) only [pt_q, wl, paced]); first | done | exact h)
  | 15, h => (simp only [mr] at h ⊢; (try simp (disch := decide) only [pt_q, wl, paced]); first | done | exact h)
  | 16, h => (simp only [mr] at h ⊢; (try simp (disch := decide) only [pt_q, wl, paced]); first | done | exact h)
  | 17, h => (simp only [mr] at h ⊢; (try simp (disch := decide) only [pt_q, wl, paced]); first | done | exact h)
  | 18, h => (intro q hq; by_cases e : q = n; (subst e; rw [pt_e, pt_e]); (rw [pt_k e, pt_k e]; exact h q hq))
  | 19, h => (simp only [mr] at h ⊢; (try simp (disch := decide) only [pt_q, wl, paced]); first | done | exact h)
  | 20, h => (simp only [mr] at h ⊢; (try simp (disch := decide) only [pt_q, wl, paced]); first | done | exact h)
  | 21, h => (simp only [mr] at h ⊢; (try simp (disch := decide) only [pt_q, wl, paced]); first | done | exact h)
  | 22, h => (simp only [mr] at h ⊢; (try simp (disch := decide) only [pt_q, wl, paced]); first | done | exact h)
  | 23, h => (simp only [mr] at h ⊢; (try simp (disch := decide) only [pt_q, wl, paced]); first | done | exact h)
  | 24, h => (simp only [mr] at h ⊢; (try simp (disch := decide) only [pt_q, wl, paced]); first | done | exact h)
  | 25, h => (simp only [mr] at h ⊢; (try simp (disch := decide) only [pt_q, wl, paced]); first | done | exact h)
  | 26, h => (simp only [mr] at h ⊢; (try simp (disch := decide) only [pt_q, wl, paced]); first | done | exact h)
  | 27, h => (simp only [mr] at h ⊢; (try simp (disch := decide) only [pt_q, wl, paced]); first | done | exact h)
  | 28, h => (simp only [mr] at h ⊢; (try simp (disch := decide) only [pt_q, wl, paced]); first | done | exact h)
  | 29, h => (simp only [mr] at h ⊢; (try simp (disch := decide) only [pt_q, wl, paced]); first | done | exact h)
  | 30, h => (simp only [mr] at h ⊢; (try simp (disch := decide) only [pt_q, wl, paced]); first | done | exact h)
  | _ + 31, _ => trivial
theorem WI_bg {B T : LW} {ω : Sig} (hW : WI B T ω) {v : Int32} (hv : bw v 2 4) : WI B T (bgS ω v) := by
  obtain ⟨n, e, n2, n4, ec⟩ := bwN (a := 2) (b := 4) hv
  have q : ∀ q, q ∉ [8, 9, 10, 11, 12, 13] → bgS ω v q = ω q := fun q hq => bgS_q hq
  intro i
  have h := hW i
  match i, h with
  | 0, h => (simp only [wi, np, pr, sz, wl, paced] at h ⊢; (try simp (disch := decide) only [q]); first | done | exact h)
  | 1, h => (simp only [wi, np, pr, sz, wl, paced] at h ⊢; (try simp (disch := decide) only [q]); first | done | exact h)
  | 2, h => (simp only [wi, np, pr, sz, wl, paced] at h ⊢; (try simp (disch := decide) only [q]); first | done | exact h)
  | 3, h => (simp only [wi, np, pr, sz, wl, paced] at h ⊢; (try simp (disch := decide) only [q]); first | done | exact h)
  | 4, h => (show bgS ω v 8 0 = nI (bgS ω v 8 0).toNatClampNeg ∧ 2 ≤ (bgS ω v 8 0).toNatClampNeg ∧ (bgS ω v 8 0).toNatClampNeg ≤ 4; rw [bgS_8, ec]; exact ⟨e, n2, n4⟩)
  | 5, h => (simp only [wi, np, pr, sz, wl, paced] at h ⊢; (try simp (disch := decide) only [q]); first | done | exact h)
  | 6, h => (intro p hp; exact Or.inl (bgS_p hp).1)
  | 7, h => (intro p r hp hr _ h2; exact absurd (bgS_p hp).1 h2)
  | 8, h => (intro p hp; rw [(bgS_p hp).2.1]; unfold bw; decide)
  | 9, h => (intro p hp; exact Or.inl (bgS_p hp).2.2.1)
  | 10, h => (intro p hp; rw [(bgS_p hp).2.2.2.2]; unfold bw; decide)
  | 11, h => (simp only [wi, np, pr, sz, wl, paced] at h ⊢; (try simp (disch := decide) only [q]); first | done | exact h)
  | 12, h => (simp only [wi, np, pr, sz, wl, paced] at h ⊢; (try simp (disch := decide) only [q]); first | done | exact h)
  | 13, h => (simp only [wi, np, pr, sz, wl, paced] at h ⊢; (try simp (disch := decide) only [q]); first | done | exact h)
  | 14, h => (simp only [wi, np, pr, sz, wl, paced] at h ⊢; (try simp (disch := decide) only [q]); first | done | exact h)
  | 15, h => (simp only [wi, np, pr, sz, wl, paced] at h ⊢; (try simp (disch := decide) only [q]); first | done | exact h)
  | 16, h => (simp only [wi, np, pr, sz, wl, paced] at h ⊢; (try simp (disch := decide) only [q]); first | done | exact h)
  | 17, h => (simp only [wi, np, pr, sz, wl, paced] at h ⊢; (try simp (disch := decide) only [q]); first | done | exact h)
  | 18, h => (simp only [wi, np, pr, sz, wl, paced] at h ⊢; (try simp (disch := decide) only [q]); first | done | exact h)
  | 19, h => (simp only [wi, np, pr, sz, wl, paced] at h ⊢; (try simp (disch := decide) only [q]); first | done | exact h)
  | 20, h => (simp only [wi, np, pr, sz, wl, paced] at h ⊢; (try simp (disch := decide) only [q]); first | done | exact h)
  | 21, h => (simp only [wi, np, pr, sz, wl, paced] at h ⊢; (try simp (disch := decide) only [q]); first | done | exact h)
  | 22, h => (intro p hp; rw [(bgS_p hp).2.2.2.1]; unfold bw; decide)
  | _ + 23, _ => trivial
theorem m_setsPairs (d : Nat) {B T : LW} {ω σ : Sig} (hM : MR B T ω σ) (v : Int32) : ∃ σ', Ex d 164 0 [.ref 112, .int v, .null] [] G0 σ = some (none, G0, σ') ∧ MR B T (bgS ω v) σ' ∧ Fr [113, 120, 121, 122] [(112, 7)] σ σ' := by
  rw [b164_0]
  obtain ⟨σ1, e1, i1, i2, i3⟩ := loop_ex (fun p (x : Sig) => Ex d 164 9 [.ref 112, .int v, .int (nI p)] [] G0 x) (fun p x => Fr [113, 120, 121, 122] [] (pt σ 112 7 (v - 3)) x ∧ (∀ k, k < p → x 113 (7 + k) = 0 ∧ x 113 (15 + k) = 0 ∧ x 120 k = 0 ∧ x 121 k = 0 ∧ x 122 k = 0) ∧ ∀ k, k < 7 ∨ (23 ≤ k ∧ k < 31) → x 113 k = σ 113 k) 8 (pt σ 112 7 (v - 3)) ⟨Fr_r, fun k hk => by omega, fun k hk => by rw [pt_q (by decide)]⟩ (by
    intro p x hp ⟨i1, i2, i3⟩
    show ∃ a', Ex d 164 9 [.ref 112, .int v, .int (nI p)] [] G0 x = _ ∧ _
    have e7 : (7 : Int32) + nI p = nI (7 + p) := nI_add 7 p
    have e15 : (15 : Int32) + nI p = nI (15 + p) := nI_add 15 p
    rw [b164_9]
    simp only [n8 hp, e7, e15, i8 hp, c8 hp, inb_n (show 7 + p < 31 by omega) (by omega), inb_n (show 15 + p < 31 by omega) (by omega), nI_c (show 7 + p < 2 ^ 31 by omega), nI_c (show 15 + p < 2 ^ 31 by omega), i10, i01, eq_self, if_true, if_false, true_and, false_and, and_true, and_false, not_true, not_false_iff, true_or, or_true, false_or, or_false, ne_eq, not_true_eq_false, not_false_eq_true, b164_49, nI_s]
    refine ⟨_, rfl, Fr_p (Fr_p (Fr_p (Fr_p (Fr_p i1 (Or.inl (by simp))) (Or.inl (by simp))) (Or.inl (by simp))) (Or.inl (by simp))) (Or.inl (by simp)), fun k hk => ?_, fun k hk => ?_⟩
    · by_cases e : k = p
      · subst e
        refine ⟨?_, ?_, ?_, ?_, ?_⟩
        · rw [pt_q (by decide), pt_q (by decide), pt_q (by decide), pt_k (by omega), pt_e]
        · rw [pt_q (by decide), pt_q (by decide), pt_q (by decide), pt_e]
        · rw [pt_q (by decide), pt_q (by decide), pt_e]
        · rw [pt_q (by decide), pt_e]
        · rw [pt_e]
      · obtain ⟨a1, a2, a3, a4, a5⟩ := i2 k (by omega)
        refine ⟨?_, ?_, ?_, ?_, ?_⟩
        · rw [pt_q (by decide), pt_q (by decide), pt_q (by decide), pt_ap, pt_ap]
          split
          · rfl
          · split
            · rfl
            · exact a1
        · rw [pt_q (by decide), pt_q (by decide), pt_q (by decide), pt_ap, pt_ap]
          split
          · rfl
          · split
            · rfl
            · exact a2
        · rw [pt_q (by decide), pt_q (by decide), pt_k e, pt_q (by decide), pt_q (by decide)]; exact a3
        · rw [pt_q (by decide), pt_k e, pt_q (by decide), pt_q (by decide), pt_q (by decide)]; exact a4
        · rw [pt_k e, pt_q (by decide), pt_q (by decide), pt_q (by decide), pt_q (by decide)]; exact a5
    · rw [pt_q (by decide), pt_q (by decide), pt_q (by decide), pt_k (by omega), pt_k (by omega)]; exact i3 k hk)
  rw [show Ex d 164 9 [.ref 112, .int v, .int 0] [] G0 (pt σ 112 7 (v - 3)) = _ from e1, b164_9]
  simp only [n88, i10, i01, eq_self, if_true, if_false, true_and, false_and, and_true, and_false, not_true, not_false_iff, true_or, or_true, false_or, or_false, ne_eq, not_true_eq_false, not_false_eq_true]
  have f : Fr [113, 120, 121, 122] [(112, 7)] σ σ1 := Fr_t (Fr_p Fr_r (Or.inr (by simp))) (Fr_m i1 (fun _ h => h) (by simp))
  refine ⟨σ1, rfl, ?_, f⟩
  have sq : ∀ q, q ∉ [112, 113, 120, 121, 122] → σ1 q = σ q := fun q hq => Fr_q f (by simp at hq ⊢; omega) (by simp at hq ⊢; omega)
  have s2 : ∀ k, k ≠ 7 → σ1 112 k = σ 112 k := fun k hk => f 112 k (by decide) (by simp; omega)
  have s3 : ∀ k, k < 7 → σ1 113 k = σ 113 k := fun k hk => i3 k (Or.inl hk)
  have wq : ∀ q, q ∉ [8, 9, 10, 11, 12, 13] → bgS ω v q = ω q := fun q hq => bgS_q hq
  have s7 : σ1 112 7 = v - 3 := by rw [i1 112 7 (by decide) (by simp), pt_e]
  intro i
  have h := hM i
  match i, h with
  | 0, h => show σ1 112 6 = _; rw [s2 6 (by decide), wq 1 (by decide)]; exact h
  | 1, h => show σ1 112 7 = bgS ω v 8 0 - 3; rw [s7, bgS_8]
  | 2, h => show σ1 112 8 = _; rw [s2 8 (by decide), wq 1 (by decide)]; exact h
  | 3, h => show σ1 112 9 = _; rw [s2 9 (by decide), wq 1 (by decide)]; exact h
  | 4, h => show σ1 112 10 = _; rw [s2 10 (by decide), wq 1 (by decide)]; exact h
  | 5, h => show σ1 112 11 = _; rw [s2 11 (by decide), wq 1 (by decide)]; exact h
  | 6, h => show σ1 112 12 = _; rw [s2 12 (by decide), wq 2 (by decide)]; exact h
  | 7, h => show σ1 113 0 = _; rw [s3 0 (by decide), wq 1 (by decide)]; exact h
  | 8, h => show σ1 113 1 = _; rw [s3 1 (by decide), wq 1 (by decide)]; exact h
  | 9, h => show σ1 113 2 = _; rw [s3 2 (by decide), wq 25 (by decide)]; exact h
  | 10, h => show σ1 113 3 = _; rw [s3 3 (by decide), wq 1 (by decide)]; exact h
  | 11, h => show σ1 113 4 = _; rw [s3 4 (by decide), wq 1 (by decide)]; exact h
  | 12, h => show σ1 113 5 = _; rw [s3 5 (by decide), wq 1 (by decide)]; exact h
  | 13, h => show σ1 113 6 = _; rw [s3 6 (by decide), wq 1 (by decide)]; exact h
  | 14, h => intro p hp; rw [(i2 p hp).1, (bgS_p hp).1]; decide
  | 15, h => intro p hp; rw [(i2 p hp).2.1, (bgS_p hp).2.1]
  | 16, h => intro p hp; rw [i3 (23 + p) (Or.inr (by omega)), wq 7 (by decide)]; exact h p hp
  | 17, h => show ∀ b, b < 8 → σ1 116 b = _; rw [sq 116 (by decide), wq 3 (by decide)]; exact h
  | 18, h => show ∀ b, b < 8 → σ1 117 b = _; rw [sq 117 (by decide), wq 4 (by decide)]; exact h
  | 19, h => show ∀ b, b < 8 → σ1 118 b = _; rw [sq 118 (by decide), wq 5 (by decide)]; exact h
  | 20, h => show ∀ b, b < 8 → σ1 119 b = _; rw [sq 119 (by decide), wq 6 (by decide)]; exact h
  | 21, h => intro p hp; rw [(i2 p hp).2.2.1, (bgS_p hp).2.2.1]
  | 22, h => intro p hp; rw [(i2 p hp).2.2.2.1, (bgS_p hp).2.2.2.1]; decide
  | 23, h => intro p hp; rw [(i2 p hp).2.2.2.2, (bgS_p hp).2.2.2.2]; decide
  | 24, h => show σ1 112 43 = _; rw [s2 43 (by decide), wq 20 (by decide)]; exact h
  | 25, h => simp only [mr, wl, paced] at h ⊢; rw [sq 133 (by decide), wq 20 (by decide), wq 21 (by decide), wq 22 (by decide), wq 23 (by decide), wq 24 (by decide)]; exact h
  | 26, h => simp only [mr] at h ⊢; rw [sq 123 (by decide), wq 25 (by decide), wq 26 (by decide)]; exact h
  | 27, h => show σ1 126 0 = _; rw [sq 126 (by decide), wq 14 (by decide)]; exact h
  | 28, h => show σ1 126 1 = _; rw [sq 126 (by decide), wq 17 (by decide)]; exact h
  | 29, h => show modLaw (σ1 127) (σ1 128) (σ1 129) (σ1 130) (σ1 131) 0 0 B; rw [sq 127 (by decide), sq 128 (by decide), sq 129 (by decide), sq 130 (by decide), sq 131 (by decide)]; exact h
  | 30, h => show modLaw (σ1 127) (σ1 128) (σ1 129) (σ1 130) (σ1 131) 16 400 T; rw [sq 127 (by decide), sq 128 (by decide), sq 129 (by decide), sq 130 (by decide), sq 131 (by decide)]; exact h
  | _ + 31, _ => trivial
/-- what is set -/
def seS (ω : Sig) (a b v : Int32) : Option Sig :=
  if a = 0 then (if 1 ≤ v ∧ v ≤ 999 then some (pt ω 1 0 v) else none)
  else if a = 1 then (if 2 ≤ v ∧ v ≤ 4 then some (bgS ω v) else none)
  else if a = 2 then (if 0 ≤ v ∧ v ≤ 1 then some (pt ω 1 1 v) else none)
  else if a = 3 then (if 0 ≤ v ∧ v ≤ 200 then some (pt ω 1 2 v) else none)
  else if a = 4 then (if 0 ≤ v ∧ v ≤ 1000 then some (pt ω 1 3 v) else none)
  else if a = 5 then (if 0 ≤ v ∧ v ≤ 1000 then some (pt ω 1 4 v) else none)
  else if a = 6 then (if (0 ≤ b ∧ b < 2 * ω 8 0) ∧ (0 ≤ v ∧ v ≤ 6) then some (pt ω 10 b.toNatClampNeg v) else none)
  else if a = 7 then (if (0 ≤ b ∧ b < 2 * ω 8 0) ∧ (0 ≤ v ∧ v ≤ 1) then some (pt ω 11 b.toNatClampNeg v) else none)
  else if a = 8 then (if (0 ≤ b ∧ b < 2 * ω 8 0) ∧ (1 ≤ v ∧ v ≤ 9) then some (pt ω 12 b.toNatClampNeg v) else none)
  else if a = 9 then (if (0 ≤ b ∧ b < ω 2 0) ∧ (0 ≤ v ∧ v ≤ 300) then some (pt ω 4 b.toNatClampNeg v) else none)
  else if a = 10 then (if (0 ≤ b ∧ b < ω 2 0) ∧ (0 ≤ v ∧ v ≤ 1000) then some (pt ω 7 b.toNatClampNeg v) else none)
  else none
theorem i11 (a : Int32) : a = 0 ∨ a = 1 ∨ a = 2 ∨ a = 3 ∨ a = 4 ∨ a = 5 ∨ a = 6 ∨ a = 7 ∨ a = 8 ∨ a = 9 ∨ a = 10 ∨ ¬ (0 ≤ a ∧ a ≤ 10) := by
  by_cases h : 0 ≤ a ∧ a ≤ 10
  · obtain ⟨n, e, _, n10, _⟩ := bwN (x := a) (a := 0) (b := 10) ⟨Int32.le_iff_toInt_le.mp h.1, Int32.le_iff_toInt_le.mp h.2⟩
    subst e
    match n, n10 with
    | 0, _ => simp [nI]
    | 1, _ => simp [nI]
    | 2, _ => simp [nI]
    | 3, _ => simp [nI]
    | 4, _ => simp [nI]
    | 5, _ => simp [nI]
    | 6, _ => simp [nI]
    | 7, _ => simp [nI]
    | 8, _ => simp [nI]
    | 9, _ => simp [nI]
    | 10, _ => simp [nI]
    | n + 11, h => omega
  · simp only [h]; simp
theorem seS_N {ω : Sig} {a b v : Int32} (h : ¬ (0 ≤ a ∧ a ≤ 10)) : seS ω a b v = none := by
  have n : ∀ k : Int32, 0 ≤ k → k ≤ 10 → a ≠ k := fun k h1 h2 e => h (by rw [e]; exact ⟨h1, h2⟩)
  unfold seS
  rw [if_neg (n 0 (by decide) (by decide)), if_neg (n 1 (by decide) (by decide)), if_neg (n 2 (by decide) (by decide)), if_neg (n 3 (by decide) (by decide)), if_neg (n 4 (by decide) (by decide)), if_neg (n 5 (by decide) (by decide)), if_neg (n 6 (by decide) (by decide)), if_neg (n 7 (by decide) (by decide)), if_neg (n 8 (by decide) (by decide)), if_neg (n 9 (by decide) (by decide)), if_neg (n 10 (by decide) (by decide))]
theorem z01 {v : Int32} (h : 0 ≤ v ∧ v ≤ 1) : v = 0 ∨ v = 1 := by
  obtain ⟨n, e, _, n1, _⟩ := bwN (x := v) (a := 0) (b := 1) ⟨Int32.le_iff_toInt_le.mp h.1, Int32.le_iff_toInt_le.mp h.2⟩
  subst e
  match n, n1 with
  | 0, _ => exact Or.inl rfl
  | 1, _ => exact Or.inr rfl
  | n + 2, h => omega
theorem WI_se {B T : LW} {ω w : Sig} (hW : WI B T ω) {a b v : Int32} (h : seS ω a b v = some w) : WI B T w := by
  rcases i11 a with e | e | e | e | e | e | e | e | e | e | e | e
  case inr.inr.inr.inr.inr.inr.inr.inr.inr.inr.inr => rw [seS_N e] at h; cases h
  all_goals (subst e; simp [seS] at h; obtain ⟨c, e⟩ := h; subst e)
  · exact WI_1_0 hW (bw_of c)
  · exact WI_bg hW (bw_of c)
  · exact WI_11 hW (z01 c)
  · exact WI_1_2 hW
  · exact WI_1_3 hW (bw_of c)
  · exact WI_1_4 hW (bw_of c)
  · exact WI_10 hW (bw_of c.2)
  · exact WI_i11 hW (z01 c.2)
  · exact WI_i12 hW (bw_of c.2)
  · exact WI_i4 hW (bw_of c.2)
  · exact WI_i7 hW (bw_of c.2)
theorem c_set (d : Nat) {B T : LW} {σ : Sig} (hW : WI B T σ) (a b v : Int32) : Ex (d + 3) 102 0 [.ref 0, .int a, .int b, .int v, .null] [] G0 σ = match seS σ a b v with
    | some w => some (some (.int 1), G0, pt (pt w 0 8 0) 0 10 0)
    | none => some (some (.int 0), G0, σ) := by
  rcases i11 a with e | e | e | e | e | e | e | e | e | e | e | e
  case inr.inr.inr.inr.inr.inr.inr.inr.inr.inr.inr => rw [seS_N e, c_setN d σ a b v e]
  · subst e; rw [c_set0]; simp only [seS]; simp; split <;> rfl
  · subst e; rw [c_set1]; simp only [seS]; simp; split <;> rfl
  · subst e; rw [c_set2]; simp only [seS]; simp; split <;> rfl
  · subst e; rw [c_set3]; simp only [seS]; simp; split <;> rfl
  · subst e; rw [c_set4]; simp only [seS]; simp; split <;> rfl
  · subst e; rw [c_set5]; simp only [seS]; simp; split <;> rfl
  · subst e; rw [c_set6 d hW]; simp only [seS]; simp; split <;> rfl
  · subst e; rw [c_set7 d hW]; simp only [seS]; simp; split <;> rfl
  · subst e; rw [c_set8 d hW]; simp only [seS]; simp; split <;> rfl
  · subst e; rw [c_set9 d hW]; simp only [seS]; simp; split <;> rfl
  · subst e; rw [c_set10 d hW]; simp only [seS]; simp; split <;> rfl
theorem m_set (d : Nat) {B T : LW} {ω σ : Sig} (hM : MR B T ω σ) (hW : WI B T ω) (a b v : Int32) : ∃ σ', Ex (d + 4) 165 0 [.ref 112, .int a, .int b, .int v] [] G0 σ = some (some (.int (bI ((seS ω a b v).isSome = true))), G0, σ') ∧ MR B T ((seS ω a b v).getD ω) σ' ∧ Fr [113, 120, 121, 122, 117] [(112, 0), (112, 3), (112, 6), (112, 7), (112, 8), (112, 9), (112, 10), (112, 11)] σ σ' ∧ ((seS ω a b v).isSome = true → σ' 112 3 = 0) ∧ (seS ω a b v = none → σ' = pt σ 112 0 0) := by
  have f0 : Fr [113, 120, 121, 122, 117] [(112, 0), (112, 3), (112, 6), (112, 7), (112, 8), (112, 9), (112, 10), (112, 11)] σ (pt σ 112 0 0) := Fr_p Fr_r (Or.inr (by simp))
  have hM0 : MR B T ω (pt σ 112 0 0) := MR_S hM (Fr_p Fr_r (Or.inr (by simp)) : Fr [] [(112, 0)] σ (pt σ 112 0 0)) (by decide) (by simp)
  have e3 : ∀ {w x : Sig}, MR B T w x → MR B T w (pt x 112 3 0) := fun m => MR_S m (Fr_p Fr_r (Or.inr (by simp)) : Fr [] [(112, 3)] _ _) (by decide) (by simp)
  rcases i11 a with e | e | e | e | e | e | e | e | e | e | e | e
  case inr.inr.inr.inr.inr.inr.inr.inr.inr.inr.inr =>
    simp only [seS_N e, b165_0, (fun d σ => m_canN d σ a b v e), Option.bind_some, Option.toList_some, Option.toList_none, List.cons_append, List.nil_append, i01a, i01b, if_true, if_false, b165_12, i10, i01, eq_self, if_true, if_false, true_and, false_and, and_true, and_false, not_true, not_false_iff, true_or, or_true, false_or, or_false, ne_eq, not_true_eq_false, not_false_eq_true]
    exact ⟨_, rfl, hM0, f0, fun h => (by cases h), fun _ => rfl⟩
  · subst e
    have es : seS ω 0 b v = if 1 ≤ v ∧ v ≤ 999 then some (pt ω 1 0 v) else none := by simp [seS]
    by_cases c : 1 ≤ v ∧ v ≤ 999
    · rw [if_pos c] at es
      simp only [es, b165_0, m_can0, Option.bind_some, Option.toList_some, Option.toList_none, List.cons_append, List.nil_append, i01a, i01b, if_true, if_false, eq_true c, bI_tt, b165_12, i10, i01, eq_self, if_true, if_false, true_and, false_and, and_true, and_false, not_true, not_false_iff, true_or, or_true, false_or, or_false, ne_eq, not_true_eq_false, not_false_eq_true]
      simp [b165_40, b165_63, b165_86, b165_115, b165_143]
      exact ⟨_, ⟨(bI_T trivial).symm, rfl⟩, e3 (MR_1_0 hM0 v), Fr_p (Fr_p f0 (Or.inr (by simp))) (Or.inr (by simp)), pt_e⟩
    · rw [if_neg c] at es
      simp only [es, b165_0, m_can0, Option.bind_some, Option.toList_some, Option.toList_none, List.cons_append, List.nil_append, i01a, i01b, if_true, if_false, eq_false c, bI_ff, b165_12, i10, i01, eq_self, if_true, if_false, true_and, false_and, and_true, and_false, not_true, not_false_iff, true_or, or_true, false_or, or_false, ne_eq, not_true_eq_false, not_false_eq_true]
      exact ⟨_, rfl, hM0, f0, fun h => (by cases h), fun _ => rfl⟩
  · subst e
    have es : seS ω 1 b v = if 2 ≤ v ∧ v ≤ 4 then some (bgS ω v) else none := by simp [seS]
    by_cases c : 2 ≤ v ∧ v ≤ 4
    · rw [if_pos c] at es
      obtain ⟨σ1, e1, m1, f1⟩ := m_setsPairs (d + 3) hM0 v
      have w0 : ((1 : Int32) = 0) = False := by simp
      simp only [es, b165_0, m_can1, Option.bind_some, Option.toList_some, Option.toList_none, List.cons_append, List.nil_append, i01a, i01b, if_true, if_false, eq_true c, bI_tt, b165_12, i10, i01, eq_self, if_true, if_false, true_and, false_and, and_true, and_false, not_true, not_false_iff, true_or, or_true, false_or, or_false, ne_eq, not_true_eq_false, not_false_eq_true, e1]
      simp [b165_40, b165_63, b165_86, b165_115, b165_143]
      exact ⟨_, ⟨(bI_T trivial).symm, rfl⟩, e3 m1, Fr_p (Fr_t f0 (Fr_m f1 (by simp) (by simp))) (Or.inr (by simp)), pt_e⟩
    · rw [if_neg c] at es
      simp only [es, b165_0, m_can1, Option.bind_some, Option.toList_some, Option.toList_none, List.cons_append, List.nil_append, i01a, i01b, if_true, if_false, eq_false c, bI_ff, b165_12, i10, i01, eq_self, if_true, if_false, true_and, false_and, and_true, and_false, not_true, not_false_iff, true_or, or_true, false_or, or_false, ne_eq, not_true_eq_false, not_false_eq_true]
      exact ⟨_, rfl, hM0, f0, fun h => (by cases h), fun _ => rfl⟩
  · subst e
    have es : seS ω 2 b v = if 0 ≤ v ∧ v ≤ 1 then some (pt ω 1 1 v) else none := by simp [seS]
    by_cases c : 0 ≤ v ∧ v ≤ 1
    · rw [if_pos c] at es
      simp only [es, b165_0, m_can2, Option.bind_some, Option.toList_some, Option.toList_none, List.cons_append, List.nil_append, i01a, i01b, if_true, if_false, eq_true c, bI_tt, b165_12, i10, i01, eq_self, if_true, if_false, true_and, false_and, and_true, and_false, not_true, not_false_iff, true_or, or_true, false_or, or_false, ne_eq, not_true_eq_false, not_false_eq_true]
      simp [b165_40, b165_63, b165_86, b165_115, b165_143]
      exact ⟨_, ⟨(bI_T trivial).symm, rfl⟩, e3 (MR_h hM0 v), Fr_p (Fr_p f0 (Or.inr (by simp))) (Or.inr (by simp)), pt_e⟩
    · rw [if_neg c] at es
      simp only [es, b165_0, m_can2, Option.bind_some, Option.toList_some, Option.toList_none, List.cons_append, List.nil_append, i01a, i01b, if_true, if_false, eq_false c, bI_ff, b165_12, i10, i01, eq_self, if_true, if_false, true_and, false_and, and_true, and_false, not_true, not_false_iff, true_or, or_true, false_or, or_false, ne_eq, not_true_eq_false, not_false_eq_true]
      exact ⟨_, rfl, hM0, f0, fun h => (by cases h), fun _ => rfl⟩
  · subst e
    have es : seS ω 3 b v = if 0 ≤ v ∧ v ≤ 200 then some (pt ω 1 2 v) else none := by simp [seS]
    by_cases c : 0 ≤ v ∧ v ≤ 200
    · rw [if_pos c] at es
      simp only [es, b165_0, m_can3, Option.bind_some, Option.toList_some, Option.toList_none, List.cons_append, List.nil_append, i01a, i01b, if_true, if_false, eq_true c, bI_tt, b165_12, i10, i01, eq_self, if_true, if_false, true_and, false_and, and_true, and_false, not_true, not_false_iff, true_or, or_true, false_or, or_false, ne_eq, not_true_eq_false, not_false_eq_true]
      simp [b165_40, b165_63, b165_86, b165_115, b165_143]
      exact ⟨_, ⟨(bI_T trivial).symm, rfl⟩, e3 (MR_1_2 hM0 v), Fr_p (Fr_p f0 (Or.inr (by simp))) (Or.inr (by simp)), pt_e⟩
    · rw [if_neg c] at es
      simp only [es, b165_0, m_can3, Option.bind_some, Option.toList_some, Option.toList_none, List.cons_append, List.nil_append, i01a, i01b, if_true, if_false, eq_false c, bI_ff, b165_12, i10, i01, eq_self, if_true, if_false, true_and, false_and, and_true, and_false, not_true, not_false_iff, true_or, or_true, false_or, or_false, ne_eq, not_true_eq_false, not_false_eq_true]
      exact ⟨_, rfl, hM0, f0, fun h => (by cases h), fun _ => rfl⟩
  · subst e
    have es : seS ω 4 b v = if 0 ≤ v ∧ v ≤ 1000 then some (pt ω 1 3 v) else none := by simp [seS]
    by_cases c : 0 ≤ v ∧ v ≤ 1000
    · rw [if_pos c] at es
      simp only [es, b165_0, m_can4, Option.bind_some, Option.toList_some, Option.toList_none, List.cons_append, List.nil_append, i01a, i01b, if_true, if_false, eq_true c, bI_tt, b165_12, i10, i01, eq_self, if_true, if_false, true_and, false_and, and_true, and_false, not_true, not_false_iff, true_or, or_true, false_or, or_false, ne_eq, not_true_eq_false, not_false_eq_true]
      simp [b165_40, b165_63, b165_86, b165_115, b165_143]
      exact ⟨_, ⟨(bI_T trivial).symm, rfl⟩, e3 (MR_1_3 hM0 v), Fr_p (Fr_p f0 (Or.inr (by simp))) (Or.inr (by simp)), pt_e⟩
    · rw [if_neg c] at es
      simp only [es, b165_0, m_can4, Option.bind_some, Option.toList_some, Option.toList_none, List.cons_append, List.nil_append, i01a, i01b, if_true, if_false, eq_false c, bI_ff, b165_12, i10, i01, eq_self, if_true, if_false, true_and, false_and, and_true, and_false, not_true, not_false_iff, true_or, or_true, false_or, or_false, ne_eq, not_true_eq_false, not_false_eq_true]
      exact ⟨_, rfl, hM0, f0, fun h => (by cases h), fun _ => rfl⟩
  · subst e
    have es : seS ω 5 b v = if 0 ≤ v ∧ v ≤ 1000 then some (pt ω 1 4 v) else none := by simp [seS]
    by_cases c : 0 ≤ v ∧ v ≤ 1000
    · rw [if_pos c] at es
      simp only [es, b165_0, m_can5, Option.bind_some, Option.toList_some, Option.toList_none, List.cons_append, List.nil_append, i01a, i01b, if_true, if_false, eq_true c, bI_tt, b165_12, i10, i01, eq_self, if_true, if_false, true_and, false_and, and_true, and_false, not_true, not_false_iff, true_or, or_true, false_or, or_false, ne_eq, not_true_eq_false, not_false_eq_true]
      simp [b165_40, b165_63, b165_86, b165_115, b165_143]
      exact ⟨_, ⟨(bI_T trivial).symm, rfl⟩, e3 (MR_1_4 hM0 v), Fr_p (Fr_p f0 (Or.inr (by simp))) (Or.inr (by simp)), pt_e⟩
    · rw [if_neg c] at es
      simp only [es, b165_0, m_can5, Option.bind_some, Option.toList_some, Option.toList_none, List.cons_append, List.nil_append, i01a, i01b, if_true, if_false, eq_false c, bI_ff, b165_12, i10, i01, eq_self, if_true, if_false, true_and, false_and, and_true, and_false, not_true, not_false_iff, true_or, or_true, false_or, or_false, ne_eq, not_true_eq_false, not_false_eq_true]
      exact ⟨_, rfl, hM0, f0, fun h => (by cases h), fun _ => rfl⟩
  · subst e
    have es : seS ω 6 b v = if (0 ≤ b ∧ b < 2 * ω 8 0) ∧ (0 ≤ v ∧ v ≤ 6) then some (pt ω 10 b.toNatClampNeg v) else none := by simp [seS]
    by_cases c : (0 ≤ b ∧ b < 2 * ω 8 0) ∧ (0 ≤ v ∧ v ≤ 6)
    · rw [if_pos c] at es
      have hn := pl_n hW c.1
      have n8' := (WI_np hW).2.1
      have ib : inb b 8 = true := by rw [hn.2]; exact inb_n (by omega) (by omega)
      have e15 : (15 : Int32) + b = nI (15 + b.toNatClampNeg) := by rw [hn.2]; rw [nI_c (show b.toNatClampNeg < 2 ^ 31 by omega)]; exact nI_add 15 _
      have i15 : inb (nI (15 + b.toNatClampNeg)) 31 = true := inb_n (by omega) (by omega)
      have c15 : (nI (15 + b.toNatClampNeg)).toNatClampNeg = 15 + b.toNatClampNeg := nI_c (by omega)
      simp only [es, b165_0, (fun d => m_can6 d hM0 b v), Option.bind_some, Option.toList_some, Option.toList_none, List.cons_append, List.nil_append, i01a, i01b, if_true, if_false, eq_true c, bI_tt, b165_12, i10, i01, eq_self, if_true, if_false, true_and, false_and, and_true, and_false, not_true, not_false_iff, true_or, or_true, false_or, or_false, ne_eq, not_true_eq_false, not_false_eq_true]
      simp [b165_40, b165_63, b165_86, b165_115, b165_143, e15, i15, c15]
      exact ⟨_, ⟨(bI_T trivial).symm, rfl⟩, e3 (MR_cl hM0 (by omega) v), Fr_p (Fr_p f0 (Or.inl (by simp))) (Or.inr (by simp)), pt_e⟩
    · rw [if_neg c] at es
      simp only [es, b165_0, (fun d => m_can6 d hM0 b v), Option.bind_some, Option.toList_some, Option.toList_none, List.cons_append, List.nil_append, i01a, i01b, if_true, if_false, eq_false c, bI_ff, b165_12, i10, i01, eq_self, if_true, if_false, true_and, false_and, and_true, and_false, not_true, not_false_iff, true_or, or_true, false_or, or_false, ne_eq, not_true_eq_false, not_false_eq_true]
      exact ⟨_, rfl, hM0, f0, fun h => (by cases h), fun _ => rfl⟩
  · subst e
    have es : seS ω 7 b v = if (0 ≤ b ∧ b < 2 * ω 8 0) ∧ (0 ≤ v ∧ v ≤ 1) then some (pt ω 11 b.toNatClampNeg v) else none := by simp [seS]
    by_cases c : (0 ≤ b ∧ b < 2 * ω 8 0) ∧ (0 ≤ v ∧ v ≤ 1)
    · rw [if_pos c] at es
      have hn := pl_n hW c.1
      have n8' := (WI_np hW).2.1
      have ib : inb b 8 = true := by rw [hn.2]; exact inb_n (by omega) (by omega)
      simp only [es, b165_0, (fun d => m_can7 d hM0 b v), Option.bind_some, Option.toList_some, Option.toList_none, List.cons_append, List.nil_append, i01a, i01b, if_true, if_false, eq_true c, bI_tt, b165_12, i10, i01, eq_self, if_true, if_false, true_and, false_and, and_true, and_false, not_true, not_false_iff, true_or, or_true, false_or, or_false, ne_eq, not_true_eq_false, not_false_eq_true]
      simp [b165_40, b165_63, b165_86, b165_115, b165_143, ib]
      exact ⟨_, ⟨(bI_T trivial).symm, rfl⟩, e3 (MR_i11 hM0 _ v), Fr_p (Fr_p f0 (Or.inl (by simp))) (Or.inr (by simp)), pt_e⟩
    · rw [if_neg c] at es
      simp only [es, b165_0, (fun d => m_can7 d hM0 b v), Option.bind_some, Option.toList_some, Option.toList_none, List.cons_append, List.nil_append, i01a, i01b, if_true, if_false, eq_false c, bI_ff, b165_12, i10, i01, eq_self, if_true, if_false, true_and, false_and, and_true, and_false, not_true, not_false_iff, true_or, or_true, false_or, or_false, ne_eq, not_true_eq_false, not_false_eq_true]
      exact ⟨_, rfl, hM0, f0, fun h => (by cases h), fun _ => rfl⟩
  · subst e
    have es : seS ω 8 b v = if (0 ≤ b ∧ b < 2 * ω 8 0) ∧ (1 ≤ v ∧ v ≤ 9) then some (pt ω 12 b.toNatClampNeg v) else none := by simp [seS]
    by_cases c : (0 ≤ b ∧ b < 2 * ω 8 0) ∧ (1 ≤ v ∧ v ≤ 9)
    · rw [if_pos c] at es
      have hn := pl_n hW c.1
      have n8' := (WI_np hW).2.1
      have ib : inb b 8 = true := by rw [hn.2]; exact inb_n (by omega) (by omega)
      simp only [es, b165_0, (fun d => m_can8 d hM0 b v), Option.bind_some, Option.toList_some, Option.toList_none, List.cons_append, List.nil_append, i01a, i01b, if_true, if_false, eq_true c, bI_tt, b165_12, i10, i01, eq_self, if_true, if_false, true_and, false_and, and_true, and_false, not_true, not_false_iff, true_or, or_true, false_or, or_false, ne_eq, not_true_eq_false, not_false_eq_true]
      simp [b165_40, b165_63, b165_86, b165_115, b165_143, ib]
      exact ⟨_, ⟨(bI_T trivial).symm, rfl⟩, e3 (MR_i12 hM0 _ v), Fr_p (Fr_p f0 (Or.inl (by simp))) (Or.inr (by simp)), pt_e⟩
    · rw [if_neg c] at es
      simp only [es, b165_0, (fun d => m_can8 d hM0 b v), Option.bind_some, Option.toList_some, Option.toList_none, List.cons_append, List.nil_append, i01a, i01b, if_true, if_false, eq_false c, bI_ff, b165_12, i10, i01, eq_self, if_true, if_false, true_and, false_and, and_true, and_false, not_true, not_false_iff, true_or, or_true, false_or, or_false, ne_eq, not_true_eq_false, not_false_eq_true]
      exact ⟨_, rfl, hM0, f0, fun h => (by cases h), fun _ => rfl⟩
  · subst e
    have es : seS ω 9 b v = if (0 ≤ b ∧ b < ω 2 0) ∧ (0 ≤ v ∧ v ≤ 300) then some (pt ω 4 b.toNatClampNeg v) else none := by simp [seS]
    by_cases c : (0 ≤ b ∧ b < ω 2 0) ∧ (0 ≤ v ∧ v ≤ 300)
    · rw [if_pos c] at es
      obtain ⟨n, hn, n8', en⟩ := be_ix hW c.1
      have ib : inb b 8 = true := by rw [en]; exact inb_n n8' (by omega)
      simp only [es, b165_0, (fun d => m_can9 d hM0 b v), Option.bind_some, Option.toList_some, Option.toList_none, List.cons_append, List.nil_append, i01a, i01b, if_true, if_false, eq_true c, bI_tt, b165_12, i10, i01, eq_self, if_true, if_false, true_and, false_and, and_true, and_false, not_true, not_false_iff, true_or, or_true, false_or, or_false, ne_eq, not_true_eq_false, not_false_eq_true]
      simp [b165_40, b165_63, b165_86, b165_115, b165_143, ib]
      exact ⟨_, ⟨(bI_T trivial).symm, rfl⟩, e3 (MR_i4 hM0 _ v), Fr_p (Fr_p f0 (Or.inl (by simp))) (Or.inr (by simp)), pt_e⟩
    · rw [if_neg c] at es
      simp only [es, b165_0, (fun d => m_can9 d hM0 b v), Option.bind_some, Option.toList_some, Option.toList_none, List.cons_append, List.nil_append, i01a, i01b, if_true, if_false, eq_false c, bI_ff, b165_12, i10, i01, eq_self, if_true, if_false, true_and, false_and, and_true, and_false, not_true, not_false_iff, true_or, or_true, false_or, or_false, ne_eq, not_true_eq_false, not_false_eq_true]
      exact ⟨_, rfl, hM0, f0, fun h => (by cases h), fun _ => rfl⟩
  · subst e
    have es : seS ω 10 b v = if (0 ≤ b ∧ b < ω 2 0) ∧ (0 ≤ v ∧ v ≤ 1000) then some (pt ω 7 b.toNatClampNeg v) else none := by simp [seS]
    by_cases c : (0 ≤ b ∧ b < ω 2 0) ∧ (0 ≤ v ∧ v ≤ 1000)
    · rw [if_pos c] at es
      obtain ⟨n, hn, n8', en⟩ := be_ix hW c.1
      have ib : inb b 8 = true := by rw [en]; exact inb_n n8' (by omega)
      have hb : b.toNatClampNeg = n := by rw [en]; exact nI_c (by omega)
      have e15 : (23 : Int32) + b = nI (23 + b.toNatClampNeg) := by rw [hb, en]; exact nI_add 23 n
      have i15 : inb (nI (23 + b.toNatClampNeg)) 31 = true := inb_n (by omega) (by omega)
      have c15 : (nI (23 + b.toNatClampNeg)).toNatClampNeg = 23 + b.toNatClampNeg := nI_c (by omega)
      simp only [es, b165_0, (fun d => m_can10 d hM0 b v), Option.bind_some, Option.toList_some, Option.toList_none, List.cons_append, List.nil_append, i01a, i01b, if_true, if_false, eq_true c, bI_tt, b165_12, i10, i01, eq_self, if_true, if_false, true_and, false_and, and_true, and_false, not_true, not_false_iff, true_or, or_true, false_or, or_false, ne_eq, not_true_eq_false, not_false_eq_true]
      simp [b165_40, b165_63, b165_86, b165_115, b165_143, e15, i15, c15]
      exact ⟨_, ⟨(bI_T trivial).symm, rfl⟩, e3 (MR_ti hM0 (by omega) v), Fr_p (Fr_p f0 (Or.inl (by simp))) (Or.inr (by simp)), pt_e⟩
    · rw [if_neg c] at es
      simp only [es, b165_0, (fun d => m_can10 d hM0 b v), Option.bind_some, Option.toList_some, Option.toList_none, List.cons_append, List.nil_append, i01a, i01b, if_true, if_false, eq_false c, bI_ff, b165_12, i10, i01, eq_self, if_true, if_false, true_and, false_and, and_true, and_false, not_true, not_false_iff, true_or, or_true, false_or, or_false, ne_eq, not_true_eq_false, not_false_eq_true]
      exact ⟨_, rfl, hM0, f0, fun h => (by cases h), fun _ => rfl⟩
