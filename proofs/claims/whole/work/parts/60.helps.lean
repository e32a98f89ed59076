/-! L3: whom to change for whom -/
def plB (ω : Sig) (x : Int32) (q : Nat) : Bool := decide (ω 9 q = x)
def plS (ω : Sig) (x : Int32) : Int32 := lp (plB ω x) 0 8
theorem lp_ext {P : Nat → Bool} : ∀ n m k, (∀ q, m + n ≤ q → q < m + n + k → P q = false) → lp P m (n + k) = lp P m n := by
  intro n
  induction n with
  | zero =>
    intro m k h
    rw [Nat.zero_add]
    have : ∀ k m, (∀ q, m ≤ q → q < m + k → P q = false) → lp P m k = -1 := by
      intro k
      induction k with
      | zero => intro m _; rfl
      | succ k ih =>
        intro m h
        rw [lp, if_neg (by rw [h m (Nat.le_refl _) (by omega)]; decide)]
        exact ih (m + 1) (fun q h1 h2 => h q (by omega) (by omega))
    rw [this k m (fun q h1 h2 => h q (by omega) (by omega))]; rfl
  | succ n ih =>
    intro m k h
    rw [show n + 1 + k = (n + k) + 1 by omega, lp, lp, ih (m + 1) k (fun q h1 h2 => h q (by omega) (by omega))]
theorem c_placeOf (d : Nat) {B T : LW} {σ : Sig} (hW : WI B T σ) {x : Int32} (hx : x ≠ -1) : Ex d 34 0 [.ref 8, .int x, .null] [] G0 σ = some (some (.int (plS σ x)), G0, σ) := by
  obtain ⟨_, n8', en⟩ := WI_np hW
  rw [b34_0]
  have main : ∀ n m, m + n = np σ → Ex d 34 2 [.ref 8, .int x, .int (nI m)] [] G0 σ = some (some (.int (lp (plB σ x) m n)), G0, σ) := by
    intro n
    induction n with
    | zero =>
      intro m hm
      rw [b34_2]
      have q : (nI (np σ) ≤ nI m) = True := by rw [nJ_le (by omega) (by omega)]; exact eq_true (by omega)
      simp only [en, q, i10, i01, eq_self, if_true, if_false, true_and, false_and, and_true, and_false, not_true, not_false_iff, true_or, or_true, false_or, or_false, ne_eq, not_true_eq_false, not_false_eq_true]
      rfl
    | succ n ih =>
      intro m hm
      rw [b34_2]
      have q : (nI (np σ) ≤ nI m) = False := by rw [nJ_le (by omega) (by omega)]; exact eq_false (by omega)
      simp only [en, q, i10, i01, eq_self, if_true, if_false, true_and, false_and, and_true, and_false, not_true, not_false_iff, true_or, or_true, false_or, or_false, ne_eq, not_true_eq_false, not_false_eq_true, i8 (show m < 8 by omega), c8 (show m < 8 by omega), b34_0, b34_22, b34_24, nI_s]
      rw [lp]
      by_cases k : σ 9 m = x
      · simp only [eq_true k, i10, i01, eq_self, if_true, if_false, true_and, false_and, and_true, and_false, not_true, not_false_iff, true_or, or_true, false_or, or_false, ne_eq, not_true_eq_false, not_false_eq_true]
        rw [if_pos (show plB σ x m = true from decide_eq_true k)]
      · simp only [eq_false k, i10, i01, eq_self, if_true, if_false, true_and, false_and, and_true, and_false, not_true, not_false_iff, true_or, or_true, false_or, or_false, ne_eq, not_true_eq_false, not_false_eq_true]
        rw [if_neg (by unfold plB; rw [decide_eq_false k]; decide)]
        exact ih (m + 1) (by omega)
  have h := main (np σ) 0 (by omega)
  have e : plS σ x = lp (plB σ x) 0 (np σ) := by
    unfold plS
    have := lp_ext (P := plB σ x) (np σ) 0 (8 - np σ) (fun q h1 h2 => by
      refine decide_eq_false (fun e => ?_)
      have h6 : wi B T σ 6 := hW 6
      rcases h6 q (by omega) with k | k
      · exact hx (by rw [← e, k])
      · omega)
    rw [show np σ + (8 - np σ) = 8 by omega] at this
    exact this
  rw [e]; exact h
theorem m_placeOf (d : Nat) {B T : LW} {ω σ : Sig} (hM : MR B T ω σ) (x : Int32) : Ex (d + 1) 166 0 [.ref 112, .int x, .null] [] G0 σ = some (some (.int (plS ω x)), G0, σ) := by
  rw [b166_0]
  have main : ∀ n m, m + n = 8 → Ex (d + 1) 166 2 [.ref 112, .int x, .int (nI m)] [] G0 σ = some (some (.int (lp (plB ω x) m n)), G0, σ) := by
    intro n
    induction n with
    | zero =>
      intro m hm
      rw [b166_2, show m = 8 by omega]
      simp only [n88, i10, i01, eq_self, if_true, if_false, true_and, false_and, and_true, and_false, not_true, not_false_iff, true_or, or_true, false_or, or_false, ne_eq, not_true_eq_false, not_false_eq_true]
      rfl
    | succ n ih =>
      intro m hm
      rw [b166_2]
      simp only [n8 (show m < 8 by omega), i10, i01, eq_self, if_true, if_false, true_and, false_and, and_true, and_false, not_true, not_false_iff, true_or, or_true, false_or, or_false, ne_eq, not_true_eq_false, not_false_eq_true, (fun d => m_who d hM (show m < 8 by omega)), Option.bind_some, Option.toList_some, Option.toList_none, List.cons_append, List.nil_append, i01a, i01b, if_true, if_false, b166_13, nI_s]
      rw [lp]
      by_cases k : ω 9 m = x
      · simp only [eq_true k, i10, i01, eq_self, if_true, if_false, true_and, false_and, and_true, and_false, not_true, not_false_iff, true_or, or_true, false_or, or_false, ne_eq, not_true_eq_false, not_false_eq_true]
        rw [if_pos (show plB ω x m = true from decide_eq_true k)]
      · simp only [eq_false k, i10, i01, eq_self, if_true, if_false, true_and, false_and, and_true, and_false, not_true, not_false_iff, true_or, or_true, false_or, or_false, ne_eq, not_true_eq_false, not_false_eq_true]
        rw [if_neg (by unfold plB; rw [decide_eq_false k]; decide)]
        exact ih (m + 1) (by omega)
  exact main 8 0 rfl
theorem lp_none {P : Nat → Bool} : ∀ n m, m + n < 2 ^ 31 → lp P m n = -1 → ∀ q, m ≤ q → q < m + n → P q = false := by
  intro n
  induction n with
  | zero => intro m _ _ q h1 h2; omega
  | succ n ih =>
    intro m hm h q h1 h2
    rw [lp] at h
    by_cases k : P m = true
    · rw [if_pos k] at h
      have := congrArg Int32.toInt h
      rw [nI_i (by omega)] at this
      have h2 : (-1 : Int32).toInt = -1 := rfl
      omega
    · rw [if_neg k] at h
      by_cases e : q = m
      · subst e; simpa using k
      · exact ih (m + 1) (by omega) h q (by omega) (by omega)
theorem pl_none {ω : Sig} {x : Int32} (h : plS ω x = -1) {q : Nat} (hq : q < 8) : ω 9 q ≠ x := of_decide_eq_false (lp_none 8 0 (by omega) h q (by omega) (by omega))
theorem WI_put {B T : LW} {ω : Sig} (hW : WI B T ω) {p b : Nat} (hp : p < np ω) (hb : b < sz ω) (hn : ∀ q, q < 8 → q ≠ p → ω 9 q ≠ nI b) : WI B T (pt ω 9 p (nI b)) := by
  have n8' := (WI_np hW).2.1
  have s8 : wi B T ω 5 := hW 5
  have s8' := s8.2
  have nm : nI b ≠ -1 := fun e => by
    have := congrArg Int32.toInt e
    rw [nI_i (by omega)] at this
    have h2 : (-1 : Int32).toInt = -1 := rfl
    omega
  have eN : np (pt ω 9 p (nI b)) = np ω := by unfold np pr; rw [pt_q (by decide)]
  have eS : sz (pt ω 9 p (nI b)) = sz ω := by unfold sz; rw [pt_q (by decide)]
  intro i
  have h := hW i
  match i, h with
  | 0, h => (simp only [wi, np, pr, sz, wl, paced] at h ⊢; (try simp (disch := decide) only [pt_q]); first | done | exact h)
  | 1, h => (simp only [wi, np, pr, sz, wl, paced] at h ⊢; (try simp (disch := decide) only [pt_q]); first | done | exact h)
  | 2, h => (simp only [wi, np, pr, sz, wl, paced] at h ⊢; (try simp (disch := decide) only [pt_q]); first | done | exact h)
  | 3, h => (simp only [wi, np, pr, sz, wl, paced] at h ⊢; (try simp (disch := decide) only [pt_q]); first | done | exact h)
  | 4, h => (simp only [wi, np, pr, sz, wl, paced] at h ⊢; (try simp (disch := decide) only [pt_q]); first | done | exact h)
  | 5, h => (simp only [wi, np, pr, sz, wl, paced] at h ⊢; (try simp (disch := decide) only [pt_q]); first | done | exact h)
  | 6, h => (show ∀ q, q < 8 → pt ω 9 p (nI b) 9 q = -1 ∨ (q < np (pt ω 9 p (nI b)) ∧ ∃ b', b' < sz (pt ω 9 p (nI b)) ∧ pt ω 9 p (nI b) 9 q = nI b'); intro q hq; rw [eN, eS]; by_cases e : q = p; (subst e; exact Or.inr ⟨hp, b, hb, pt_e⟩); (rw [pt_k e]; exact h q hq))
  | 7, h => (show ∀ q r, q < 8 → r < 8 → pt ω 9 p (nI b) 9 q = pt ω 9 p (nI b) 9 r → pt ω 9 p (nI b) 9 q ≠ -1 → q = r; intro q r hq hr; by_cases e1 : q = p; (by_cases e2 : r = p; (intro _ _; omega); (subst e1; rw [pt_e, pt_k e2]; intro a _; exact absurd a.symm (hn r hr e2))); (by_cases e2 : r = p; (subst e2; rw [pt_k e1, pt_e]; intro a _; exact absurd a (hn q hq e1)); (rw [pt_k e1, pt_k e2]; exact h q r hq hr)))
  | 8, h => (simp only [wi, np, pr, sz, wl, paced] at h ⊢; (try simp (disch := decide) only [pt_q]); first | done | exact h)
  | 9, h => (simp only [wi, np, pr, sz, wl, paced] at h ⊢; (try simp (disch := decide) only [pt_q]); first | done | exact h)
  | 10, h => (simp only [wi, np, pr, sz, wl, paced] at h ⊢; (try simp (disch := decide) only [pt_q]); first | done | exact h)
  | 11, h => (simp only [wi, np, pr, sz, wl, paced] at h ⊢; (try simp (disch := decide) only [pt_q]); first | done | exact h)
  | 12, h => (simp only [wi, np, pr, sz, wl, paced] at h ⊢; (try simp (disch := decide) only [pt_q]); first | done | exact h)
  | 13, h => (simp only [wi, np, pr, sz, wl, paced] at h ⊢; (try simp (disch := decide) only [pt_q]); first | done | exact h)
  | 14, h => (simp only [wi, np, pr, sz, wl, paced] at h ⊢; (try simp (disch := decide) only [pt_q]); first | done | exact h)
  | 15, h => (simp only [wi, np, pr, sz, wl, paced] at h ⊢; (try simp (disch := decide) only [pt_q]); first | done | exact h)
  | 16, h => (simp only [wi, np, pr, sz, wl, paced] at h ⊢; (try simp (disch := decide) only [pt_q]); first | done | exact h)
  | 17, h => (simp only [wi, np, pr, sz, wl, paced] at h ⊢; (try simp (disch := decide) only [pt_q]); first | done | exact h)
  | 18, h => (simp only [wi, np, pr, sz, wl, paced] at h ⊢; (try simp (disch := decide) only [pt_q]); first | done | exact h)
  | 19, h => (simp only [wi, np, pr, sz, wl, paced] at h ⊢; (try simp (disch := decide) only [pt_q]); first | done | exact h)
  | 20, h => (simp only [wi, np, pr, sz, wl, paced] at h ⊢; (try simp (disch := decide) only [pt_q]); first | done | exact h)
  | 21, h => (simp only [wi, np, pr, sz, wl, paced] at h ⊢; (try simp (disch := decide) only [pt_q]); first | done | exact h)
  | 22, h => (simp only [wi, np, pr, sz, wl, paced] at h ⊢; (try simp (disch := decide) only [pt_q]); first | done | exact h)
  | _ + 23, _ => trivial
theorem MR_who {B T : LW} {ω σ : Sig} (hM : MR B T ω σ) {p : Nat} (hp : p < 8) (v : Int32) : MR B T (pt ω 9 p v) (pt σ 113 (7 + p) (v + 1)) := by
  have k : ∀ k, k < 7 ∨ 15 ≤ k → pt σ 113 (7 + p) (v + 1) 113 k = σ 113 k := fun k hk => pt_k (by omega)
  intro i
  have h := hM i
  match i, h with
  | 0, h => (simp only [mr] at h ⊢; (try simp (disch := decide) only [pt_q, k 0 (by omega), k 1 (by omega), k 2 (by omega), k 3 (by omega), k 4 (by omega), k 5 (by omega), k 6 (by omega), wl, paced]); first | done | exact h)
  | 1, h => (simp only [mr] at h ⊢; (try simp (disch := decide) only [pt_q, k 0 (by omega), k 1 (by omega), k 2 (by omega), k 3 (by omega), k 4 (by omega), k 5 (by omega), k 6 (by omega), wl, paced]); first | done | exact h)
  | 2, h => (simp only [mr] at h ⊢; (try simp (disch := decide) only [pt_q, k 0 (by omega), k 1 (by omega), k 2 (by omega), k 3 (by omega), k 4 (by omega), k 5 (by omega), k 6 (by omega), wl, paced]); first | done | exact h)
  | 3, h => (simp only [mr] at h ⊢; (try simp (disch := decide) only [pt_q, k 0 (by omega), k 1 (by omega), k 2 (by omega), k 3 (by omega), k 4 (by omega), k 5 (by omega), k 6 (by omega), wl, paced]); first | done | exact h)
  | 4, h => (simp only [mr] at h ⊢; (try simp (disch := decide) only [pt_q, k 0 (by omega), k 1 (by omega), k 2 (by omega), k 3 (by omega), k 4 (by omega), k 5 (by omega), k 6 (by omega), wl, paced]); first | done | exact h)
  | 5, h => (simp only [mr] at h ⊢; (try simp (disch := decide) only [pt_q, k 0 (by omega), k 1 (by omega), k 2 (by omega), k 3 (by omega), k 4 (by omega), k 5 (by omega), k 6 (by omega), wl, paced]); first | done | exact h)
  | 6, h => (simp only [mr] at h ⊢; (try simp (disch := decide) only [pt_q, k 0 (by omega), k 1 (by omega), k 2 (by omega), k 3 (by omega), k 4 (by omega), k 5 (by omega), k 6 (by omega), wl, paced]); first | done | exact h)
  | 7, h => (simp only [mr] at h ⊢; (try simp (disch := decide) only [pt_q, k 0 (by omega), k 1 (by omega), k 2 (by omega), k 3 (by omega), k 4 (by omega), k 5 (by omega), k 6 (by omega), wl, paced]); first | done | exact h)
  | 8, h => (simp only [mr] at h ⊢; (try simp (disch := decide) only [pt_q, k 0 (by omega), k 1 (by omega), k 2 (by omega), k 3 (by omega), k 4 (by omega), k 5 (by omega), k 6 (by omega), wl, paced]); first | done | exact h)
  | 9, h => (simp only [mr] at h ⊢; (try simp (disch := decide) only [pt_q, k 0 (by omega), k 1 (by omega), k 2 (by omega), k 3 (by omega), k 4 (by omega), k 5 (by omega), k 6 (by omega), wl, paced]); first | done | exact h)
  | 10, h => (simp only [mr] at h ⊢; (try simp (disch := decide) only [pt_q, k 0 (by omega), k 1 (by omega), k 2 (by omega), k 3 (by omega), k 4 (by omega), k 5 (by omega), k 6 (by omega), wl, paced]); first | done | exact h)
  | 11, h => (simp only [mr] at h ⊢; (try simp (disch := decide) only [pt_q, k 0 (by omega), k 1 (by omega), k 2 (by omega), k 3 (by omega), k 4 (by omega), k 5 (by omega), k 6 (by omega), wl, paced]); first | done | exact h)
  | 12, h => (simp only [mr] at h ⊢; (try simp (disch := decide) only [pt_q, k 0 (by omega), k 1 (by omega), k 2 (by omega), k 3 (by omega), k 4 (by omega), k 5 (by omega), k 6 (by omega), wl, paced]); first | done | exact h)
  | 13, h => (simp only [mr] at h ⊢; (try simp (disch := decide) only [pt_q, k 0 (by omega), k 1 (by omega), k 2 (by omega), k 3 (by omega), k 4 (by omega), k 5 (by omega), k 6 (by omega), wl, paced]); first | done | exact h)
  | 14, h => (intro q hq; by_cases e : q = p; (subst e; rw [pt_e, pt_e]); (rw [pt_k (by omega), pt_k e]; exact h q hq))
  | 15, h => (intro q hq; rw [k (15 + q) (by omega), pt_q (by decide)]; exact h q hq)
  | 16, h => (intro q hq; rw [k (23 + q) (by omega), pt_q (by decide)]; exact h q hq)
  | 17, h => (simp only [mr] at h ⊢; (try simp (disch := decide) only [pt_q, k 0 (by omega), k 1 (by omega), k 2 (by omega), k 3 (by omega), k 4 (by omega), k 5 (by omega), k 6 (by omega), wl, paced]); first | done | exact h)
  | 18, h => (simp only [mr] at h ⊢; (try simp (disch := decide) only [pt_q, k 0 (by omega), k 1 (by omega), k 2 (by omega), k 3 (by omega), k 4 (by omega), k 5 (by omega), k 6 (by omega), wl, paced]); first | done | exact h)
  | 19, h => (simp only [mr] at h ⊢; (try simp (disch := decide) only [pt_q, k 0 (by omega), k 1 (by omega), k 2 (by omega), k 3 (by omega), k 4 (by omega), k 5 (by omega), k 6 (by omega), wl, paced]); first | done | exact h)
  | 20, h => (simp only [mr] at h ⊢; (try simp (disch := decide) only [pt_q, k 0 (by omega), k 1 (by omega), k 2 (by omega), k 3 (by omega), k 4 (by omega), k 5 (by omega), k 6 (by omega), wl, paced]); first | done | exact h)
  | 21, h => (simp only [mr] at h ⊢; (try simp (disch := decide) only [pt_q, k 0 (by omega), k 1 (by omega), k 2 (by omega), k 3 (by omega), k 4 (by omega), k 5 (by omega), k 6 (by omega), wl, paced]); first | done | exact h)
  | 22, h => (simp only [mr] at h ⊢; (try simp (disch := decide) only [pt_q, k 0 (by omega), k 1 (by omega), k 2 (by omega), k 3 (by omega), k 4 (by omega), k 5 (by omega), k 6 (by omega), wl, paced]); first | done | exact h)
  | 23, h => (simp only [mr] at h ⊢; (try simp (disch := decide) only [pt_q, k 0 (by omega), k 1 (by omega), k 2 (by omega), k 3 (by omega), k 4 (by omega), k 5 (by omega), k 6 (by omega), wl, paced]); first | done | exact h)
  | 24, h => (simp only [mr] at h ⊢; (try simp (disch := decide) only [pt_q, k 0 (by omega), k 1 (by omega), k 2 (by omega), k 3 (by omega), k 4 (by omega), k 5 (by omega), k 6 (by omega), wl, paced]); first | done | exact h)
  | 25, h => (simp only [mr] at h ⊢; (try simp (disch := decide) only [pt_q, k 0 (by omega), k 1 (by omega), k 2 (by omega), k 3 (by omega), k 4 (by omega), k 5 (by omega), k 6 (by omega), wl, paced]); first | done | exact h)
  | 26, h => (simp only [mr] at h ⊢; (try simp (disch := decide) only [pt_q, k 0 (by omega), k 1 (by omega), k 2 (by omega), k 3 (by omega), k 4 (by omega), k 5 (by omega), k 6 (by omega), wl, paced]); first | done | exact h)
  | 27, h => (simp only [mr] at h ⊢; (try simp (disch := decide) only [pt_q, k 0 (by omega), k 1 (by omega), k 2 (by omega), k 3 (by omega), k 4 (by omega), k 5 (by omega), k 6 (by omega), wl, paced]); first | done | exact h)
  | 28, h => (simp only [mr] at h ⊢; (try simp (disch := decide) only [pt_q, k 0 (by omega), k 1 (by omega), k 2 (by omega), k 3 (by omega), k 4 (by omega), k 5 (by omega), k 6 (by omega), wl, paced]); first | done | exact h)
  | 29, h => (simp only [mr] at h ⊢; (try simp (disch := decide) only [pt_q, k 0 (by omega), k 1 (by omega), k 2 (by omega), k 3 (by omega), k 4 (by omega), k 5 (by omega), k 6 (by omega), wl, paced]); first | done | exact h)
  | 30, h => (simp only [mr] at h ⊢; (try simp (disch := decide) only [pt_q, k 0 (by omega), k 1 (by omega), k 2 (by omega), k 3 (by omega), k 4 (by omega), k 5 (by omega), k 6 (by omega), wl, paced]); first | done | exact h)
  | _ + 31, _ => trivial
noncomputable def hfN (B T : LW) (ω : Sig) (p b : Nat) : Nat := farN B T 0 2000 (pt ω 9 p (nI b))
noncomputable def hp0 (B T : LW) (ω : Sig) (p b : Nat) (st : Nat × Nat) : Nat × Nat := if ω 9 p ≠ -1 ∧ plS ω (nI b) = -1 ∧ st.2 < hfN B T ω p b then (8 * p + b + 1, hfN B T ω p b) else st
noncomputable def hp1 (B T : LW) (ω : Sig) (p n : Nat) (st : Nat × Nat) : Nat × Nat := fo (fun b st => hp0 B T ω p b st) n st
noncomputable def hp2 (B T : LW) (ω : Sig) (n : Nat) : Nat × Nat := fo (fun p st => hp1 B T ω p (sz ω) st) n (0, farN B T 0 2000 ω)
noncomputable def hpS (B T : LW) (ω : Sig) : Nat × Nat := hp2 B T ω (np ω)
def hpA (st : Nat × Nat) : Int32 := if st.1 = 0 then -1 else nI ((st.1 - 1) / 8)
def hpB (st : Nat × Nat) : Int32 := if st.1 = 0 then -1 else nI ((st.1 - 1) % 8)
def hpM (st : Nat × Nat) : Int32 := if st.1 = 0 then -1 else nI (st.1 - 1)
noncomputable def helpA (B T : LW) (ω : Sig) (a : Int32) : Int32 := if 0 ≤ a ∧ a ≤ 2 then (if (hpS B T ω).1 = 0 then -1 else if a = 0 then hpA (hpS B T ω) else if a = 1 then hpB (hpS B T ω) else nI (hpS B T ω).2) else -1
theorem hfN_le {B T : LW} {ω : Sig} {p b : Nat} : hfN B T ω p b ≤ 2000 := farN_le 2000 _
theorem hp1_b {B T : LW} {ω : Sig} {p : Nat} (hp : p < 8) {st : Nat × Nat} (h : st.2 ≤ 2000 ∧ st.1 ≤ 64) : ∀ n, n ≤ 8 → (hp1 B T ω p n st).2 ≤ 2000 ∧ (hp1 B T ω p n st).1 ≤ 64 := by
  intro n
  induction n with
  | zero => intro _; exact h
  | succ n ih =>
    intro hn
    have a := ih (by omega)
    show (hp0 B T ω p n (hp1 B T ω p n st)).2 ≤ 2000 ∧ (hp0 B T ω p n (hp1 B T ω p n st)).1 ≤ 64
    unfold hp0
    split
    · exact ⟨hfN_le, by dsimp only; omega⟩
    · exact a
theorem hp2_b {B T : LW} {ω : Sig} (h8 : sz ω ≤ 8) : ∀ n, n ≤ 8 → (hp2 B T ω n).2 ≤ 2000 ∧ (hp2 B T ω n).1 ≤ 64 := by
  intro n
  induction n with
  | zero => intro _; exact ⟨farN_le 2000 ω, Nat.zero_le _⟩
  | succ n ih => intro hn; exact hp1_b (by omega) (ih (by omega)) (sz ω) h8
theorem hp1_n {B T : LW} {ω : Sig} {p : Nat} (h : ω 9 p = -1) {st : Nat × Nat} : ∀ n, hp1 B T ω p n st = st := by
  intro n
  induction n with
  | zero => rfl
  | succ n ih =>
    show hp0 B T ω p n (hp1 B T ω p n st) = st
    rw [ih]; unfold hp0; rw [if_neg (fun e => e.1 h)]
def SLH : List (Nat × Nat) := [(67, 2), (67, 3), (74, 0), (74, 1), (74, 2), (74, 6)]
theorem c_findHelp (d : Nat) {B T : LW} {σ : Sig} (hW : WI B T σ) (h0 : σ 67 8 = 0) : ∃ σ', Ex (d + 6) 86 0 [.ref 74, .null, .null, .null, .null, .null] [] G0 σ = some (none, G0, σ') ∧ Wb σ σ' ∧ Fr SCW SLH σ σ' ∧ σ' 74 0 = hpA (hpS B T σ) ∧ σ' 74 1 = hpB (hpS B T σ) ∧ σ' 74 2 = nI (hpS B T σ).2 := by
  obtain ⟨_, n8', en⟩ := WI_np hW
  obtain ⟨e2, s8⟩ : wi B T σ 5 := hW 5
  generalize hσ0 : pt (pt σ 74 0 (-1)) 74 1 (-1) = σ0
  have f0 : Fr [] [(74, 0), (74, 1)] σ σ0 := by rw [← hσ0]; exact Fr_p (Fr_p Fr_r (Or.inr (by simp))) (Or.inr (by simp))
  have w0 : Wq σ σ0 := Wq_fr Wq_r f0 (by simp) (by simp)
  have wb0 : Wb σ σ0 := ⟨fun q h1 h2 h3 h4 h5 => w0 q h1 h2 h3 h4, fun i _ => by rw [w0 26 (by omega) (by omega) (by omega) (by omega)]⟩
  obtain ⟨σ1, e1, w1, f1⟩ := c_farOn d (Wq_WI w0 hW) bw0 (by rw [f0 67 8 (by simp) (by simp)]; exact h0)
  rw [farN_c 2000 (Wb_C wb0)] at e1
  simp only [b86_0, hσ0, e1, Option.bind_some, Option.toList_some, Option.toList_none, List.cons_append, List.nil_append, i01a, i01b, if_true, if_false, b86_16]
  have wb1 := Wb_t wb0 w1
  have g1 : Fr SCW SLH σ (pt σ1 74 2 (nI (farN B T 0 2000 σ))) := Fr_p (Fr_t (Fr_m f0 (by simp) (by decide)) (Fr_m f1 (fun _ h => h) (by decide))) (Or.inr (by decide))
  have wb_nw : ∀ (σ2 : Sig) (q k : Nat) (v : Int32), 27 ≤ q → Wb σ σ2 → Wb σ (pt σ2 q k v) := fun σ2 q k v hq w => ⟨fun r h1 h2 h3 h4 h5 => by rw [pt_q (by omega)]; exact w.1 r h1 h2 h3 h4 h5, fun i hi => by rw [pt_q (by omega)]; exact w.2 i hi⟩
  have q8 : ∀ p, p < np σ → (nI (np σ) ≤ nI p) = False := fun p hp => by rw [nJ_le (by omega) (by omega)]; exact eq_false (by omega)
  have q8' : (nI (np σ) ≤ nI (np σ)) = True := by rw [nJ_le (by omega) (by omega)]; exact eq_true (Nat.le_refl _)
  have enx : ∀ σ2, Wb σ σ2 → 2 * σ2 8 0 = nI (np σ) := fun σ2 w => by rw [w.1 8 (by omega) (by omega) (by omega) (by omega) (by omega)]; exact en
  obtain ⟨⟨σ2, v3, v4, v5⟩, e3, i1, i2, i3, i4, i5⟩ := loop_ex (fun p (x : Sig × Value × Value × Value) => Ex (d + 6) 86 32 [.ref 74, .ref 9, .int (nI p), x.2.1, x.2.2.1, x.2.2.2] [] G0 (x.1))
    (fun p x => Wb σ x.1 ∧ Fr SCW SLH σ x.1 ∧ x.1 74 0 = hpA (hp2 B T σ p) ∧ x.1 74 1 = hpB (hp2 B T σ p) ∧ x.1 74 2 = nI (hp2 B T σ p).2) (np σ) (pt σ1 74 2 (nI (farN B T 0 2000 σ)), .null, .null, .null)
    ⟨wb_nw _ _ _ _ (by omega) wb1, g1, by dsimp only; rw [pt_k (by decide), f1 74 0 (by decide) (by decide), ← hσ0, pt_k (by decide), pt_e]; rfl, by dsimp only; rw [pt_k (by decide), f1 74 1 (by decide) (by decide), ← hσ0, pt_e]; rfl, by dsimp only; rw [pt_e]; rfl⟩ (by
    intro p ⟨σ2, v3, v4, v5⟩ hp ⟨i1, i2, i3, i4, i5⟩
    dsimp only at i1 i2 i3 i4 i5
    have hp8 : p < 8 := by omega
    have hst := hp2_b (B := B) (T := T) s8 p (by omega)
    show ∃ a', Ex (d + 6) 86 32 [.ref 74, .ref 9, .int (nI p), v3, v4, v5] [] G0 σ2 = _ ∧ _
    rw [b86_32]
    have e9 : σ2 9 = σ 9 := i1.1 9 (by omega) (by omega) (by omega) (by omega) (by omega)
    simp only [c_count, enx σ2 i1, Option.bind_some, Option.toList_some, Option.toList_none, List.cons_append, List.nil_append, i01a, i01b, if_true, if_false, b86_43, q8 p hp, i10, i01, eq_self, if_true, if_false, true_and, false_and, and_true, and_false, not_true, not_false_iff, true_or, or_true, false_or, or_false, ne_eq, not_true_eq_false, not_false_eq_true, i8 hp8, c8 hp8, e9]
    have hs2 : hp2 B T σ (p + 1) = hp1 B T σ p (sz σ) (hp2 B T σ p) := rfl
    rw [hs2]
    generalize hp2 B T σ p = st at *
    by_cases own : σ 9 p = -1
    · rw [b86_53, hp1_n own]
      simp only [own, i10, i01, eq_self, if_true, if_false, true_and, false_and, and_true, and_false, not_true, not_false_iff, true_or, or_true, false_or, or_false, ne_eq, not_true_eq_false, not_false_eq_true, nI_s]
      refine ⟨(σ2, .int (-1), .int 0, v5), ?_, i1, i2, i3, i4, i5⟩
      split <;> rfl
    · obtain ⟨⟨σ3, w5⟩, e4, j1, j2, j3, j4, j5⟩ := loop_ex (fun b (x : Sig × Value) => Ex (d + 6) 86 53 [.ref 74, .ref 9, .int (nI p), .int (σ 9 p), .int (nI b), x.2] [] G0 (x.1))
        (fun b x => Wb σ x.1 ∧ Fr SCW SLH σ x.1 ∧ x.1 74 0 = hpA (hp1 B T σ p b st) ∧ x.1 74 1 = hpB (hp1 B T σ p b st) ∧ x.1 74 2 = nI (hp1 B T σ p b st).2) (sz σ) (σ2, v5) ⟨i1, i2, i3, i4, i5⟩ (by
        intro b ⟨σ3, w5⟩ hb ⟨j1, j2, j3, j4, j5⟩
        dsimp only at j1 j2 j3 j4 j5
        have hb1 := hp1_b (B := B) (T := T) (ω := σ) hp8 hst b (by omega)
        have hs1 : hp1 B T σ p (b + 1) st = hp0 B T σ p b (hp1 B T σ p b st) := rfl
        rw [hs1]
        generalize hp1 B T σ p b st = tt at *
        show ∃ a', Ex (d + 6) 86 53 [.ref 74, .ref 9, .int (nI p), .int (σ 9 p), .int (nI b), w5] [] G0 σ3 = _ ∧ _
        rw [b86_53]
        have qs : (σ3 2 0 ≤ nI b) = False := by
          rw [j1.1 2 (by omega) (by omega) (by omega) (by omega) (by omega), e2, nJ_le (by omega) (by omega)]; exact eq_false (by omega)
        have nm : nI b ≠ -1 := fun e => by
          have := congrArg Int32.toInt e
          rw [nI_i (by omega)] at this
          have h2 : (-1 : Int32).toInt = -1 := rfl
          omega
        have hW3 : WI B T σ3 := WI_wb hW j1
        have epl : plS σ3 (nI b) = plS σ (nI b) := by unfold plS plB; rw [j1.1 9 (by omega) (by omega) (by omega) (by omega) (by omega)]
        simp only [qs, eq_false own, i10, i01, eq_self, if_true, if_false, true_and, false_and, and_true, and_false, not_true, not_false_iff, true_or, or_true, false_or, or_false, ne_eq, not_true_eq_false, not_false_eq_true, c_placeOf (d + 5) hW3 nm, epl, Option.bind_some, Option.toList_some, Option.toList_none, List.cons_append, List.nil_append, i01a, i01b, if_true, if_false, b86_85, i8 hp8, c8 hp8, nI_s]
        by_cases pn : plS σ (nI b) = -1
        · have w9 : Wb (pt σ 9 p (nI b)) (pt σ3 9 p (nI b)) := Wb_pt j1 (by decide) (by decide)
          have hW9 : WI B T (pt σ3 9 p (nI b)) := WI_wb (WI_put hW hp hb (fun q hq _ => pl_none pn hq)) w9
          have f9 : Fr SCW SLH σ (pt σ3 9 p (nI b)) := Fr_p j2 (Or.inl (by decide))
          obtain ⟨σ4, e4, w4, f4⟩ := c_farOn d hW9 bw0 (by rw [f9 67 8 (by decide) (by decide)]; exact h0)
          rw [farN_c 2000 (Wb_C w9)] at e4
          have f4' : Fr SCW SLH σ (pt σ4 9 p (σ 9 p)) := Fr_p (Fr_t f9 (Fr_m f4 (fun _ h => h) (by decide))) (Or.inl (by decide))
          have w4' : Wb σ (pt σ4 9 p (σ 9 p)) := by
            have := Wb_pt (q := 9) (k := p) (v := σ 9 p) (Wb_t w9 w4) (by decide) (by decide)
            rw [pt_pt, pt_self] at this; exact this
          have r74 : ∀ k, k ∈ [0, 1, 2] → σ4 74 k = σ3 74 k := fun k hk => by
            rw [f4 74 k (by decide) (by revert hk; unfold SLC; simp; omega), pt_q (by decide)]
          have e4' : Ex (d + 5) 81 0 [.ref 74, .int 0, .null] [] G0 (pt σ3 9 p (nI b)) = some (some (.int (nI (hfN B T σ p b))), G0, σ4) := e4
          have hle := hfN_le (B := B) (T := T) (ω := σ) (p := p) (b := b)
          simp only [eq_true pn, i10, i01, eq_self, if_true, if_false, true_and, false_and, and_true, and_false, not_true, not_false_iff, true_or, or_true, false_or, or_false, ne_eq, not_true_eq_false, not_false_eq_true, e4', Option.bind_some, Option.toList_some, Option.toList_none, List.cons_append, List.nil_append, i01a, i01b, if_true, if_false, b86_102, i8 hp8, c8 hp8, pt_q (show (74 : Nat) ≠ 9 by decide), r74 2 (by simp), j5, nJ_le (show hfN B T σ p b < 2 ^ 31 by omega) (show tt.2 < 2 ^ 31 by omega), nI_s]
          by_cases lt : tt.2 < hfN B T σ p b
          · have hh : hp0 B T σ p b tt = (8 * p + b + 1, hfN B T σ p b) := by unfold hp0; rw [if_pos ⟨own, pn, lt⟩]
            have nl : ¬ hfN B T σ p b ≤ tt.2 := by omega
            rw [hh]
            simp only [eq_false nl, i10, i01, eq_self, if_true, if_false, true_and, false_and, and_true, and_false, not_true, not_false_iff, true_or, or_true, false_or, or_false, ne_eq, not_true_eq_false, not_false_eq_true]
            refine ⟨(pt (pt (pt (pt σ4 9 p (σ 9 p)) 74 0 (nI p)) 74 1 (nI b)) 74 2 (nI (hfN B T σ p b)), _), rfl, ?_, ?_, ?_, ?_, ?_⟩
            · exact wb_nw _ _ _ _ (by omega) (wb_nw _ _ _ _ (by omega) (wb_nw _ _ _ _ (by omega) w4'))
            · exact Fr_p (Fr_p (Fr_p f4' (Or.inr (by decide))) (Or.inr (by decide))) (Or.inr (by decide))
            · dsimp only; rw [pt_k (by decide), pt_k (by decide), pt_e]; unfold hpA; dsimp only; rw [if_neg (by omega), show (8 * p + b + 1 - 1) / 8 = p by omega]
            · dsimp only; rw [pt_k (by decide), pt_e]; unfold hpB; dsimp only; rw [if_neg (by omega), show (8 * p + b + 1 - 1) % 8 = b by omega]
            · dsimp only; rw [pt_e]
          · have hh : hp0 B T σ p b tt = tt := by unfold hp0; rw [if_neg (fun e => lt e.2.2)]
            have nl : hfN B T σ p b ≤ tt.2 := by omega
            rw [hh]
            simp only [eq_true nl, i10, i01, eq_self, if_true, if_false, true_and, false_and, and_true, and_false, not_true, not_false_iff, true_or, or_true, false_or, or_false, ne_eq, not_true_eq_false, not_false_eq_true]
            refine ⟨(pt σ4 9 p (σ 9 p), _), rfl, w4', f4', ?_, ?_, ?_⟩
            · dsimp only; rw [pt_q (by decide), r74 0 (by simp)]; exact j3
            · dsimp only; rw [pt_q (by decide), r74 1 (by simp)]; exact j4
            · dsimp only; rw [pt_q (by decide), r74 2 (by simp)]; exact j5
        · have hh : hp0 B T σ p b tt = tt := by unfold hp0; rw [if_neg (fun e => pn e.2.1)]
          rw [hh]
          simp only [eq_false pn, i10, i01, eq_self, if_true, if_false, true_and, false_and, and_true, and_false, not_true, not_false_iff, true_or, or_true, false_or, or_false, ne_eq, not_true_eq_false, not_false_eq_true]
          exact ⟨(σ3, w5), rfl, j1, j2, j3, j4, j5⟩)
      dsimp only at j1 j2 j3 j4 j5
      refine ⟨(σ3, .int (σ 9 p), .int (nI (sz σ)), w5), ?_, j1, j2, j3, j4, j5⟩
      refine (e4 : Ex (d + 6) 86 53 [.ref 74, .ref 9, .int (nI p), .int (σ 9 p), .int 0, v5] [] G0 σ2 = _).trans ?_
      show Ex (d + 6) 86 53 [.ref 74, .ref 9, .int (nI p), .int (σ 9 p), .int (nI (sz σ)), w5] [] G0 σ3 = _
      rw [b86_53]
      have qs : (σ3 2 0 ≤ nI (sz σ)) = True := by
        rw [j1.1 2 (by omega) (by omega) (by omega) (by omega) (by omega), e2, nJ_le (by omega) (by omega)]; exact eq_true (Nat.le_refl _)
      simp only [qs, i10, i01, eq_self, if_true, if_false, true_and, false_and, and_true, and_false, not_true, not_false_iff, true_or, or_true, false_or, or_false, ne_eq, not_true_eq_false, not_false_eq_true, nI_s])
  dsimp only at i1 i2 i3 i4 i5
  rw [show Ex (d + 6) 86 32 [.ref 74, .ref 9, .int 0, .null, .null, .null] [] G0 (pt σ1 74 2 (nI (farN B T 0 2000 σ))) = _ from e3]
  show ∃ σ', Ex (d + 6) 86 32 [.ref 74, .ref 9, .int (nI (np σ)), v3, v4, v5] [] G0 σ2 = _ ∧ _
  rw [b86_32]
  simp only [c_count, enx σ2 i1, Option.bind_some, Option.toList_some, Option.toList_none, List.cons_append, List.nil_append, i01a, i01b, if_true, if_false, b86_43, q8', i10, i01, eq_self, if_true, if_false, true_and, false_and, and_true, and_false, not_true, not_false_iff, true_or, or_true, false_or, or_false, ne_eq, not_true_eq_false, not_false_eq_true]
  exact ⟨σ2, rfl, i1, i2, i3, i4, i5⟩
