/-! L3: far, line -/
theorem WI_wb {B T : LW} {ω σ : Sig} (hW : WI B T ω) (e : Wb ω σ) : WI B T σ := by
  have q : ∀ q, 1 ≤ q ∧ q ≤ 26 ∧ q ≠ 16 ∧ q ≠ 19 ∧ q ≠ 26 → σ q = ω q := fun q h => e.1 q h.1 h.2.1 h.2.2.1 h.2.2.2.1 h.2.2.2.2
  intro i
  have h := hW i
  match i, h with
  | 0, h => (simp only [wi, np, pr, sz, wl, paced] at h ⊢; (try simp (disch := decide) only [q]); first | done | exact h)
  | 1, h => (simp only [wi, np, pr, sz, wl, paced] at h ⊢; (try simp (disch := decide) only [q]); first | done | exact h)
  | 2, h => (simp only [wi, np, pr, sz, wl, paced] at h ⊢; (try simp (disch := decide) only [q]); first | done | exact h)
  | 3, h => (simp only [wi, np, pr, sz, wl, paced] at h ⊢; (try simp (disch := decide) only [q]); first | done | exact h)
  | 4, h => (simp only [wi, np, pr, sz, wl, paced] at h ⊢; (try simp (disch := decide) only [q]); first | done | exact h)
  | 5, h => (simp only [wi, np, pr, sz, wl, paced] at h ⊢; (try simp (disch := decide) only [q]); first | done | exact h)
  | 6, h => (simp only [wi, np, pr, sz, wl, paced] at h ⊢; (try simp (disch := decide) only [q]); first | done | exact h)
  | 7, h => (simp only [wi, np, pr, sz, wl, paced] at h ⊢; (try simp (disch := decide) only [q]); first | done | exact h)
  | 8, h => (simp only [wi, np, pr, sz, wl, paced] at h ⊢; (try simp (disch := decide) only [q]); first | done | exact h)
  | 9, h => (simp only [wi, np, pr, sz, wl, paced] at h ⊢; (try simp (disch := decide) only [q]); first | done | exact h)
  | 10, h => (simp only [wi, np, pr, sz, wl, paced] at h ⊢; (try simp (disch := decide) only [q]); first | done | exact h)
  | 11, h => (simp only [wi, np, pr, sz, wl, paced] at h ⊢; (try simp (disch := decide) only [q]); first | done | exact h)
  | 12, h => (simp only [wi, np, pr, sz, wl, paced] at h ⊢; (try simp (disch := decide) only [q]); first | done | exact h)
  | 13, h => (simp only [wi, np, pr, sz, wl, paced] at h ⊢; (try simp (disch := decide) only [q]); first | done | exact h)
  | 14, h => (simp only [wi, np, pr, sz, wl, paced] at h ⊢; (try simp (disch := decide) only [q]); first | done | exact h)
  | 15, h => (simp only [wi, np, pr, sz, wl, paced] at h ⊢; (try simp (disch := decide) only [q]); first | done | exact h)
  | 16, h => (simp only [wi, np, pr, sz, wl, paced] at h ⊢; (try simp (disch := decide) only [q]); first | done | exact h)
  | 17, h => (simp only [wi, np, pr, sz, wl, paced] at h ⊢; (try simp (disch := decide) only [q]); first | done | exact h)
  | 18, h => (simp only [wi, np, pr, sz, wl, paced] at h ⊢; (try simp (disch := decide) only [q]); first | done | exact h)
  | 19, h => (simp only [wi, np, pr, sz, wl, paced] at h ⊢; (try simp (disch := decide) only [q]); first | done | exact h)
  | 20, h => (simp only [wi, np, pr, sz, wl, paced] at h ⊢; (try simp (disch := decide) only [q]); first | done | exact h)
  | 21, h => (simp only [wi, np, pr, sz, wl, paced] at h ⊢; (try simp (disch := decide) only [q]); first | done | exact h)
  | 22, h => (simp only [wi, np, pr, sz, wl, paced] at h ⊢; (try simp (disch := decide) only [q]); first | done | exact h)
  | _ + 23, _ => trivial
theorem WI_11 {B T : LW} {ω : Sig} (hW : WI B T ω) {v : Int32} (hv : v = 0 ∨ v = 1) : WI B T (pt ω 1 1 v) := by
  intro i
  have h := hW i
  match i, h with
  | 0, h => (simp only [wi, np, pr, sz, wl, paced] at h ⊢; (try simp (disch := decide) only [pt_q, pt_k]); first | done | exact h)
  | 1, h => (show pt ω 1 1 v 1 1 = 0 ∨ pt ω 1 1 v 1 1 = 1; rw [pt_e]; exact hv)
  | 2, h => (simp only [wi, np, pr, sz, wl, paced] at h ⊢; (try simp (disch := decide) only [pt_q, pt_k]); first | done | exact h)
  | 3, h => (simp only [wi, np, pr, sz, wl, paced] at h ⊢; (try simp (disch := decide) only [pt_q, pt_k]); first | done | exact h)
  | 4, h => (simp only [wi, np, pr, sz, wl, paced] at h ⊢; (try simp (disch := decide) only [pt_q, pt_k]); first | done | exact h)
  | 5, h => (simp only [wi, np, pr, sz, wl, paced] at h ⊢; (try simp (disch := decide) only [pt_q, pt_k]); first | done | exact h)
  | 6, h => (simp only [wi, np, pr, sz, wl, paced] at h ⊢; (try simp (disch := decide) only [pt_q, pt_k]); first | done | exact h)
  | 7, h => (simp only [wi, np, pr, sz, wl, paced] at h ⊢; (try simp (disch := decide) only [pt_q, pt_k]); first | done | exact h)
  | 8, h => (simp only [wi, np, pr, sz, wl, paced] at h ⊢; (try simp (disch := decide) only [pt_q, pt_k]); first | done | exact h)
  | 9, h => (simp only [wi, np, pr, sz, wl, paced] at h ⊢; (try simp (disch := decide) only [pt_q, pt_k]); first | done | exact h)
  | 10, h => (simp only [wi, np, pr, sz, wl, paced] at h ⊢; (try simp (disch := decide) only [pt_q, pt_k]); first | done | exact h)
  | 11, h => (simp only [wi, np, pr, sz, wl, paced] at h ⊢; (try simp (disch := decide) only [pt_q, pt_k]); first | done | exact h)
  | 12, h => (simp only [wi, np, pr, sz, wl, paced] at h ⊢; (try simp (disch := decide) only [pt_q, pt_k]); first | done | exact h)
  | 13, h => (simp only [wi, np, pr, sz, wl, paced] at h ⊢; (try simp (disch := decide) only [pt_q, pt_k]); first | done | exact h)
  | 14, h => (simp only [wi, np, pr, sz, wl, paced] at h ⊢; (try simp (disch := decide) only [pt_q, pt_k]); first | done | exact h)
  | 15, h => (simp only [wi, np, pr, sz, wl, paced] at h ⊢; (try simp (disch := decide) only [pt_q, pt_k]); first | done | exact h)
  | 16, h => (simp only [wi, np, pr, sz, wl, paced] at h ⊢; (try simp (disch := decide) only [pt_q, pt_k]); first | done | exact h)
  | 17, h => (simp only [wi, np, pr, sz, wl, paced] at h ⊢; (try simp (disch := decide) only [pt_q, pt_k]); first | done | exact h)
  | 18, h => (simp only [wi, np, pr, sz, wl, paced] at h ⊢; (try simp (disch := decide) only [pt_q, pt_k]); first | done | exact h)
  | 19, h => (simp only [wi, np, pr, sz, wl, paced] at h ⊢; (try simp (disch := decide) only [pt_q, pt_k]); first | done | exact h)
  | 20, h => (simp only [wi, np, pr, sz, wl, paced] at h ⊢; (try simp (disch := decide) only [pt_q, pt_k]); first | done | exact h)
  | 21, h => (simp only [wi, np, pr, sz, wl, paced] at h ⊢; (try simp (disch := decide) only [pt_q, pt_k]); first | done | exact h)
  | 22, h => (simp only [wi, np, pr, sz, wl, paced] at h ⊢; (try simp (disch := decide) only [pt_q, pt_k]); first | done | exact h)
  | _ + 23, _ => trivial
theorem Wb_r {σ : Sig} : Wb σ σ := ⟨fun _ _ _ _ _ _ => rfl, fun _ _ => rfl⟩
theorem Wb_t {a b c : Sig} (h : Wb a b) (k : Wb b c) : Wb a c := by
  refine ⟨fun q h1 h2 h3 h4 h5 => (k.1 q h1 h2 h3 h4 h5).trans (h.1 q h1 h2 h3 h4 h5), fun i hi => ?_⟩
  rw [k.2 i (by rw [h.1 25 (by omega) (by omega) (by omega) (by omega) (by omega)]; exact hi)]; exact h.2 i hi
theorem Wb_pt {a b : Sig} {q k : Nat} {v : Int32} (h : Wb a b) (h25 : q ≠ 25) (h26 : q ≠ 26) : Wb (pt a q k v) (pt b q k v) := by
  refine ⟨fun r h1 h2 h3 h4 h5 => ?_, fun i hi => ?_⟩
  · funext j
    rw [pt_ap, pt_ap, h.1 r h1 h2 h3 h4 h5]
  · rw [pt_q (Ne.symm h26), pt_q (Ne.symm h26)]
    rw [pt_q (Ne.symm h25)] at hi
    exact h.2 i hi
theorem Wb_C {a b : Sig} (h : Wb a b) : Cq a b := by
  have e := h.1 1 (by omega) (by omega) (by omega) (by omega) (by omega)
  exact ⟨by rw [e], by rw [e], by rw [e], by rw [e], fun q h1 h2 => h.1 q (by omega) (by omega) (by omega) (by omega) (by omega)⟩
def farA (B T : LW) (ω : Sig) (a : Int32) : Int32 := if -9 ≤ a ∧ a ≤ 9 then nI (farN B T a 2000 ω) else -1
theorem c_far (d : Nat) {B T : LW} {σ : Sig} (a : Int32) (hW : WI B T σ) (h0 : σ 67 8 = 0) : ∃ σ', Ex (d + 6) 117 0 [.ref 0, .int a] [] G0 σ = some (some (.int (farA B T σ a)), G0, σ') ∧ Wb σ σ' ∧ Fr SCW SLC σ σ' := by
  simp only [b117_0, c_isSlope, Option.bind_some, Option.toList_some, Option.toList_none, List.cons_append, List.nil_append, i01a, i01b, if_true, if_false, b117_4, bI_z, bI_o, bI_em, ite_not]
  unfold farA
  by_cases h : -9 ≤ a ∧ a ≤ 9
  · obtain ⟨σ', e, w, f⟩ := c_farOn d hW (bw_of h) h0
    simp only [h, i10, i01, eq_self, if_true, if_false, true_and, false_and, and_true, and_false, not_true, not_false_iff, true_or, or_true, false_or, or_false, ne_eq, not_true_eq_false, not_false_eq_true, e, Option.bind_some, Option.toList_some, Option.toList_none, List.cons_append, List.nil_append, i01a, i01b, if_true, if_false, b117_15]
    exact ⟨σ', rfl, w, f⟩
  · simp only [h, i10, i01, eq_self, if_true, if_false, true_and, false_and, and_true, and_false, not_true, not_false_iff, true_or, or_true, false_or, or_false, ne_eq, not_true_eq_false, not_false_eq_true]
    exact ⟨σ, rfl, Wb_r, Fr_r⟩
theorem m_far (d : Nat) {B T : LW} {ω σ : Sig} (a : Int32) (hM : MR B T ω σ) (hW : WI B T ω) (h5 : σ 112 5 = 0) : ∃ σ', Ex (d + 8) 251 0 [.ref 112, .int a] [] G0 σ = some (some (.int (farA B T ω a)), G0, σ') ∧ Fr SCF [(112, 0), (112, 49), (112, 5)] σ σ' ∧ (∀ k, k < 31 → σ' 113 k = σ 113 k) ∧ σ' 112 5 = 0 ∧ MR B T ω σ' := by
  have f0 : Fr SCF [(112, 0), (112, 49), (112, 5)] σ (pt σ 112 0 0) := Fr_p Fr_r (Or.inr (by simp))
  have hM0 : MR B T ω (pt σ 112 0 0) := MR_S hM (Fr_p Fr_r (Or.inr (by simp)) : Fr [] [(112, 0)] σ (pt σ 112 0 0)) (by decide) (by simp)
  have h50 : (pt σ 112 0 0) 112 5 = 0 := by rw [pt_k (by decide)]; exact h5
  simp only [b251_0, m_isSlope, Option.bind_some, Option.toList_some, Option.toList_none, List.cons_append, List.nil_append, i01a, i01b, if_true, if_false, b251_10, bI_z, bI_o, bI_em, ite_not]
  unfold farA
  by_cases h : -9 ≤ a ∧ a ≤ 9
  · obtain ⟨σ', e, f, k, t, m⟩ := m_farOf d hM0 hW h50 (bw_of h)
    simp only [h, i10, i01, eq_self, if_true, if_false, true_and, false_and, and_true, and_false, not_true, not_false_iff, true_or, or_true, false_or, or_false, ne_eq, not_true_eq_false, not_false_eq_true, e, Option.bind_some, Option.toList_some, Option.toList_none, List.cons_append, List.nil_append, i01a, i01b, if_true, if_false, b251_18]
    exact ⟨σ', rfl, Fr_t f0 (Fr_m f (fun _ h => h) (by simp)), fun j hj => by rw [k j hj, pt_q (by decide)], t, m⟩
  · simp only [h, i10, i01, eq_self, if_true, if_false, true_and, false_and, and_true, and_false, not_true, not_false_iff, true_or, or_true, false_or, or_false, ne_eq, not_true_eq_false, not_false_eq_true]
    exact ⟨_, rfl, f0, fun j hj => by rw [pt_q (by decide)], h50, hM0⟩
/-- the first of n from m on -/
def lp (P : Nat → Bool) : Nat → Nat → Int32
  | _, 0 => -1
  | m, n + 1 => if P m = true then nI m else lp P (m + 1) n
noncomputable def lineP (B T : LW) (ω : Sig) (k : Nat) : Bool := decide (farN B T (nI k) 2000 (pt ω 1 1 0) < farN B T (nI k) 2000 (pt ω 1 1 1))
theorem bwk {k : Nat} (h : k ≤ 9) : bw (nI k) (-9) 9 := by unfold bw; rw [nI_i (by omega)]; omega
theorem c_line (d : Nat) {B T : LW} {σ : Sig} (hW : WI B T σ) (h0 : σ 67 8 = 0) : ∃ σ', Ex (d + 6) 118 0 [.ref 0, .null, .null, .null, .null] [] G0 σ = some (some (.int (lp (lineP B T σ) 0 10)), G0, σ') ∧ Wb σ σ' ∧ Fr SCW SLC σ σ' := by
  rw [b118_0]
  have endL : ∀ (σ2 : Sig) (x : Int32), Wb (pt σ 1 1 x) σ2 → Fr SCW SLC σ σ2 → Wb σ (pt σ2 1 1 (σ 1 1)) ∧ Fr SCW SLC σ (pt σ2 1 1 (σ 1 1)) := by
    intro σ2 x w f
    have := Wb_pt (q := 1) (k := 1) (v := σ 1 1) w (by decide) (by decide)
    rw [pt_pt, pt_self] at this
    exact ⟨this, Fr_p f (Or.inl (by decide))⟩
  have main : ∀ n m (σ2 : Sig) (x : Int32) (v4 : Value), m + n = 10 → Wb (pt σ 1 1 x) σ2 → Fr SCW SLC σ σ2 → ∃ σ', Ex (d + 6) 118 12 [.ref 0, .int (σ 1 1), .int (-1), .int (nI m), v4] [] G0 σ2 = some (some (.int (lp (lineP B T σ) m n)), G0, σ') ∧ Wb σ σ' ∧ Fr SCW SLC σ σ' := by
    intro n
    induction n with
    | zero =>
      intro m σ2 x v4 hm w f
      rw [b118_12]
      have q : ((9 : Int32) < nI m) = True := by rw [show m = 10 by omega]; exact eq_true (by decide)
      simp only [q, i10, i01, eq_self, if_true, if_false, true_and, false_and, and_true, and_false, not_true, not_false_iff, true_or, or_true, false_or, or_false, ne_eq, not_true_eq_false, not_false_eq_true]
      have := endL σ2 x w f
      exact ⟨_, rfl, this.1, this.2⟩
    | succ n ih =>
      intro m σ2 x v4 hm w f
      rw [b118_12]
      have q : ((9 : Int32) < nI m) = False := by
        have : ((9 : Int32) < nI m) = (9 < m) := nJ_lt (a := 9) (by omega) (by omega)
        rw [this]; exact eq_false (by omega)
      have w1 : Wb (pt σ 1 1 1) (pt σ2 1 1 1) := by
        have := Wb_pt (q := 1) (k := 1) (v := 1) w (by decide) (by decide)
        rw [pt_pt] at this; exact this
      have hW1 : WI B T (pt σ2 1 1 1) := WI_wb (WI_11 hW (Or.inr rfl)) w1
      have f1 : Fr SCW SLC σ (pt σ2 1 1 1) := Fr_p f (Or.inl (by decide))
      obtain ⟨σ3, e3, w3, f3⟩ := c_farOn d hW1 (bwk (k := m) (by omega)) (by rw [f1 67 8 (by decide) (by decide)]; exact h0)
      have w3' : Wb (pt σ 1 1 0) (pt σ3 1 1 0) := by
        have := Wb_pt (q := 1) (k := 1) (v := 0) (Wb_t w1 w3) (by decide) (by decide)
        rw [pt_pt] at this; exact this
      have f3' : Fr SCW SLC σ (pt σ3 1 1 0) := Fr_p (Fr_t f1 f3) (Or.inl (by decide))
      have hW3 : WI B T (pt σ3 1 1 0) := WI_wb (WI_11 hW (Or.inl rfl)) w3'
      obtain ⟨σ4, e4, w4, f4⟩ := c_farOn d hW3 (bwk (k := m) (by omega)) (by rw [f3' 67 8 (by decide) (by decide)]; exact h0)
      rw [farN_c 2000 (Wb_C w1)] at e3
      rw [farN_c 2000 (Wb_C w3')] at e4
      simp only [q, i10, i01, eq_self, if_true, if_false, true_and, false_and, and_true, and_false, not_true, not_false_iff, true_or, or_true, false_or, or_false, ne_eq, not_true_eq_false, not_false_eq_true, e3, Option.bind_some, Option.toList_some, Option.toList_none, List.cons_append, List.nil_append, i01a, i01b, if_true, if_false, b118_39, e4, b118_59]
      have l0 := farN_le (B := B) (T := T) (s := nI m) 2000 (pt σ 1 1 0)
      have l1 := farN_le (B := B) (T := T) (s := nI m) 2000 (pt σ 1 1 1)
      simp only [nJ_le (show farN B T (nI m) 2000 (pt σ 1 1 1) < 2 ^ 31 by omega) (show farN B T (nI m) 2000 (pt σ 1 1 0) < 2 ^ 31 by omega), nI_s]
      have w4' : Wb (pt σ 1 1 0) σ4 := Wb_t w3' w4
      have f4' : Fr SCW SLC σ σ4 := Fr_t f3' f4
      rw [lp]
      by_cases k : lineP B T σ m = true
      · have k' := of_decide_eq_true k
        have nk : ¬ farN B T (nI m) 2000 (pt σ 1 1 1) ≤ farN B T (nI m) 2000 (pt σ 1 1 0) := by omega
        simp only [eq_false nk, i10, i01, eq_self, if_true, if_false, true_and, false_and, and_true, and_false, not_true, not_false_iff, true_or, or_true, false_or, or_false, ne_eq, not_true_eq_false, not_false_eq_true]
        rw [if_pos k, b118_12]
        have nm : (nI m = -1) = False := eq_false (fun e => by
          have := congrArg Int32.toInt e
          rw [nI_i (by omega)] at this
          have h2 : (-1 : Int32).toInt = -1 := rfl
          omega)
        simp only [nm, i10, i01, eq_self, if_true, if_false, true_and, false_and, and_true, and_false, not_true, not_false_iff, true_or, or_true, false_or, or_false, ne_eq, not_true_eq_false, not_false_eq_true]
        have := endL σ4 0 w4' f4'
        refine ⟨_, ?_, this.1, this.2⟩
        split <;> rfl
      · have k' : ¬ farN B T (nI m) 2000 (pt σ 1 1 0) < farN B T (nI m) 2000 (pt σ 1 1 1) := fun e => k (decide_eq_true e)
        have nk : farN B T (nI m) 2000 (pt σ 1 1 1) ≤ farN B T (nI m) 2000 (pt σ 1 1 0) := by omega
        simp only [eq_true nk, i10, i01, eq_self, if_true, if_false, true_and, false_and, and_true, and_false, not_true, not_false_iff, true_or, or_true, false_or, or_false, ne_eq, not_true_eq_false, not_false_eq_true]
        rw [if_neg k]
        exact ih (m + 1) σ4 0 _ (by omega) w4' f4'
  exact main 10 0 σ (σ 1 1) .null rfl (by rw [pt_self]; exact Wb_r) Fr_r
theorem MR_h {B T : LW} {ω σ : Sig} (hM : MR B T ω σ) (v : Int32) : MR B T (pt ω 1 1 v) (pt σ 112 10 v) := by
  intro i
  have h := hM i
  match i, h with
  | 0, h => (simp only [mr] at h ⊢; (try simp (disch := decide) only [pt_q, pt_k, pt_e, wl, paced]); first | done | exact h)
  | 1, h => (simp only [mr] at h ⊢; (try simp (disch := decide) only [pt_q, pt_k, pt_e, wl, paced]); first | done | exact h)
  | 2, h => (simp only [mr] at h ⊢; (try simp (disch := decide) only [pt_q, pt_k, pt_e, wl, paced]); first | done | exact h)
  | 3, h => (simp only [mr] at h ⊢; (try simp (disch := decide) only [pt_q, pt_k, pt_e, wl, paced]); first | done | exact h)
  | 4, h => (simp only [mr] at h ⊢; (try simp (disch := decide) only [pt_q, pt_k, pt_e, wl, paced]); first | done | exact h)
  | 5, h => (simp only [mr] at h ⊢; (try simp (disch := decide) only [pt_q, pt_k, pt_e, wl, paced]); first | done | exact h)
  | 6, h => (simp only [mr] at h ⊢; (try simp (disch := decide) only [pt_q, pt_k, pt_e, wl, paced]); first | done | exact h)
  | 7, h => (simp only [mr] at h ⊢; (try simp (disch := decide) only [pt_q, pt_k, pt_e, wl, paced]); first | done | exact h)
  | 8, h => (simp only [mr] at h ⊢; (try simp (disch := decide) only [pt_q, pt_k, pt_e, wl, paced]); first | done | exact h)
  | 9, h => (simp only [mr] at h ⊢; (try simp (disch := decide) only [pt_q, pt_k, pt_e, wl, paced]); first | done | exact h)
  | 10, h => (simp only [mr] at h ⊢; (try simp (disch := decide) only [pt_q, pt_k, pt_e, wl, paced]); first | done | exact h)
  | 11, h => (simp only [mr] at h ⊢; (try simp (disch := decide) only [pt_q, pt_k, pt_e, wl, paced]); first | done | exact h)
  | 12, h => (simp only [mr] at h ⊢; (try simp (disch := decide) only [pt_q, pt_k, pt_e, wl, paced]); first | done | exact h)
  | 13, h => (simp only [mr] at h ⊢; (try simp (disch := decide) only [pt_q, pt_k, pt_e, wl, paced]); first | done | exact h)
  | 14, h => (simp only [mr] at h ⊢; (try simp (disch := decide) only [pt_q, pt_k, pt_e, wl, paced]); first | done | exact h)
  | 15, h => (simp only [mr] at h ⊢; (try simp (disch := decide) only [pt_q, pt_k, pt_e, wl, paced]); first | done | exact h)
  | 16, h => (simp only [mr] at h ⊢; (try simp (disch := decide) only [pt_q, pt_k, pt_e, wl, paced]); first | done | exact h)
  | 17, h => (simp only [mr] at h ⊢; (try simp (disch := decide) only [pt_q, pt_k, pt_e, wl, paced]); first | done | exact h)
  | 18, h => (simp only [mr] at h ⊢; (try simp (disch := decide) only [pt_q, pt_k, pt_e, wl, paced]); first | done | exact h)
  | 19, h => (simp only [mr] at h ⊢; (try simp (disch := decide) only [pt_q, pt_k, pt_e, wl, paced]); first | done | exact h)
  | 20, h => (simp only [mr] at h ⊢; (try simp (disch := decide) only [pt_q, pt_k, pt_e, wl, paced]); first | done | exact h)
  | 21, h => (simp only [mr] at h ⊢; (try simp (disch := decide) only [pt_q, pt_k, pt_e, wl, paced]); first | done | exact h)
  | 22, h => (simp only [mr] at h ⊢; (try simp (disch := decide) only [pt_q, pt_k, pt_e, wl, paced]); first | done | exact h)
  | 23, h => (simp only [mr] at h ⊢; (try simp (disch := decide) only [pt_q, pt_k, pt_e, wl, paced]); first | done | exact h)
  | 24, h => (simp only [mr] at h ⊢; (try simp (disch := decide) only [pt_q, pt_k, pt_e, wl, paced]); first | done | exact h)
  | 25, h => (simp only [mr] at h ⊢; (try simp (disch := decide) only [pt_q, pt_k, pt_e, wl, paced]); first | done | exact h)
  | 26, h => (simp only [mr] at h ⊢; (try simp (disch := decide) only [pt_q, pt_k, pt_e, wl, paced]); first | done | exact h)
  | 27, h => (simp only [mr] at h ⊢; (try simp (disch := decide) only [pt_q, pt_k, pt_e, wl, paced]); first | done | exact h)
  | 28, h => (simp only [mr] at h ⊢; (try simp (disch := decide) only [pt_q, pt_k, pt_e, wl, paced]); first | done | exact h)
  | 29, h => (simp only [mr] at h ⊢; (try simp (disch := decide) only [pt_q, pt_k, pt_e, wl, paced]); first | done | exact h)
  | 30, h => (simp only [mr] at h ⊢; (try simp (disch := decide) only [pt_q, pt_k, pt_e, wl, paced]); first | done | exact h)
  | _ + 31, _ => trivial
theorem m_line (d : Nat) {B T : LW} {ω σ : Sig} (hM : MR B T ω σ) (hW : WI B T ω) (h5 : σ 112 5 = 0) : ∃ σ', Ex (d + 8) 252 0 [.ref 112, .null, .null, .null, .null] [] G0 σ = some (some (.int (lp (lineP B T ω) 0 10)), G0, σ') ∧ Fr SCF [(112, 0), (112, 10), (112, 49), (112, 5)] σ σ' ∧ (∀ k, k < 31 → σ' 113 k = σ 113 k) ∧ σ' 112 5 = 0 ∧ MR B T ω σ' := by
  have hM0 : MR B T ω (pt σ 112 0 0) := MR_S hM (Fr_p Fr_r (Or.inr (by simp)) : Fr [] [(112, 0)] σ (pt σ 112 0 0)) (by decide) (by simp)
  have e10 : (pt σ 112 0 0) 112 10 = ω 1 1 := hM0 4
  rw [b252_0, e10]
  obtain ⟨⟨σ1, x, v4⟩, e1, i1, i2, i3, i4⟩ := loop_ex (fun j (y : Sig × Int32 × Value) => Ex (d + 8) 252 15 [.ref 112, .int (ω 1 1), .int (lp (lineP B T ω) (10 - j) j), .int (nI (10 - j) + (-1)), y.2.2] [] G0 (y.1)) (fun j y => MR B T (pt ω 1 1 y.2.1) y.1 ∧ Fr SCF [(112, 0), (112, 10), (112, 49), (112, 5)] σ y.1 ∧ (∀ k, k < 31 → y.1 113 k = σ 113 k) ∧ y.1 112 5 = 0) 10 (pt σ 112 0 0, ω 1 1, .null)
    ⟨by dsimp only; rw [pt_self]; exact hM0, Fr_p Fr_r (Or.inr (by simp)), fun k hk => by dsimp only; rw [pt_q (by decide)], by dsimp only; rw [pt_k (by decide)]; exact h5⟩ (by
    intro j ⟨σ1, x, v4⟩ hj ⟨i1, i2, i3, i4⟩
    dsimp only at i1 i2 i3 i4
    show ∃ a', Ex (d + 8) 252 15 [.ref 112, .int (ω 1 1), .int (lp (lineP B T ω) (10 - j) j), .int (nI (10 - j) + (-1)), v4] [] G0 σ1 = _ ∧ _
    rw [nI_m1 (show 1 ≤ 10 - j by omega), b252_15]
    have q : (nI (10 - j - 1) < 0) = False := by
      have : (nI (10 - j - 1) < 0) = (10 - j - 1 < 0) := nJ_lt (b := 0) (by omega) (by omega)
      rw [this]; exact eq_false (by omega)
    have m1 : MR B T (pt ω 1 1 1) (pt σ1 112 10 1) := by have := MR_h i1 1; rw [pt_pt] at this; exact this
    have hW1 : WI B T (pt ω 1 1 1) := WI_11 hW (Or.inr rfl)
    obtain ⟨σ2, e2, f2, k2, t2, m2⟩ := m_farOf d m1 hW1 (by rw [pt_k (by decide)]; exact i4) (bwk (k := 10 - j - 1) (by omega))
    have m3 : MR B T (pt ω 1 1 0) (pt σ2 112 10 0) := by have := MR_h m2 0; rw [pt_pt] at this; exact this
    have hW3 : WI B T (pt ω 1 1 0) := WI_11 hW (Or.inl rfl)
    obtain ⟨σ4, e4, f4, k4, t4, m4⟩ := m_farOf d m3 hW3 (by rw [pt_k (by decide)]; exact t2) (bwk (k := 10 - j - 1) (by omega))
    have l0 := farN_le (B := B) (T := T) (s := nI (10 - j - 1)) 2000 (pt ω 1 1 0)
    have l1 := farN_le (B := B) (T := T) (s := nI (10 - j - 1)) 2000 (pt ω 1 1 1)
    simp only [q, i10, i01, eq_self, if_true, if_false, true_and, false_and, and_true, and_false, not_true, not_false_iff, true_or, or_true, false_or, or_false, ne_eq, not_true_eq_false, not_false_eq_true, e2, Option.bind_some, Option.toList_some, Option.toList_none, List.cons_append, List.nil_append, i01a, i01b, if_true, if_false, b252_29, e4, b252_43, nJ_le (show farN B T (nI (10 - j - 1)) 2000 (pt ω 1 1 1) < 2 ^ 31 by omega) (show farN B T (nI (10 - j - 1)) 2000 (pt ω 1 1 0) < 2 ^ 31 by omega)]
    have fr : Fr SCF [(112, 0), (112, 10), (112, 49), (112, 5)] σ σ4 := Fr_t (Fr_p (Fr_t (Fr_p i2 (Or.inr (by simp))) (Fr_m f2 (fun _ h => h) (by simp))) (Or.inr (by simp))) (Fr_m f4 (fun _ h => h) (by simp))
    have kk : ∀ k, k < 31 → σ4 113 k = σ 113 k := fun k hk => by rw [k4 k hk, pt_q (by decide), k2 k hk, pt_q (by decide)]; exact i3 k hk
    have lpe : lp (lineP B T ω) (10 - (j + 1)) (j + 1) = if lineP B T ω (10 - j - 1) = true then nI (10 - j - 1) else lp (lineP B T ω) (10 - j) j := by
      rw [lp, show 10 - (j + 1) = 10 - j - 1 by omega, show 10 - j - 1 + 1 = 10 - j by omega]
    rw [lpe, show 10 - (j + 1) = 10 - j - 1 by omega]
    by_cases k : lineP B T ω (10 - j - 1) = true
    · have k' := of_decide_eq_true k
      have nk : ¬ farN B T (nI (10 - j - 1)) 2000 (pt ω 1 1 1) ≤ farN B T (nI (10 - j - 1)) 2000 (pt ω 1 1 0) := by omega
      simp only [eq_false nk, k, i10, i01, eq_self, if_true, if_false, true_and, false_and, and_true, and_false, not_true, not_false_iff, true_or, or_true, false_or, or_false, ne_eq, not_true_eq_false, not_false_eq_true]
      exact ⟨(σ4, 0, _), rfl, m4, fr, kk, t4⟩
    · have k' : ¬ farN B T (nI (10 - j - 1)) 2000 (pt ω 1 1 0) < farN B T (nI (10 - j - 1)) 2000 (pt ω 1 1 1) := fun e => k (decide_eq_true e)
      have nk : farN B T (nI (10 - j - 1)) 2000 (pt ω 1 1 1) ≤ farN B T (nI (10 - j - 1)) 2000 (pt ω 1 1 0) := by omega
      simp only [eq_true nk, k, i10, i01, eq_self, if_true, if_false, true_and, false_and, and_true, and_false, not_true, not_false_iff, true_or, or_true, false_or, or_false, ne_eq, not_true_eq_false, not_false_eq_true]
      exact ⟨(σ4, 0, _), rfl, m4, fr, kk, t4⟩)
  dsimp only at i1 i2 i3 i4
  rw [show Ex (d + 8) 252 15 [.ref 112, .int (ω 1 1), .int (-1), .int 9, .null] [] G0 (pt σ 112 0 0) = _ from e1]
  show ∃ σ', Ex (d + 8) 252 15 [.ref 112, .int (ω 1 1), .int (lp (lineP B T ω) 0 10), .int (nI (10 - 10) + (-1)), v4] [] G0 σ1 = _ ∧ _
  rw [b252_15]
  have q : (nI (10 - 10) + (-1) < 0) = True := eq_true (by decide)
  simp only [q, i10, i01, eq_self, if_true, if_false, true_and, false_and, and_true, and_false, not_true, not_false_iff, true_or, or_true, false_or, or_false, ne_eq, not_true_eq_false, not_false_eq_true]
  refine ⟨_, rfl, Fr_p i2 (Or.inr (by simp)), fun k hk => by rw [pt_q (by decide)]; exact i3 k hk, by rw [pt_k (by decide)]; exact i4, ?_⟩
  have := MR_h i1 (ω 1 1)
  rw [pt_pt, pt_self] at this
  exact this
