/-! L3: state, seen, place, end, fault -/
theorem m_stateR (d : Nat) {B T : LW} {ω σ : Sig} (v : Int32) (hM : MR B T ω σ) : ∃ σ', Ex d 151 0 [.ref 112, .int v, .null] [] G0 σ = some (some (.int (ω 1 5)), G0, σ') ∧ MR B T (pt ω 1 5 v) σ' ∧ σ' 112 3 = 0 ∧ Fr [] [(112, 0), (112, 3), (113, 1)] σ σ' := by
  rw [m_state, show σ 113 1 = ω 1 5 from hM 8]
  refine ⟨_, rfl, ?_, pt_e, Fr_p (Fr_p (Fr_p Fr_r (Or.inr (by simp))) (Or.inr (by simp))) (Or.inr (by simp))⟩
  have hM0 : MR B T ω (pt (pt σ 112 0 0) 112 3 0) := MR_S hM (Fr_p (Fr_p Fr_r (Or.inr (by simp))) (Or.inr (by simp)) : Fr [] [(112, 0), (112, 3)] σ _) (by decide) (by simp)
  have e : pt (pt (pt σ 112 0 0) 113 1 v) 112 3 0 = pt (pt (pt σ 112 0 0) 112 3 0) 113 1 v := by
    funext q k
    simp only [pt_ap]
    by_cases h1 : q = 112
    · subst h1; simp
    · simp [h1]
  rw [e]
  have hM := hM0
  have k : ∀ k, k ≠ 1 → pt (pt (pt σ 112 0 0) 112 3 0) 113 1 v 113 k = pt (pt σ 112 0 0) 112 3 0 113 k := fun k hk => pt_k (by omega)
  intro i
  have h := hM i
  match i, h with
  | 0, h => (simp only [mr] at h ⊢; (try simp (disch := decide) only [pt_q, pt_k, k 0 (by omega), k 2 (by omega), k 3 (by omega), k 4 (by omega), k 5 (by omega), k 6 (by omega), wl, paced]); first | done | exact h)
  | 1, h => (simp only [mr] at h ⊢; (try simp (disch := decide) only [pt_q, pt_k, k 0 (by omega), k 2 (by omega), k 3 (by omega), k 4 (by omega), k 5 (by omega), k 6 (by omega), wl, paced]); first | done | exact h)
  | 2, h => (simp only [mr] at h ⊢; (try simp (disch := decide) only [pt_q, pt_k, k 0 (by omega), k 2 (by omega), k 3 (by omega), k 4 (by omega), k 5 (by omega), k 6 (by omega), wl, paced]); first | done | exact h)
  | 3, h => (simp only [mr] at h ⊢; (try simp (disch := decide) only [pt_q, pt_k, k 0 (by omega), k 2 (by omega), k 3 (by omega), k 4 (by omega), k 5 (by omega), k 6 (by omega), wl, paced]); first | done | exact h)
  | 4, h => (simp only [mr] at h ⊢; (try simp (disch := decide) only [pt_q, pt_k, k 0 (by omega), k 2 (by omega), k 3 (by omega), k 4 (by omega), k 5 (by omega), k 6 (by omega), wl, paced]); first | done | exact h)
  | 5, h => (simp only [mr] at h ⊢; (try simp (disch := decide) only [pt_q, pt_k, k 0 (by omega), k 2 (by omega), k 3 (by omega), k 4 (by omega), k 5 (by omega), k 6 (by omega), wl, paced]); first | done | exact h)
  | 6, h => (simp only [mr] at h ⊢; (try simp (disch := decide) only [pt_q, pt_k, k 0 (by omega), k 2 (by omega), k 3 (by omega), k 4 (by omega), k 5 (by omega), k 6 (by omega), wl, paced]); first | done | exact h)
  | 7, h => (simp only [mr] at h ⊢; (try simp (disch := decide) only [pt_q, pt_k, k 0 (by omega), k 2 (by omega), k 3 (by omega), k 4 (by omega), k 5 (by omega), k 6 (by omega), wl, paced]); first | done | exact h)
  | 8, h => (show pt (pt (pt σ 112 0 0) 112 3 0) 113 1 v 113 1 = pt ω 1 5 v 1 5; rw [pt_e, pt_e])
  | 9, h => (simp only [mr] at h ⊢; (try simp (disch := decide) only [pt_q, pt_k, k 0 (by omega), k 2 (by omega), k 3 (by omega), k 4 (by omega), k 5 (by omega), k 6 (by omega), wl, paced]); first | done | exact h)
  | 10, h => (simp only [mr] at h ⊢; (try simp (disch := decide) only [pt_q, pt_k, k 0 (by omega), k 2 (by omega), k 3 (by omega), k 4 (by omega), k 5 (by omega), k 6 (by omega), wl, paced]); first | done | exact h)
  | 11, h => (simp only [mr] at h ⊢; (try simp (disch := decide) only [pt_q, pt_k, k 0 (by omega), k 2 (by omega), k 3 (by omega), k 4 (by omega), k 5 (by omega), k 6 (by omega), wl, paced]); first | done | exact h)
  | 12, h => (simp only [mr] at h ⊢; (try simp (disch := decide) only [pt_q, pt_k, k 0 (by omega), k 2 (by omega), k 3 (by omega), k 4 (by omega), k 5 (by omega), k 6 (by omega), wl, paced]); first | done | exact h)
  | 13, h => (simp only [mr] at h ⊢; (try simp (disch := decide) only [pt_q, pt_k, k 0 (by omega), k 2 (by omega), k 3 (by omega), k 4 (by omega), k 5 (by omega), k 6 (by omega), wl, paced]); first | done | exact h)
  | 14, h => (intro q hq; rw [k (7 + q) (by omega), pt_q (by decide)]; exact h q hq)
  | 15, h => (intro q hq; rw [k (15 + q) (by omega), pt_q (by decide)]; exact h q hq)
  | 16, h => (intro q hq; rw [k (23 + q) (by omega), pt_q (by decide)]; exact h q hq)
  | 17, h => (simp only [mr] at h ⊢; (try simp (disch := decide) only [pt_q, pt_k, k 0 (by omega), k 2 (by omega), k 3 (by omega), k 4 (by omega), k 5 (by omega), k 6 (by omega), wl, paced]); first | done | exact h)
  | 18, h => (simp only [mr] at h ⊢; (try simp (disch := decide) only [pt_q, pt_k, k 0 (by omega), k 2 (by omega), k 3 (by omega), k 4 (by omega), k 5 (by omega), k 6 (by omega), wl, paced]); first | done | exact h)
  | 19, h => (simp only [mr] at h ⊢; (try simp (disch := decide) only [pt_q, pt_k, k 0 (by omega), k 2 (by omega), k 3 (by omega), k 4 (by omega), k 5 (by omega), k 6 (by omega), wl, paced]); first | done | exact h)
  | 20, h => (simp only [mr] at h ⊢; (try simp (disch := decide) only [pt_q, pt_k, k 0 (by omega), k 2 (by omega), k 3 (by omega), k 4 (by omega), k 5 (by omega), k 6 (by omega), wl, paced]); first | done | exact h)
  | 21, h => (simp only [mr] at h ⊢; (try simp (disch := decide) only [pt_q, pt_k, k 0 (by omega), k 2 (by omega), k 3 (by omega), k 4 (by omega), k 5 (by omega), k 6 (by omega), wl, paced]); first | done | exact h)
  | 22, h => (simp only [mr] at h ⊢; (try simp (disch := decide) only [pt_q, pt_k, k 0 (by omega), k 2 (by omega), k 3 (by omega), k 4 (by omega), k 5 (by omega), k 6 (by omega), wl, paced]); first | done | exact h)
  | 23, h => (simp only [mr] at h ⊢; (try simp (disch := decide) only [pt_q, pt_k, k 0 (by omega), k 2 (by omega), k 3 (by omega), k 4 (by omega), k 5 (by omega), k 6 (by omega), wl, paced]); first | done | exact h)
  | 24, h => (simp only [mr] at h ⊢; (try simp (disch := decide) only [pt_q, pt_k, k 0 (by omega), k 2 (by omega), k 3 (by omega), k 4 (by omega), k 5 (by omega), k 6 (by omega), wl, paced]); first | done | exact h)
  | 25, h => (simp only [mr] at h ⊢; (try simp (disch := decide) only [pt_q, pt_k, k 0 (by omega), k 2 (by omega), k 3 (by omega), k 4 (by omega), k 5 (by omega), k 6 (by omega), wl, paced]); first | done | exact h)
  | 26, h => (simp only [mr] at h ⊢; (try simp (disch := decide) only [pt_q, pt_k, k 0 (by omega), k 2 (by omega), k 3 (by omega), k 4 (by omega), k 5 (by omega), k 6 (by omega), wl, paced]); first | done | exact h)
  | 27, h => (simp only [mr] at h ⊢; (try simp (disch := decide) only [pt_q, pt_k, k 0 (by omega), k 2 (by omega), k 3 (by omega), k 4 (by omega), k 5 (by omega), k 6 (by omega), wl, paced]); first | done | exact h)
  | 28, h => (simp only [mr] at h ⊢; (try simp (disch := decide) only [pt_q, pt_k, k 0 (by omega), k 2 (by omega), k 3 (by omega), k 4 (by omega), k 5 (by omega), k 6 (by omega), wl, paced]); first | done | exact h)
  | 29, h => (simp only [mr] at h ⊢; (try simp (disch := decide) only [pt_q, pt_k, k 0 (by omega), k 2 (by omega), k 3 (by omega), k 4 (by omega), k 5 (by omega), k 6 (by omega), wl, paced]); first | done | exact h)
  | 30, h => (simp only [mr] at h ⊢; (try simp (disch := decide) only [pt_q, pt_k, k 0 (by omega), k 2 (by omega), k 3 (by omega), k 4 (by omega), k 5 (by omega), k 6 (by omega), wl, paced]); first | done | exact h)
  | _ + 31, _ => trivial
abbrev snC (ω : Sig) (a c : Int32) : Prop := (0 ≤ a ∧ a < 2 * ω 8 0) ∧ (-1 ≤ c ∧ c ≤ 999)
def snW (ω : Sig) (a c : Int32) : Sig := if snC ω a c then pt ω 13 a.toNatClampNeg c else ω
theorem WI_13 {B T : LW} {ω : Sig} (hW : WI B T ω) {n : Nat} {c : Int32} (h2 : bw c (-1) 999) : WI B T (pt ω 13 n c) := by
  intro i
  have h := hW i
  match i, h with
  | 0, h => (simp only [wi, np, pr, sz, wl, paced] at h ⊢; (try simp (disch := decide) only [pt_q]); first | done | exact h)
  | 1, h => (simp only [wi, np, pr, sz, wl, paced] at h ⊢; (try simp (disch := decide) only [pt_q]); first | done | exact h)
  | 2, h => (simp only [wi, np, pr, sz, wl, paced] at h ⊢; (try simp (disch := decide) only [pt_q]); first | done | exact h)
  | 3, h => (simp only [wi, np, pr, sz, wl, paced] at h ⊢; (try simp (disch := decide) only [pt_q]); first | done | exact h)
  | 4, h => (simp only [wi, np, pr, sz, wl, paced] at h ⊢; (try simp (disch := decide) only [pt_q]); first | done | exact h)
  | 5, h => (simp only [wi, np, pr, sz, wl, paced] at h ⊢; (try simp (disch := decide) only [pt_q]); first | done | exact h)
  | 6, h => (simp only [wi, np, pr, sz, wl, paced] at h ⊢; (try simp (disch := decide) only [pt_q]); first | done | exact h)
  | 7, h => (simp only [wi, np, pr, sz, wl, paced] at h ⊢; (try simp (disch := decide) only [pt_q]); first | done | exact h)
  | 8, h => (simp only [wi, np, pr, sz, wl, paced] at h ⊢; (try simp (disch := decide) only [pt_q]); first | done | exact h)
  | 9, h => (simp only [wi, np, pr, sz, wl, paced] at h ⊢; (try simp (disch := decide) only [pt_q]); first | done | exact h)
  | 10, h => (intro p hp; by_cases e : p = n; (subst e; rw [pt_e]; exact h2); (rw [pt_k e]; exact h p hp))
  | 11, h => (simp only [wi, np, pr, sz, wl, paced] at h ⊢; (try simp (disch := decide) only [pt_q]); first | done | exact h)
  | 12, h => (simp only [wi, np, pr, sz, wl, paced] at h ⊢; (try simp (disch := decide) only [pt_q]); first | done | exact h)
  | 13, h => (simp only [wi, np, pr, sz, wl, paced] at h ⊢; (try simp (disch := decide) only [pt_q]); first | done | exact h)
  | 14, h => (simp only [wi, np, pr, sz, wl, paced] at h ⊢; (try simp (disch := decide) only [pt_q]); first | done | exact h)
  | 15, h => (simp only [wi, np, pr, sz, wl, paced] at h ⊢; (try simp (disch := decide) only [pt_q]); first | done | exact h)
  | 16, h => (simp only [wi, np, pr, sz, wl, paced] at h ⊢; (try simp (disch := decide) only [pt_q]); first | done | exact h)
  | 17, h => (simp only [wi, np, pr, sz, wl, paced] at h ⊢; (try simp (disch := decide) only [pt_q]); first | done | exact h)
  | 18, h => (simp only [wi, np, pr, sz, wl, paced] at h ⊢; (try simp (disch := decide) only [pt_q]); first | done | exact h)
  | 19, h => (simp only [wi, np, pr, sz, wl, paced] at h ⊢; (try simp (disch := decide) only [pt_q]); first | done | exact h)
  | 20, h => (simp only [wi, np, pr, sz, wl, paced] at h ⊢; (try simp (disch := decide) only [pt_q]); first | done | exact h)
  | 21, h => (simp only [wi, np, pr, sz, wl, paced] at h ⊢; (try simp (disch := decide) only [pt_q]); first | done | exact h)
  | 22, h => (simp only [wi, np, pr, sz, wl, paced] at h ⊢; (try simp (disch := decide) only [pt_q]); first | done | exact h)
  | _ + 23, _ => trivial
theorem MR_13 {B T : LW} {ω σ : Sig} (hM : MR B T ω σ) (n : Nat) (c : Int32) : MR B T (pt ω 13 n c) (pt σ 122 n (c + 1)) := by
  intro i
  have h := hM i
  match i, h with
  | 0, h => (simp only [mr] at h ⊢; (try simp (disch := decide) only [pt_q, wl, paced]); first | done | exact h)
  | 1, h => (simp only [mr] at h ⊢; (try simp (disch := decide) only [pt_q, wl, paced]); first | done | exact h)
  | 2, h => (simp only [mr] at h ⊢; (try simp (disch := decide) only [pt_q, wl, paced]); first | done | exact h)
  | 3, h => (simp only [mr] at h ⊢; (try simp (disch := decide) only [pt_q, wl, paced]); first | done | exact h)
  | 4, h => (simp only [mr] at h ⊢; (try simp (disch := decide) only [pt_q, wl, paced]); first | done | exact h)
  | 5, h => (simp only [mr] at h ⊢; (try simp (disch := decide) only [pt_q, wl, paced]); first | done | exact h)
  | 6, h => (simp only [mr] at h ⊢; (try simp (disch := decide) only [pt_q, wl, paced]); first | done | exact h)
  | 7, h => (simp only [mr] at h ⊢; (try simp (disch := decide) only [pt_q, wl, paced]); first | done | exact h)
  | 8, h => (simp only [mr] at h ⊢; (try simp (disch := decide) only [pt_q, wl, paced]); first | done | exact h)
  | 9, h => (simp only [mr] at h ⊢; (try simp (disch := decide) only [pt_q, wl, paced]); first | done | exact h)
  | 10, h => (simp only [mr] at h ⊢; (try simp (disch := decide) only [pt_q, wl, paced]); first | done | exact h)
  | 11, h => (simp only [mr] at h ⊢; (try simp (disch := decide) only [pt_q, wl, paced]); first | done | exact h)
  | 12, h => (simp only [mr] at h ⊢; (try simp (disch := decide) only [pt_q, wl, paced]); first | done | exact h)
  | 13, h => (simp only [mr] at h ⊢; (try simp (disch := decide) only [pt_q, wl, paced]); first | done | exact h)
  | 14, h => (simp only [mr] at h ⊢; (try simp (disch := decide) only [pt_q, wl, paced]); first | done | exact h)
  | 15, h => (simp only [mr] at h ⊢; (try simp (disch := decide) only [pt_q, wl, paced]); first | done | exact h)
  | 16, h => (simp only [mr] at h ⊢; (try simp (disch := decide) only [pt_q, wl, paced]); first | done | exact h)
  | 17, h => (simp only [mr] at h ⊢; (try simp (disch := decide) only [pt_q, wl, paced]); first | done | exact h)
  | 18, h => (simp only [mr] at h ⊢; (try simp (disch := decide) only [pt_q, wl, paced]); first | done | exact h)
  | 19, h => (simp only [mr] at h ⊢; (try simp (disch := decide) only [pt_q, wl, paced]); first | done | exact h)
  | 20, h => (simp only [mr] at h ⊢; (try simp (disch := decide) only [pt_q, wl, paced]); first | done | exact h)
  | 21, h => (simp only [mr] at h ⊢; (try simp (disch := decide) only [pt_q, wl, paced]); first | done | exact h)
  | 22, h => (simp only [mr] at h ⊢; (try simp (disch := decide) only [pt_q, wl, paced]); first | done | exact h)
  | 23, h => (intro q hq; by_cases e : q = n; (subst e; rw [pt_e, pt_e]); (rw [pt_k e, pt_k e]; exact h q hq))
  | 24, h => (simp only [mr] at h ⊢; (try simp (disch := decide) only [pt_q, wl, paced]); first | done | exact h)
  | 25, h => (simp only [mr] at h ⊢; (try simp (disch := decide) only [pt_q, wl, paced]); first | done | exact h)
  | 26, h => (simp only [mr] at h ⊢; (try simp (disch := decide) only [pt_q, wl, paced]); first | done | exact h)
  | 27, h => (simp only [mr] at h ⊢; (try simp (disch := decide) only [pt_q, wl, paced]); first | done | exact h)
  | 28, h => (simp only [mr] at h ⊢; (try simp (disch := decide) only [pt_q, wl, paced]); first | done | exact h)
  | 29, h => (simp only [mr] at h ⊢; (try simp (disch := decide) only [pt_q, wl, paced]); first | done | exact h)
  | 30, h => (simp only [mr] at h ⊢; (try simp (disch := decide) only [pt_q, wl, paced]); first | done | exact h)
  | _ + 31, _ => trivial
theorem WI_sn {B T : LW} {ω : Sig} (hW : WI B T ω) (a c : Int32) : WI B T (snW ω a c) := by
  unfold snW
  split
  · rename_i h
    have h2 := h.2
    rw [Int32.le_iff_toInt_le, Int32.le_iff_toInt_le] at h2
    exact WI_13 hW h2
  · exact hW
theorem c_seen (d : Nat) {B T : LW} {σ : Sig} (a c : Int32) (hW : WI B T σ) : Ex (d + 1) 124 0 [.ref 0, .int a, .int c] [] G0 σ = some (some (.int (bI (snC σ a c))), G0, if snC σ a c then pt (snW σ a c) 0 10 0 else σ) := by
  simp only [b124_0, c_placesHas, Option.bind_some, Option.toList_some, Option.toList_none, List.cons_append, List.nil_append, i01a, i01b, if_true, if_false, b124_11, c_within, b124_22, bI_z, bI_o, bI_em, ite_not]
  by_cases c1 : 0 ≤ a ∧ a < 2 * σ 8 0
  · have hn := pl_n hW c1
    have n8' := (WI_np hW).2.1
    by_cases c2 : -1 ≤ c ∧ c ≤ 999
    · have cc : snC σ a c := ⟨c1, c2⟩
      have i : inb a 8 = true := by rw [hn.2]; exact inb_n (by omega) (by omega)
      rw [if_pos cc, bI_T cc]
      unfold snW; rw [if_pos cc]
      simp only [eq_true c1, eq_true c2, i, i10, i01, eq_self, if_true, if_false, true_and, false_and, and_true, and_false, not_true, not_false_iff, true_or, or_true, false_or, or_false, ne_eq, not_true_eq_false, not_false_eq_true]
    · have cc : ¬ snC σ a c := fun h => c2 h.2
      rw [if_neg cc, bI_F cc]
      simp only [eq_true c1, eq_false c2, i10, i01, eq_self, if_true, if_false, true_and, false_and, and_true, and_false, not_true, not_false_iff, true_or, or_true, false_or, or_false, ne_eq, not_true_eq_false, not_false_eq_true]
  · have cc : ¬ snC σ a c := fun h => c1 h.1
    rw [if_neg cc, bI_F cc]
    simp only [eq_false c1, i10, i01, eq_self, if_true, if_false, true_and, false_and, and_true, and_false, not_true, not_false_iff, true_or, or_true, false_or, or_false, ne_eq, not_true_eq_false, not_false_eq_true]
theorem m_pp {B T : LW} {ω σ : Sig} (hM : MR B T ω σ) : 2 * (σ 112 7 + 3) = 2 * ω 8 0 := by rw [show σ 112 7 = ω 8 0 - 3 from hM 1, s3a]
theorem m_seen (d : Nat) {B T : LW} {ω σ : Sig} (a c : Int32) (hM : MR B T ω σ) (hW : WI B T ω) : ∃ σ', Ex (d + 3) 169 0 [.ref 112, .int a, .int c] [] G0 σ = some (some (.int (bI (snC ω a c))), G0, σ') ∧ MR B T (snW ω a c) σ' ∧ Fr [122] [(112, 0)] σ σ' := by
  have f0 : Fr [122] [(112, 0)] σ (pt σ 112 0 0) := Fr_p Fr_r (Or.inr (by simp))
  have hM0 : MR B T ω (pt σ 112 0 0) := MR_S hM (Fr_p Fr_r (Or.inr (by simp)) : Fr [] [(112, 0)] σ (pt σ 112 0 0)) (by decide) (by simp)
  simp only [b169_0, m_isPlace, m_pp hM0, Option.bind_some, Option.toList_some, Option.toList_none, List.cons_append, List.nil_append, i01a, i01b, if_true, if_false, b169_10, m_isIn, b169_22, bI_z, bI_o, bI_em, ite_not]
  by_cases c1 : 0 ≤ a ∧ a < 2 * ω 8 0
  · have hn := pl_n hW c1
    have n8' := (WI_np hW).2.1
    by_cases c2 : -1 ≤ c ∧ c ≤ 999
    · have cc : snC ω a c := ⟨c1, c2⟩
      have i : inb a 8 = true := by rw [hn.2]; exact inb_n (by omega) (by omega)
      rw [bI_T cc]
      unfold snW; rw [if_pos cc]
      simp only [eq_true c1, eq_true c2, i, i10, i01, eq_self, if_true, if_false, true_and, false_and, and_true, and_false, not_true, not_false_iff, true_or, or_true, false_or, or_false, ne_eq, not_true_eq_false, not_false_eq_true]
      exact ⟨_, rfl, MR_13 hM0 _ _, Fr_p f0 (Or.inl (by simp))⟩
    · have cc : ¬ snC ω a c := fun h => c2 h.2
      rw [bI_F cc]
      unfold snW; rw [if_neg cc]
      simp only [eq_true c1, eq_false c2, i10, i01, eq_self, if_true, if_false, true_and, false_and, and_true, and_false, not_true, not_false_iff, true_or, or_true, false_or, or_false, ne_eq, not_true_eq_false, not_false_eq_true]
      exact ⟨_, rfl, hM0, f0⟩
  · have cc : ¬ snC ω a c := fun h => c1 h.1
    rw [bI_F cc]
    unfold snW; rw [if_neg cc]
    simp only [eq_false c1, i10, i01, eq_self, if_true, if_false, true_and, false_and, and_true, and_false, not_true, not_false_iff, true_or, or_true, false_or, or_false, ne_eq, not_true_eq_false, not_false_eq_true]
    exact ⟨_, rfl, hM0, f0⟩
abbrev plC (ω : Sig) (a x : Int32) : Prop := (0 ≤ a ∧ a < 2 * ω 8 0) ∧ (x = -1 ∨ (0 ≤ x ∧ x < ω 2 0))
def plW (ω : Sig) (a x : Int32) : Sig := if plC ω a x then putW ω a.toNatClampNeg x else ω
theorem cr_n {B T : LW} {ω : Sig} (hW : WI B T ω) {x : Int32} (h : 0 ≤ x ∧ x < ω 2 0) : ∃ b, b < sz ω ∧ x = nI b := by
  obtain ⟨es, s8⟩ : wi B T ω 5 := hW 5
  obtain ⟨h1, h2⟩ := h
  rw [Int32.le_iff_toInt_le] at h1
  have e := nI_of0 (x := x) h1
  refine ⟨_, ?_, e⟩
  rw [es, e] at h2
  have hx : x.toNatClampNeg < 2 ^ 31 := by have := Int32.toInt_lt x; unfold Int32.toNatClampNeg; omega
  rwa [nJ_lt hx (by omega)] at h2
theorem WI_pl {B T : LW} {ω : Sig} (hW : WI B T ω) (a x : Int32) : WI B T (plW ω a x) := by
  unfold plW
  split
  · rename_i h
    exact WI_putW hW (pl_n hW h.1).1 (h.2.imp id (cr_n hW))
  · exact hW
theorem c_place (d : Nat) {B T : LW} {σ : Sig} (a x : Int32) (hW : WI B T σ) : Ex (d + 2) 103 0 [.ref 0, .int a, .int x] [] G0 σ = some (some (.int (bI (plC σ a x))), G0, if plC σ a x then pt (pt (plW σ a x) 0 8 0) 0 10 0 else σ) := by
  simp only [b103_0, c_placesHas, Option.bind_some, Option.toList_some, Option.toList_none, List.cons_append, List.nil_append, i01a, i01b, if_true, if_false, b103_11, c_crewHas, b103_30, bI_z, bI_o, bI_em, ite_not]
  by_cases c1 : 0 ≤ a ∧ a < 2 * σ 8 0
  · have hn := pl_n hW c1
    have n8' := (WI_np hW).2.1
    have hput : ∀ d, Ex (d + 1) 35 0 [.ref 8, .int a, .int x, .null] [] G0 σ = some (none, G0, putW σ a.toNatClampNeg x) := fun d => by
      have := c_put d hW (p := a.toNatClampNeg) (by omega) x
      rw [← hn.2] at this; exact this
    by_cases c2 : x = -1
    · have cc : plC σ a x := ⟨c1, Or.inl c2⟩
      rw [if_pos cc, bI_T cc]
      unfold plW; rw [if_pos cc]
      simp only [eq_true c1, eq_true c2, i10, i01, eq_self, if_true, if_false, true_and, false_and, and_true, and_false, not_true, not_false_iff, true_or, or_true, false_or, or_false, ne_eq, not_true_eq_false, not_false_eq_true, hput, Option.bind_some, Option.toList_some, Option.toList_none, List.cons_append, List.nil_append, i01a, i01b, if_true, if_false, b103_47, c_forget, b103_51]
    · by_cases c3 : 0 ≤ x ∧ x < σ 2 0
      · have cc : plC σ a x := ⟨c1, Or.inr c3⟩
        rw [if_pos cc, bI_T cc]
        unfold plW; rw [if_pos cc]
        simp only [eq_true c1, eq_false c2, eq_true c3, i10, i01, eq_self, if_true, if_false, true_and, false_and, and_true, and_false, not_true, not_false_iff, true_or, or_true, false_or, or_false, ne_eq, not_true_eq_false, not_false_eq_true, hput, Option.bind_some, Option.toList_some, Option.toList_none, List.cons_append, List.nil_append, i01a, i01b, if_true, if_false, b103_47, c_forget, b103_51]
      · have cc : ¬ plC σ a x := fun h => h.2.elim c2 c3
        rw [if_neg cc, bI_F cc]
        simp only [eq_true c1, eq_false c2, eq_false c3, i10, i01, eq_self, if_true, if_false, true_and, false_and, and_true, and_false, not_true, not_false_iff, true_or, or_true, false_or, or_false, ne_eq, not_true_eq_false, not_false_eq_true]
  · have cc : ¬ plC σ a x := fun h => c1 h.1
    rw [if_neg cc, bI_F cc]
    simp only [eq_false c1, i10, i01, eq_self, if_true, if_false, true_and, false_and, and_true, and_false, not_true, not_false_iff, true_or, or_true, false_or, or_false, ne_eq, not_true_eq_false, not_false_eq_true]
theorem m_place (d : Nat) {B T : LW} {ω σ : Sig} (a x : Int32) (hM : MR B T ω σ) (hW : WI B T ω) : ∃ σ', Ex (d + 3) 168 0 [.ref 112, .int a, .int x] [] G0 σ = some (some (.int (bI (plC ω a x))), G0, σ') ∧ MR B T (plW ω a x) σ' ∧ Fr [113] [(112, 0), (112, 3)] σ σ' ∧ (plC ω a x → σ' 112 3 = 0) ∧ (¬ plC ω a x → σ' = pt σ 112 0 0) := by
  have f0 : Fr [113] [(112, 0), (112, 3)] σ (pt σ 112 0 0) := Fr_p Fr_r (Or.inr (by simp))
  have hM0 : MR B T ω (pt σ 112 0 0) := MR_S hM (Fr_p Fr_r (Or.inr (by simp)) : Fr [] [(112, 0)] σ (pt σ 112 0 0)) (by decide) (by simp)
  have e12 : pt σ 112 0 0 112 12 = ω 2 0 := hM0 6
  simp only [b168_0, m_isPlace, m_pp hM0, Option.bind_some, Option.toList_some, Option.toList_none, List.cons_append, List.nil_append, i01a, i01b, if_true, if_false, b168_10, m_isBearer, e12, b168_23, bI_z, bI_o, bI_em, ite_not]
  by_cases c1 : 0 ≤ a ∧ a < 2 * ω 8 0
  · have hn := pl_n hW c1
    have n8' := (WI_np hW).2.1
    obtain ⟨σ2, e2, f2, m2⟩ := m_changes d hM0 (p := a.toNatClampNeg) (by omega) x
    rw [← hn.2] at e2
    have f3 : Fr [113] [(112, 0), (112, 3)] σ (pt σ2 112 3 0) := Fr_p (Fr_t f0 (Fr_m f2 (by simp) (by simp))) (Or.inr (by simp))
    have m3 : MR B T (putW ω a.toNatClampNeg x) (pt σ2 112 3 0) := MR_S m2 (Fr_p Fr_r (Or.inr (by simp)) : Fr [] [(112, 3)] σ2 (pt σ2 112 3 0)) (by decide) (by simp)
    by_cases c2 : x = -1
    · have cc : plC ω a x := ⟨c1, Or.inl c2⟩
      rw [bI_T cc]
      unfold plW; rw [if_pos cc]
      subst c2
      simp only [eq_true c1, i10, i01, eq_self, if_true, if_false, true_and, false_and, and_true, and_false, not_true, not_false_iff, true_or, or_true, false_or, or_false, ne_eq, not_true_eq_false, not_false_eq_true, e2, Option.bind_some, Option.toList_some, Option.toList_none, List.cons_append, List.nil_append, i01a, i01b, if_true, if_false, b168_34]
      exact ⟨_, rfl, m3, f3, fun _ => pt_e, fun h => absurd cc h⟩
    · by_cases c3 : 0 ≤ x ∧ x < ω 2 0
      · have cc : plC ω a x := ⟨c1, Or.inr c3⟩
        rw [bI_T cc]
        unfold plW; rw [if_pos cc]
        simp only [eq_true c1, eq_false c2, eq_true c3, i10, i01, eq_self, if_true, if_false, true_and, false_and, and_true, and_false, not_true, not_false_iff, true_or, or_true, false_or, or_false, ne_eq, not_true_eq_false, not_false_eq_true, e2, Option.bind_some, Option.toList_some, Option.toList_none, List.cons_append, List.nil_append, i01a, i01b, if_true, if_false, b168_34]
        exact ⟨_, rfl, m3, f3, fun _ => pt_e, fun h => absurd cc h⟩
      · have cc : ¬ plC ω a x := fun h => h.2.elim c2 c3
        rw [bI_F cc]
        unfold plW; rw [if_neg cc]
        simp only [eq_true c1, eq_false c2, eq_false c3, i10, i01, eq_self, if_true, if_false, true_and, false_and, and_true, and_false, not_true, not_false_iff, true_or, or_true, false_or, or_false, ne_eq, not_true_eq_false, not_false_eq_true]
        exact ⟨_, rfl, hM0, f0, fun h => absurd h cc, fun _ => rfl⟩
  · have cc : ¬ plC ω a x := fun h => c1 h.1
    rw [bI_F cc]
    unfold plW; rw [if_neg cc]
    simp only [eq_false c1, i10, i01, eq_self, if_true, if_false, true_and, false_and, and_true, and_false, not_true, not_false_iff, true_or, or_true, false_or, or_false, ne_eq, not_true_eq_false, not_false_eq_true]
    exact ⟨_, rfl, hM0, f0, fun h => absurd h cc, fun _ => rfl⟩
theorem c_end (d : Nat) (σ : Sig) (a : Int32) : Ex (d + 1) 105 0 [.ref 0, .int a] [] G0 σ = some (some (.int (bI (0 ≤ a ∧ a ≤ σ 53 0))), G0, if 0 ≤ a ∧ a ≤ σ 53 0 then pt σ 53 0 a else σ) := by
  simp only [b105_0, c_within, Option.bind_some, Option.toList_some, Option.toList_none, List.cons_append, List.nil_append, i01a, i01b, if_true, if_false, b105_12, bI_z, bI_o, bI_em, ite_not]
  by_cases c : 0 ≤ a ∧ a ≤ σ 53 0
  · rw [if_pos c, bI_T c]; simp only [eq_true c, i10, i01, eq_self, if_true, if_false, true_and, false_and, and_true, and_false, not_true, not_false_iff, true_or, or_true, false_or, or_false, ne_eq, not_true_eq_false, not_false_eq_true]
  · rw [if_neg c, bI_F c]; simp only [eq_false c, i10, i01, eq_self, if_true, if_false, true_and, false_and, and_true, and_false, not_true, not_false_iff, true_or, or_true, false_or, or_false, ne_eq, not_true_eq_false, not_false_eq_true]
theorem m_end (d : Nat) (σ : Sig) (a : Int32) : Ex (d + 1) 172 0 [.ref 112, .int a] [] G0 σ = some (some (.int (bI (0 ≤ a ∧ a ≤ σ 112 22))), G0, if 0 ≤ a ∧ a ≤ σ 112 22 then pt (pt σ 112 0 0) 112 22 a else pt σ 112 0 0) := by
  have e : pt σ 112 0 0 112 22 = σ 112 22 := pt_k (by decide)
  simp only [b172_0, m_isIn, e, Option.bind_some, Option.toList_some, Option.toList_none, List.cons_append, List.nil_append, i01a, i01b, if_true, if_false, b172_15, bI_z, bI_o, bI_em, ite_not]
  by_cases c : 0 ≤ a ∧ a ≤ σ 112 22
  · rw [if_pos c, bI_T c]; simp only [eq_true c, i10, i01, eq_self, if_true, if_false, true_and, false_and, and_true, and_false, not_true, not_false_iff, true_or, or_true, false_or, or_false, ne_eq, not_true_eq_false, not_false_eq_true]
  · rw [if_neg c, bI_F c]; simp only [eq_false c, i10, i01, eq_self, if_true, if_false, true_and, false_and, and_true, and_false, not_true, not_false_iff, true_or, or_true, false_or, or_false, ne_eq, not_true_eq_false, not_false_eq_true]
def flA (x y a : Int32) : Int32 := if a = 0 then x else if a = 1 then y else -1
theorem c_fault (d : Nat) (σ : Sig) (a : Int32) : Ex d 107 0 [.ref 0, .int a] [] G0 σ = some (some (.int (flA (σ 53 1) (σ 53 2) a)), G0, σ) := by
  rw [b107_0]
  unfold flA
  split
  · rfl
  · split <;> rfl
theorem m_fault (d : Nat) (σ : Sig) (a : Int32) : Ex d 201 0 [.ref 112, .int a] [] G0 σ = some (some (.int (flA (σ 112 41) (σ 112 42) a)), G0, pt σ 112 0 0) := by
  rw [b201_0]
  unfold flA
  split
  · rw [pt_k (by decide)]
  · split
    · rw [pt_k (by decide)]
    · rfl
