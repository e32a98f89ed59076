/-! L3: the model on the way -/
theorem m_ofLine (d : Nat) {B T : LW} {ω σ : Sig} (hM : MR B T ω σ) (hW : WI B T ω) (hl : nx ω < wl ω) {k : Nat} (hk : k < 4) : Ex d 222 0 [.ref 112, .int (nI k)] [] G0 σ = some (some (.int (σ 133 (4 * nx ω + k))), G0, σ) := by
  have hn := WI_nx hW
  have e5 : σ 113 5 = nI (nx ω) := (hM 12).trans hn.1
  have e4 : (4 : Int32) * nI (nx ω) + nI k = nI (4 * nx ω + k) := by
    have : (4 : Int32) * nI (nx ω) = nI (4 * nx ω) := nI_mul' 4 _
    rw [this, nI_add]
  rw [b222_0]
  simp only [e5, e4, inb_n (show 4 * nx ω + k < 320 by omega) (show 4 * nx ω + k < 2 ^ 31 by omega), nI_c (show 4 * nx ω + k < 2 ^ 31 by omega), i10, i01, eq_self, if_true, if_false, true_and, false_and, and_true, and_false, not_true, not_false_iff, true_or, or_true, false_or, or_false, ne_eq, not_true_eq_false, not_false_eq_true]
theorem ln_kind {B T : LW} {ω : Sig} (hW : WI B T ω) {l : Nat} (hl : l < wl ω) : ω 21 l = 21 ∨ ω 21 l = 22 ∨ ω 21 l = 23 ∨ ω 21 l = 24 ∨ ω 21 l = 4 := by
  have h18 : wi B T ω 18 := hW 18
  rcases h18 l hl with h | h | h | h
  · rcases h.1 with h | h
    · exact Or.inl h
    · exact Or.inr (Or.inl h)
  · exact Or.inr (Or.inr (Or.inl h.1))
  · exact Or.inr (Or.inr (Or.inr (Or.inl h.1)))
  · exact Or.inr (Or.inr (Or.inr (Or.inr h.1)))
theorem mw_paced {B T : LW} {ω : Sig} (hW : WI B T ω) {l : Nat} (hl : l < wl ω) : (1 < mway (ω 21 l)) = ¬ paced ω l := by
  unfold paced mway
  rcases ln_kind hW hl with h | h | h | h | h <;> rw [h] <;> decide
theorem m_isPaced (d : Nat) {B T : LW} {ω σ : Sig} (hM : MR B T ω σ) (hW : WI B T ω) {l : Nat} (hl : l < wl ω) : Ex d 223 0 [.ref 112, .int (nI l)] [] G0 σ = some (some (.int (@bI (paced ω l) (Classical.propDecidable _))), G0, σ) := by
  have h40 := (WI_nx hW).2.2
  have h25 : mr B T ω σ 25 := hM 25
  have e4 : (4 : Int32) * nI l = nI (4 * l) := nI_mul' 4 _
  rw [b223_0]
  rw [e4, inb_n (show 4 * l < 320 by omega) (show 4 * l < 2 ^ 31 by omega), nI_c (show 4 * l < 2 ^ 31 by omega), if_pos rfl, (h25 l hl).1]
  have hm := mw_paced hW hl
  by_cases k : paced ω l
  · rw [@bI_T _ (Classical.propDecidable _) k, if_neg (by rw [hm]; exact fun e => e k)]; simp only [i01b, i10, i01, eq_self, if_true, if_false, true_and, false_and, and_true, and_false, not_true, not_false_iff, true_or, or_true, false_or, or_false, ne_eq, not_true_eq_false, not_false_eq_true]
  · rw [@bI_F _ (Classical.propDecidable _) k, if_pos (by rw [hm]; exact k)]; simp only [i01a, i10, i01, eq_self, if_true, if_false, true_and, false_and, and_true, and_false, not_true, not_false_iff, true_or, or_true, false_or, or_false, ne_eq, not_true_eq_false, not_false_eq_true]
theorem m_hasPace (d : Nat) {B T : LW} {ω σ : Sig} (hM : MR B T ω σ) (hW : WI B T ω) : Ex (d + 1) 224 0 [.ref 112, .null] [] G0 σ = some (some (.int (@bI (hasP ω) (Classical.propDecidable _))), G0, σ) := by
  have hn := WI_nx hW
  have h15 : wi B T ω 15 := hW 15
  have e5 : σ 113 5 = nI (nx ω) := (hM 12).trans hn.1
  have e43 : σ 112 43 = nI (wl ω) := (hM 24).trans h15.1
  rw [b224_0, e5]
  have main : ∀ k l, l + k = wl ω → nx ω ≤ l → (∀ j, nx ω ≤ j → j < l → ¬ paced ω j) → Ex (d + 1) 224 7 [.ref 112, .int (nI l)] [] G0 σ = some (some (.int (@bI (hasP ω) (Classical.propDecidable _))), G0, σ) := by
    intro k
    induction k with
    | zero =>
      intro l hl h1 h2
      rw [b224_7]
      have q : (nI (wl ω) ≤ nI l) = True := by rw [nJ_le (by omega) (by omega)]; exact eq_true (by omega)
      have no : ¬ hasP ω := fun ⟨j, a, b, c⟩ => h2 j a (by omega) c
      simp only [e43, q, i10, i01, eq_self, if_true, if_false, true_and, false_and, and_true, and_false, not_true, not_false_iff, true_or, or_true, false_or, or_false, ne_eq, not_true_eq_false, not_false_eq_true]
      rw [@bI_F _ (Classical.propDecidable _) no]
    | succ k ih =>
      intro l hl h1 h2
      rw [b224_7]
      have q : (nI (wl ω) ≤ nI l) = False := by rw [nJ_le (by omega) (by omega)]; exact eq_false (by omega)
      simp only [e43, q, i10, i01, eq_self, if_true, if_false, true_and, false_and, and_true, and_false, not_true, not_false_iff, true_or, or_true, false_or, or_false, ne_eq, not_true_eq_false, not_false_eq_true, (fun d => m_isPaced d hM hW (show l < wl ω by omega)), Option.bind_some, Option.toList_some, Option.toList_none, List.cons_append, List.nil_append, i01a, i01b, if_true, if_false, b224_20]
      by_cases c : paced ω l
      · have yes : hasP ω := ⟨l, h1, by omega, c⟩
        rw [@bI_T _ (Classical.propDecidable _) c, @bI_T _ (Classical.propDecidable _) yes]
        simp only [i10, i01, eq_self, if_true, if_false, true_and, false_and, and_true, and_false, not_true, not_false_iff, true_or, or_true, false_or, or_false, ne_eq, not_true_eq_false, not_false_eq_true]
      · rw [@bI_F _ (Classical.propDecidable _) c]
        simp only [i10, i01, eq_self, if_true, if_false, true_and, false_and, and_true, and_false, not_true, not_false_iff, true_or, or_true, false_or, or_false, ne_eq, not_true_eq_false, not_false_eq_true, nI_s]
        refine ih (l + 1) (by omega) (by omega) (fun j a b => ?_)
        by_cases e : j = l
        · subst e; exact c
        · exact h2 j a (by omega)
  exact main (wl ω - nx ω) (nx ω) (by omega) (Nat.le_refl _) (fun j a b => by omega)
theorem m_changes (d : Nat) {B T : LW} {ω σ : Sig} (hM : MR B T ω σ) {p : Nat} (hp : p < 8) (x : Int32) : ∃ σ', Ex (d + 2) 167 0 [.ref 112, .int (nI p), .int x, .null] [] G0 σ = some (none, G0, σ') ∧ Fr [113] [] σ σ' ∧ MR B T (putW ω p x) σ' := by
  have e7 : (7 : Int32) + nI p = nI (7 + p) := nI_add 7 p
  rw [b167_0]
  unfold putW
  by_cases h : x = -1
  · simp only [h, i10, i01, eq_self, if_true, if_false, true_and, false_and, and_true, and_false, not_true, not_false_iff, true_or, or_true, false_or, or_false, ne_eq, not_true_eq_false, not_false_eq_true, b167_14, e7, inb_n (show 7 + p < 31 by omega) (show 7 + p < 2 ^ 31 by omega), nI_c (show 7 + p < 2 ^ 31 by omega)]
    exact ⟨_, rfl, Fr_p Fr_r (Or.inl (by simp)), MR_who hM hp (-1)⟩
  · simp only [h, i10, i01, eq_self, if_true, if_false, true_and, false_and, and_true, and_false, not_true, not_false_iff, true_or, or_true, false_or, or_false, ne_eq, not_true_eq_false, not_false_eq_true, (fun d => m_placeOf d hM x), Option.bind_some, Option.toList_some, Option.toList_none, List.cons_append, List.nil_append, i01a, i01b, if_true, if_false, b167_14, e7, inb_n (show 7 + p < 31 by omega) (show 7 + p < 2 ^ 31 by omega), nI_c (show 7 + p < 2 ^ 31 by omega)]
    by_cases k : plS ω x = -1
    · simp only [k, i10, i01, eq_self, if_true, if_false, true_and, false_and, and_true, and_false, not_true, not_false_iff, true_or, or_true, false_or, or_false, ne_eq, not_true_eq_false, not_false_eq_true]
      exact ⟨_, rfl, Fr_p Fr_r (Or.inl (by simp)), MR_who hM hp x⟩
    · obtain ⟨q, hq, eq, _⟩ := pl_b k
      have e7q : (7 : Int32) + nI q = nI (7 + q) := nI_add 7 q
      simp only [k, i10, i01, eq_self, if_true, if_false, true_and, false_and, and_true, and_false, not_true, not_false_iff, true_or, or_true, false_or, or_false, ne_eq, not_true_eq_false, not_false_eq_true]
      rw [eq]
      simp only [e7q, inb_n (show 7 + q < 31 by omega) (show 7 + q < 2 ^ 31 by omega), nI_c (show 7 + q < 2 ^ 31 by omega), nI_c (show q < 2 ^ 31 by omega), i10, i01, eq_self, if_true, if_false, true_and, false_and, and_true, and_false, not_true, not_false_iff, true_or, or_true, false_or, or_false, ne_eq, not_true_eq_false, not_false_eq_true]
      have m1 := MR_who hM hq (-1)
      have z : (-1 : Int32) + 1 = 0 := by decide
      rw [z] at m1
      exact ⟨_, rfl, Fr_p (Fr_p Fr_r (Or.inl (by simp))) (Or.inl (by simp)), MR_who m1 hp x⟩
theorem MR_cl {B T : LW} {ω σ : Sig} (hM : MR B T ω σ) {p : Nat} (hp : p < 8) (v : Int32) : MR B T (pt ω 10 p v) (pt σ 113 (15 + p) v) := by
  have k : ∀ k, k < 15 ∨ 23 ≤ k → pt σ 113 (15 + p) v 113 k = σ 113 k := fun k hk => pt_k (by omega)
  intro i
  have h := hM i
  match i, h with
  | 0, h => (simp only [mr] at h ⊢; (try simp (disch := decide) only [pt_q, k 0 (by omega), k 1 (by omega), k 2 (by omega), k 3 (by omega), k 4 (by omega), k 5 (by omega), k 6 (by omega), wl, paced]); first | done | exact h)
  | 1, h => (simp only [mr] at h ⊢; (try simp (disch := decide) only [pt_q, k 0 (by omega), k 1 (by omega), k 2 (by omega), k 3 (by omega), k 4 (by omega), k 5 (by omega), k 6 (by omega), wl, paced]); first | done | exact h)
  | 2, h => (simp only [mr] at h ⊢; (try simp (disch := decide) only [pt_q, k 0 (by omega), k 1 (by omega), k 2 (by omega), k 3 (by omega), k 4 (by omega), k 5 (by omega), k 6 (by omega), wl, paced]); first | done | exact h)
  | 3, h => (simp only [mr] at h ⊢; (try simp (disch := decide) only [pt_q, k 0 (by omega), k 1 (by omega), k 2 (by omega), k 3 (by omega), k 4 (by omega), k 5 (by omega), k 6 (by omega), wl, paced]); first | done | exact h)
  | 4, h => (simp only [mr] at h ⊢; (try simp (disch := decide) only [pt_q, k 0 (by omega), k 1 (by omega), k 2 (by omega), k 3 (by omega), k 4 (by omega), k 5 (by omega), k 6 (by omega), wl, paced]); first | done | exact h)
  | 5, h => (simp only [mr] at h ⊢; (try simp (disch := decide) only [pt_q, k 0 (by omega), k 1 (by omega), k 2 (by omega), k 3 (by omega), k 4 (by omega), k 5 (by omega), k 6 (by omega), wl, paced]); first | done | exact h)
  | 6, h => (simp only [mr] at h ⊢; (try simp (disch := decide) only [pt_q, k 0 (by omega), k 1 (by omega), k 2 (by omega), k 3 (by omega), k 4 (by omega), k 5 (by omega), k 6 (by omega), wl, paced]); first | done | exact h)
  | 7, h => (simp only [mr] at h ⊢; (try simp (disch := decide) only [pt_q, k 0 (by omega), k 1 (by omega), k 2 (by omega), k 3 (by omega), k 4 (by omega), k 5 (by omega), k 6 (by omega), wl, paced]); first | done | exact h)
  | 8, h => (simp only [mr] at h ⊢; (try simp (disch := decide) only [pt_q, k 0 (by omega), k 1 (by omega), k 2 (by omega), k 3 (by omega), k 4 (by omega), k 5 (by omega), k 6 (by omega), wl, paced]); first | done | exact h)
  | 9, h => (simp only [mr] at h ⊢; (try simp (disch := decide) only [pt_q, k 0 (by omega), k 1 (by omega), k 2 (by omega), k 3 (by omega), k 4 (by omega), k 5 (by omega), k 6 (by omega), wl, paced]); first | done | exact h)
  | 10, h => (simp only [mr] at h ⊢; (try simp (disch := decide) only [pt_q, k 0 (by omega), k 1 (by omega), k 2 (by omega), k 3 (by omega), k 4 (by omega), k 5 (by omega), k 6 (by omega), wl, paced]); first | done | exact h)
  | 11, h => (simp only [mr] at h ⊢; (try simp (disch := decide) only [pt_q, k 0 (by omega), k 1 (by omega), k 2 (by omega), k 3 (by omega), k 4 (by omega), k 5 (by omega), k 6 (by omega), wl, paced]); first | done | exact h)
  | 12, h => (simp only [mr] at h ⊢; (try simp (disch := decide) only [pt_q, k 0 (by omega), k 1 (by omega), k 2 (by omega), k 3 (by omega), k 4 (by omega), k 5 (by omega), k 6 (by omega), wl, paced]); first | done | exact h)
  | 13, h => (simp only [mr] at h ⊢; (try simp (disch := decide) only [pt_q, k 0 (by omega), k 1 (by omega), k 2 (by omega), k 3 (by omega), k 4 (by omega), k 5 (by omega), k 6 (by omega), wl, paced]); first | done | exact h)
  | 14, h => (intro q hq; rw [k (7 + q) (by omega), pt_q (by decide)]; exact h q hq)
  | 15, h => (intro q hq; by_cases e : q = p; (subst e; rw [pt_e, pt_e]); (rw [pt_k (by omega), pt_k e]; exact h q hq))
  | 16, h => (intro q hq; rw [k (23 + q) (by omega), pt_q (by decide)]; exact h q hq)
  | 17, h => (simp only [mr] at h ⊢; (try simp (disch := decide) only [pt_q, k 0 (by omega), k 1 (by omega), k 2 (by omega), k 3 (by omega), k 4 (by omega), k 5 (by omega), k 6 (by omega), wl, paced]); first | done | exact h)
  | 18, h => (simp only [mr] at h ⊢; (try simp (disch := decide) only [pt_q, k 0 (by omega), k 1 (by omega), k 2 (by omega), k 3 (by omega), k 4 (by omega), k 5 (by omega), k 6 (by omega), wl, paced]); first | done | exact h)
  | 19, h => (simp only [mr] at h ⊢; (try simp (disch := decide) only [pt_q, k 0 (by omega), k 1 (by omega), k 2 (by omega), k 3 (by omega), k 4 (by omega), k 5 (by omega), k 6 (by omega), wl, paced]); first | done | exact h)
  | 20, h => (simp only [mr] at h ⊢; (try simp (disch := decide) only [pt_q, k 0 (by omega), k 1 (by omega), k 2 (by omega), k 3 (by omega), k 4 (by omega), k 5 (by omega), k 6 (by omega), wl, paced]); first | done | exact h)
  | 21, h => (simp only [mr] at h ⊢; (try simp (disch := decide) only [pt_q, k 0 (by omega), k 1 (by omega), k 2 (by omega), k 3 (by omega), k 4 (by omega), k 5 (by omega), k 6 (by omega), wl, paced]); first | done | exact h)
  | 22, h => (simp only [mr] at h ⊢; (try simp (disch := decide) only [pt_q, k 0 (by omega), k 1 (by omega), k 2 (by omega), k 3 (by omega), k 4 (by omega), k 5 (by omega), k 6 (by omega), wl, paced]); first | done | exact h)
  | 23, h => (simp only [mr] at h ⊢; (try simp (disch := decide) only [pt_q, k 0 (by omega), k 1 (by omega), k 2 (by omega), k 3 (by omega), k 4 (by omega), k 5 (by omega), k 6 (by omega), wl, paced]); first | done | exact h)
  | 24, h => (simp only [mr] at h ⊢; (try simp (disch := decide) only [pt_q, k 0 (by omega), k 1 (by omega), k 2 (by omega), k 3 (by omega), k 4 (by omega), k 5 (by omega), k 6 (by omega), wl, paced]); first | done | exact h)
  | 25, h => (simp only [mr] at h ⊢; (try simp (disch := decide) only [pt_q, k 0 (by omega), k 1 (by omega), k 2 (by omega), k 3 (by omega), k 4 (by omega), k 5 (by omega), k 6 (by omega), wl, paced]); first | done | exact h)
  | 26, h => (simp only [mr] at h ⊢; (try simp (disch := decide) only [pt_q, k 0 (by omega), k 1 (by omega), k 2 (by omega), k 3 (by omega), k 4 (by omega), k 5 (by omega), k 6 (by omega), wl, paced]); first | done | exact h)
  | 27, h => (simp only [mr] at h ⊢; (try simp (disch := decide) only [pt_q, k 0 (by omega), k 1 (by omega), k 2 (by omega), k 3 (by omega), k 4 (by omega), k 5 (by omega), k 6 (by omega), wl, paced]); first | done | exact h)
  | 28, h => (simp only [mr] at h ⊢; (try simp (disch := decide) only [pt_q, k 0 (by omega), k 1 (by omega), k 2 (by omega), k 3 (by omega), k 4 (by omega), k 5 (by omega), k 6 (by omega), wl, paced]); first | done | exact h)
  | 29, h => (simp only [mr] at h ⊢; (try simp (disch := decide) only [pt_q, k 0 (by omega), k 1 (by omega), k 2 (by omega), k 3 (by omega), k 4 (by omega), k 5 (by omega), k 6 (by omega), wl, paced]); first | done | exact h)
  | 30, h => (simp only [mr] at h ⊢; (try simp (disch := decide) only [pt_q, k 0 (by omega), k 1 (by omega), k 2 (by omega), k 3 (by omega), k 4 (by omega), k 5 (by omega), k 6 (by omega), wl, paced]); first | done | exact h)
  | _ + 31, _ => trivial
theorem m_doesLine (d : Nat) {B T : LW} {th : Bool} {ω σ : Sig} (hM : MR B T ω σ) (hW : WI B T ω) (ht : σ 112 5 = bI (th = true)) (hl : nx ω < wl ω) (hp : ¬ paced ω (nx ω)) :
    ∃ σ', Ex (d + 3) 225 0 [.ref 112, .null, .null, .null] [] G0 σ = some (none, G0, σ') ∧ Fr [113, 123] [] σ σ' ∧ (th = true → Fr [113] [] σ σ') ∧ MR B T (lnW th ω) σ' := by
  have hn := WI_nx hW
  have h25 : mr B T ω σ 25 := hM 25
  obtain ⟨w0, w1, w2, _⟩ := h25 (nx ω) hl
  have l0 : ∀ d, Ex d 222 0 [.ref 112, .int 0] [] G0 σ = some (some (.int (mway (ω 21 (nx ω)))), G0, σ) := fun d => by rw [← w0]; exact m_ofLine d hM hW hl (k := 0) (by omega)
  have l1 : ∀ d, Ex d 222 0 [.ref 112, .int 1] [] G0 σ = some (some (.int (ω 22 (nx ω))), G0, σ) := fun d => by rw [← w1]; exact m_ofLine d hM hW hl (k := 1) (by omega)
  have l2 : ∀ d, Ex d 222 0 [.ref 112, .int 2] [] G0 σ = some (some (.int (σ 133 (4 * nx ω + 2))), G0, σ) := fun d => m_ofLine d hM hW hl (k := 2) (by omega)
  simp only [b225_0, l0, Option.bind_some, Option.toList_some, Option.toList_none, List.cons_append, List.nil_append, i01a, i01b, if_true, if_false, b225_5, l1, b225_11, l2, b225_17]
  have fin : ∀ (σ1 : Sig) (a1 a2 a3 : Int32), Fr [113, 123] [] σ σ1 → (th = true → Fr [113] [] σ σ1) → MR B T (lnB th ω (nx ω)) σ1 → ∃ σ', Ex (d + 2 + 1) 225 82 [.ref 112, .int a1, .int a2, .int a3] [] G0 σ1 = some (none, G0, σ') ∧ Fr [113, 123] [] σ σ' ∧ (th = true → Fr [113] [] σ σ') ∧ MR B T (lnW th ω) σ' := by
    intro σ1 a1 a2 a3 f g m
    have e5 : σ1 113 5 = nI (nx ω) := by rw [show σ1 113 5 = (lnB th ω (nx ω)) 1 9 from m 12, lnB_q (by decide)]; exact hn.1
    rw [b225_82, e5, nI_s]
    exact ⟨_, rfl, Fr_p f (Or.inl (by simp)), fun h => Fr_p (g h) (Or.inl (by simp)), MR_n5 m _⟩
  have e20 : 2 * (σ 112 7 + 3) = 2 * ω 8 0 := by rw [show σ 112 7 = ω 8 0 - 3 from hM 1, s3a]
  rcases ln_k hW hl hp with ⟨k, h1⟩ | ⟨k, h1, h2⟩ | ⟨k, h1, h2⟩
  · have c2 : (mway (ω 21 (nx ω)) = 2) = True := eq_true (by rw [k]; decide)
    obtain ⟨σ1, e1, f1, m1⟩ := m_eases (d + 1) hM hW (ω 22 (nx ω)) (ease_b hW h1)
    have hWe := WI_ea hW (ease_b hW h1)
    obtain ⟨σ2, e2, f2, m2, k2⟩ := m_notes (d + 2) m1 hWe th (by rw [f1 112 5 (by decide) (by simp)]; exact ht) 3 (ω 22 (nx ω)) (-1)
    simp only [c2, i10, i01, eq_self, if_true, if_false, true_and, false_and, and_true, and_false, not_true, not_false_iff, true_or, or_true, false_or, or_false, ne_eq, not_true_eq_false, not_false_eq_true, e1, Option.bind_some, Option.toList_some, Option.toList_none, List.cons_append, List.nil_append, i01a, i01b, if_true, if_false, b225_28, e2, b225_35]
    refine fin σ2 _ _ _ (Fr_t (Fr_m f1 (by simp) (by simp)) f2) (fun h => by rw [k2 h]; exact f1) ?_
    unfold lnB; rw [if_pos k]; exact m2
  · have c2 : (mway (ω 21 (nx ω)) = 2) = False := eq_false (by rw [k]; decide)
    have c4 : (mway (ω 21 (nx ω)) = 4) = False := eq_false (by rw [k]; decide)
    have c3 : (mway (ω 21 (nx ω)) = 3) = True := eq_true (by rw [k]; decide)
    have k23 : (ω 21 (nx ω) = 23) = False := eq_false (by rw [k]; decide)
    have k4 : (ω 21 (nx ω) = 4) = False := eq_false (by rw [k]; decide)
    rw [w2 (by rw [k]; decide)]
    simp only [c2, i10, i01, eq_self, if_true, if_false, true_and, false_and, and_true, and_false, not_true, not_false_iff, true_or, or_true, false_or, or_false, ne_eq, not_true_eq_false, not_false_eq_true, m_isPlace, e20, Option.bind_some, Option.toList_some, Option.toList_none, List.cons_append, List.nil_append, i01a, i01b, if_true, if_false, b225_43, bI_z, bI_o, bI_em, ite_not]
    have hln : lnB th ω (nx ω) = if 0 ≤ ω 22 (nx ω) ∧ ω 22 (nx ω) < 2 * ω 8 0 then noW th (putW ω (ω 22 (nx ω)).toNatClampNeg (ω 23 (nx ω))) 2 (ω 22 (nx ω)) (ω 23 (nx ω)) else ω := by
      unfold lnB; simp only [k23, k4, i10, i01, eq_self, if_true, if_false, true_and, false_and, and_true, and_false, not_true, not_false_iff, true_or, or_true, false_or, or_false, ne_eq, not_true_eq_false, not_false_eq_true, ite_not]
    by_cases c : 0 ≤ ω 22 (nx ω) ∧ ω 22 (nx ω) < 2 * ω 8 0
    · obtain ⟨hpn, ep⟩ := pl_n hW c
      have hp8 : (ω 22 (nx ω)).toNatClampNeg < 8 := by have := (WI_np hW).2.1; omega
      have hWp : WI B T (putW ω (ω 22 (nx ω)).toNatClampNeg (ω 23 (nx ω))) := WI_putW hW hpn (Or.inr h2)
      obtain ⟨σ1, e1, f1, m1⟩ := m_changes d hM hp8 (ω 23 (nx ω))
      rw [← ep] at e1
      obtain ⟨σ2, e2, f2, m2, k2⟩ := m_notes (d + 2) m1 hWp th (by rw [f1 112 5 (by decide) (by simp)]; exact ht) 2 (ω 22 (nx ω)) (ω 23 (nx ω))
      simp only [eq_true c, i10, i01, eq_self, if_true, if_false, true_and, false_and, and_true, and_false, not_true, not_false_iff, true_or, or_true, false_or, or_false, ne_eq, not_true_eq_false, not_false_eq_true, c4, e1, Option.bind_some, Option.toList_some, Option.toList_none, List.cons_append, List.nil_append, i01a, i01b, if_true, if_false, b225_70, c3, e2]
      refine fin σ2 _ _ _ (Fr_t (Fr_m f1 (by simp) (by simp)) f2) (fun h => by rw [k2 h]; exact f1) ?_
      rw [hln, if_pos c]; exact m2
    · simp only [c, i10, i01, eq_self, if_true, if_false, true_and, false_and, and_true, and_false, not_true, not_false_iff, true_or, or_true, false_or, or_false, ne_eq, not_true_eq_false, not_false_eq_true]
      exact fin σ _ _ _ Fr_r (fun _ => Fr_r) (by rw [hln, if_neg c]; exact hM)
  · have c2 : (mway (ω 21 (nx ω)) = 2) = False := eq_false (by rw [k]; decide)
    have c4 : (mway (ω 21 (nx ω)) = 4) = True := eq_true (by rw [k]; decide)
    have c3 : (mway (ω 21 (nx ω)) = 3) = False := eq_false (by rw [k]; decide)
    have k23 : (ω 21 (nx ω) = 23) = False := eq_false (by rw [k]; decide)
    have k4 : (ω 21 (nx ω) = 4) = True := eq_true k
    rw [w2 (by rw [k]; decide)]
    simp only [c2, i10, i01, eq_self, if_true, if_false, true_and, false_and, and_true, and_false, not_true, not_false_iff, true_or, or_true, false_or, or_false, ne_eq, not_true_eq_false, not_false_eq_true, m_isPlace, e20, Option.bind_some, Option.toList_some, Option.toList_none, List.cons_append, List.nil_append, i01a, i01b, if_true, if_false, b225_43, bI_z, bI_o, bI_em, ite_not]
    have hln : lnB th ω (nx ω) = if 0 ≤ ω 22 (nx ω) ∧ ω 22 (nx ω) < 2 * ω 8 0 then pt ω 10 (ω 22 (nx ω)).toNatClampNeg (ω 23 (nx ω)) else ω := by
      unfold lnB; simp only [k23, k4, i10, i01, eq_self, if_true, if_false, true_and, false_and, and_true, and_false, not_true, not_false_iff, true_or, or_true, false_or, or_false, ne_eq, not_true_eq_false, not_false_eq_true, ite_not]
    by_cases c : 0 ≤ ω 22 (nx ω) ∧ ω 22 (nx ω) < 2 * ω 8 0
    · obtain ⟨hpn, ep⟩ := pl_n hW c
      have hp8 : (ω 22 (nx ω)).toNatClampNeg < 8 := by have := (WI_np hW).2.1; omega
      have e15 : (15 : Int32) + ω 22 (nx ω) = nI (15 + (ω 22 (nx ω)).toNatClampNeg) := by
        conv => lhs; rw [ep]
        exact nI_add 15 _
      simp only [eq_true c, i10, i01, eq_self, if_true, if_false, true_and, false_and, and_true, and_false, not_true, not_false_iff, true_or, or_true, false_or, or_false, ne_eq, not_true_eq_false, not_false_eq_true, c4, e15, inb_n (show 15 + (ω 22 (nx ω)).toNatClampNeg < 31 by omega) (show 15 + (ω 22 (nx ω)).toNatClampNeg < 2 ^ 31 by omega), nI_c (show 15 + (ω 22 (nx ω)).toNatClampNeg < 2 ^ 31 by omega), b225_70, c3]
      refine fin _ _ _ _ (Fr_p Fr_r (Or.inl (by simp))) (fun _ => Fr_p Fr_r (Or.inl (by simp))) ?_
      rw [hln, if_pos c]; exact MR_cl hM hp8 _
    · simp only [c, i10, i01, eq_self, if_true, if_false, true_and, false_and, and_true, and_false, not_true, not_false_iff, true_or, or_true, false_or, or_false, ne_eq, not_true_eq_false, not_false_eq_true]
      exact fin σ _ _ _ Fr_r (fun _ => Fr_r) (by rw [hln, if_neg c]; exact hM)
theorem m_doesLines (d : Nat) {B T : LW} {th : Bool} {ω σ : Sig} (hM : MR B T ω σ) (hW : WI B T ω) (ht : σ 112 5 = bI (th = true)) :
    ∃ σ', Ex (d + 4) 226 0 [.ref 112] [] G0 σ = some (none, G0, σ') ∧ Fr [113, 123] [] σ σ' ∧ (th = true → Fr [113] [] σ σ') ∧ MR B T (psS th ω) σ' := by
  have main : ∀ k (ω1 σ1 : Sig), WI B T ω1 → nx ω1 + k = wl ω1 → MR B T ω1 σ1 → Fr [113, 123] [] σ σ1 → (th = true → Fr [113] [] σ σ1) → ∃ σ', Ex (d + 4) 226 0 [.ref 112] [] G0 σ1 = some (none, G0, σ') ∧ Fr [113, 123] [] σ σ' ∧ (th = true → Fr [113] [] σ σ') ∧ MR B T (psW th k ω1) σ' := by
    intro k
    induction k with
    | zero =>
      intro ω1 σ1 hW1 hk m f g
      have hn := WI_nx hW1
      have h15 : wi B T ω1 15 := hW1 15
      have e5 : σ1 113 5 = nI (nx ω1) := (m 12).trans hn.1
      have e43 : σ1 112 43 = nI (wl ω1) := (m 24).trans h15.1
      rw [b226_0]
      have q : (nI (wl ω1) ≤ nI (nx ω1)) = True := by rw [nJ_le (by omega) (by omega)]; exact eq_true (by omega)
      simp only [e5, e43, q, i10, i01, eq_self, if_true, if_false, true_and, false_and, and_true, and_false, not_true, not_false_iff, true_or, or_true, false_or, or_false, ne_eq, not_true_eq_false, not_false_eq_true]
      exact ⟨σ1, rfl, f, g, m⟩
    | succ k ih =>
      intro ω1 σ1 hW1 hk m f g
      have hn := WI_nx hW1
      have h15 : wi B T ω1 15 := hW1 15
      have e5 : σ1 113 5 = nI (nx ω1) := (m 12).trans hn.1
      have e43 : σ1 112 43 = nI (wl ω1) := (m 24).trans h15.1
      rw [b226_0]
      have q : (nI (wl ω1) ≤ nI (nx ω1)) = False := by rw [nJ_le (by omega) (by omega)]; exact eq_false (by omega)
      simp only [e5, e43, q, i10, i01, eq_self, if_true, if_false, true_and, false_and, and_true, and_false, not_true, not_false_iff, true_or, or_true, false_or, or_false, ne_eq, not_true_eq_false, not_false_eq_true, (fun d => m_isPaced d m hW1 (show nx ω1 < wl ω1 by omega)), Option.bind_some, Option.toList_some, Option.toList_none, List.cons_append, List.nil_append, i01a, i01b, if_true, if_false, b226_23]
      by_cases c : paced ω1 (nx ω1)
      · rw [@bI_T _ (Classical.propDecidable _) c, psW_p c]
        simp only [i10, i01, eq_self, if_true, if_false, true_and, false_and, and_true, and_false, not_true, not_false_iff, true_or, or_true, false_or, or_false, ne_eq, not_true_eq_false, not_false_eq_true]
        exact ⟨σ1, rfl, f, g, m⟩
      · obtain ⟨σ2, e2, f2, g2, m2⟩ := m_doesLine d m hW1 (th := th) (by rw [f 112 5 (by decide) (by simp)]; exact ht) (by omega) c
        rw [@bI_F _ (Classical.propDecidable _) c, psW_n c]
        simp only [i10, i01, eq_self, if_true, if_false, true_and, false_and, and_true, and_false, not_true, not_false_iff, true_or, or_true, false_or, or_false, ne_eq, not_true_eq_false, not_false_eq_true, e2, Option.bind_some, Option.toList_some, Option.toList_none, List.cons_append, List.nil_append, i01a, i01b, if_true, if_false, b226_30]
        obtain ⟨w1, w2, _, _⟩ := lnW_w (th := th) (ω := ω1) (by omega)
        exact ih (lnW th ω1) σ2 (WI_lnW hW1 (by omega) c) (by omega) m2 (Fr_t f f2) (fun h => Fr_t (g h) (g2 h))
  have hn := WI_nx hW
  exact main (wl ω - nx ω) ω σ hW (by omega) hM Fr_r (fun _ => Fr_r)
