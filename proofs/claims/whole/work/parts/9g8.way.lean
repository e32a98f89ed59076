/-! L3: text: a way is taken -/
theorem WI_wy {B T : LW} {ω ω' : Sig} {ls : List WLn} (hW : WI B T ω) (q : ∀ q, 1 ≤ q ∧ q ≤ 26 ∧ q ≠ 1 ∧ ¬ (20 ≤ q ∧ q ≤ 24) ∧ q ≠ 16 ∧ q ≠ 19 → ω' q = ω q) (q1 : ∀ k, k ≠ 9 → k ≠ 10 → ω' 1 k = ω 1 k) (h9 : ω' 1 9 = 0) (h10 : ω' 1 10 = 0) (W : WCa 20 ls ω') (hl : ls.length ≤ 40) (ok : ∀ x ∈ ls, okW1 (np ω) (sz ω) x) : WI B T ω' := by
  have enp : np ω' = np ω := by unfold np pr; rw [q 8 (by decide)]
  have esz : sz ω' = sz ω := by unfold sz; rw [q 2 (by decide)]
  have ewl : wl ω' = ls.length := by unfold wl; rw [W.1, nI_c (by omega)]
  have n8 := (WI_np hW).2.1
  have gt : ∀ l, l < ls.length → ls.getD l dW ∈ ls := fun l h => by rw [List.getD, List.getElem?_eq_getElem h]; exact List.getElem_mem h
  have c : ∀ l, l < ls.length → ω' 21 l = (ls.getD l dW).1 ∧ ω' 22 l = (ls.getD l dW).2.1 ∧ ω' 23 l = (ls.getD l dW).2.2.1 ∧ ω' 24 l = (ls.getD l dW).2.2.2 := W.2.1
  intro i
  have h := hW i
  match i, h with
  | 0, h => simp only [wi] at h ⊢; rw [q1 0 (by decide) (by decide)]; exact h
  | 1, h => simp only [wi] at h ⊢; rw [q1 1 (by decide) (by decide)]; exact h
  | 2, h => simp only [wi] at h ⊢; rw [q1 3 (by decide) (by decide)]; exact h
  | 3, h => simp only [wi] at h ⊢; rw [q1 4 (by decide) (by decide)]; exact h
  | 4, h => simp only [wi, pr] at h ⊢; rw [q 8 (by decide)]; exact h
  | 5, h => simp only [wi] at h ⊢; rw [esz, q 2 (by decide)]; exact h
  | 6, h => simp only [wi] at h ⊢; rw [esz, enp, q 9 (by decide)]; exact h
  | 7, h => simp only [wi] at h ⊢; rw [q 9 (by decide)]; exact h
  | 8, h => simp only [wi] at h ⊢; rw [q 10 (by decide)]; exact h
  | 9, h => simp only [wi] at h ⊢; rw [q 11 (by decide)]; exact h
  | 10, h => simp only [wi] at h ⊢; rw [q 13 (by decide)]; exact h
  | 11, h => simp only [wi] at h ⊢; rw [esz, q 3 (by decide)]; exact h
  | 12, h => simp only [wi] at h ⊢; rw [q 4 (by decide)]; exact h
  | 13, h => simp only [wi] at h ⊢; rw [q 7 (by decide)]; exact h
  | 14, h => simp only [wi] at h ⊢; rw [q 25 (by decide)]; exact h
  | 15, h => simp only [wi]; rw [ewl]; exact ⟨W.1, hl⟩
  | 16, h => simp only [wi]; rw [h9]; exact ⟨by decide, by have : (0 : Int32).toInt = 0 := rfl; omega⟩
  | 17, h => simp only [wi]; rw [h10]; exact ⟨by decide, by decide⟩
  | 18, h =>
    simp only [wi, paced]; rw [ewl, esz]; intro l hl
    obtain ⟨c1, c2, c3, c4⟩ := c l hl
    rw [c1, c2, c3, c4]
    rcases ok _ (gt l hl) with k | k | ⟨k1, k2, k3⟩ | ⟨k1, k2, k3⟩
    · exact Or.inl k
    · exact Or.inr (Or.inl k)
    · exact Or.inr (Or.inr (Or.inl ⟨k1, ⟨k2.1, by have := k2.2; omega⟩, k3⟩))
    · exact Or.inr (Or.inr (Or.inr ⟨k1, ⟨k2.1, by have := k2.2; omega⟩, k3⟩))
  | 19, h =>
    simp only [wi, paced]; rw [ewl]
    rcases W.2.2 with ⟨k1, k2⟩ | ⟨m, k1, k2, k3, k4⟩
    · exact Or.inl ⟨k1, fun l hl => by rw [(c l hl).1]; exact k2 l hl⟩
    · exact Or.inr ⟨m, k1, k2, by rw [(c m k1).1]; exact k3, fun l h1 h2 => by rw [(c l h2).1]; exact k4 l h1 h2⟩
  | 20, h => simp only [wi] at h ⊢; rw [q 14 (by decide), q 15 (by decide)]; exact h
  | 21, h => simp only [wi] at h ⊢; rw [q 17 (by decide), q 18 (by decide)]; exact h
  | 22, h => simp only [wi] at h ⊢; rw [q 12 (by decide)]; exact h
  | _ + 23, _ => trivial
theorem MR_wy {B T : LW} {ω ω' s σ2 : Sig} {ls : List WLn} (hM : MR B T ω s) (okB : okL B) (okT : okL T) (q : ∀ q, 1 ≤ q ∧ q ≤ 26 ∧ q ≠ 1 ∧ ¬ (20 ≤ q ∧ q ≤ 24) ∧ q ≠ 16 ∧ q ≠ 19 → ω' q = ω q) (q1 : ∀ k, k ≠ 9 → k ≠ 10 → ω' 1 k = ω 1 k) (h9 : ω' 1 9 = 0) (h10 : ω' 1 10 = 0) (W : WCa 20 ls ω') (hl : ls.length ≤ 40)
    (m : ∀ q k, (q = 112 ∧ 6 ≤ k ∧ k ≤ 12) ∨ (q = 113 ∧ k ≠ 5 ∧ k ≠ 6) ∨ (116 ≤ q ∧ q ≤ 123) ∨ q = 126 ∨ ((q = 127 ∨ q = 128 ∨ q = 129) ∧ k < 32) ∨ ((q = 130 ∨ q = 131) ∧ k < 800) → σ2 q k = s q k) (hY : YA 0 ls σ2) (h43 : σ2 112 43 = nI ls.length) (h5 : σ2 113 5 = 0) (h6 : σ2 113 6 = 0) : MR B T ω' σ2 := by
  have ewl : wl ω' = ls.length := by unfold wl; rw [W.1, nI_c (by omega)]
  have mq : ∀ q, (116 ≤ q ∧ q ≤ 123) ∨ q = 126 → σ2 q = s q := fun q hq => by funext k; exact m q k (by omega)
  have c : ∀ l, l < ls.length → ω' 21 l = (ls.getD l dW).1 ∧ ω' 22 l = (ls.getD l dW).2.1 ∧ ω' 23 l = (ls.getD l dW).2.2.1 ∧ ω' 24 l = (ls.getD l dW).2.2.2 := W.2.1
  intro i
  have h := hM i
  match i, h with
  | 0, h => simp only [mr] at h ⊢; rw [m 112 6 (by omega), q1 0 (by decide) (by decide)]; exact h
  | 1, h => simp only [mr] at h ⊢; rw [m 112 7 (by omega), q 8 (by decide)]; exact h
  | 2, h => simp only [mr] at h ⊢; rw [m 112 8 (by omega), q1 2 (by decide) (by decide)]; exact h
  | 3, h => simp only [mr] at h ⊢; rw [m 112 9 (by omega), q1 3 (by decide) (by decide)]; exact h
  | 4, h => simp only [mr] at h ⊢; rw [m 112 10 (by omega), q1 1 (by decide) (by decide)]; exact h
  | 5, h => simp only [mr] at h ⊢; rw [m 112 11 (by omega), q1 4 (by decide) (by decide)]; exact h
  | 6, h => simp only [mr] at h ⊢; rw [m 112 12 (by omega), q 2 (by decide)]; exact h
  | 7, h => simp only [mr] at h ⊢; rw [m 113 0 (by omega), q1 6 (by decide) (by decide)]; exact h
  | 8, h => simp only [mr] at h ⊢; rw [m 113 1 (by omega), q1 5 (by decide) (by decide)]; exact h
  | 9, h => simp only [mr] at h ⊢; rw [m 113 2 (by omega), q 25 (by decide)]; exact h
  | 10, h => simp only [mr] at h ⊢; rw [m 113 3 (by omega), q1 7 (by decide) (by decide)]; exact h
  | 11, h => simp only [mr] at h ⊢; rw [m 113 4 (by omega), q1 8 (by decide) (by decide)]; exact h
  | 12, h => simp only [mr]; rw [h5, h9]
  | 13, h => simp only [mr]; rw [h6, h10]
  | 14, h => simp only [mr] at h ⊢; intro p hp; rw [m 113 (7 + p) (by omega), q 9 (by decide)]; exact h p hp
  | 15, h => simp only [mr] at h ⊢; intro p hp; rw [m 113 (15 + p) (by omega), q 10 (by decide)]; exact h p hp
  | 16, h => simp only [mr] at h ⊢; intro p hp; rw [m 113 (23 + p) (by omega), q 7 (by decide)]; exact h p hp
  | 17, h => simp only [mr] at h ⊢; rw [mq 116 (by omega), q 3 (by decide)]; exact h
  | 18, h => simp only [mr] at h ⊢; rw [mq 117 (by omega), q 4 (by decide)]; exact h
  | 19, h => simp only [mr] at h ⊢; rw [mq 118 (by omega), q 5 (by decide)]; exact h
  | 20, h => simp only [mr] at h ⊢; rw [mq 119 (by omega), q 6 (by decide)]; exact h
  | 21, h => simp only [mr] at h ⊢; rw [mq 120 (by omega), q 11 (by decide)]; exact h
  | 22, h => simp only [mr] at h ⊢; rw [mq 121 (by omega), q 12 (by decide)]; exact h
  | 23, h => simp only [mr] at h ⊢; rw [mq 122 (by omega), q 13 (by decide)]; exact h
  | 24, h => simp only [mr]; rw [h43, W.1]
  | 25, h =>
    simp only [mr, paced]; rw [ewl]; intro l hl
    obtain ⟨c1, c2, c3, c4⟩ := c l hl
    rw [c1, c2, c3, c4]
    have y := hY l hl
    rw [Nat.zero_add] at y
    exact y
  | 26, h => simp only [mr] at h ⊢; rw [mq 123 (by omega), q 25 (by decide), q 26 (by decide)]; exact h
  | 27, h => simp only [mr] at h ⊢; rw [mq 126 (by omega), q 14 (by decide)]; exact h
  | 28, h => simp only [mr] at h ⊢; rw [mq 126 (by omega), q 17 (by decide)]; exact h
  | 29, h =>
    simp only [mr] at h ⊢
    exact modLaw_k h (fun k hk => by have := okB.1; exact ⟨m 127 _ (by omega), m 128 _ (by omega), m 129 _ (by omega)⟩) (fun i hi => by have := okB.2.2.1; exact ⟨m 130 _ (by omega), m 131 _ (by omega)⟩)
  | 30, h =>
    simp only [mr] at h ⊢
    exact modLaw_k h (fun k hk => by have := okT.1; exact ⟨m 127 _ (by omega), m 128 _ (by omega), m 129 _ (by omega)⟩) (fun i hi => by have := okT.2.2.1; exact ⟨m 130 _ (by omega), m 131 _ (by omega)⟩)
  | _ + 31, _ => trivial
section
variable {σ : Sig}
theorem q_text2 (h : INV σ) : ∃ u σ1 σ2, Ex (0 + 40) 106 0 [.ref 0, .int 2] [] G0 σ = some (some (.int u), G0, σ1) ∧ Ex (0 + 40) 200 0 [.ref 112, .int 2, .null] [] G0 σ1 = some (some (.int u), G0, σ2) ∧ INV σ2 := by
  obtain ⟨B, T, L, hI⟩ := h
  have hJ := hI
  obtain ⟨hW, hM, hU, hC, hMU, hK, h5, h67, ⟨⟨b, n, te, tm⟩, hf, hi⟩, hS⟩ := hI
  obtain ⟨n4, n8, enp⟩ := WI_np hW
  obtain ⟨e2n, s8⟩ : wi B T σ 5 := hW 5
  obtain ⟨σ1, v, N, F, E, e1, tk, a0, r1⟩ := c_text2 17 te enp e2n ⟨by omega, n8⟩ s8
  have F1 : Fr SCU [(1, 9), (1, 10), (0, 8), (0, 10)] σ σ1 := by
    cases hw : pWy (kd b N F E) (vN b F E) (np σ) (sz σ) 40 0 with
    | inl y => rw [hw] at r1; obtain ⟨y1, y2⟩ := y; exact Fr_m r1.2.2.2 (by decide) (by simp)
    | inr ls => rw [hw] at r1; exact r1.2.2.2.2.2.2.2.2
  have hP : 2 * (σ1 112 7 + 3) = nI (np σ) := by
    rw [F1 112 7 (by decide) (by decide), show σ 112 7 = σ 8 0 - 3 from hM 1, Int32.sub_add_cancel]; exact enp
  have hB : σ1 112 12 = nI (sz σ) := by rw [F1 112 12 (by decide) (by decide), show σ 112 12 = σ 2 0 from hM 6]; exact e2n
  obtain ⟨σ2, v2, e2, b0, r2⟩ := m_text2 (40 - 9) (TPm_fr tm F1 (by decide) (by decide)) hP hB ⟨by omega, n8⟩ s8 tk
  cases hw : pWy (kd b N F E) (vN b F E) (np σ) (sz σ) 40 0 with
  | inl y =>
    rw [hw] at r1 r2
    obtain ⟨y1, y2⟩ := y
    obtain ⟨c1, c2, c3, c4⟩ := r1
    obtain ⟨d1, d2, d3, d4⟩ := r2
    rw [c1] at e1
    rw [d1] at e2
    exact ⟨_, σ1, σ2, e1, e2, B, T, L, IV_f hJ c4 d4 a0 b0 ⟨c2.trans d2.symm, c3.trans d3.symm⟩⟩
  | inr ls =>
    rw [hw] at r1 r2
    obtain ⟨c1, c2, c3, c4, c5, c6, c7, c8, _⟩ := r1
    obtain ⟨d1, d2, d3, d4, d5, d6, d7, d8, d9⟩ := r2
    rw [c1] at e1
    rw [d1] at e2
    obtain ⟨p1, p2⟩ := pWy_ok kd_e (fun t ht => (kd_30 tk ht).2.2.2) ⟨by omega, n8⟩ s8 40 0 ls (Nat.zero_le _) hw
    have g2 : ∀ q, q < 112 → σ2 q = σ1 q := fun q hq => by funext k; exact d9 q k (by simp only [DV, DT, Dl, Da, Ds]; omega)
    have g1 : ∀ q, ¬ (53 ≤ q ∧ q ≤ 66) → ¬ (20 ≤ q ∧ q ≤ 24) → q ≠ 0 → q ≠ 1 → σ1 q = σ q := fun q hq h0 h1 h2 => Fr_q F1 (by unfold SCU; simp; omega) (by simp; omega)
    have z1 : ∀ k, k ≠ 8 → k ≠ 10 → σ1 0 k = σ 0 k := fun k hk h => F1 0 k (by decide) (by simp; omega)
    have c2' : ∀ q, q = 124 ∨ q = 125 ∨ q = 142 → σ2 q = σ q := fun q hq => by rw [← g1 q (by omega) (by omega) (by omega) (by omega)]; funext k; exact d9 q k (by simp only [DV, DT, Dl, Da, Ds]; omega)
    have z2 : ∀ k, k = 5 ∨ k = 58 → σ2 112 k = σ 112 k := fun k hk => by rw [← g1 112 (by omega) (by omega) (by omega) (by omega)]; exact d9 112 k (by simp only [DV, DT, Dl, Da, Ds]; omega)
    have gq : ∀ q, 1 ≤ q ∧ q ≤ 26 ∧ q ≠ 1 ∧ ¬ (20 ≤ q ∧ q ≤ 24) ∧ q ≠ 16 ∧ q ≠ 19 → σ2 q = σ q := fun q hq => by rw [g2 q (by omega), g1 q (by omega) (by omega) (by omega) (by omega)]
    have q1 : ∀ k, k ≠ 9 → k ≠ 10 → σ2 1 k = σ 1 k := fun k a b => by rw [g2 1 (by omega)]; exact F1 1 k (by decide) (by simp; omega)
    have W : WCa 20 ls σ2 := WCa_k c4 (fun q a b => g2 q (by omega))
    have k9 : σ2 1 9 = 0 := by rw [g2 1 (by omega)]; exact c5
    have k10 : σ2 1 10 = 0 := by rw [g2 1 (by omega)]; exact c6
    have hW2 := WI_wy hW gq q1 k9 k10 W p1 p2
    have mm : ∀ q k, (q = 112 ∧ 6 ≤ k ∧ k ≤ 12) ∨ (q = 113 ∧ k ≠ 5 ∧ k ≠ 6) ∨ (116 ≤ q ∧ q ≤ 123) ∨ q = 126 ∨ ((q = 127 ∨ q = 128 ∨ q = 129) ∧ k < 32) ∨ ((q = 130 ∨ q = 131) ∧ k < 800) → σ2 q k = σ q k := fun q k hq => by
      rw [← g1 q (by omega) (by omega) (by omega) (by omega)]
      exact d9 q k (by simp only [DV, DT, Dl, Da, Ds]; omega)
    have hM2 := MR_wy hM (hW 20).2.1 (hW 21).2.1 gq q1 k9 k10 W p1 mm d4 d5 d6 d7
    exact ⟨_, σ1, σ2, e1, e2, B, T, [], IV_n hJ hW2 hM2 Wb_r ⟨⟨b, 0, ⟨Nat.zero_le _, by rw [g2 53 (by omega)]; exact a0, fun i hi => absurd hi (Nat.not_lt_zero i)⟩, ⟨Nat.zero_le _, b0, fun i hi => absurd hi (Nat.not_lt_zero i), by rw [c2' 125 (by omega)]; exact tm.2.2.2⟩⟩, ⟨by rw [g2 53 (by omega), c2, d2], by rw [g2 53 (by omega), c3, d3]⟩, IMG_x hi (by rw [g2 0 (by omega), z1 9 (by decide) (by decide)]) (z2 58 (by omega)) (c2' 142 (by omega)) (fun q a b => by rw [g2 q (by omega), g1 q (by omega) (by omega) (by omega) (by omega)])⟩ (by rw [g2 0 (by omega), z1 7 (by decide) (by decide)]) (by rw [g2 0 (by omega)]; exact c7) (by rw [g2 0 (by omega)]; exact c8) d8 (by rw [z2 5 (by omega)]; exact h5) (by rw [g2 67 (by omega), g1 67 (by omega) (by omega) (by omega) (by omega)]; exact h67)⟩
theorem q_text (h : INV σ) (k : Int32) : ∃ u σ1 σ2, Ex (0 + 40) 106 0 [.ref 0, .int k] [] G0 σ = some (some (.int u), G0, σ1) ∧ Ex (0 + 40) 200 0 [.ref 112, .int k, .null] [] G0 σ1 = some (some (.int u), G0, σ2) ∧ INV σ2 := by
  by_cases h0 : k = 0
  · subst h0; exact q_text0 h
  · by_cases h1 : k = 1
    · subst h1; exact q_text1 h
    · by_cases h2 : k = 2
      · subst h2; exact q_text2 h
      · exact q_text_ h h0 h1 h2
end
