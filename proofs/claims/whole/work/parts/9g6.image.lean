/-! L3: image; text that can't be -/
theorem oS_c : ∀ p, p < 2553 → 112 ≤ (oS p).1 ∧ (oS p).1 ≠ 124 ∧ (oS p).1 ≠ 125 ∧ (oS p).1 ≠ 114 ∧ ((oS p).1 = 112 → (6 ≤ (oS p).2 ∧ (oS p).2 ≤ 12) ∨ (oS p).2 = 43) := by decide +kernel
theorem oS_n {q k : Nat} (h : q < 112 ∨ q = 124 ∨ q = 125 ∨ q = 114 ∨ q = 142 ∨ (q = 112 ∧ ¬ ((6 ≤ k ∧ k ≤ 12) ∨ k = 43))) : ∀ i, i < 2553 → oS i ≠ (q, k) := by
  intro i hi e
  have a := oS_c i hi
  have b := oS_r i hi
  rw [e] at a b
  simp only at a b
  omega
section
variable {σ : Sig}
theorem q_image1 (h : INV σ) : ∃ u σ1 σ2, Ex (0 + 40) 129 0 [.ref 0, .int 1] [] G0 σ = some (some (.int u), G0, σ1) ∧ Ex (0 + 40) 268 0 [.ref 112, .int 1, .null] [] G0 σ1 = some (some (.int u), G0, σ2) ∧ INV σ2 := by
  obtain ⟨B, T, L, hI⟩ := h
  obtain ⟨hW, hM, hU, hC, hMU, hK, h5, h67, ⟨ht, hf, hi⟩, hS⟩ := hI
  obtain ⟨l1, l2, l3, l4⟩ := lwl hW
  obtain ⟨nb, hb, eb, elb⟩ := bkl hW
  obtain ⟨σ1, e1, ag, h9, f1⟩ := c_image1 (40 - 4) l1 l3 eb l2 l4 hb
  have hM1 := MR_fc hM f1 (by decide) (by decide)
  obtain ⟨σ2, e2, m2, h58, f2⟩ := m_image1 (40 - 2) (σ := σ1)
  have g2 : ∀ q, q < 112 → σ2 q = σ1 q := fun q hq => by funext k; exact f2 q k (by omega)
  have g1 : ∀ q, ¬ (27 ≤ q ∧ q ≤ 52) → q ≠ 0 → σ1 q = σ q := fun q hq h0 => Fr_q f1 (by unfold WC1; simp; omega) (by simp; omega)
  have z1 : ∀ k, k ≠ 9 → σ1 0 k = σ 0 k := fun k hk => f1 0 k (by decide) (by simp; omega)
  have m0 : ∀ q, 113 ≤ q → q ≠ 142 → σ2 q = σ q := fun q hq h0 => by rw [← g1 q (by omega) (by omega)]; funext k; exact f2 q k (by omega)
  have z2 : ∀ k, k ≠ 0 → k ≠ 57 → k ≠ 58 → k ≠ 59 → σ2 112 k = σ 112 k := fun k a b c d => by rw [← g1 112 (by omega) (by omega)]; exact f2 112 k (by omega)
  have w2 : Wb σ σ2 := Wb_e (fun q a b => by rw [g2 q (by omega), g1 q (by omega) (by omega)])
  have hMs : MR B T σ σ2 := MR_s hM (fun q k hq => by
    by_cases c : q = 112
    · subst c; exact z2 k (by omega) (by omega) (by omega) (by omega)
    · rw [m0 q (by omega) (by omega)])
  have ws : Wb (shi σ1) (shi σ2) := Wb_e (fun q a b => by funext k; show σ2 (q + 26) k = σ1 (q + 26) k; rw [g2 (q + 26) (by omega)])
  refine ⟨_, σ1, σ2, e1, e2, B, T, L, IV_g hW hMs w2 hU (CU_k hC (by rw [g2 0 (by omega), z1 7 (by decide)]) (by rw [g2 0 (by omega), z1 8 (by decide)]) (fun q c1 c2 => by rw [g2 q c2, g1 q (by omega) (by omega)])) (MU_fr hMU (z2 3 (by decide) (by decide) (by decide) (by decide)) (m0 114 (by omega) (by omega))) (KN_x hK (fun q k hq => ?_)) (by rw [z2 5 (by decide) (by decide) (by decide) (by decide)]; exact h5) (by rw [g2 67 (by omega), g1 67 (by omega) (by omega)]; exact h67) ⟨TPx_x ht (by rw [g2 53 (by omega), g1 53 (by omega) (by omega)]) (by rw [g2 62 (by omega), g1 62 (by omega) (by omega)]) (z2 22 (by decide) (by decide) (by decide) (by decide)) (m0 124 (by omega) (by omega)) (m0 125 (by omega) (by omega)), ?_, Or.inr ⟨by rw [g2 0 (by omega)]; exact h9, h58, B, T, σ1, ?_, ?_, m2⟩⟩ hS⟩
  · by_cases c : q = 0
    · subst c
      have ek : k = 10 := by simp only [Kc] at hq; omega
      rw [g2 0 (by omega), z1 k (by omega)]
    · rw [g2 q (by simp only [Kc] at hq; omega), g1 q (by simp only [Kc] at hq; omega) c]
  · rw [g2 53 (by omega), g1 53 (by omega) (by omega), z2 41 (by decide) (by decide) (by decide) (by decide), z2 42 (by decide) (by decide) (by decide) (by decide)]; exact hf
  · exact Wb_WI ws (AG_WI hW ag)
  · exact Wb_MR ws (AG_WI hW ag) (AG_MR hW (by rw [show (σ 25 0).toNatClampNeg = lns σ from rfl, elb]; exact Nat.le_refl _) hM1 ag)
theorem q_image0 (h : INV σ) : ∃ u σ1 σ2, Ex (0 + 40) 129 0 [.ref 0, .int 0] [] G0 σ = some (some (.int u), G0, σ1) ∧ Ex (0 + 40) 268 0 [.ref 112, .int 0, .null] [] G0 σ1 = some (some (.int u), G0, σ2) ∧ INV σ2 := by
  obtain ⟨B, T, L, hI⟩ := h
  have hJ := hI
  obtain ⟨hW, hM, hU, hC, hMU, hK, h5, h67, ⟨ht, hf, hi⟩, hS⟩ := hI
  have hi0 := hi
  rcases hi with ⟨i1, i2⟩ | ⟨i1, i2, BI, TI, s, hWI, hMI, i3⟩
  · exact ⟨_, σ, _, c_imageN (40 - 4) i1, m_imageN (40 - 2) i2, B, T, L, IV_1 hJ⟩
  · obtain ⟨l1, l2, l3, l4⟩ := lwl hWI
    obtain ⟨nb, hb, eb, elb⟩ := bkl hWI
    obtain ⟨σ1, e1, ag, h8, h10, f1⟩ := c_image0 (40 - 4) i1 l1 l3 eb l2 l4 hb
    obtain ⟨σ2, e2, m2, h58, h3, m3⟩ := m_image0 (40 - 2) (σ := σ1) (by rw [f1 112 58 (by decide) (by decide)]; exact i2)
    have g2 : ∀ q, q < 112 → σ2 q = σ1 q := fun q hq => by funext k; exact m3 q k (oS_n (Or.inl hq)) (by omega)
    have g1 : ∀ q, 27 ≤ q → σ1 q = σ q := fun q hq => Fr_q f1 (by unfold WC0; simp; omega) (by simp; omega)
    have c2 : ∀ q, q = 124 ∨ q = 125 ∨ q = 142 → σ2 q = σ q := fun q hq => by rw [← g1 q (by omega)]; funext k; exact m3 q k (oS_n (by omega)) (by omega)
    have z2 : ∀ k, k = 5 ∨ k = 22 ∨ k = 41 ∨ k = 42 → σ2 112 k = σ 112 k := fun k hk => by rw [← g1 112 (by omega)]; exact m3 112 k (oS_n (by omega)) (by omega)
    have hM2 : MR BI TI (shi σ) σ2 := MR_o hWI hMI (fun i hi => by rw [m2 i hi, g1 142 (by omega)]; exact i3 i hi)
    refine ⟨_, σ1, σ2, e1, e2, BI, TI, [], IV_n hJ (AG_WI hWI ag) (AG_MR hWI (by rw [show ((shi σ) 25 0).toNatClampNeg = lns (shi σ) from rfl, elb]; exact Nat.le_refl _) hM2 ag) (Wb_e (fun q a b => g2 q (by omega))) ⟨TPx_x ht (by rw [g2 53 (by omega), g1 53 (by omega)]) (by rw [g2 62 (by omega), g1 62 (by omega)]) (z2 22 (by omega)) (c2 124 (by omega)) (c2 125 (by omega)), ?_, IMG_x hi0 (by rw [g2 0 (by omega), f1 0 9 (by decide) (by decide)]) (h58.trans i2.symm) (c2 142 (by omega)) (fun q a b => by rw [g2 q (by omega), g1 q a])⟩ (by rw [g2 0 (by omega), f1 0 7 (by decide) (by decide)]) (by rw [g2 0 (by omega)]; exact h8) (by rw [g2 0 (by omega)]; exact h10) h3 (by rw [z2 5 (by omega)]; exact h5) (by rw [g2 67 (by omega), g1 67 (by omega)]; exact h67)⟩
    rw [g2 53 (by omega), g1 53 (by omega), z2 41 (by omega), z2 42 (by omega)]; exact hf
theorem oS_T : ∀ p, p < 2553 → ¬ DT (oS p).1 (oS p).2 := by decide +kernel
/-- nothing was read -/
theorem IV_f {B T : LW} {L : List Sig} {σ1 σ2 : Sig} (h : IV B T L σ) (f1 : Fr SCTx [] σ σ1) (f2 : FX DT σ1 σ2) (e0 : σ1 53 0 = 0) (e22 : σ2 112 22 = 0) (ef : σ1 53 1 = σ2 112 41 ∧ σ1 53 2 = σ2 112 42) : IV B T L σ2 := by
  have hJ := h
  obtain ⟨hW, hM, hU, hC, hMU, hK, h5, h67, ⟨⟨b, n, te, tm⟩, hf, hi⟩, hS⟩ := h
  have g2 : ∀ q, q < 112 → σ2 q = σ1 q := fun q hq => by funext k; exact f2 q k (by simp only [DT, Dl, Da, Ds]; omega)
  have g1 : ∀ q, ¬ (53 ≤ q ∧ q ≤ 66) → σ1 q = σ q := fun q hq => Fr_q f1 (by unfold SCTx; simp; omega) (by simp)
  have c2 : ∀ q, q = 114 ∨ q = 124 ∨ q = 125 ∨ q = 142 → σ2 q = σ q := fun q hq => by rw [← g1 q (by omega)]; funext k; exact f2 q k (by simp only [DT, Dl, Da, Ds]; omega)
  have z2 : ∀ k, k = 3 ∨ k = 5 ∨ k = 58 → σ2 112 k = σ 112 k := fun k hk => by rw [← g1 112 (by omega)]; exact f2 112 k (by simp only [DT, Dl, Da, Ds]; omega)
  refine IV_t hJ (MR_o hW hM (fun i hi => ?_)) (fun q a b c d e => ?_) (z2 3 (by omega)) (c2 114 (by omega)) (z2 5 (by omega)) ⟨⟨b, 0, ⟨Nat.zero_le _, by rw [g2 53 (by omega)]; exact e0, fun i hi => absurd hi (Nat.not_lt_zero i)⟩, ⟨Nat.zero_le _, e22, fun i hi => absurd hi (Nat.not_lt_zero i), by rw [c2 125 (by omega)]; exact tm.2.2.2⟩⟩, by rw [g2 53 (by omega)]; exact ef, IMG_x hi (by rw [g2 0 (by omega), g1 0 (by omega)]) (z2 58 (by omega)) (c2 142 (by omega)) (fun q a b => by rw [g2 q (by omega), g1 q (by omega)])⟩
  · rw [f2 _ _ (oS_T i hi), g1 _ (by have := (oS_c i hi).1; omega)]
  · by_cases k : q = 56
    · subst k; rw [g2 56 (by omega)]; exact Fr_q f1 (by decide) (by simp)
    · rw [g2 q a, g1 q (by omega)]
theorem q_text_ (h : INV σ) {k : Int32} (h0 : ¬ k = 0) (h1 : ¬ k = 1) (h2 : ¬ k = 2) : ∃ u σ1 σ2, Ex (0 + 40) 106 0 [.ref 0, .int k] [] G0 σ = some (some (.int u), G0, σ1) ∧ Ex (0 + 40) 200 0 [.ref 112, .int k, .null] [] G0 σ1 = some (some (.int u), G0, σ2) ∧ INV σ2 := by
  obtain ⟨B, T, L, hI⟩ := h
  obtain ⟨σ1, e1, a0, a1, a2, f1⟩ := c_text_ 17 (σ := σ) h0 h1 h2
  obtain ⟨σ2, e2, b0, b1, b2, f2⟩ := m_text_ (40 - 9) (σ := σ1) h0 h1 h2
  exact ⟨_, σ1, σ2, e1, e2, B, T, L, IV_f hI f1 f2 a0 b0 ⟨a1.trans b1.symm, a2.trans b2.symm⟩⟩
end
