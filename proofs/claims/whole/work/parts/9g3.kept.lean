/-! L3: questions whose answers are kept -/
section
variable {σ : Sig}
theorem KNe {B T : LW} {ω : Sig} (h : KN B T ω σ) : (¬ (σ 0 10 &&& 1 = 0) → KO ω (orS B ω (kpt ω)) σ) ∧ (¬ (σ 0 10 &&& 2 = 0) → KZ ω (coS B ω) σ) ∧ (¬ (σ 0 10 &&& 4 = 0) → KF ω (2 ^ 30) (fiT B ω) σ) ∧ (¬ (σ 0 10 &&& 8 = 0) → KH B T ω σ) := by
  obtain ⟨n, hn, en, k1, k2, k3, k4⟩ := h
  rw [en]
  exact ⟨fun c => k1 ((kb n hn).1.mp c), fun c => k2 ((kb n hn).2.1.mp c), fun c => k3 ((kb n hn).2.2.1.mp c), fun c => k4 ((kb n hn).2.2.2.mp c)⟩
theorem KO_k {ω : Sig} {st : Option (Nat × List Nat)} {σ' : Sig} (h : KO ω st σ) (e1 : σ' 79 0 = σ 79 0) (e2 : σ' 80 = σ 80) : KO ω st σ' := by unfold KO at h ⊢; rw [e1, e2]; exact h
theorem KZ_k {ω : Sig} {st : Option (Nat × Nat × List Nat)} {σ' : Sig} (h : KZ ω st σ) (e1 : σ' 79 2 = σ 79 2) (e2 : σ' 79 3 = σ 79 3) (e3 : σ' 81 = σ 81) : KZ ω st σ' := by unfold KZ at h ⊢; rw [e1, e2, e3]; exact h
theorem KF_k {ω : Sig} {m : Nat} {st : Nat × List Nat} {σ' : Sig} (h : KF ω m st σ) (e1 : σ' 79 5 = σ 79 5) (e2 : σ' 82 = σ 82) : KF ω m st σ' := by unfold KF at h ⊢; rw [e1, e2]; exact h
theorem KH_k {B T : LW} {ω : Sig} {σ' : Sig} (h : KH B T ω σ) (e0 : σ' 74 0 = σ 74 0) (e1 : σ' 74 1 = σ 74 1) (e2 : σ' 74 2 = σ 74 2) : KH B T ω σ' := by unfold KH at h ⊢; rw [e0, e1, e2]; exact h
theorem q_order (h : INV σ) (a : Int32) : ∃ v σ1 σ2, Ex (0 + 40) 114 0 [.ref 0, .int a] [] G0 σ = some (some (.int v), G0, σ1) ∧ Ex (0 + 40) 243 0 [.ref 112, .int a, .null] [] G0 σ1 = some (some (.int v), G0, σ2) ∧ INV σ2 := by
  obtain ⟨B, T, L, hI⟩ := h
  have hJ := hI
  obtain ⟨hW, hM, hU, hC, hMU, hK, h5, h67, hO⟩ := hI
  obtain ⟨σ1, e1, w1, f1, hb, hk, h67'⟩ := c_order 25 a hW h67 (KNe hK).1
  have hM1 := MR_fc hM f1 (by decide) (by decide)
  obtain ⟨σ2, e2, hM2, _, h52, f2⟩ := m_order (40 - 7) a hM1 hW (by rw [f1 112 5 (by decide) (by decide)]; exact h5)
  have K : KN B T σ σ1 := by
    obtain ⟨n, hn, en, k1, k2, k3, k4⟩ := hK
    have K2 : n / 2 % 2 = 1 → KZ σ (coS B σ) σ1 := fun c => KZ_k (k2 c) (f1 79 2 (by decide) (by decide)) (f1 79 3 (by decide) (by decide)) (Fr_q f1 (by decide) (by decide))
    have K3 : n / 4 % 2 = 1 → KF σ (2 ^ 30) (fiT B σ) σ1 := fun c => KF_k (k3 c) (f1 79 5 (by decide) (by decide)) (Fr_q f1 (by decide) (by decide))
    have K4 : n / 8 % 2 = 1 → KH B T σ σ1 := fun c => KH_k (k4 c) (f1 74 0 (by decide) (by decide)) (f1 74 1 (by decide) (by decide)) (f1 74 2 (by decide) (by decide))
    rcases hb with eq | ⟨eq, ho⟩
    · exact ⟨n, hn, by rw [eq]; exact en, fun c => hk (by rw [en]; exact (kb n hn).1.mpr c), K2, K3, K4⟩
    · exact ⟨n - n % 2 + 1, by omega, by rw [eq, en]; exact (ko n hn).1, fun _ => ho, fun c => K2 (by omega), fun c => K3 (by omega), fun c => K4 (by omega)⟩
  exact ⟨_, σ1, σ2, e1, e2, B, T, L, IV_q hJ w1 f1 (by decide) (by decide) h67' K hM2 f2 (by decide) (by decide) h52⟩
theorem q_dearest (h : INV σ) : ∃ v σ1 σ2, Ex (0 + 40) 115 0 [.ref 0, .null, .null, .null, .null, .null, .null] [] G0 σ = some (some (.int v), G0, σ1) ∧ Ex (0 + 40) 244 0 [.ref 112, .null, .null, .null, .null, .null, .null] [] G0 σ1 = some (some (.int v), G0, σ2) ∧ INV σ2 := by
  obtain ⟨B, T, L, hI⟩ := h
  have hJ := hI
  obtain ⟨hW, hM, hU, hC, hMU, hK, h5, h67, hO⟩ := hI
  obtain ⟨σ1, e1, w1, f1, eq, h67'⟩ := c_dearest 25 hW
  have hM1 := MR_fc hM f1 (by decide) (by decide)
  obtain ⟨σ2, e2, hM2, _, h52, f2⟩ := m_dearest (40 - 7) hM1 hW
  have K : KN B T σ σ1 := by
    obtain ⟨n, hn, en, k1, k2, k3, k4⟩ := hK
    refine ⟨n - n % 2, by omega, by rw [eq, en]; exact (ko n hn).2.2.2.2, fun c => by omega, fun c => ?_, fun c => ?_, fun c => ?_⟩
    · exact KZ_k (k2 (by omega)) (f1 79 2 (by decide) (by decide)) (f1 79 3 (by decide) (by decide)) (Fr_q f1 (by decide) (by decide))
    · exact KF_k (k3 (by omega)) (f1 79 5 (by decide) (by decide)) (Fr_q f1 (by decide) (by decide))
    · exact KH_k (k4 (by omega)) (f1 74 0 (by decide) (by decide)) (f1 74 1 (by decide) (by decide)) (f1 74 2 (by decide) (by decide))
  exact ⟨_, σ1, σ2, e1, e2, B, T, L, IV_q hJ w1 f1 (by decide) (by decide) h67' K hM2 f2 (by decide) (by decide) h52⟩
theorem q_fits (h : INV σ) (a : Int32) : ∃ v σ1 σ2, Ex (0 + 40) 125 0 [.ref 0, .int a] [] G0 σ = some (some (.int v), G0, σ1) ∧ Ex (0 + 40) 245 0 [.ref 112, .int a, .null, .null, .null] [] G0 σ1 = some (some (.int v), G0, σ2) ∧ INV σ2 := by
  obtain ⟨B, T, L, hI⟩ := h
  have hJ := hI
  obtain ⟨hW, hM, hU, hC, hMU, hK, h5, h67, hO⟩ := hI
  obtain ⟨σ1, e1, w1, f1, hb, hk, h67'⟩ := c_fits 25 a hW h67 (KNe hK).2.2.1
  have hM1 := MR_fc hM f1 (by decide) (by decide)
  obtain ⟨σ2, e2, hM2, _, h52, f2⟩ := m_fits (40 - 6) a hM1 hW (by rw [f1 112 5 (by decide) (by decide)]; exact h5)
  have K : KN B T σ σ1 := by
    obtain ⟨n, hn, en, k1, k2, k3, k4⟩ := hK
    have K1 : n % 2 = 1 → KO σ (orS B σ (kpt σ)) σ1 := fun c => KO_k (k1 c) (f1 79 0 (by decide) (by decide)) (Fr_q f1 (by decide) (by decide))
    have K2 : n / 2 % 2 = 1 → KZ σ (coS B σ) σ1 := fun c => KZ_k (k2 c) (f1 79 2 (by decide) (by decide)) (f1 79 3 (by decide) (by decide)) (Fr_q f1 (by decide) (by decide))
    have K4 : n / 8 % 2 = 1 → KH B T σ σ1 := fun c => KH_k (k4 c) (f1 74 0 (by decide) (by decide)) (f1 74 1 (by decide) (by decide)) (f1 74 2 (by decide) (by decide))
    rcases hb with eq | ⟨eq, ho⟩
    · exact ⟨n, hn, by rw [eq]; exact en, K1, K2, fun c => hk (by rw [en]; exact (kb n hn).2.2.1.mpr c), K4⟩
    · exact ⟨n - n / 4 % 2 * 4 + 4, by omega, by rw [eq, en]; exact (ko n hn).2.2.1, fun c => K1 (by omega), fun c => K2 (by omega), fun _ => ho, fun c => K4 (by omega)⟩
  exact ⟨_, σ1, σ2, e1, e2, B, T, L, IV_q hJ w1 f1 (by decide) (by decide) h67' K hM2 f2 (by decide) (by decide) h52⟩
theorem q_cloths (h : INV σ) (a : Int32) : ∃ v σ1 σ2, Ex (0 + 40) 116 0 [.ref 0, .int a] [] G0 σ = some (some (.int v), G0, σ1) ∧ Ex (0 + 40) 249 0 [.ref 112, .int a] [] G0 σ1 = some (some (.int v), G0, σ2) ∧ INV σ2 := by
  obtain ⟨B, T, L, hI⟩ := h
  have hJ := hI
  obtain ⟨hW, hM, hU, hC, hMU, hK, h5, h67, hO⟩ := hI
  obtain ⟨σ1, e1, w1, f1, hb, hk, h67'⟩ := c_cloths 25 a hW h67 (KNe hK).2.1
  have hM1 := MR_fc hM f1 (by decide) (by decide)
  obtain ⟨σ2, e2, hM2, _, h52, f2⟩ := m_cloths (40 - 7) a hM1 hW (by rw [f1 112 5 (by decide) (by decide)]; exact h5)
  have K : KN B T σ σ1 := by
    obtain ⟨n, hn, en, k1, k2, k3, k4⟩ := hK
    have K1 : n % 2 = 1 → KO σ (orS B σ (kpt σ)) σ1 := fun c => KO_k (k1 c) (f1 79 0 (by decide) (by decide)) (Fr_q f1 (by decide) (by decide))
    have K3 : n / 4 % 2 = 1 → KF σ (2 ^ 30) (fiT B σ) σ1 := fun c => KF_k (k3 c) (f1 79 5 (by decide) (by decide)) (Fr_q f1 (by decide) (by decide))
    have K4 : n / 8 % 2 = 1 → KH B T σ σ1 := fun c => KH_k (k4 c) (f1 74 0 (by decide) (by decide)) (f1 74 1 (by decide) (by decide)) (f1 74 2 (by decide) (by decide))
    rcases hb with eq | ⟨eq, ho⟩
    · exact ⟨n, hn, by rw [eq]; exact en, K1, fun c => hk (by rw [en]; exact (kb n hn).2.1.mpr c), K3, K4⟩
    · exact ⟨n - n / 2 % 2 * 2 + 2, by omega, by rw [eq, en]; exact (ko n hn).2.1, fun c => K1 (by omega), fun _ => ho, fun c => K3 (by omega), fun c => K4 (by omega)⟩
  exact ⟨_, σ1, σ2, e1, e2, B, T, L, IV_q hJ w1 f1 (by decide) (by decide) h67' K hM2 f2 (by decide) (by decide) h52⟩
theorem q_helps (h : INV σ) (a : Int32) : ∃ v σ1 σ2, Ex (0 + 40) 127 0 [.ref 0, .int a] [] G0 σ = some (some (.int v), G0, σ1) ∧ Ex (0 + 40) 264 0 [.ref 112, .int a, .null, .null, .null, .null, .null] [] G0 σ1 = some (some (.int v), G0, σ2) ∧ INV σ2 := by
  obtain ⟨B, T, L, hI⟩ := h
  have hJ := hI
  obtain ⟨hW, hM, hU, hC, hMU, hK, h5, h67, hO⟩ := hI
  obtain ⟨σ1, e1, w1, f1, hb, hk⟩ := c_helps (40 - 7) a hW h67 (KNe hK).2.2.2
  have hM1 := MR_fc hM f1 (by decide) (by decide)
  obtain ⟨σ2, e2, f2, _, h52, hM2⟩ := m_helps (40 - 9) a hM1 hW (by rw [f1 112 5 (by decide) (by decide)]; exact h5)
  have K : KN B T σ σ1 := by
    obtain ⟨n, hn, en, k1, k2, k3, k4⟩ := hK
    have K1 : n % 2 = 1 → KO σ (orS B σ (kpt σ)) σ1 := fun c => KO_k (k1 c) (f1 79 0 (by decide) (by decide)) (Fr_q f1 (by decide) (by decide))
    have K2 : n / 2 % 2 = 1 → KZ σ (coS B σ) σ1 := fun c => KZ_k (k2 c) (f1 79 2 (by decide) (by decide)) (f1 79 3 (by decide) (by decide)) (Fr_q f1 (by decide) (by decide))
    have K3 : n / 4 % 2 = 1 → KF σ (2 ^ 30) (fiT B σ) σ1 := fun c => KF_k (k3 c) (f1 79 5 (by decide) (by decide)) (Fr_q f1 (by decide) (by decide))
    rcases hb with eq | ⟨eq, ho⟩
    · exact ⟨n, hn, by rw [eq]; exact en, K1, K2, K3, fun c => hk (by rw [en]; exact (kb n hn).2.2.2.mpr c)⟩
    · exact ⟨n - n / 8 % 2 * 8 + 8, by omega, by rw [eq, en]; exact (ko n hn).2.2.2.1, fun c => K1 (by omega), fun c => K2 (by omega), fun c => K3 (by omega), fun _ => ho⟩
  exact ⟨_, σ1, σ2, e1, e2, B, T, L, IV_q hJ w1 f1 (by decide) (by decide) (by rw [f1 67 8 (by decide) (by decide)]; exact h67) K hM2 f2 (by decide) (by decide) h52⟩
end
