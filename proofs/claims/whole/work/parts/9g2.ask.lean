/-! L3: each question: both answer the same, and all holds again -/
theorem Wb_f {S : List Nat} {U : List (Nat × Nat)} {σ σ' : Sig} (f : Fr S U σ σ') (h1 : ∀ q ∈ S, q = 16 ∨ q = 19 ∨ 27 ≤ q) (h2 : ∀ x ∈ U, x.1 = 0 ∨ 27 ≤ x.1) : Wb σ σ' := by
  have e : ∀ q, 1 ≤ q → q ≤ 26 → q ≠ 16 → q ≠ 19 → σ' q = σ q := fun q a b c d => Fr_q f (fun e => by have := h1 q e; omega) (fun x hx e => by have := h2 x hx; omega)
  exact ⟨fun q a b c d _ => e q a b c d, fun i _ => by rw [e 26 (by omega) (by omega) (by omega) (by omega)]⟩
theorem KN_f {B T : LW} {S : List Nat} {U : List (Nat × Nat)} {ω σ σ' : Sig} (h : KN B T ω σ) (f : Fr S U σ σ') (h1 : ∀ q ∈ S, q ≠ 0 ∧ q ≠ 74 ∧ q ≠ 79 ∧ q ≠ 80 ∧ q ≠ 81 ∧ q ≠ 82) (h2 : ∀ x ∈ U, ¬ Kc x.1 x.2) : KN B T ω σ' := KN_x h (fun q k hq => f q k (fun e => by have := h1 q e; simp only [Kc] at hq; omega) (fun e => h2 _ e hq))
theorem MR_fm {B T : LW} {ω σ σ' : Sig} {S : List Nat} {U : List (Nat × Nat)} (h : MR B T ω σ) (f : Fr S U σ σ') (h1 : ∀ q ∈ S, 134 ≤ q) (h2 : ∀ x ∈ U, x.1 = 112 ∧ x.2 ≠ 43 ∧ (x.2 < 6 ∨ 12 < x.2)) : MR B T ω σ' := MR_s h (fun q k hq => f q k (fun e => by have := h1 q e; omega) (fun e => by have := h2 _ e; simp only at this; omega))
theorem mem0 {B : LW} {σ : Sig} (h : σ 67 8 = 0) : MEM B σ := Or.inl h
section
variable {σ : Sig}
theorem q_loads (h : INV σ) (a b : Int32) : ∃ v σ1 σ2, Ex (0 + 40) 112 0 [.ref 0, .int a, .int b] [] G0 σ = some (some (.int v), G0, σ1) ∧ Ex (0 + 40) 235 0 [.ref 112, .int a, .int b] [] G0 σ1 = some (some (.int v), G0, σ2) ∧ INV σ2 := by
  obtain ⟨B, T, L, hI⟩ := h
  have hJ := hI
  obtain ⟨hW, hM, hU, hC, hMU, hK, h5, h67, hO⟩ := hI
  obtain ⟨σ1, e1, f1⟩ := c_loads (40 - 4) a b hW (mem0 h67) h67
  have hM1 := MR_fc hM f1 (by decide) (by decide)
  obtain ⟨σ2, e2, f2⟩ := m_loads (40 - 6) a b hM1 hW
  exact ⟨_, σ1, σ2, e1, e2, B, T, L, IV_q hJ (Wb_f f1 (by decide) (by decide)) f1 (by decide) (by decide) (by rw [f1 67 8 (by decide) (by decide)]; exact h67) (KN_f hK f1 (by decide) (by decide)) (MR_fm hM1 f2 (by decide) (by decide)) f2 (by decide) (by decide) (by rw [f2 112 5 (by decide) (by decide), f1 112 5 (by decide) (by decide)]; exact h5)⟩
theorem q_unseen (h : INV σ) (a : Int32) : ∃ v σ1 σ2, Ex (0 + 40) 126 0 [.ref 0, .int a, .null, .null, .null, .null, .null, .null, .null, .null] [] G0 σ = some (some (.int v), G0, σ1) ∧ Ex (0 + 40) 262 0 [.ref 112, .int a, .null, .null, .null, .null] [] G0 σ1 = some (some (.int v), G0, σ2) ∧ INV σ2 := by
  obtain ⟨B, T, L, hI⟩ := h
  have hJ := hI
  obtain ⟨hW, hM, hU, hC, hMU, hK, h5, h67, hO⟩ := hI
  obtain ⟨σ1, e1, f1⟩ := c_unseen (40 - 4) a hW (mem0 h67) h67
  have hM1 := MR_fc hM f1 (by decide) (by decide)
  obtain ⟨σ2, e2, f2⟩ := m_unseen (40 - 6) a hM1 hW
  exact ⟨_, σ1, σ2, e1, e2, B, T, L, IV_q hJ (Wb_f f1 (by decide) (by decide)) f1 (by decide) (by decide) (by rw [f1 67 8 (by decide) (by decide)]; exact h67) (KN_f hK f1 (by decide) (by decide)) (MR_fm hM1 f2 (by decide) (by decide)) f2 (by decide) (by decide) (by rw [f2 112 5 (by decide) (by decide), f1 112 5 (by decide) (by decide)]; exact h5)⟩
theorem q_idle (h : INV σ) (a b : Int32) : ∃ v σ1 σ2, Ex (0 + 40) 113 0 [.ref 0, .int a, .int b] [] G0 σ = some (some (.int v), G0, σ1) ∧ Ex (0 + 40) 236 0 [.ref 112, .int a, .int b, .null, .null] [] G0 σ1 = some (some (.int v), G0, σ2) ∧ INV σ2 := by
  obtain ⟨B, T, L, hI⟩ := h
  have hJ := hI
  obtain ⟨hW, hM, hU, hC, hMU, hK, h5, h67, hO⟩ := hI
  obtain ⟨σ1, v1, e1, o1, f1⟩ := c_idle (40 - 4) a b hW (mem0 h67) h67
  have hM1 := MR_fc hM f1 (by decide) (by decide)
  obtain ⟨σ2, v2, e2, o2, f2⟩ := m_idle (40 - 6) a b hM1 hW
  rw [idle_u o2 o1] at e2
  exact ⟨_, σ1, σ2, e1, e2, B, T, L, IV_q hJ (Wb_f f1 (by decide) (by decide)) f1 (by decide) (by decide) (by rw [f1 67 8 (by decide) (by decide)]; exact h67) (KN_f hK f1 (by decide) (by decide)) (MR_fm hM1 f2 (by decide) (by decide)) f2 (by decide) (by decide) (by rw [f2 112 5 (by decide) (by decide), f1 112 5 (by decide) (by decide)]; exact h5)⟩
theorem q_gates (h : INV σ) : ∃ v σ1 σ2, Ex (0 + 40) 119 0 [.ref 0, .null, .null] [] G0 σ = some (some (.int v), G0, σ1) ∧ Ex (0 + 40) 253 0 [.ref 112, .null, .null] [] G0 σ1 = some (some (.int v), G0, σ2) ∧ INV σ2 := by
  obtain ⟨B, T, L, hI⟩ := h
  have hJ := hI
  obtain ⟨hW, hM, hU, hC, hMU, hK, h5, h67, hO⟩ := hI
  obtain ⟨σ1, v1, e1, o1, f1⟩ := c_gates (40 - 4) hW (mem0 h67) h67
  have hM1 := MR_fc hM f1 (by decide) (by decide)
  obtain ⟨σ2, v2, e2, o2, f2⟩ := m_gates (40 - 6) hM1 hW
  rw [M_inj o2 o1 (fun _ _ => rfl)] at e2
  exact ⟨_, σ1, σ2, e1, e2, B, T, L, IV_q hJ (Wb_f f1 (by decide) (by decide)) f1 (by decide) (by decide) (by rw [f1 67 8 (by decide) (by decide)]; exact h67) (KN_f hK f1 (by decide) (by decide)) (MR_fm hM1 f2 (by decide) (by decide)) f2 (by decide) (by decide) (by rw [f2 112 5 (by decide) (by decide), f1 112 5 (by decide) (by decide)]; exact h5)⟩
theorem q_far (h : INV σ) (a : Int32) : ∃ v σ1 σ2, Ex (0 + 40) 117 0 [.ref 0, .int a] [] G0 σ = some (some (.int v), G0, σ1) ∧ Ex (0 + 40) 251 0 [.ref 112, .int a] [] G0 σ1 = some (some (.int v), G0, σ2) ∧ INV σ2 := by
  obtain ⟨B, T, L, hI⟩ := h
  have hJ := hI
  obtain ⟨hW, hM, hU, hC, hMU, hK, h5, h67, hO⟩ := hI
  obtain ⟨σ1, e1, w1, f1⟩ := c_far (40 - 6) a hW h67
  have hM1 := MR_fc hM f1 (by decide) (by decide)
  obtain ⟨σ2, e2, f2, _, h52, hM2⟩ := m_far (40 - 8) a hM1 hW (by rw [f1 112 5 (by decide) (by decide)]; exact h5)
  exact ⟨_, σ1, σ2, e1, e2, B, T, L, IV_q hJ w1 f1 (by decide) (by decide) (by rw [f1 67 8 (by decide) (by decide)]; exact h67) (KN_f hK f1 (by decide) (by decide)) hM2 f2 (by decide) (by decide) h52⟩
theorem q_goes (h : INV σ) (a : Int32) : ∃ v σ1 σ2, Ex (0 + 40) 121 0 [.ref 0, .int a] [] G0 σ = some (some (.int v), G0, σ1) ∧ Ex (0 + 40) 257 0 [.ref 112, .int a, .null] [] G0 σ1 = some (some (.int v), G0, σ2) ∧ INV σ2 := by
  obtain ⟨B, T, L, hI⟩ := h
  have hJ := hI
  obtain ⟨hW, hM, hU, hC, hMU, hK, h5, h67, hO⟩ := hI
  obtain ⟨σ1, e1, w1, f1⟩ := c_goes (40 - 7) a hW h67
  have hM1 := MR_fc hM f1 (by decide) (by decide)
  obtain ⟨σ2, e2, f2, _, h52, hM2⟩ := m_goes (40 - 8) a hM1 hW (by rw [f1 112 5 (by decide) (by decide)]; exact h5)
  exact ⟨_, σ1, σ2, e1, e2, B, T, L, IV_q hJ w1 f1 (by decide) (by decide) (by rw [f1 67 8 (by decide) (by decide)]; exact h67) (KN_f hK f1 (by decide) (by decide)) hM2 f2 (by decide) (by decide) h52⟩
theorem q_line (h : INV σ) : ∃ v σ1 σ2, Ex (0 + 40) 118 0 [.ref 0, .null, .null, .null, .null] [] G0 σ = some (some (.int v), G0, σ1) ∧ Ex (0 + 40) 252 0 [.ref 112, .null, .null, .null, .null] [] G0 σ1 = some (some (.int v), G0, σ2) ∧ INV σ2 := by
  obtain ⟨B, T, L, hI⟩ := h
  have hJ := hI
  obtain ⟨hW, hM, hU, hC, hMU, hK, h5, h67, hO⟩ := hI
  obtain ⟨σ1, e1, w1, f1⟩ := c_line (40 - 6) hW h67
  have hM1 := MR_fc hM f1 (by decide) (by decide)
  obtain ⟨σ2, e2, f2, _, h52, hM2⟩ := m_line (40 - 8) hM1 hW (by rw [f1 112 5 (by decide) (by decide)]; exact h5)
  exact ⟨_, σ1, σ2, e1, e2, B, T, L, IV_q hJ w1 f1 (by decide) (by decide) (by rw [f1 67 8 (by decide) (by decide)]; exact h67) (KN_f hK f1 (by decide) (by decide)) hM2 f2 (by decide) (by decide) h52⟩
theorem q_rests (h : INV σ) : ∃ v σ1 σ2, Ex (0 + 40) 122 0 [.ref 0] [] G0 σ = some (some (.int v), G0, σ1) ∧ Ex (0 + 40) 259 0 [.ref 112, .null] [] G0 σ1 = some (some (.int v), G0, σ2) ∧ INV σ2 := by
  obtain ⟨B, T, L, hI⟩ := h
  have hJ := hI
  obtain ⟨hW, hM, hU, hC, hMU, hK, h5, h67, hO⟩ := hI
  obtain ⟨σ1, e1, w1, f1⟩ := c_rests (40 - 7) hW h67
  have hM1 := MR_fc hM f1 (by decide) (by decide)
  obtain ⟨σ2, e2, f2, _, h52, hM2⟩ := m_rests (40 - 8) hM1 hW
  exact ⟨_, σ1, σ2, e1, e2, B, T, L, IV_q hJ w1 f1 (by decide) (by decide) (by rw [f1 67 8 (by decide) (by decide)]; exact h67) (KN_f hK f1 (by decide) (by decide)) hM2 f2 (by decide) (by decide) h52⟩
/-- only the class's state is asked -/
theorem IV_1 {B T : LW} {L : List Sig} (h : IV B T L σ) : IV B T L (pt σ 112 0 0) := by
  have hJ := h
  obtain ⟨hW, hM, hU, hC, hMU, hK, h5, h67, hO⟩ := h
  have f2 : Fr [] [(112, 0)] σ (pt σ 112 0 0) := Fr_p Fr_r (Or.inr (by simp))
  exact IV_q hJ Wb_r (Fr_r (S := []) (T := [])) (by decide) (by decide) h67 hK (MR_fm hM f2 (by decide) (by decide)) f2 (by decide) (by decide) (by rw [pt_k (by decide)]; exact h5)
theorem q_sways (h : INV σ) (a : Int32) : ∃ v σ1 σ2, Ex (0 + 40) 120 0 [.ref 0, .int a] [] G0 σ = some (some (.int v), G0, σ1) ∧ Ex (0 + 40) 255 0 [.ref 112, .int a] [] G0 σ1 = some (some (.int v), G0, σ2) ∧ INV σ2 := by
  obtain ⟨B, T, L, hI⟩ := h
  exact ⟨_, σ, _, c_sways (40 - 3) a hI.1, m_sways (40 - 6) a hI.2.1 hI.1, B, T, L, IV_1 hI⟩
theorem q_straps (h : INV σ) (a b : Int32) : ∃ v σ1 σ2, Ex (0 + 40) 123 0 [.ref 0, .int a, .int b, .null, .null, .null, .null] [] G0 σ = some (some (.int v), G0, σ1) ∧ Ex (0 + 40) 261 0 [.ref 112, .int a, .int b, .null, .null] [] G0 σ1 = some (some (.int v), G0, σ2) ∧ INV σ2 := by
  obtain ⟨B, T, L, hI⟩ := h
  exact ⟨_, σ, _, c_straps (40 - 2) a b hI.1, m_straps (40 - 3) a b hI.2.1 hI.1, B, T, L, IV_1 hI⟩
theorem q_book (h : INV σ) (a b : Int32) : ∃ v σ1 σ2, Ex (0 + 40) 111 0 [.ref 0, .int a, .int b] [] G0 σ = some (some (.int v), G0, σ1) ∧ Ex (0 + 40) 233 0 [.ref 112, .int a, .int b] [] G0 σ1 = some (some (.int v), G0, σ2) ∧ INV σ2 := by
  obtain ⟨B, T, L, hI⟩ := h
  exact ⟨_, σ, _, c_book (40 - 1) a b hI.1, m_book (40 - 1) a b hI.2.1 hI.1, B, T, L, IV_1 hI⟩
theorem q_of (h : INV σ) (a b : Int32) : ∃ v σ1 σ2, Ex (0 + 40) 109 0 [.ref 0, .int a, .int b, .null] [] G0 σ = some (some (.int v), G0, σ1) ∧ Ex (0 + 40) 231 0 [.ref 112, .int a, .int b] [] G0 σ1 = some (some (.int v), G0, σ2) ∧ INV σ2 := by
  obtain ⟨B, T, L, hI⟩ := h
  exact ⟨_, σ, _, c_of (40 - 1) a b hI.1, m_of (40 - 2) a b hI.2.1 hI.1, B, T, L, IV_1 hI⟩
theorem q_at (h : INV σ) (a b : Int32) : ∃ v σ1 σ2, Ex (0 + 40) 110 0 [.ref 0, .int a, .int b, .null] [] G0 σ = some (some (.int v), G0, σ1) ∧ Ex (0 + 40) 232 0 [.ref 112, .int a, .int b] [] G0 σ1 = some (some (.int v), G0, σ2) ∧ INV σ2 := by
  obtain ⟨B, T, L, hI⟩ := h
  exact ⟨_, σ, _, c_at (40 - 1) a b hI.1, m_at (40 - 3) a b hI.2.1 hI.1, B, T, L, IV_1 hI⟩
theorem q_look (h : INV σ) (a : Int32) : ∃ v σ1 σ2, Ex (0 + 40) 130 0 [.ref 0, .int a] [] G0 σ = some (some (.int v), G0, σ1) ∧ Ex (0 + 40) 269 0 [.ref 112, .int a] [] G0 σ1 = some (some (.int v), G0, σ2) ∧ INV σ2 := by
  obtain ⟨B, T, L, hI⟩ := h
  have e := m_look (40 - 1) a hI.2.1
  have e8 : σ 112 3 = σ 0 8 := hI.2.2.2.2.1.1.trans hI.2.2.2.1.1.symm
  rw [e8] at e
  exact ⟨_, σ, _, c_look (40 - 0) σ a, e, B, T, L, IV_1 hI⟩
theorem q_fault (h : INV σ) (a : Int32) : ∃ v σ1 σ2, Ex (0 + 40) 107 0 [.ref 0, .int a] [] G0 σ = some (some (.int v), G0, σ1) ∧ Ex (0 + 40) 201 0 [.ref 112, .int a] [] G0 σ1 = some (some (.int v), G0, σ2) ∧ INV σ2 := by
  obtain ⟨B, T, L, hI⟩ := h
  have hf := hI.2.2.2.2.2.2.2.2.1.2.1
  have e := m_fault (40 - 0) σ a
  rw [← hf.1, ← hf.2] at e
  exact ⟨_, σ, _, c_fault (40 - 0) σ a, e, B, T, L, IV_1 hI⟩
/-- bits -/
theorem kb : ∀ n, n < 16 → ((¬ nI n &&& 1 = 0) ↔ n % 2 = 1) ∧ ((¬ nI n &&& 2 = 0) ↔ n / 2 % 2 = 1) ∧ ((¬ nI n &&& 4 = 0) ↔ n / 4 % 2 = 1) ∧ ((¬ nI n &&& 8 = 0) ↔ n / 8 % 2 = 1) := by decide
theorem ko : ∀ n, n < 16 → nI n ||| 1 = nI (n - n % 2 + 1) ∧ nI n ||| 2 = nI (n - n / 2 % 2 * 2 + 2) ∧ nI n ||| 4 = nI (n - n / 4 % 2 * 4 + 4) ∧ nI n ||| 8 = nI (n - n / 8 % 2 * 8 + 8) ∧ nI n &&& (-2) = nI (n - n % 2) := by decide
end
