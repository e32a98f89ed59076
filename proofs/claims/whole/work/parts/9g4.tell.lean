/-! L3: what is told: both answer the same, and all holds again -/
theorem IV_g {B T : LW} {L : List Sig} {ω σ2 : Sig} (hW : WI B T ω) (hM : MR B T ω σ2) (w : Wb ω σ2) (hU : UL B T L ω) (hC : CU L σ2) (hMU : MU B T L σ2) (hK : KN B T ω σ2) (h5 : σ2 112 5 = 0) (h67 : σ2 67 8 = 0) (hO : OT σ2) (hS : SLw L) : IV B T L σ2 :=
  ⟨Wb_WI w hW, Wb_MR w hW hM, ⟨hU.1, fun v hv => ⟨(hU.2 v hv).1, Td_t (hU.2 v hv).2 (Wb_Td w)⟩⟩, hC, hMU, KN_w hK w, h5, h67, hO, hS⟩
theorem IV_n {B T B' T' : LW} {L : List Sig} {ω σ σ2 : Sig} (h : IV B T L σ) (hW : WI B' T' ω) (hM : MR B' T' ω σ2) (w : Wb ω σ2) (hO : OT σ2) (e7 : σ2 0 7 = σ 0 7) (e8 : σ2 0 8 = 0) (e10 : σ2 0 10 = 0) (e3 : σ2 112 3 = 0) (h5 : σ2 112 5 = 0) (h67 : σ2 67 8 = 0) : IV B' T' [] σ2 :=
  IV_g hW hM w UL_0 (CU_0 h.2.2.2.1 e7 e8) (MU_0 e3) (KN_0 e10) h5 h67 hO List.Pairwise.nil
theorem Wb_e {ω σ : Sig} (e : ∀ q, 1 ≤ q → q ≤ 26 → σ q = ω q) : Wb ω σ := ⟨fun q a b _ _ _ => e q a b, fun i _ => by rw [e 26 (by omega) (by omega)]⟩
section
variable {σ : Sig}
theorem q_state (h : INV σ) (v : Int32) : ∃ u σ1 σ2, Ex (0 + 40) 100 0 [.ref 0, .int v, .null] [] G0 σ = some (some (.int u), G0, σ1) ∧ Ex (0 + 40) 151 0 [.ref 112, .int v, .null] [] G0 σ1 = some (some (.int u), G0, σ2) ∧ INV σ2 := by
  obtain ⟨B, T, L, hI⟩ := h
  have hJ := hI
  obtain ⟨hW, hM, hU, hC, hMU, hK, h5, h67, hO, hS⟩ := hI
  have f1 : Fr [] [(1, 5), (0, 8), (0, 10)] σ (pt (pt (pt σ 1 5 v) 0 8 0) 0 10 0) := Fr_p (Fr_p (Fr_p Fr_r (Or.inr (by simp))) (Or.inr (by simp))) (Or.inr (by simp))
  obtain ⟨σ2, e2, hM2, h3, f2⟩ := m_stateR (40 - 0) v (MR_fc hM f1 (by decide) (by decide))
  have g2 : ∀ q, q < 112 → σ2 q = pt (pt (pt σ 1 5 v) 0 8 0) 0 10 0 q := fun q hq => Fr_q f2 (by simp) (by simp; omega)
  refine ⟨_, _, σ2, c_state (40 - 1) σ v, e2, B, T, [], IV_n hJ (WI_15 hW v) hM2 (Wb_e (fun q a b => ?_)) (OT_x hO (FX_t (FX_o f1 (by decide) (by decide)) (FX_o f2 (by decide) (by decide)))) ?_ ?_ ?_ h3 ?_ ?_⟩
  · rw [g2 q (by omega), pt_q (by omega), pt_q (by omega)]
  · rw [g2 0 (by decide), pt_k (by decide), pt_k (by decide), pt_q (by decide)]
  · rw [g2 0 (by decide), pt_k (by decide), pt_e]
  · rw [g2 0 (by decide), pt_e]
  · rw [f2 112 5 (by decide) (by decide), f1 112 5 (by decide) (by decide)]; exact h5
  · rw [g2 67 (by decide), f1 67 8 (by decide) (by decide)]; exact h67
theorem q_place (h : INV σ) (a x : Int32) : ∃ u σ1 σ2, Ex (0 + 40) 103 0 [.ref 0, .int a, .int x] [] G0 σ = some (some (.int u), G0, σ1) ∧ Ex (0 + 40) 168 0 [.ref 112, .int a, .int x] [] G0 σ1 = some (some (.int u), G0, σ2) ∧ INV σ2 := by
  obtain ⟨B, T, L, hI⟩ := h
  have hJ := hI
  obtain ⟨hW, hM, hU, hC, hMU, hK, h5, h67, hO, hS⟩ := hI
  have e1 := c_place (40 - 2) a x hW
  by_cases c : plC σ a x
  · rw [if_pos c] at e1
    have pq : ∀ q, q ≠ 9 → plW σ a x q = σ q := fun q hq => by unfold plW; rw [if_pos c]; exact putW_q hq
    have f1 : Fr [9] [(0, 8), (0, 10)] σ (pt (pt (plW σ a x) 0 8 0) 0 10 0) := Fr_p (Fr_p (fun q k h1 h2 => by rw [pq q (fun e => h1 (by rw [e]; simp))]) (Or.inr (by simp))) (Or.inr (by simp))
    obtain ⟨σ2, e2, hM2, f2, h3, _⟩ := m_place (40 - 3) a x (MR_fc hM f1 (by decide) (by decide)) hW
    have g2 : ∀ q, q < 112 → σ2 q = pt (pt (plW σ a x) 0 8 0) 0 10 0 q := fun q hq => Fr_q f2 (by simp; omega) (by simp; omega)
    refine ⟨_, _, σ2, e1, e2, B, T, [], IV_n hJ (WI_pl hW a x) hM2 (Wb_e (fun q a b => ?_)) (OT_x hO (FX_t (FX_o f1 (by decide) (by decide)) (FX_o f2 (by decide) (by decide)))) ?_ ?_ ?_ (h3 c) ?_ ?_⟩
    · rw [g2 q (by omega), pt_q (by omega), pt_q (by omega)]
    · rw [g2 0 (by decide), pt_k (by decide), pt_k (by decide), pq 0 (by decide)]
    · rw [g2 0 (by decide), pt_k (by decide), pt_e]
    · rw [g2 0 (by decide), pt_e]
    · rw [f2 112 5 (by decide) (by decide), f1 112 5 (by decide) (by decide)]; exact h5
    · rw [g2 67 (by decide), f1 67 8 (by decide) (by decide)]; exact h67
  · rw [if_neg c] at e1
    obtain ⟨σ2, e2, _, _, _, h4⟩ := m_place (40 - 3) a x hM hW
    rw [h4 c] at e2
    exact ⟨_, _, _, e1, e2, B, T, L, IV_1 hJ⟩
theorem seS_q {a b v : Int32} {w : Sig} (h : seS σ a b v = some w) : ∀ q, ¬ (1 ≤ q ∧ q ≤ 13) → w q = σ q := by
  intro q hq
  rcases i11 a with e | e | e | e | e | e | e | e | e | e | e | e
  case inr.inr.inr.inr.inr.inr.inr.inr.inr.inr.inr => rw [seS_N e] at h; cases h
  all_goals (subst e; simp [seS] at h; obtain ⟨c, e⟩ := h; subst e)
  · exact pt_q (by omega)
  · exact bgS_q (by simp; omega)
  · exact pt_q (by omega)
  · exact pt_q (by omega)
  · exact pt_q (by omega)
  · exact pt_q (by omega)
  · exact pt_q (by omega)
  · exact pt_q (by omega)
  · exact pt_q (by omega)
  · exact pt_q (by omega)
  · exact pt_q (by omega)
theorem q_set (h : INV σ) (a b v : Int32) : ∃ u σ1 σ2, Ex (0 + 40) 102 0 [.ref 0, .int a, .int b, .int v, .null] [] G0 σ = some (some (.int u), G0, σ1) ∧ Ex (0 + 40) 165 0 [.ref 112, .int a, .int b, .int v] [] G0 σ1 = some (some (.int u), G0, σ2) ∧ INV σ2 := by
  obtain ⟨B, T, L, hI⟩ := h
  have hJ := hI
  obtain ⟨hW, hM, hU, hC, hMU, hK, h5, h67, hO, hS⟩ := hI
  have e1 := c_set (40 - 3) hW a b v
  cases hw : seS σ a b v with
  | none =>
    rw [hw] at e1
    obtain ⟨σ2, e2, _, _, _, h4⟩ := m_set (40 - 4) hM hW a b v
    rw [h4 hw, hw] at e2
    exact ⟨_, _, _, e1, e2, B, T, L, IV_1 hJ⟩
  | some w =>
    rw [hw] at e1
    have pq := seS_q hw
    have f1 : Fr [1, 2, 3, 4, 5, 6, 7, 8, 9, 10, 11, 12, 13] [(0, 8), (0, 10)] σ (pt (pt w 0 8 0) 0 10 0) := Fr_p (Fr_p (fun q k h1 h2 => by rw [pq q (fun e => h1 (by simp; omega))]) (Or.inr (by simp))) (Or.inr (by simp))
    obtain ⟨σ2, e2, hM2, f2, h3, _⟩ := m_set (40 - 4) (MR_fc hM f1 (by decide) (by decide)) hW a b v
    rw [hw] at e2 hM2
    have g2 : ∀ q, q < 112 → σ2 q = pt (pt w 0 8 0) 0 10 0 q := fun q hq => Fr_q f2 (by simp; omega) (by simp; omega)
    refine ⟨_, _, σ2, e1, e2, B, T, [], IV_n hJ (WI_se hW hw) hM2 (Wb_e (fun q a b => ?_)) (OT_x hO (FX_t (FX_o f1 (by decide) (by decide)) (FX_o f2 (by decide) (by decide)))) ?_ ?_ ?_ (h3 (by rw [hw]; rfl)) ?_ ?_⟩
    · show σ2 q = w q
      rw [g2 q (by omega), pt_q (by omega), pt_q (by omega)]
    · rw [g2 0 (by decide), pt_k (by decide), pt_k (by decide), pq 0 (by decide)]
    · rw [g2 0 (by decide), pt_k (by decide), pt_e]
    · rw [g2 0 (by decide), pt_e]
    · rw [f2 112 5 (by decide) (by decide), f1 112 5 (by decide) (by decide)]; exact h5
    · rw [g2 67 (by decide), f1 67 8 (by decide) (by decide)]; exact h67
/-- one more bearer -/
def brW (ω : Sig) (n : Nat) (t s f k : Int32) : Sig := pt (pt (pt (pt (pt (pt ω 3 n t) 4 n s) 5 n f) 6 n k) 7 n 0) 2 0 (nI (n + 1))
theorem brW_q {ω : Sig} {n : Nat} {t s f k : Int32} {q : Nat} (h : q ∉ [2, 3, 4, 5, 6, 7]) : brW ω n t s f k q = ω q := by
  simp at h
  unfold brW; rw [pt_q (by omega), pt_q (by omega), pt_q (by omega), pt_q (by omega), pt_q (by omega), pt_q (by omega)]
theorem brW_v {ω : Sig} {n : Nat} {t s f k : Int32} : brW ω n t s f k 2 0 = nI (n + 1) ∧ ∀ b, brW ω n t s f k 3 b = (if b = n then t else ω 3 b) ∧ brW ω n t s f k 4 b = (if b = n then s else ω 4 b) ∧ brW ω n t s f k 5 b = (if b = n then f else ω 5 b) ∧ brW ω n t s f k 6 b = (if b = n then k else ω 6 b) ∧ brW ω n t s f k 7 b = (if b = n then 0 else ω 7 b) := by
  refine ⟨pt_e, fun b => ⟨?_, ?_, ?_, ?_, ?_⟩⟩ <;> (unfold brW; simp only [pt_ap]; simp)
theorem WI_br {B T : LW} {ω : Sig} {n : Nat} {t s f k : Int32} (hW : WI B T ω) (hn : ω 2 0 = nI n) (h8 : n < 8) (ht : bw t 40 80) (hs : bw s 0 300) : WI B T (brW ω n t s f k) := by
  obtain ⟨v2, vb⟩ := brW_v (ω := ω) (n := n) (t := t) (s := s) (f := f) (k := k)
  have q : ∀ q, q ∉ [2, 3, 4, 5, 6, 7] → brW ω n t s f k q = ω q := fun q hq => brW_q hq
  have ez : sz ω = n := by unfold sz; rw [hn, nI_c (by omega)]
  have ez' : sz (brW ω n t s f k) = n + 1 := by unfold sz; rw [v2, nI_c (by omega)]
  have enp : np (brW ω n t s f k) = np ω := by unfold np pr; rw [q 8 (by decide)]
  have ewl : wl (brW ω n t s f k) = wl ω := by unfold wl; rw [q 20 (by decide)]
  intro i
  have h := hW i
  match i, h with
  | 0, h => simp only [wi] at h ⊢; rw [q 1 (by decide)]; exact h
  | 1, h => simp only [wi] at h ⊢; rw [q 1 (by decide)]; exact h
  | 2, h => simp only [wi] at h ⊢; rw [q 1 (by decide)]; exact h
  | 3, h => simp only [wi] at h ⊢; rw [q 1 (by decide)]; exact h
  | 4, h => simp only [wi, pr] at h ⊢; rw [q 8 (by decide)]; exact h
  | 5, h => simp only [wi]; rw [ez', v2]; exact ⟨rfl, by omega⟩
  | 6, h =>
    simp only [wi] at h ⊢; rw [ez', enp, q 9 (by decide)]; rw [ez] at h; intro p hp
    rcases h p hp with c | ⟨c1, b, c2, c3⟩
    · exact Or.inl c
    · exact Or.inr ⟨c1, b, by omega, c3⟩
  | 7, h => simp only [wi] at h ⊢; rw [q 9 (by decide)]; exact h
  | 8, h => simp only [wi] at h ⊢; rw [q 10 (by decide)]; exact h
  | 9, h => simp only [wi] at h ⊢; rw [q 11 (by decide)]; exact h
  | 10, h => simp only [wi] at h ⊢; rw [q 13 (by decide)]; exact h
  | 11, h =>
    simp only [wi] at h ⊢; rw [ez']; rw [ez] at h; intro b hb; rw [(vb b).1]
    split
    · exact ht
    · exact h b (by omega)
  | 12, h =>
    simp only [wi] at h ⊢; intro b hb; rw [(vb b).2.1]
    split
    · exact hs
    · exact h b hb
  | 13, h =>
    simp only [wi] at h ⊢; intro b hb; rw [(vb b).2.2.2.2]
    split
    · exact ⟨by decide, by decide⟩
    · exact h b hb
  | 14, h => simp only [wi] at h ⊢; rw [q 25 (by decide)]; exact h
  | 15, h => simp only [wi] at h ⊢; rw [ewl, q 20 (by decide)]; exact h
  | 16, h => simp only [wi] at h ⊢; rw [ewl, q 1 (by decide)]; exact h
  | 17, h => simp only [wi] at h ⊢; rw [q 1 (by decide)]; exact h
  | 18, h =>
    simp only [wi, paced] at h ⊢; rw [ewl, ez', q 21 (by decide), q 22 (by decide), q 23 (by decide), q 24 (by decide)]; rw [ez] at h; intro l hl
    rcases h l hl with c | c | ⟨c1, c2, b, c3, c4⟩ | c
    · exact Or.inl c
    · exact Or.inr (Or.inl c)
    · exact Or.inr (Or.inr (Or.inl ⟨c1, c2, b, by omega, c4⟩))
    · exact Or.inr (Or.inr (Or.inr c))
  | 19, h => simp only [wi, paced] at h ⊢; rw [ewl, q 20 (by decide), q 21 (by decide)]; exact h
  | 20, h => simp only [wi] at h ⊢; rw [q 14 (by decide), q 15 (by decide)]; exact h
  | 21, h => simp only [wi] at h ⊢; rw [q 17 (by decide), q 18 (by decide)]; exact h
  | 22, h => simp only [wi] at h ⊢; rw [q 12 (by decide)]; exact h
  | _ + 23, _ => trivial
def brM (σ : Sig) (n : Nat) (t s f k : Int32) : Sig := pt (pt (pt (pt (pt (pt (pt (pt σ 112 0 0) 116 n t) 117 n s) 118 n f) 119 n k) 113 (23 + n) 0) 112 12 (nI (n + 1))) 112 3 0
theorem MR_br {B T : LW} {ω σ : Sig} {n : Nat} {t s f k : Int32} (hM : MR B T ω σ) (h8 : n < 8) : MR B T (brW ω n t s f k) (brM σ n t s f k) := by
  obtain ⟨v2, vb⟩ := brW_v (ω := ω) (n := n) (t := t) (s := s) (f := f) (k := k)
  have q : ∀ q, q ∉ [2, 3, 4, 5, 6, 7] → brW ω n t s f k q = ω q := fun q hq => brW_q hq
  have ewl : wl (brW ω n t s f k) = wl ω := by unfold wl; rw [q 20 (by decide)]
  have m : ∀ q, q ∉ [112, 113, 116, 117, 118, 119] → brM σ n t s f k q = σ q := fun q hq => by
    simp at hq
    unfold brM; rw [pt_q (by omega), pt_q (by omega), pt_q (by omega), pt_q (by omega), pt_q (by omega), pt_q (by omega), pt_q (by omega), pt_q (by omega)]
  have m2 : ∀ j, j ≠ 0 → j ≠ 3 → j ≠ 12 → brM σ n t s f k 112 j = σ 112 j := fun j a b c => by unfold brM; simp only [pt_ap]; simp [a, b, c]
  have m12 : brM σ n t s f k 112 12 = nI (n + 1) := by unfold brM; simp only [pt_ap]; simp
  have m3 : ∀ j, brM σ n t s f k 113 j = if j = 23 + n then 0 else σ 113 j := fun j => by unfold brM; simp only [pt_ap]; simp
  have mb : ∀ b, brM σ n t s f k 116 b = (if b = n then t else σ 116 b) ∧ brM σ n t s f k 117 b = (if b = n then s else σ 117 b) ∧ brM σ n t s f k 118 b = (if b = n then f else σ 118 b) ∧ brM σ n t s f k 119 b = (if b = n then k else σ 119 b) := fun b => by
    refine ⟨?_, ?_, ?_, ?_⟩ <;> (unfold brM; simp only [pt_ap]; simp)
  intro i
  have h := hM i
  match i, h with
  | 0, h => simp only [mr] at h ⊢; rw [m2 6 (by decide) (by decide) (by decide), q 1 (by decide)]; exact h
  | 1, h => simp only [mr] at h ⊢; rw [m2 7 (by decide) (by decide) (by decide), q 8 (by decide)]; exact h
  | 2, h => simp only [mr] at h ⊢; rw [m2 8 (by decide) (by decide) (by decide), q 1 (by decide)]; exact h
  | 3, h => simp only [mr] at h ⊢; rw [m2 9 (by decide) (by decide) (by decide), q 1 (by decide)]; exact h
  | 4, h => simp only [mr] at h ⊢; rw [m2 10 (by decide) (by decide) (by decide), q 1 (by decide)]; exact h
  | 5, h => simp only [mr] at h ⊢; rw [m2 11 (by decide) (by decide) (by decide), q 1 (by decide)]; exact h
  | 6, h => simp only [mr]; rw [m12, v2]
  | 7, h => simp only [mr] at h ⊢; rw [m3 0, if_neg (by omega), q 1 (by decide)]; exact h
  | 8, h => simp only [mr] at h ⊢; rw [m3 1, if_neg (by omega), q 1 (by decide)]; exact h
  | 9, h => simp only [mr] at h ⊢; rw [m3 2, if_neg (by omega), q 25 (by decide)]; exact h
  | 10, h => simp only [mr] at h ⊢; rw [m3 3, if_neg (by omega), q 1 (by decide)]; exact h
  | 11, h => simp only [mr] at h ⊢; rw [m3 4, if_neg (by omega), q 1 (by decide)]; exact h
  | 12, h => simp only [mr] at h ⊢; rw [m3 5, if_neg (by omega), q 1 (by decide)]; exact h
  | 13, h => simp only [mr] at h ⊢; rw [m3 6, if_neg (by omega), q 1 (by decide)]; exact h
  | 14, h => simp only [mr] at h ⊢; intro p hp; rw [m3 (7 + p), if_neg (by omega), q 9 (by decide)]; exact h p hp
  | 15, h => simp only [mr] at h ⊢; intro p hp; rw [m3 (15 + p), if_neg (by omega), q 10 (by decide)]; exact h p hp
  | 16, h =>
    simp only [mr] at h ⊢; intro p hp; rw [m3 (23 + p), (vb p).2.2.2.2]
    by_cases c : p = n
    · rw [if_pos c, if_pos (by omega)]
    · rw [if_neg c, if_neg (by omega)]; exact h p hp
  | 17, h =>
    simp only [mr] at h ⊢; intro p hp; rw [(mb p).1, (vb p).1]
    split
    · rfl
    · exact h p hp
  | 18, h =>
    simp only [mr] at h ⊢; intro p hp; rw [(mb p).2.1, (vb p).2.1]
    split
    · rfl
    · exact h p hp
  | 19, h =>
    simp only [mr] at h ⊢; intro p hp; rw [(mb p).2.2.1, (vb p).2.2.1]
    split
    · rfl
    · exact h p hp
  | 20, h =>
    simp only [mr] at h ⊢; intro p hp; rw [(mb p).2.2.2, (vb p).2.2.2.1]
    split
    · rfl
    · exact h p hp
  | 21, h => simp only [mr] at h ⊢; rw [m 120 (by decide), q 11 (by decide)]; exact h
  | 22, h => simp only [mr] at h ⊢; rw [m 121 (by decide), q 12 (by decide)]; exact h
  | 23, h => simp only [mr] at h ⊢; rw [m 122 (by decide), q 13 (by decide)]; exact h
  | 24, h => simp only [mr] at h ⊢; rw [m2 43 (by decide) (by decide) (by decide), q 20 (by decide)]; exact h
  | 25, h => simp only [mr, paced] at h ⊢; rw [ewl, m 133 (by decide), q 21 (by decide), q 22 (by decide), q 23 (by decide), q 24 (by decide)]; exact h
  | 26, h => simp only [mr] at h ⊢; rw [m 123 (by decide), q 25 (by decide), q 26 (by decide)]; exact h
  | 27, h => simp only [mr] at h ⊢; rw [m 126 (by decide), q 14 (by decide)]; exact h
  | 28, h => simp only [mr] at h ⊢; rw [m 126 (by decide), q 17 (by decide)]; exact h
  | 29, h => simp only [mr] at h ⊢; rw [m 127 (by decide), m 128 (by decide), m 129 (by decide), m 130 (by decide), m 131 (by decide)]; exact h
  | 30, h => simp only [mr] at h ⊢; rw [m 127 (by decide), m 128 (by decide), m 129 (by decide), m 130 (by decide), m 131 (by decide)]; exact h
  | _ + 31, _ => trivial
theorem bw_of2 {x : Int32} {a b : Int32} (h : a ≤ x ∧ x ≤ b) : bw x a.toInt b.toInt := ⟨Int32.le_iff_toInt_le.mp h.1, Int32.le_iff_toInt_le.mp h.2⟩
theorem q_bearer (h : INV σ) (t s f k : Int32) : ∃ u σ1 σ2, Ex (0 + 40) 101 0 [.ref 0, .int t, .int s, .int f, .int k, .null, .null, .null] [] G0 σ = some (some (.int u), G0, σ1) ∧ Ex (0 + 40) 161 0 [.ref 112, .int t, .int s, .int f, .int k, .null] [] G0 σ1 = some (some (.int u), G0, σ2) ∧ INV σ2 := by
  obtain ⟨B, T, L, hI⟩ := h
  have hJ := hI
  obtain ⟨hW, hM, hU, hC, hMU, hK, h5, h67, hO, hS⟩ := hI
  obtain ⟨e2n, s8⟩ : wi B T σ 5 := hW 5
  have e12 : σ 112 12 = nI (sz σ) := (show σ 112 12 = σ 2 0 from hM 6).trans e2n
  have q8 : (σ 2 0 < 8) = (sz σ < 8) := by rw [e2n]; exact nJ_lt (b := 8) (by omega) (by omega)
  have hs0 : 0 ≤ (σ 2 0).toInt := by rw [e2n, nI_i (by omega)]; omega
  have e1 := c_bearer (40 - 1) σ t s f k hs0
  simp only [q8] at e1
  by_cases c : (40 ≤ t ∧ t ≤ 80) ∧ (0 ≤ s ∧ s ≤ 300) ∧ (0 ≤ f ∧ f ≤ 1) ∧ (0 ≤ k ∧ k ≤ 1) ∧ sz σ < 8
  · rw [if_pos c] at e1
    have cn : (σ 2 0).toNatClampNeg = sz σ := rfl
    have ep : σ 2 0 + 1 = nI (sz σ + 1) := by rw [e2n, nI_s]
    rw [cn, ep] at e1
    have e1' : Ex (0 + 40) 101 0 [.ref 0, .int t, .int s, .int f, .int k, .null, .null, .null] [] G0 σ = some (some (.int (nI (sz σ))), G0, pt (pt (brW σ (sz σ) t s f k) 0 8 0) 0 10 0) := by rw [e2n] at e1; exact e1
    have f1 : Fr [2, 3, 4, 5, 6, 7] [(0, 8), (0, 10)] σ (pt (pt (brW σ (sz σ) t s f k) 0 8 0) 0 10 0) := Fr_p (Fr_p (fun q k h1 h2 => by rw [brW_q h1]) (Or.inr (by simp))) (Or.inr (by simp))
    have e2 := m_bearer (40 - 1) (pt (pt (brW σ (sz σ) t s f k) 0 8 0) 0 10 0) t s f k (sz σ) s8 (by rw [f1 112 12 (by decide) (by decide)]; exact e12)
    rw [if_pos c] at e2
    have e2' : Ex (0 + 40) 161 0 [.ref 112, .int t, .int s, .int f, .int k, .null] [] G0 (pt (pt (brW σ (sz σ) t s f k) 0 8 0) 0 10 0) = some (some (.int (nI (sz σ))), G0, brM (pt (pt (brW σ (sz σ) t s f k) 0 8 0) 0 10 0) (sz σ) t s f k) := e2
    have hM2 := MR_br (t := t) (s := s) (f := f) (k := k) (MR_fc hM f1 (by decide) (by decide)) c.2.2.2.2
    have f2 : Fr [113, 116, 117, 118, 119] [(112, 0), (112, 12), (112, 3)] (pt (pt (brW σ (sz σ) t s f k) 0 8 0) 0 10 0) (brM (pt (pt (brW σ (sz σ) t s f k) 0 8 0) 0 10 0) (sz σ) t s f k) := by
      unfold brM
      exact Fr_p (Fr_p (Fr_p (Fr_p (Fr_p (Fr_p (Fr_p (Fr_p Fr_r (Or.inr (by simp))) (Or.inl (by simp))) (Or.inl (by simp))) (Or.inl (by simp))) (Or.inl (by simp))) (Or.inl (by simp))) (Or.inr (by simp))) (Or.inr (by simp))
    have h3 : brM (pt (pt (brW σ (sz σ) t s f k) 0 8 0) 0 10 0) (sz σ) t s f k 112 3 = 0 := pt_e
    have W2 := WI_br (f := f) (k := k) hW e2n c.2.2.2.2 (bw_of2 c.1) (bw_of2 c.2.1)
    generalize brM (pt (pt (brW σ (sz σ) t s f k) 0 8 0) 0 10 0) (sz σ) t s f k = σ2 at e2' hM2 f2 h3
    have g2 : ∀ q, q < 112 → σ2 q = pt (pt (brW σ (sz σ) t s f k) 0 8 0) 0 10 0 q := fun q hq => Fr_q f2 (by simp; omega) (by simp; omega)
    refine ⟨_, _, σ2, e1', e2', B, T, [], IV_n hJ W2 hM2 (Wb_e (fun q a b => ?_)) (OT_x hO (FX_t (FX_o f1 (by decide) (by decide)) (FX_o f2 (by decide) (by decide)))) ?_ ?_ ?_ h3 ?_ ?_⟩
    · rw [g2 q (by omega), pt_q (by omega), pt_q (by omega)]
    · rw [g2 0 (by decide), pt_k (by decide), pt_k (by decide), brW_q (by decide)]
    · rw [g2 0 (by decide), pt_k (by decide), pt_e]
    · rw [g2 0 (by decide), pt_e]
    · rw [f2 112 5 (by decide) (by decide), f1 112 5 (by decide) (by decide)]; exact h5
    · rw [g2 67 (by decide), f1 67 8 (by decide) (by decide)]; exact h67
  · rw [if_neg c] at e1
    have e2 := m_bearer (40 - 1) σ t s f k (sz σ) s8 e12
    rw [if_neg c] at e2
    exact ⟨_, _, _, e1, e2, B, T, L, IV_1 hJ⟩
end
