/-! L3: what holds between two calls -/
theorem sp_jF {B : LW} {ω σ : Sig} (h : Wb ω σ) : jF B σ = jF B ω := by
  funext pre st
  have b := tw_B h pre
  have e1 : np σ = np ω := by unfold np pr; rw [h.1 8 (by omega) (by omega) (by omega) (by omega) (by omega)]
  have es : seenS B σ (tw σ pre) = seenS B ω (tw ω pre) := by
    unfold seenS; rw [e1, sp_loadS b, h.1 13 (by omega) (by omega) (by omega) (by omega) (by omega)]
  unfold jF; rw [es, sp_bearS b]
theorem sp_fiT {B : LW} {ω σ : Sig} (h : Wb ω σ) : fiT B σ = fiT B ω := by
  have e1 : np σ = np ω := by unfold np pr; rw [h.1 8 (by omega) (by omega) (by omega) (by omega) (by omega)]
  have e2 : sz σ = sz ω := by unfold sz; rw [h.1 2 (by omega) (by omega) (by omega) (by omega) (by omega)]
  unfold fiT; rw [sp_jF h, sp_cnW h, e1, e2]
theorem tc_B {ω σ : Sig} (h : Wb ω σ) (pre : List Nat) : Bq (tc ω pre) (tc σ pre) := by
  have e : ∀ q, 1 ≤ q → q ≤ 13 → q ≠ 10 → tc σ pre q = tc ω pre q := fun q h1 h2 h3 => by rw [tc_q h3, tc_q h3]; exact h.1 q h1 (by omega) (by omega) (by omega) (by omega)
  refine ⟨by rw [e 1 (by omega) (by omega) (by omega)], by rw [e 1 (by omega) (by omega) (by omega)], e 3 (by omega) (by omega) (by omega), e 4 (by omega) (by omega) (by omega), e 6 (by omega) (by omega) (by omega), e 7 (by omega) (by omega) (by omega), e 8 (by omega) (by omega) (by omega), e 9 (by omega) (by omega) (by omega), ?_⟩
  have en : np σ = np ω := by unfold np pr; rw [h.1 8 (by omega) (by omega) (by omega) (by omega) (by omega)]
  funext k; unfold tc; rw [en, h.1 10 (by omega) (by omega) (by omega) (by omega) (by omega)]
theorem sp_jC {B : LW} {ω σ : Sig} (h : Wb ω σ) : jC B σ = jC B ω := by
  funext pre st
  have b := tc_B h pre
  have es : spN B (tc σ pre) = spN B (tc ω pre) := by unfold spN; rw [sp_spreadS b]
  unfold jC; rw [es, sp_bearS b]
theorem sp_coS {B : LW} {ω σ : Sig} (h : Wb ω σ) : coS B σ = coS B ω := by
  have e1 : np σ = np ω := by unfold np pr; rw [h.1 8 (by omega) (by omega) (by omega) (by omega) (by omega)]
  have e2 : cC σ = cC ω := by funext pre b; unfold cC; rw [h.1 9 (by omega) (by omega) (by omega) (by omega) (by omega)]
  unfold coS; rw [sp_jC h, e1, e2]
theorem sp_hpS {B T : LW} {ω σ : Sig} (h : Wb ω σ) : hpS B T σ = hpS B T ω := by
  have e1 : np σ = np ω := by unfold np pr; rw [h.1 8 (by omega) (by omega) (by omega) (by omega) (by omega)]
  have e2 : sz σ = sz ω := by unfold sz; rw [h.1 2 (by omega) (by omega) (by omega) (by omega) (by omega)]
  have e9 : σ 9 = ω 9 := h.1 9 (by omega) (by omega) (by omega) (by omega) (by omega)
  have ep : plS σ = plS ω := by funext x; unfold plS plB; rw [e9]
  have ef : hfN B T σ = hfN B T ω := by funext p b; unfold hfN; exact farN_c 2000 (Wb_C (Wb_pt h (by decide) (by decide)))
  have e0 : hp0 B T σ = hp0 B T ω := by funext p b st; unfold hp0; rw [e9, ep, ef]
  have eh1 : hp1 B T σ = hp1 B T ω := by funext p n st; unfold hp1; rw [e0]
  unfold hpS hp2
  rw [eh1, e1, e2, farN_c 2000 (Wb_C h)]
/-- kept answers: bits of (0, 10) -/
def KN (B T : LW) (ω σ : Sig) : Prop := ∃ n, n < 16 ∧ σ 0 10 = nI n ∧ (n % 2 = 1 → KO ω (orS B ω (kpt ω)) σ) ∧ (n / 2 % 2 = 1 → KZ ω (coS B ω) σ) ∧ (n / 4 % 2 = 1 → KF ω (2 ^ 30) (fiT B ω) σ) ∧ (n / 8 % 2 = 1 → KH B T ω σ)
theorem KN_0 {B T : LW} {ω σ : Sig} (h : σ 0 10 = 0) : KN B T ω σ := ⟨0, by decide, h, fun h => absurd h (by decide), fun h => absurd h (by decide), fun h => absurd h (by decide), fun h => absurd h (by decide)⟩
theorem KN_w {B T : LW} {ω ω' σ : Sig} (h : KN B T ω σ) (w : Wb ω ω') : KN B T ω' σ := by
  obtain ⟨n, h1, h2, h3, h4, h5, h6⟩ := h
  have en : np ω' = np ω := by unfold np pr; rw [w.1 8 (by omega) (by omega) (by omega) (by omega) (by omega)]
  refine ⟨n, h1, h2, fun k => ?_, fun k => ?_, fun k => ?_, fun k => ?_⟩
  · have := h3 k; unfold KO at this ⊢; rw [sp_orS w, sp_kpt w, en]; exact this
  · have := h4 k; unfold KZ at this ⊢; rw [sp_coS w, en]; exact this
  · have := h5 k; unfold KF at this ⊢; rw [sp_fiT w, en]; exact this
  · have := h6 k; unfold KH at this ⊢; rw [sp_hpS w]; exact this
/-- slots of the kept answers -/
abbrev Kc (q k : Nat) : Prop := (q = 0 ∧ k = 10) ∨ (q = 74 ∧ (k = 0 ∨ k = 1 ∨ k = 2)) ∨ (q = 79 ∧ (k = 0 ∨ k = 2 ∨ k = 3 ∨ k = 5)) ∨ q = 80 ∨ q = 81 ∨ q = 82
theorem KN_x {B T : LW} {ω σ σ' : Sig} (h : KN B T ω σ) (f : ∀ q k, Kc q k → σ' q k = σ q k) : KN B T ω σ' := by
  obtain ⟨n, h1, h2, h3, h4, h5, h6⟩ := h
  have e80 : σ' 80 = σ 80 := by funext k; exact f 80 k (Or.inr (Or.inr (Or.inr (Or.inl rfl))))
  have e81 : σ' 81 = σ 81 := by funext k; exact f 81 k (Or.inr (Or.inr (Or.inr (Or.inr (Or.inl rfl)))))
  have e82 : σ' 82 = σ 82 := by funext k; exact f 82 k (Or.inr (Or.inr (Or.inr (Or.inr (Or.inr rfl)))))
  refine ⟨n, h1, by rw [f 0 10 (by decide)]; exact h2, fun k => ?_, fun k => ?_, fun k => ?_, fun k => ?_⟩
  · have := h3 k; unfold KO at this ⊢; rw [f 79 0 (by decide), e80]; exact this
  · have := h4 k; unfold KZ at this ⊢; rw [f 79 2 (by decide), f 79 3 (by decide), e81]; exact this
  · have := h5 k; unfold KF at this ⊢; rw [f 79 5 (by decide), e82]; exact this
  · have := h6 k; unfold KH at this ⊢; rw [f 74 0 (by decide), f 74 1 (by decide), f 74 2 (by decide)]; exact this
def TPx (σ : Sig) : Prop := ∃ b n, TPe b n σ ∧ TPm b n σ
def IMG (σ : Sig) : Prop := (σ 0 9 = 0 ∧ σ 112 58 = 0) ∨ (σ 0 9 = 1 ∧ σ 112 58 = 1 ∧ ∃ (B T : LW) (s : Sig), WI B T (shi σ) ∧ MR B T (shi σ) s ∧ ∀ i, i < 2553 → σ 142 i = s (oS i).1 (oS i).2)
/-- what no call but text, feed, end and image touches: tape, fault, image -/
def OT (σ : Sig) : Prop := TPx σ ∧ (σ 53 1 = σ 112 41 ∧ σ 53 2 = σ 112 42) ∧ IMG σ
def SLw (L : List Sig) : Prop := L.Pairwise (fun u v => lns u ≤ lns v)
def IV (B T : LW) (L : List Sig) (σ : Sig) : Prop := WI B T σ ∧ MR B T σ σ ∧ UL B T L σ ∧ CU L σ ∧ MU B T L σ ∧ KN B T σ σ ∧ σ 112 5 = 0 ∧ σ 67 8 = 0 ∧ OT σ ∧ SLw L
def INV (σ : Sig) : Prop := ∃ B T L, IV B T L σ
theorem bkl {B T : LW} {σ : Sig} (hW : WI B T σ) : ∃ n, n ≤ 150 ∧ σ 25 0 = nI n ∧ lns σ = n := by
  have h14 : bw (σ 25 0) 0 150 := hW 14
  unfold bw at h14
  refine ⟨(σ 25 0).toNatClampNeg, ?_, nI_of0 (by omega), rfl⟩
  have e : (σ 25 0).toNatClampNeg = (σ 25 0).toInt.toNat := rfl
  omega
theorem lwl {B T : LW} {σ : Sig} (hW : WI B T σ) : σ 14 1 = nI (flt B).length ∧ (flt B).length ≤ 400 ∧ σ 17 1 = nI (flt T).length ∧ (flt T).length ≤ 400 := ⟨(hW 20).1.2.1, (hW 20).2.1.2.1, (hW 21).1.2.1, (hW 21).2.1.2.1⟩
theorem Wb_AG {ω σ : Sig} {m1 m2 : Nat} (h : Wb ω σ) : AG m1 m2 (lns ω) ω σ := by
  have e : ∀ q, 1 ≤ q → q ≤ 25 → q ≠ 16 → q ≠ 19 → σ q = ω q := fun q h1 h2 h3 h4 => h.1 q h1 (by omega) h3 h4 (by omega)
  unfold AG
  rw [e 1 (by omega) (by omega) (by omega) (by omega), e 2 (by omega) (by omega) (by omega) (by omega), e 3 (by omega) (by omega) (by omega) (by omega), e 4 (by omega) (by omega) (by omega) (by omega), e 5 (by omega) (by omega) (by omega) (by omega), e 6 (by omega) (by omega) (by omega) (by omega), e 7 (by omega) (by omega) (by omega) (by omega), e 8 (by omega) (by omega) (by omega) (by omega), e 9 (by omega) (by omega) (by omega) (by omega), e 10 (by omega) (by omega) (by omega) (by omega), e 11 (by omega) (by omega) (by omega) (by omega), e 12 (by omega) (by omega) (by omega) (by omega), e 13 (by omega) (by omega) (by omega) (by omega), e 14 (by omega) (by omega) (by omega) (by omega), e 15 (by omega) (by omega) (by omega) (by omega), e 17 (by omega) (by omega) (by omega) (by omega), e 18 (by omega) (by omega) (by omega) (by omega), e 20 (by omega) (by omega) (by omega) (by omega), e 21 (by omega) (by omega) (by omega) (by omega), e 22 (by omega) (by omega) (by omega) (by omega), e 23 (by omega) (by omega) (by omega) (by omega), e 24 (by omega) (by omega) (by omega) (by omega), e 25 (by omega) (by omega) (by omega) (by omega)]
  exact ⟨fun _ _ => rfl, rfl, fun _ _ => ⟨rfl, rfl, rfl, rfl, rfl⟩, rfl, fun _ _ => ⟨rfl, rfl, rfl, rfl, rfl⟩, rfl, rfl, fun _ _ => rfl, rfl, rfl, fun _ _ => rfl, rfl, rfl, fun _ _ => ⟨rfl, rfl, rfl, rfl⟩, rfl, h.2⟩
theorem Wb_WI {B T : LW} {ω σ : Sig} (h : Wb ω σ) (hW : WI B T ω) : WI B T σ := AG_WI hW (Wb_AG h)
theorem Wb_MR {B T : LW} {ω σ s : Sig} (h : Wb ω σ) (hW : WI B T ω) (hM : MR B T ω s) : MR B T σ s := AG_MR (m1 := 0) (m2 := 0) hW (Nat.le_refl _) hM (Wb_AG h)
theorem Wb_Td {ω σ : Sig} (h : Wb ω σ) : Td ω σ := by
  have e : ∀ q, 1 ≤ q → q ≤ 25 → q ≠ 16 → q ≠ 19 → σ q = ω q := fun q h1 h2 h3 h4 => h.1 q h1 (by omega) h3 h4 (by omega)
  have e25 := e 25 (by omega) (by omega) (by omega) (by omega)
  refine ⟨⟨fun q h1 h2 h3 => ?_, fun k _ => by rw [e 1 (by omega) (by omega) (by omega) (by omega)], fun k _ => ⟨by rw [e 7 (by omega) (by omega) (by omega) (by omega)], by rw [e 9 (by omega) (by omega) (by omega) (by omega)], by rw [e 10 (by omega) (by omega) (by omega) (by omega)]⟩, fun k _ => by rw [e25], h.2⟩, by unfold lns; rw [e25]; exact Nat.le_refl _⟩
  simp at h3
  exact e q h1 (by omega) (by omega) (by omega)
/-- all but cells of the class's world, and what thinks; and of the model -/
abbrev Po (q k : Nat) : Prop := (q = 0 ∧ k ≠ 9) ∨ (1 ≤ q ∧ q ≤ 26) ∨ (67 ≤ q ∧ q ≤ 111) ∨ (q = 112 ∧ k ≠ 22 ∧ k ≠ 41 ∧ k ≠ 42 ∧ k ≠ 58) ∨ (113 ≤ q ∧ q ≤ 141 ∧ q ≠ 124 ∧ q ≠ 125)
theorem IMG_x {σ σ' : Sig} (h : IMG σ) (e9 : σ' 0 9 = σ 0 9) (e58 : σ' 112 58 = σ 112 58) (e142 : σ' 142 = σ 142) (e : ∀ q, 27 ≤ q → q ≤ 52 → σ' q = σ q) : IMG σ' := by
  rcases h with ⟨h1, h2⟩ | ⟨h1, h2, B, T, s, hW, hM, h3⟩
  · exact Or.inl ⟨e9.trans h1, e58.trans h2⟩
  · have w : Wb (shi σ) (shi σ') := ⟨fun q a b _ _ _ => by funext k; show σ' (q + 26) k = σ (q + 26) k; rw [e (q + 26) (by omega) (by omega)], fun i _ => by show σ' 52 i = σ 52 i; rw [e 52 (by omega) (by omega)]⟩
    exact Or.inr ⟨e9.trans h1, e58.trans h2, B, T, s, Wb_WI w hW, Wb_MR w hW hM, by rw [e142]; exact h3⟩
theorem TPx_x {σ σ' : Sig} (h : TPx σ) (e53 : σ' 53 0 = σ 53 0) (e62 : σ' 62 = σ 62) (e22 : σ' 112 22 = σ 112 22) (e124 : σ' 124 = σ 124) (e125 : σ' 125 = σ 125) : TPx σ' := by
  obtain ⟨b, n, ⟨a1, a2, a3⟩, ⟨c1, c2, c3, c4⟩⟩ := h
  exact ⟨b, n, ⟨a1, e53.trans a2, by rw [e62]; exact a3⟩, ⟨c1, e22.trans c2, by rw [e124]; exact c3, by rw [e125]; exact c4⟩⟩
theorem OT_x {σ σ' : Sig} (h : OT σ) (f : FX Po σ σ') : OT σ' := by
  have c : ∀ q, (27 ≤ q ∧ q ≤ 66) ∨ q = 124 ∨ q = 125 ∨ q = 142 → σ' q = σ q := fun q hq => by funext k; exact f q k (by simp only [Po]; omega)
  obtain ⟨h1, ⟨h2, h3⟩, h4⟩ := h
  refine ⟨TPx_x h1 (by rw [c 53 (by omega)]) (c 62 (by omega)) (f 112 22 (by decide)) (c 124 (by omega)) (c 125 (by omega)), ⟨?_, ?_⟩, IMG_x h4 (f 0 9 (by decide)) (f 112 58 (by decide)) (c 142 (by omega)) (fun q a b => c q (by omega))⟩
  · rw [c 53 (by omega), f 112 41 (by decide)]; exact h2
  · rw [c 53 (by omega), f 112 42 (by decide)]; exact h3
theorem FX_o {S : List Nat} {U : List (Nat × Nat)} {σ σ' : Sig} (f : Fr S U σ σ') (h1 : ∀ q ∈ S, (1 ≤ q ∧ q ≤ 26) ∨ (67 ≤ q ∧ q ≤ 111) ∨ (113 ≤ q ∧ q ≤ 141 ∧ q ≠ 124 ∧ q ≠ 125)) (h2 : ∀ x ∈ U, Po x.1 x.2) : FX Po σ σ' := FX_f f (fun q hq k => by have := h1 q hq; simp only [Po]; omega) h2
/-- the class's cells but the world's, undo's and what is kept -/
theorem CU_k {L : List Sig} {σ σ' : Sig} (h : CU L σ) (e7 : σ' 0 7 = σ 0 7) (e8 : σ' 0 8 = σ 0 8) (e : ∀ q, 88 ≤ q → q < 112 → σ' q = σ q) : CU L σ' := by
  obtain ⟨h8, o, ho, h7, hm⟩ := h
  refine ⟨e8.trans h8, o, ho, e7.trans h7, fun j hj => ?_⟩
  have : (o + j) % 6 < 6 := Nat.mod_lt _ (by decide)
  exact MM_fr (hm j hj) (e _ (by omega) (by omega)) (e _ (by omega) (by omega)) (e _ (by omega) (by omega)) (e _ (by omega) (by omega))
theorem CU_0 {L : List Sig} {σ σ' : Sig} (h : CU L σ) (e7 : σ' 0 7 = σ 0 7) (e8 : σ' 0 8 = 0) : CU [] σ' := by
  obtain ⟨_, o, ho, h7, _⟩ := h
  exact ⟨e8, o, ho, e7.trans h7, fun j hj => absurd hj (Nat.not_lt_zero j)⟩
theorem UL_0 {B T : LW} {σ : Sig} : UL B T [] σ := ⟨Nat.zero_le _, fun v hv => absurd hv List.not_mem_nil⟩
theorem MU_0 {B T : LW} {σ : Sig} (h : σ 112 3 = 0) : MU B T [] σ := ⟨h, fun j hj => absurd hj (Nat.not_lt_zero j)⟩
/-- the model's part of MR alone counts -/
theorem MR_s {B T : LW} {ω σ σ' : Sig} (h : MR B T ω σ) (f : ∀ q k, (q = 112 ∧ ((6 ≤ k ∧ k ≤ 12) ∨ k = 43)) ∨ q = 113 ∨ (116 ≤ q ∧ q ≤ 123) ∨ (126 ≤ q ∧ q ≤ 131) ∨ q = 133 → σ' q k = σ q k) : MR B T ω σ' := by
  have q : ∀ q, q = 113 ∨ (116 ≤ q ∧ q ≤ 123) ∨ (126 ≤ q ∧ q ≤ 131) ∨ q = 133 → σ' q = σ q := fun q hq => by funext k; exact f q k (by omega)
  have k : ∀ k, (6 ≤ k ∧ k ≤ 12) ∨ k = 43 → σ' 112 k = σ 112 k := fun k hk => f 112 k (by omega)
  intro i
  have h := h i
  match i, h with
  | 0, h => simp only [mr] at h ⊢; rw [k 6 (by omega)]; exact h
  | 1, h => simp only [mr] at h ⊢; rw [k 7 (by omega)]; exact h
  | 2, h => simp only [mr] at h ⊢; rw [k 8 (by omega)]; exact h
  | 3, h => simp only [mr] at h ⊢; rw [k 9 (by omega)]; exact h
  | 4, h => simp only [mr] at h ⊢; rw [k 10 (by omega)]; exact h
  | 5, h => simp only [mr] at h ⊢; rw [k 11 (by omega)]; exact h
  | 6, h => simp only [mr] at h ⊢; rw [k 12 (by omega)]; exact h
  | 7, h => simp only [mr] at h ⊢; rw [q 113 (by omega)]; exact h
  | 8, h => simp only [mr] at h ⊢; rw [q 113 (by omega)]; exact h
  | 9, h => simp only [mr] at h ⊢; rw [q 113 (by omega)]; exact h
  | 10, h => simp only [mr] at h ⊢; rw [q 113 (by omega)]; exact h
  | 11, h => simp only [mr] at h ⊢; rw [q 113 (by omega)]; exact h
  | 12, h => simp only [mr] at h ⊢; rw [q 113 (by omega)]; exact h
  | 13, h => simp only [mr] at h ⊢; rw [q 113 (by omega)]; exact h
  | 14, h => simp only [mr] at h ⊢; rw [q 113 (by omega)]; exact h
  | 15, h => simp only [mr] at h ⊢; rw [q 113 (by omega)]; exact h
  | 16, h => simp only [mr] at h ⊢; rw [q 113 (by omega)]; exact h
  | 17, h => simp only [mr] at h ⊢; rw [q 116 (by omega)]; exact h
  | 18, h => simp only [mr] at h ⊢; rw [q 117 (by omega)]; exact h
  | 19, h => simp only [mr] at h ⊢; rw [q 118 (by omega)]; exact h
  | 20, h => simp only [mr] at h ⊢; rw [q 119 (by omega)]; exact h
  | 21, h => simp only [mr] at h ⊢; rw [q 120 (by omega)]; exact h
  | 22, h => simp only [mr] at h ⊢; rw [q 121 (by omega)]; exact h
  | 23, h => simp only [mr] at h ⊢; rw [q 122 (by omega)]; exact h
  | 24, h => simp only [mr] at h ⊢; rw [k 43 (by omega)]; exact h
  | 25, h => simp only [mr] at h ⊢; rw [q 133 (by omega)]; exact h
  | 26, h => simp only [mr] at h ⊢; rw [q 123 (by omega)]; exact h
  | 27, h => simp only [mr] at h ⊢; rw [q 126 (by omega)]; exact h
  | 28, h => simp only [mr] at h ⊢; rw [q 126 (by omega)]; exact h
  | 29, h => simp only [mr] at h ⊢; rw [q 127 (by omega), q 128 (by omega), q 129 (by omega), q 130 (by omega), q 131 (by omega)]; exact h
  | 30, h => simp only [mr] at h ⊢; rw [q 127 (by omega), q 128 (by omega), q 129 (by omega), q 130 (by omega), q 131 (by omega)]; exact h
  | _ + 31, _ => trivial
theorem MR_fc {B T : LW} {ω σ σ' : Sig} {S : List Nat} {U : List (Nat × Nat)} (h : MR B T ω σ) (f : Fr S U σ σ') (h1 : ∀ q ∈ S, q < 112) (h2 : ∀ x ∈ U, x.1 < 112) : MR B T ω σ' := MR_s h (fun q k hq => f q k (fun e => by have := h1 q e; omega) (fun e => by have := h2 _ e; simp only at this; omega))
/-- a question: the world stays -/
theorem IV_q {B T : LW} {L : List Sig} {σ σ1 σ2 : Sig} {S1 S2 : List Nat} {U1 U2 : List (Nat × Nat)} (h : IV B T L σ) (w : Wb σ σ1) (f1 : Fr S1 U1 σ σ1) (a1 : ∀ q ∈ S1, (1 ≤ q ∧ q ≤ 26) ∨ (67 ≤ q ∧ q ≤ 86)) (a2 : ∀ x ∈ U1, (67 ≤ x.1 ∧ x.1 ≤ 86) ∨ x = (0, 10)) (h67 : σ1 67 8 = 0) (kn : KN B T σ σ1)
    (hM : MR B T σ σ2) (f2 : Fr S2 U2 σ1 σ2) (b1 : ∀ q ∈ S2, q = 113 ∨ q = 115 ∨ (134 ≤ q ∧ q ≤ 141)) (b2 : ∀ x ∈ U2, x.1 = 112 ∧ (x.2 = 0 ∨ x.2 = 5 ∨ x.2 = 10 ∨ x.2 = 49 ∨ x.2 = 53 ∨ x.2 = 55 ∨ x.2 = 56)) (h5 : σ2 112 5 = 0) : IV B T L σ2 := by
  obtain ⟨hW, hM0, hU, hC, hMU, hK, _, _, hO, hS⟩ := h
  have g2 : ∀ q, q < 112 → σ2 q = σ1 q := fun q hq => Fr_q f2 (fun e => by have := b1 q e; omega) (fun x hx e => by have := b2 x hx; omega)
  have g1 : ∀ q, (q ≠ 0 ∧ ¬ (1 ≤ q ∧ q ≤ 26) ∧ ¬ (67 ≤ q ∧ q ≤ 86)) → σ1 q = σ q := fun q hq => Fr_q f1 (fun e => by have := a1 q e; omega) (fun x hx e => by
    rcases a2 x hx with c | c
    · omega
    · rw [c] at e; simp only at e; omega)
  have z1 : ∀ k, k ≠ 10 → σ1 0 k = σ 0 k := fun k hk => f1 0 k (fun e => by have := a1 0 e; omega) (fun e => by
    rcases a2 _ e with c | c
    · simp only at c; omega
    · exact hk (Prod.ext_iff.mp c).2)
  have w2 : Wb σ σ2 := ⟨fun q c1 c2 c3 c4 c5 => by rw [g2 q (by omega)]; exact w.1 q c1 c2 c3 c4 c5, fun i hi => by rw [g2 26 (by omega)]; exact w.2 i hi⟩
  refine ⟨Wb_WI w2 hW, Wb_MR w2 hW hM, ⟨hU.1, fun v hv => ⟨(hU.2 v hv).1, Td_t (hU.2 v hv).2 (Wb_Td w2)⟩⟩, CU_k hC (by rw [g2 0 (by omega), z1 7 (by decide)]) (by rw [g2 0 (by omega), z1 8 (by decide)]) (fun q c1 c2 => by rw [g2 q c2, g1 q (by omega)]), ?_, ?_, h5, by rw [g2 67 (by omega)]; exact h67, OT_x hO (FX_t (FX_o f1 (fun q hq => by have := a1 q hq; omega) (fun x hx => ?_)) (FX_o f2 (fun q hq => by have := b1 q hq; omega) (fun x hx => by have := b2 x hx; simp only [Po]; omega))), hS⟩
  · refine MU_fr hMU ?_ ?_
    · rw [f2 112 3 (fun e => by have := b1 _ e; omega) (fun e => by have := b2 _ e; simp only at this; omega), g1 112 (by omega)]
    · rw [Fr_q f2 (fun e => by have := b1 _ e; omega) (fun x hx e => by have := b2 x hx; omega), g1 114 (by omega)]
  · exact KN_w (KN_x kn (fun q k hq => by rw [g2 q (by simp only [Kc] at hq; omega)])) w2
  · rcases a2 x hx with c | c
    · simp only [Po]; omega
    · rw [c]; decide
