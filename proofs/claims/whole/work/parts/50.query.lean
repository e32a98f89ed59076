/-! L3: the world stays while it is asked -/
def Wq (ω σ : Sig) : Prop := ∀ q, 1 ≤ q → q ≤ 26 → q ≠ 16 → q ≠ 19 → σ q = ω q
theorem Wq_r {σ : Sig} : Wq σ σ := fun _ _ _ _ _ => rfl
theorem Wq_fr {ω σ σ' : Sig} {S : List Nat} {U : List (Nat × Nat)} (h : Wq ω σ) (f : Fr S U σ σ') (hS : ∀ q ∈ S, q = 16 ∨ q = 19 ∨ 27 ≤ q ∨ q = 0) (hU : ∀ x ∈ U, x.1 = 16 ∨ x.1 = 19 ∨ 27 ≤ x.1 ∨ x.1 = 0) : Wq ω σ' := by
  intro q h1 h2 h3 h4
  rw [Fr_q f (fun e => by have := hS q e; omega) (fun x hx e => by have := hU x hx; omega)]
  exact h q h1 h2 h3 h4
theorem Wq_WI {B T : LW} {ω σ : Sig} (h : Wq ω σ) (hW : WI B T ω) : WI B T σ := WI_fr hW h
theorem Wq_c {ω σ : Sig} (h : Wq ω σ) : σ 1 = ω 1 ∧ σ 2 = ω 2 ∧ σ 3 = ω 3 ∧ σ 4 = ω 4 ∧ σ 5 = ω 5 ∧ σ 6 = ω 6 ∧ σ 7 = ω 7 ∧ σ 8 = ω 8 ∧ σ 9 = ω 9 ∧ σ 10 = ω 10 ∧ σ 11 = ω 11 ∧ σ 12 = ω 12 ∧ σ 13 = ω 13 ∧ σ 14 = ω 14 ∧ σ 15 = ω 15 ∧ σ 17 = ω 17 ∧ σ 18 = ω 18 ∧ σ 20 = ω 20 ∧ σ 21 = ω 21 ∧ σ 22 = ω 22 ∧ σ 23 = ω 23 ∧ σ 24 = ω 24 ∧ σ 25 = ω 25 ∧ σ 26 = ω 26 := by
  refine ⟨?_, ?_, ?_, ?_, ?_, ?_, ?_, ?_, ?_, ?_, ?_, ?_, ?_, ?_, ?_, ?_, ?_, ?_, ?_, ?_, ?_, ?_, ?_, ?_⟩ <;> exact h _ (by omega) (by omega) (by omega) (by omega)
/-- the cells that what is borne depends on -/
def Bq (ω σ : Sig) : Prop := σ 1 0 = ω 1 0 ∧ σ 1 1 = ω 1 1 ∧ σ 3 = ω 3 ∧ σ 4 = ω 4 ∧ σ 6 = ω 6 ∧ σ 7 = ω 7 ∧ σ 8 = ω 8 ∧ σ 9 = ω 9 ∧ σ 10 = ω 10
theorem Wq_B {ω σ : Sig} (h : Wq ω σ) : Bq ω σ := by
  obtain ⟨e1, e2, e3, e4, e5, e6, e7, e8, e9, e10, _⟩ := Wq_c h
  exact ⟨by rw [e1], by rw [e1], e3, e4, e6, e7, e8, e9, e10⟩
theorem sp_hold {ω σ : Sig} (h : Bq ω σ) (g : Int32) (p : Nat) : hold σ g p = hold ω g p := by
  obtain ⟨_, _, _, _, _, _, e8, e9, _⟩ := h
  unfold hold np pr; rw [e8, e9]
theorem sp_wN {ω σ : Sig} (h : Bq ω σ) (p : Nat) : wN σ p = wN ω p := by
  obtain ⟨_, _, _, _, _, _, _, e9, _⟩ := h
  unfold wN; rw [e9]
theorem sp_topX {ω σ : Sig} (h : Bq ω σ) : topX σ = topX ω := by
  obtain ⟨_, _, e3, _, _, _, e8, _, _⟩ := h
  funext s p b c; unfold topX; rw [e3, e8]
theorem sp_fxX {ω σ : Sig} (h : Bq ω σ) : fxX σ = fxX ω := by
  obtain ⟨_, e1, e3, e4, e6, e7, _, _, _⟩ := h
  funext s p b c k; unfold fxX; rw [e1, e3, e4, e6, e7]
theorem sp_shareX {B : LW} {ω σ : Sig} (h : Bq ω σ) : shareX B σ = shareX B ω := by
  funext s p b c l; unfold shareX; rw [sp_topX h, sp_fxX h, h.2.1]
theorem sp_canB {ω σ : Sig} (h : Bq ω σ) : canB σ = canB ω := by
  obtain ⟨_, _, _, e4, _, e7, _, _, _⟩ := h
  funext b; unfold canB; rw [e4, e7]
theorem sp_leastS {ω σ : Sig} (h : Bq ω σ) (s g : Int32) : leastS σ s g = leastS ω s g := by
  have : leastF σ s g = leastF ω s g := by
    funext p a; unfold leastF topS
    simp only [sp_hold h, sp_wN h, sp_topX h, h.2.2.2.2.2.2.2.2]
  unfold leastS; rw [this]
theorem sp_sh {B : LW} {ω σ : Sig} (h : Bq ω σ) (s g : Int32) : sh B σ s g = sh B ω s g := by
  have h0 : sh0 B σ s g = sh0 B ω s g := by
    funext p; unfold sh0 shareS
    simp only [sp_hold h, sp_wN h, sp_shareX h, sp_leastS h, h.2.2.2.2.2.2.2.2]
  funext p; unfold sh
  simp only [h0, sp_hold h]
theorem sp_canN {ω σ : Sig} (h : Bq ω σ) : canN σ = canN ω := by
  funext p; unfold canN; rw [sp_canB h, sp_wN h]
theorem sp_loadO {B : LW} {ω σ : Sig} (h : Bq ω σ) (s g : Int32) : loadO B σ s g = loadO B ω s g := by
  unfold loadO pdN; rw [sp_canN h, sp_sh h, h.1]
theorem sp_loadS {B : LW} {ω σ : Sig} (h : Bq ω σ) (s g : Int32) : loadS B σ s g = loadS B ω s g := by
  funext p; unfold loadS; rw [sp_loadO h]
theorem sp_bearS {B : LW} {ω σ : Sig} (h : Bq ω σ) (s g : Int32) : bearS B σ s g = bearS B ω s g := by
  unfold bearS; rw [sp_loadO h]
theorem sp_askdS {B : LW} {ω σ : Sig} (h : Bq ω σ) (s g : Int32) : askdS B σ s g = askdS B ω s g := by
  unfold askdS pdN; rw [sp_canN h, sp_sh h, h.1]
theorem sp_spreadS {B : LW} {ω σ : Sig} (h : Bq ω σ) (s g : Int32) : spreadS B σ s g = spreadS B ω s g := by
  have a : gMx σ g (loadS B ω s g) = gMx ω g (loadS B ω s g) := by funext p a; unfold gMx; simp only [sp_hold h]
  have b : gMn σ g (loadS B ω s g) = gMn ω g (loadS B ω s g) := by funext p a; unfold gMn; simp only [sp_hold h]
  unfold spreadS; rw [sp_loadS h, a, b]
theorem c_bearsW (d : Nat) {B T : LW} {ω σ : Sig} {s : Int32} (g : Int32) (hq : Wq ω σ) (hW : WI B T ω) (hs : bw s (-9) 9) (hM : MEM B σ) (hr : σ 67 8 ≠ 0 → s = 0) :
    ∃ σ', Ex (d + 3) 3 0 [.ref 67, .ref 1, .int s, .int g, .null, .null, .null, .null] [] G0 σ = some (some (.int (bI (bearS B ω s g))), G0, σ') ∧ Fr SCB [(67, 2), (67, 3)] σ σ' ∧ MEM B σ' ∧ Wq ω σ' ∧ Bd B ω s g σ' := by
  have hb := Wq_B hq
  obtain ⟨σ', e, f, m, k1, k2, k3, k4⟩ := c_bears d B T σ s g (Wq_WI hq hW) hs hM hr
  refine ⟨σ', ?_, f, m, Wq_fr hq f (by decide) (by decide), ?_, ?_, ?_, ?_⟩
  · rw [e]
    have : bI (bearS B σ s g) = bI (bearS B ω s g) := bI_c (by rw [sp_bearS hb])
    rw [this]
  · exact M_ext k1 (fun p _ => decide_eq_decide.mpr (by rw [sp_hold hb]))
  · rw [k2]; exact bI_c (by rw [sp_askdS hb])
  · intro p hp
    have : np σ = np ω := by unfold np pr; rw [hb.2.2.2.2.2.2.1]
    rw [k3 p (by omega), sp_loadS hb]
  · intro p hp hh
    rw [k4 p hp (by rw [sp_hold hb]; exact hh), sp_canB hb, sp_wN hb]
theorem bw0 : bw 0 (-9) 9 := by unfold bw; decide
theorem bw_of {x : Int32} {a b : Int32} (h : a ≤ x ∧ x ≤ b) : bw x a.toInt b.toInt := ⟨Int32.le_iff_toInt_le.mp h.1, Int32.le_iff_toInt_le.mp h.2⟩
/-- an index of a place -/
theorem pl_ix {B T : LW} {ω : Sig} (hW : WI B T ω) {a : Int32} (h : 0 ≤ a ∧ a < 2 * ω 8 0) : ∃ p, p < np ω ∧ p < 8 ∧ a = nI p := by
  obtain ⟨_, h8, e⟩ := WI_np hW
  rw [e] at h
  have h1 := Int32.le_iff_toInt_le.mp h.1
  have h2 := Int32.lt_iff_toInt_lt.mp h.2
  rw [nI_i (by omega)] at h2
  have z : (0 : Int32).toInt = 0 := rfl
  have hc : a.toNatClampNeg = a.toInt.toNat := rfl
  refine ⟨a.toNatClampNeg, by omega, by omega, nI_of0 (by omega)⟩
theorem be_ix {B T : LW} {ω : Sig} (hW : WI B T ω) {a : Int32} (h : 0 ≤ a ∧ a < ω 2 0) : ∃ b, b < sz ω ∧ b < 8 ∧ a = nI b := by
  obtain ⟨e, h8⟩ : wi B T ω 5 := hW 5
  rw [e] at h
  have h1 := Int32.le_iff_toInt_le.mp h.1
  have h2 := Int32.lt_iff_toInt_lt.mp h.2
  rw [nI_i (by omega)] at h2
  have z : (0 : Int32).toInt = 0 := rfl
  have hc : a.toNatClampNeg = a.toInt.toNat := rfl
  refine ⟨a.toNatClampNeg, by omega, by omega, nI_of0 (by omega)⟩
def loadsA (B : LW) (ω : Sig) (a b : Int32) : Int32 := if (0 ≤ a ∧ a < 2 * ω 8 0) ∧ (-9 ≤ b ∧ b ≤ 9) ∧ ω 9 a.toNatClampNeg ≠ -1 ∧ bearS B ω b 0 then nI (loadS B ω b 0 a.toNatClampNeg) else -1
theorem c_loads (d : Nat) {B T : LW} {σ : Sig} (a b : Int32) (hW : WI B T σ) (hM : MEM B σ) (h0 : σ 67 8 = 0) : ∃ σ', Ex (d + 4) 112 0 [.ref 0, .int a, .int b] [] G0 σ = some (some (.int (loadsA B σ a b)), G0, σ') ∧ Fr SCB [(67, 2), (67, 3)] σ σ' := by
  unfold loadsA
  simp only [b112_0, c_placesHas, Option.bind_some, Option.toList_some, Option.toList_none, List.cons_append, List.nil_append, i01a, i01b, if_true, if_false, b112_11, bI_z, bI_o, bI_em, ite_not]
  by_cases h1 : 0 ≤ a ∧ a < 2 * σ 8 0
  · obtain ⟨p, hp, hp8, e⟩ := pl_ix hW h1
    subst e
    simp only [h1, i10, i01, eq_self, if_true, if_false, true_and, false_and, and_true, and_false, not_true, not_false_iff, true_or, or_true, false_or, or_false, ne_eq, not_true_eq_false, not_false_eq_true, c_isSlope, Option.bind_some, Option.toList_some, Option.toList_none, List.cons_append, List.nil_append, i01a, i01b, if_true, if_false, b112_18, bI_z, bI_o, bI_em, ite_not]
    by_cases h2 : -9 ≤ b ∧ b ≤ 9
    · simp only [h2, i10, i01, eq_self, if_true, if_false, true_and, false_and, and_true, and_false, not_true, not_false_iff, true_or, or_true, false_or, or_false, ne_eq, not_true_eq_false, not_false_eq_true, i8 hp8, c8 hp8]
      by_cases h3 : σ 9 p = -1
      · simp only [h3, i10, i01, eq_self, if_true, if_false, true_and, false_and, and_true, and_false, not_true, not_false_iff, true_or, or_true, false_or, or_false, ne_eq, not_true_eq_false, not_false_eq_true]
        exact ⟨σ, rfl, Fr_r⟩
      · obtain ⟨σ', e, f, _, _, hb⟩ := c_bearsW d 0 (Wq_r (σ := σ)) hW (bw_of h2) hM (fun h => absurd h0 h)
        simp only [h3, i10, i01, eq_self, if_true, if_false, true_and, false_and, and_true, and_false, not_true, not_false_iff, true_or, or_true, false_or, or_false, ne_eq, not_true_eq_false, not_false_eq_true, e, Option.bind_some, Option.toList_some, Option.toList_none, List.cons_append, List.nil_append, i01a, i01b, if_true, if_false, b112_52, bI_z, bI_o, bI_em, ite_not, i8 hp8, c8 hp8]
        refine ⟨σ', ?_, f⟩
        by_cases h4 : bearS B σ b 0
        · rw [if_pos h4, if_pos h4, hb.2.2.1 p hp]
        · rw [if_neg h4, if_neg h4]
    · simp only [h2, i10, i01, eq_self, if_true, if_false, true_and, false_and, and_true, and_false, not_true, not_false_iff, true_or, or_true, false_or, or_false, ne_eq, not_true_eq_false, not_false_eq_true]
      exact ⟨σ, rfl, Fr_r⟩
  · simp only [h1, i10, i01, eq_self, if_true, if_false, true_and, false_and, and_true, and_false, not_true, not_false_iff, true_or, or_true, false_or, or_false, ne_eq, not_true_eq_false, not_false_eq_true]
    exact ⟨σ, rfl, Fr_r⟩
theorem m_loads (d : Nat) {B T : LW} {ω σ : Sig} (a b : Int32) (hM : MR B T ω σ) (hW : WI B T ω) : ∃ σ', Ex (d + 6) 235 0 [.ref 112, .int a, .int b] [] G0 σ = some (some (.int (loadsA B ω a b)), G0, σ') ∧ Fr SCM [(112, 0), (112, 49)] σ σ' := by
  have f0 : Fr SCM [(112, 0), (112, 49)] σ (pt σ 112 0 0) := Fr_p Fr_r (Or.inr (by simp))
  have hM0 : MR B T ω (pt σ 112 0 0) := MR_S hM f0 (by decide) (by simp)
  have e20 : 2 * ((pt σ 112 0 0) 112 7 + 3) = 2 * ω 8 0 := by
    have h1 : (pt σ 112 0 0) 112 7 = ω 8 0 - 3 := hM0 1
    rw [h1, s3a]
  unfold loadsA
  simp only [b235_0, m_isPlace, e20, Option.bind_some, Option.toList_some, Option.toList_none, List.cons_append, List.nil_append, i01a, i01b, if_true, if_false, b235_10, bI_z, bI_o, bI_em, ite_not]
  by_cases h1 : 0 ≤ a ∧ a < 2 * ω 8 0
  · obtain ⟨p, hp, hp8, e⟩ := pl_ix hW h1
    subst e
    simp only [h1, i10, i01, eq_self, if_true, if_false, true_and, false_and, and_true, and_false, not_true, not_false_iff, true_or, or_true, false_or, or_false, ne_eq, not_true_eq_false, not_false_eq_true, m_isSlope, Option.bind_some, Option.toList_some, Option.toList_none, List.cons_append, List.nil_append, i01a, i01b, if_true, if_false, b235_18, bI_z, bI_o, bI_em, ite_not]
    by_cases h2 : -9 ≤ b ∧ b ≤ 9
    · simp only [h2, i10, i01, eq_self, if_true, if_false, true_and, false_and, and_true, and_false, not_true, not_false_iff, true_or, or_true, false_or, or_false, ne_eq, not_true_eq_false, not_false_eq_true, (fun d => m_who d hM0 hp8), Option.bind_some, Option.toList_some, Option.toList_none, List.cons_append, List.nil_append, i01a, i01b, if_true, if_false, b235_26, c8 hp8]
      by_cases h3 : ω 9 p = -1
      · simp only [h3, i10, i01, eq_self, if_true, if_false, true_and, false_and, and_true, and_false, not_true, not_false_iff, true_or, or_true, false_or, or_false, ne_eq, not_true_eq_false, not_false_eq_true]
        exact ⟨_, rfl, f0⟩
      · obtain ⟨σ', e, f, _, hl, _⟩ := m_bears d hM0 hW (bw_of h2) 0
        simp only [h3, i10, i01, eq_self, if_true, if_false, true_and, false_and, and_true, and_false, not_true, not_false_iff, true_or, or_true, false_or, or_false, ne_eq, not_true_eq_false, not_false_eq_true, e, Option.bind_some, Option.toList_some, Option.toList_none, List.cons_append, List.nil_append, i01a, i01b, if_true, if_false, b235_38, bI_z, bI_o, bI_em, ite_not, i8 hp8, c8 hp8]
        refine ⟨σ', ?_, Fr_t f0 (Fr_m f (by simp) (by simp))⟩
        by_cases h4 : bearS B ω b 0
        · rw [if_pos h4, if_pos h4, hl p hp8]
        · rw [if_neg h4, if_neg h4]
    · simp only [h2, i10, i01, eq_self, if_true, if_false, true_and, false_and, and_true, and_false, not_true, not_false_iff, true_or, or_true, false_or, or_false, ne_eq, not_true_eq_false, not_false_eq_true]
      exact ⟨_, rfl, f0⟩
  · simp only [h1, i10, i01, eq_self, if_true, if_false, true_and, false_and, and_true, and_false, not_true, not_false_iff, true_or, or_true, false_or, or_false, ne_eq, not_true_eq_false, not_false_eq_true]
    exact ⟨_, rfl, f0⟩
