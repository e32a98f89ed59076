/-! L3: idle, gates, unseen -/
def idleOk (B : LW) (ω : Sig) (a b v : Int32) : Prop :=
  ((-9 ≤ a ∧ a ≤ 9) ∧ (0 ≤ b ∧ b ≤ 1) ∧ bearS B ω a 0 → (b = 0 → isM v (idleB B ω a)) ∧ (b ≠ 0 → v = spreadS B ω a 0)) ∧ (¬ ((-9 ≤ a ∧ a ≤ 9) ∧ (0 ≤ b ∧ b ≤ 1) ∧ bearS B ω a 0) → v = -1)
theorem idle_u {B : LW} {ω : Sig} {a b v w : Int32} (h : idleOk B ω a b v) (k : idleOk B ω a b w) : v = w := by
  by_cases c : (-9 ≤ a ∧ a ≤ 9) ∧ (0 ≤ b ∧ b ≤ 1) ∧ bearS B ω a 0
  · by_cases z : b = 0
    · exact M_inj ((h.1 c).1 z) ((k.1 c).1 z) (fun _ _ => rfl)
    · rw [(h.1 c).2 z, (k.1 c).2 z]
  · rw [h.2 c, k.2 c]
theorem c_idle (d : Nat) {B T : LW} {σ : Sig} (a b : Int32) (hW : WI B T σ) (hM : MEM B σ) (h0 : σ 67 8 = 0) : ∃ σ' v, Ex (d + 4) 113 0 [.ref 0, .int a, .int b] [] G0 σ = some (some (.int v), G0, σ') ∧ idleOk B σ a b v ∧ Fr SCB [(67, 2), (67, 3)] σ σ' := by
  simp only [b113_0, c_isSlope, Option.bind_some, Option.toList_some, Option.toList_none, List.cons_append, List.nil_append, i01a, i01b, if_true, if_false, b113_4, bI_z, bI_o, bI_em, ite_not]
  by_cases h1 : -9 ≤ a ∧ a ≤ 9
  · simp only [h1, i10, i01, eq_self, if_true, if_false, true_and, false_and, and_true, and_false, not_true, not_false_iff, true_or, or_true, false_or, or_false, ne_eq, not_true_eq_false, not_false_eq_true, c_within, Option.bind_some, Option.toList_some, Option.toList_none, List.cons_append, List.nil_append, i01a, i01b, if_true, if_false, b113_13, bI_z, bI_o, bI_em, ite_not]
    by_cases h2 : 0 ≤ b ∧ b ≤ 1
    · obtain ⟨σ', e, f, _, _, hb⟩ := c_bearsW d 0 (Wq_r (σ := σ)) hW (bw_of h1) hM (fun h => absurd h0 h)
      simp only [h2, i10, i01, eq_self, if_true, if_false, true_and, false_and, and_true, and_false, not_true, not_false_iff, true_or, or_true, false_or, or_false, ne_eq, not_true_eq_false, not_false_eq_true, e, Option.bind_some, Option.toList_some, Option.toList_none, List.cons_append, List.nil_append, i01a, i01b, if_true, if_false, b113_29, bI_z, bI_o, bI_em, ite_not]
      by_cases h3 : bearS B σ a 0
      · by_cases z : b = 0
        · obtain ⟨v, ev, hv⟩ := c_idleSet (d + 3) hW hb
          simp only [eq_true h3, eq_true z, i10, i01, eq_self, if_true, if_false, true_and, false_and, and_true, and_false, not_true, not_false_iff, true_or, or_true, false_or, or_false, ne_eq, not_true_eq_false, not_false_eq_true, ev, Option.bind_some, Option.toList_some, Option.toList_none, List.cons_append, List.nil_append, i01a, i01b, if_true, if_false, b113_45, b113_55]
          exact ⟨σ', v, rfl, ⟨fun _ => ⟨fun _ => hv, fun k => absurd z k⟩, fun k => absurd ⟨h1, h2, h3⟩ k⟩, f⟩
        · simp only [eq_true h3, eq_false z, i10, i01, eq_self, if_true, if_false, true_and, false_and, and_true, and_false, not_true, not_false_iff, true_or, or_true, false_or, or_false, ne_eq, not_true_eq_false, not_false_eq_true, c_spread (d + 2) hW hb h3, Option.bind_some, Option.toList_some, Option.toList_none, List.cons_append, List.nil_append, i01a, i01b, if_true, if_false, b113_55]
          exact ⟨σ', _, rfl, ⟨fun _ => ⟨fun k => absurd k z, fun _ => rfl⟩, fun k => absurd ⟨h1, h2, h3⟩ k⟩, f⟩
      · simp only [eq_false h3, i10, i01, eq_self, if_true, if_false, true_and, false_and, and_true, and_false, not_true, not_false_iff, true_or, or_true, false_or, or_false, ne_eq, not_true_eq_false, not_false_eq_true]
        exact ⟨σ', _, rfl, ⟨fun k => absurd k.2.2 h3, fun _ => rfl⟩, f⟩
    · simp only [h2, i10, i01, eq_self, if_true, if_false, true_and, false_and, and_true, and_false, not_true, not_false_iff, true_or, or_true, false_or, or_false, ne_eq, not_true_eq_false, not_false_eq_true]
      exact ⟨σ, _, rfl, ⟨fun k => absurd k.2.1 h2, fun _ => rfl⟩, Fr_r⟩
  · simp only [h1, i10, i01, eq_self, if_true, if_false, true_and, false_and, and_true, and_false, not_true, not_false_iff, true_or, or_true, false_or, or_false, ne_eq, not_true_eq_false, not_false_eq_true]
    exact ⟨σ, _, rfl, ⟨fun k => absurd k.1 h1, fun _ => rfl⟩, Fr_r⟩
theorem m_idle (d : Nat) {B T : LW} {ω σ : Sig} (a b : Int32) (hM : MR B T ω σ) (hW : WI B T ω) : ∃ σ' v, Ex (d + 6) 236 0 [.ref 112, .int a, .int b, .null, .null] [] G0 σ = some (some (.int v), G0, σ') ∧ idleOk B ω a b v ∧ Fr SCM [(112, 0), (112, 49)] σ σ' := by
  have f0 : Fr SCM [(112, 0), (112, 49)] σ (pt σ 112 0 0) := Fr_p Fr_r (Or.inr (by simp))
  have hM0 : MR B T ω (pt σ 112 0 0) := MR_S hM f0 (by decide) (by simp)
  simp only [b236_0, m_isSlope, Option.bind_some, Option.toList_some, Option.toList_none, List.cons_append, List.nil_append, i01a, i01b, if_true, if_false, b236_10, bI_z, bI_o, bI_em, ite_not]
  by_cases h1 : -9 ≤ a ∧ a ≤ 9
  · simp only [h1, i10, i01, eq_self, if_true, if_false, true_and, false_and, and_true, and_false, not_true, not_false_iff, true_or, or_true, false_or, or_false, ne_eq, not_true_eq_false, not_false_eq_true, m_isIn, Option.bind_some, Option.toList_some, Option.toList_none, List.cons_append, List.nil_append, i01a, i01b, if_true, if_false, b236_20, bI_z, bI_o, bI_em, ite_not]
    by_cases h2 : 0 ≤ b ∧ b ≤ 1
    · obtain ⟨σ1, e, f, hM1, hl, _⟩ := m_bears d hM0 hW (bw_of h1) 0
      have f1 : Fr SCM [(112, 0), (112, 49)] σ σ1 := Fr_t f0 (Fr_m f (by simp) (by simp))
      simp only [h2, i10, i01, eq_self, if_true, if_false, true_and, false_and, and_true, and_false, not_true, not_false_iff, true_or, or_true, false_or, or_false, ne_eq, not_true_eq_false, not_false_eq_true, e, Option.bind_some, Option.toList_some, Option.toList_none, List.cons_append, List.nil_append, i01a, i01b, if_true, if_false, b236_29, bI_z, bI_o, bI_em, ite_not]
      by_cases h3 : bearS B ω a 0
      · simp only [eq_true h3, i10, i01, eq_self, if_true, if_false, true_and, false_and, and_true, and_false, not_true, not_false_iff, true_or, or_true, false_or, or_false, ne_eq, not_true_eq_false, not_false_eq_true]
        obtain ⟨v, e2, i2⟩ := loop_ex (fun p (x : Int32) => Ex (d + 6) 236 39 [.ref 112, .int a, .int b, .int x, .int (nI p)] [] G0 σ1) (fun p x => isM x (fun q => decide (q < p) && idleB B ω a q)) 8 0 (M_ext M_0 (fun q _ => by simp)) (by
          intro p x hp i
          show ∃ a', Ex (d + 6) 236 39 [.ref 112, .int a, .int b, .int x, .int (nI p)] [] G0 σ1 = _ ∧ _
          rw [b236_39]
          simp only [n8 hp, i10, i01, eq_self, if_true, if_false, true_and, false_and, and_true, and_false, not_true, not_false_iff, true_or, or_true, false_or, or_false, ne_eq, not_true_eq_false, not_false_eq_true, m_holds (d + 2) hM1 hW 0 hp, Option.bind_some, Option.toList_some, Option.toList_none, List.cons_append, List.nil_append, i01a, i01b, if_true, if_false, b236_53, bI_z, bI_o, bI_em, ite_not, i8 hp, c8 hp, nI_s]
          have ext : idleB B ω a p = false → isM x (fun q => decide (q < p + 1) && idleB B ω a q) := fun k => M_ext i (fun q hq => by
            by_cases e : q = p
            · subst e; simp [k]
            · have : (q < p + 1) = (q < p) := propext (by omega)
              simp only [this])
          by_cases hh : hold ω 0 p
          · have hlb := load_bd hW (s := a) (g := 0) hp
            simp only [eq_true hh, i10, i01, eq_self, if_true, if_false, true_and, false_and, and_true, and_false, not_true, not_false_iff, true_or, or_true, false_or, or_false, ne_eq, not_true_eq_false, not_false_eq_true, hl p hp, nI_z (show loadS B ω a 0 p < 2 ^ 31 by omega)]
            by_cases z : loadS B ω a 0 p = 0
            · simp only [eq_true z, i10, i01, eq_self, if_true, if_false, true_and, false_and, and_true, and_false, not_true, not_false_iff, true_or, or_true, false_or, or_false, ne_eq, not_true_eq_false, not_false_eq_true]
              refine ⟨_, rfl, M_ext (M_add i hp) (fun q hq => ?_)⟩
              by_cases e : q = p
              · subst e; unfold idleB; simp [hh, z]
              · have : (q < p + 1) = (q < p) := propext (by omega)
                simp [this, e]
            · simp only [eq_false z, i10, i01, eq_self, if_true, if_false, true_and, false_and, and_true, and_false, not_true, not_false_iff, true_or, or_true, false_or, or_false, ne_eq, not_true_eq_false, not_false_eq_true]
              exact ⟨_, rfl, ext (decide_eq_false (fun h => z h.2))⟩
          · simp only [hh, i10, i01, eq_self, if_true, if_false, true_and, false_and, and_true, and_false, not_true, not_false_iff, true_or, or_true, false_or, or_false, ne_eq, not_true_eq_false, not_false_eq_true]
            exact ⟨_, rfl, ext (decide_eq_false (fun h => hh h.1))⟩)
        have i3 : isM v (idleB B ω a) := M_ext i2 (fun q hq => by simp [hq])
        rw [show Ex (d + 6) 236 39 [.ref 112, .int a, .int b, .int 0, .int 0] [] G0 σ1 = _ from e2, b236_39]
        by_cases z : b = 0
        · simp only [n88, eq_true z, i10, i01, eq_self, if_true, if_false, true_and, false_and, and_true, and_false, not_true, not_false_iff, true_or, or_true, false_or, or_false, ne_eq, not_true_eq_false, not_false_eq_true, b236_92]
          exact ⟨σ1, v, rfl, ⟨fun _ => ⟨fun _ => i3, fun k => absurd z k⟩, fun k => absurd ⟨h1, h2, h3⟩ k⟩, f1⟩
        · obtain ⟨w, ew, hw⟩ := m_spread (d + 1) hM1 hW hl
          simp only [n88, eq_false z, i10, i01, eq_self, if_true, if_false, true_and, false_and, and_true, and_false, not_true, not_false_iff, true_or, or_true, false_or, or_false, ne_eq, not_true_eq_false, not_false_eq_true, ew, Option.bind_some, Option.toList_some, Option.toList_none, List.cons_append, List.nil_append, i01a, i01b, if_true, if_false, b236_92]
          exact ⟨σ1, w, rfl, ⟨fun _ => ⟨fun k => absurd k z, fun _ => hw h3⟩, fun k => absurd ⟨h1, h2, h3⟩ k⟩, f1⟩
      · simp only [eq_false h3, i10, i01, eq_self, if_true, if_false, true_and, false_and, and_true, and_false, not_true, not_false_iff, true_or, or_true, false_or, or_false, ne_eq, not_true_eq_false, not_false_eq_true]
        exact ⟨σ1, _, rfl, ⟨fun k => absurd k.2.2 h3, fun _ => rfl⟩, f1⟩
    · simp only [h2, i10, i01, eq_self, if_true, if_false, true_and, false_and, and_true, and_false, not_true, not_false_iff, true_or, or_true, false_or, or_false, ne_eq, not_true_eq_false, not_false_eq_true]
      exact ⟨_, _, rfl, ⟨fun k => absurd k.2.1 h2, fun _ => rfl⟩, f0⟩
  · simp only [h1, i10, i01, eq_self, if_true, if_false, true_and, false_and, and_true, and_false, not_true, not_false_iff, true_or, or_true, false_or, or_false, ne_eq, not_true_eq_false, not_false_eq_true]
    exact ⟨_, _, rfl, ⟨fun k => absurd k.1 h1, fun _ => rfl⟩, f0⟩
/-- the pairs that may let go -/
def gateB (B : LW) (ω : Sig) (i : Nat) : Bool := decide (i < pr ω ∧ bearS B ω 0 ((3 : Int32) <<< ((2 * nI i) &&& 31)))
theorem gate_st {B : LW} {ω : Sig} {i : Nat} (hi : i < 8) (hp : i < pr ω) {a : Int32} (h : isM a (fun q => decide (q < i) && gateB B ω q)) : isM (if bearS B ω 0 ((3 : Int32) <<< ((2 * nI i) &&& 31)) then a ||| (1 <<< (nI i &&& 31)) else a) (fun q => decide (q < i + 1) && gateB B ω q) := by
  by_cases k : bearS B ω 0 ((3 : Int32) <<< ((2 * nI i) &&& 31))
  · rw [if_pos k]
    refine M_ext (M_add h hi) (fun q hq => ?_)
    by_cases e : q = i
    · subst e; unfold gateB; simp [k, hp]
    · have : (q < i + 1) = (q < i) := propext (by omega)
      simp [this, e]
  · rw [if_neg k]
    refine M_ext h (fun q hq => ?_)
    by_cases e : q = i
    · subst e; unfold gateB; simp [k]
    · have : (q < i + 1) = (q < i) := propext (by omega)
      simp only [this]
theorem gate_fin {B : LW} {ω : Sig} {a : Int32} (h : isM a (fun q => decide (q < pr ω) && gateB B ω q)) : isM a (gateB B ω) := M_ext h (fun q _ => by
  unfold gateB
  by_cases k : q < pr ω
  · simp [k]
  · simp [k])
theorem c_gates (d : Nat) {B T : LW} {σ : Sig} (hW : WI B T σ) (hM : MEM B σ) (h0 : σ 67 8 = 0) : ∃ σ' v, Ex (d + 4) 119 0 [.ref 0, .null, .null] [] G0 σ = some (some (.int v), G0, σ') ∧ isM v (gateB B σ) ∧ Fr SCB [(67, 2), (67, 3)] σ σ' := by
  obtain ⟨e8, l1, l2⟩ : wi B T σ 4 := hW 4
  rw [b119_0]
  obtain ⟨⟨σ1, v⟩, e, i⟩ := loop_ex (fun p (x : Sig × Int32) => Ex (d + 4) 119 4 [.ref 0, .int x.2, .int (nI p)] [] G0 (x.1)) (fun p x => Fr SCB [(67, 2), (67, 3)] σ x.1 ∧ isM x.2 (fun q => decide (q < p) && gateB B σ q)) (pr σ) (σ, 0) ⟨Fr_r, M_ext M_0 (fun q _ => by simp)⟩ (by
    intro p ⟨σ1, x⟩ hp ⟨i1, i2⟩
    dsimp only at i1 i2
    have hq : Wq σ σ1 := Wq_fr Wq_r i1 (by decide) (by decide)
    have r0 : σ1 67 8 = 0 := by rw [i1 67 8 (by decide) (by simp)]; exact h0
    obtain ⟨σ2, e2, f2, _, _, _⟩ := c_bearsW d ((3 : Int32) <<< ((2 * nI p) &&& 31)) hq hW bw0 (Or.inl r0) (fun h => absurd r0 h)
    show ∃ a', Ex (d + 4) 119 4 [.ref 0, .int x, .int (nI p)] [] G0 σ1 = _ ∧ _
    rw [b119_4]
    have q8 : (σ1 8 0 ≤ nI p) = False := by
      rw [hq 8 (by omega) (by omega) (by omega) (by omega), e8, nJ_le (by omega) (by omega)]; exact eq_false (by omega)
    simp only [q8, i10, i01, eq_self, if_true, if_false, true_and, false_and, and_true, and_false, not_true, not_false_iff, true_or, or_true, false_or, or_false, ne_eq, not_true_eq_false, not_false_eq_true, e2, Option.bind_some, Option.toList_some, Option.toList_none, List.cons_append, List.nil_append, i01a, i01b, if_true, if_false, b119_35, bI_z, bI_o, bI_em, ite_not, nI_s]
    have g := gate_st (B := B) (ω := σ) (i := p) (by omega) hp i2
    by_cases k : bearS B σ 0 ((3 : Int32) <<< ((2 * nI p) &&& 31))
    · rw [if_pos k] at g
      simp only [eq_true k, i10, i01, eq_self, if_true, if_false, true_and, false_and, and_true, and_false, not_true, not_false_iff, true_or, or_true, false_or, or_false, ne_eq, not_true_eq_false, not_false_eq_true]
      exact ⟨(σ2, _), rfl, Fr_t i1 f2, g⟩
    · rw [if_neg k] at g
      simp only [eq_false k, i10, i01, eq_self, if_true, if_false, true_and, false_and, and_true, and_false, not_true, not_false_iff, true_or, or_true, false_or, or_false, ne_eq, not_true_eq_false, not_false_eq_true]
      exact ⟨(σ2, _), rfl, Fr_t i1 f2, g⟩)
  obtain ⟨i1, i2⟩ := i
  dsimp only at i1 i2
  rw [show Ex (d + 4) 119 4 [.ref 0, .int 0, .int 0] [] G0 σ = _ from e]
  show ∃ σ' v', Ex (d + 4) 119 4 [.ref 0, .int v, .int (nI (pr σ))] [] G0 σ1 = _ ∧ _
  rw [b119_4]
  have q8 : (σ1 8 0 ≤ nI (pr σ)) = True := by
    rw [Fr_q i1 (show (8 : Nat) ∉ SCB by decide) (by simp), e8, nJ_le (by omega) (by omega)]; exact eq_true (Nat.le_refl _)
  simp only [q8, i10, i01, eq_self, if_true, if_false, true_and, false_and, and_true, and_false, not_true, not_false_iff, true_or, or_true, false_or, or_false, ne_eq, not_true_eq_false, not_false_eq_true]
  exact ⟨σ1, v, rfl, gate_fin i2, i1⟩
theorem m_gates (d : Nat) {B T : LW} {ω σ : Sig} (hM : MR B T ω σ) (hW : WI B T ω) : ∃ σ' v, Ex (d + 6) 253 0 [.ref 112, .null, .null] [] G0 σ = some (some (.int v), G0, σ') ∧ isM v (gateB B ω) ∧ Fr SCM [(112, 0), (112, 49)] σ σ' := by
  obtain ⟨e8, l1, l2⟩ : wi B T ω 4 := hW 4
  rw [b253_0]
  have f0 : Fr SCM [(112, 0), (112, 49)] σ (pt σ 112 0 0) := Fr_p Fr_r (Or.inr (by simp))
  have epr : ∀ σ1, MR B T ω σ1 → σ1 112 7 + 3 = nI (pr ω) := fun σ1 h => by
    have h1 : σ1 112 7 = ω 8 0 - 3 := h 1
    rw [h1, s3a, e8]
  obtain ⟨⟨σ1, v⟩, e, i⟩ := loop_ex (fun p (x : Sig × Int32) => Ex (d + 6) 253 9 [.ref 112, .int x.2, .int (nI p)] [] G0 (x.1)) (fun p x => Fr SCM [(112, 0), (112, 49)] σ x.1 ∧ isM x.2 (fun q => decide (q < p) && gateB B ω q)) (pr ω) (pt σ 112 0 0, 0) ⟨f0, M_ext M_0 (fun q _ => by simp)⟩ (by
    intro p ⟨σ1, x⟩ hp ⟨i1, i2⟩
    dsimp only at i1 i2
    have hM1 : MR B T ω σ1 := MR_S hM i1 (by decide) (by simp)
    obtain ⟨σ2, e2, f2, _, _, _⟩ := m_bears d hM1 hW bw0 ((3 : Int32) <<< ((2 * nI p) &&& 31))
    show ∃ a', Ex (d + 6) 253 9 [.ref 112, .int x, .int (nI p)] [] G0 σ1 = _ ∧ _
    rw [b253_9]
    have q8 : (nI (pr ω) ≤ nI p) = False := by rw [nJ_le (by omega) (by omega)]; exact eq_false (by omega)
    simp only [m_pairs, epr σ1 hM1, Option.bind_some, Option.toList_some, Option.toList_none, List.cons_append, List.nil_append, i01a, i01b, if_true, if_false, b253_14, q8, i10, i01, eq_self, if_true, if_false, true_and, false_and, and_true, and_false, not_true, not_false_iff, true_or, or_true, false_or, or_false, ne_eq, not_true_eq_false, not_false_eq_true, e2, b253_27, bI_z, bI_o, bI_em, ite_not, nI_s]
    have g := gate_st (B := B) (ω := ω) (i := p) (by omega) hp i2
    have f3 : Fr SCM [(112, 0), (112, 49)] σ σ2 := Fr_t i1 (Fr_m f2 (by simp) (by simp))
    by_cases k : bearS B ω 0 ((3 : Int32) <<< ((2 * nI p) &&& 31))
    · rw [if_pos k] at g
      simp only [eq_true k, i10, i01, eq_self, if_true, if_false, true_and, false_and, and_true, and_false, not_true, not_false_iff, true_or, or_true, false_or, or_false, ne_eq, not_true_eq_false, not_false_eq_true]
      exact ⟨(σ2, _), rfl, f3, g⟩
    · rw [if_neg k] at g
      simp only [eq_false k, i10, i01, eq_self, if_true, if_false, true_and, false_and, and_true, and_false, not_true, not_false_iff, true_or, or_true, false_or, or_false, ne_eq, not_true_eq_false, not_false_eq_true]
      exact ⟨(σ2, _), rfl, f3, g⟩)
  obtain ⟨i1, i2⟩ := i
  dsimp only at i1 i2
  have hM1 : MR B T ω σ1 := MR_S hM i1 (by decide) (by simp)
  rw [show Ex (d + 6) 253 9 [.ref 112, .int 0, .int 0] [] G0 (pt σ 112 0 0) = _ from e]
  show ∃ σ' v', Ex (d + 6) 253 9 [.ref 112, .int v, .int (nI (pr ω))] [] G0 σ1 = _ ∧ _
  rw [b253_9]
  have q8 : (nI (pr ω) ≤ nI (pr ω)) = True := by rw [nJ_le (by omega) (by omega)]; exact eq_true (Nat.le_refl _)
  simp only [m_pairs, epr σ1 hM1, Option.bind_some, Option.toList_some, Option.toList_none, List.cons_append, List.nil_append, i01a, i01b, if_true, if_false, b253_14, q8, i10, i01, eq_self, if_true, if_false, true_and, false_and, and_true, and_false, not_true, not_false_iff, true_or, or_true, false_or, or_false, ne_eq, not_true_eq_false, not_false_eq_true]
  exact ⟨σ1, v, rfl, gate_fin i2, i1⟩
