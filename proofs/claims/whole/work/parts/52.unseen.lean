/-! L3: unseen -/
theorem M_nand (a b : Nat) : nI a &&& nI b = nI (a &&& b) := by
  apply Int32.toBitVec_inj.mp
  apply BitVec.eq_of_getLsbD_eq
  intro i hi
  rw [Int32.toBitVec_and, BitVec.getLsbD_and, M_bit _ hi, M_bit _ hi, M_bit _ hi, Nat.testBit_and]
theorem M_and {x y : Int32} {h k : Nat → Bool} (hx : isM x h) (hy : isM y k) : isM (x &&& y) (fun p => h p && k p) := by
  obtain ⟨m, a, e, f⟩ := hx
  obtain ⟨n, b, e', f'⟩ := hy
  refine ⟨m &&& n, Nat.and_lt_two_pow (n := 8) m b, by rw [e, e', M_nand], fun p hp => ?_⟩
  rw [Nat.testBit_and, f p hp, f' p hp]
theorem M_eq {x y : Int32} {h k : Nat → Bool} (hx : isM x h) (hy : isM y k) : (x = y) = (∀ p, p < 8 → h p = k p) := by
  refine propext ⟨fun e p hp => ?_, fun e => M_inj hx hy e⟩
  have a := M_t1 hx hp
  have b := M_t1 hy hp
  rw [e, b] at a
  cases e1 : h p <;> cases e2 : k p <;> simp_all
theorem M_sub {x : Int32} {h : Nat → Bool} {p q : Nat} (hx : isM x h) (hp : p < 8) (hq : q < 8) : (x &&& ((1 <<< (nI p &&& 31)) ||| (1 <<< (nI q &&& 31))) = ((1 <<< (nI p &&& 31)) ||| (1 <<< (nI q &&& 31)))) = (h p = true ∧ h q = true) := by
  have hc := M_or (M_1 hp) (M_1 hq)
  rw [M_eq (M_and hx hc) hc]
  refine propext ⟨fun e => ?_, fun e r hr => ?_⟩
  · have e1 := e p hp
    have e2 := e q hq
    simp at e1 e2
    exact ⟨e1, e2⟩
  · by_cases a : r = p
    · subst a; simp [e.1]
    · by_cases b : r = q
      · subst b; simp [e.2]
      · simp [a, b]
theorem hold0 {ω : Sig} {p : Nat} : hold ω 0 p ↔ p < np ω ∧ ω 9 p ≠ -1 := by
  unfold hold
  rw [Int32.zero_shiftRight]
  have : (0 : Int32) &&& 1 = 0 := by decide
  simp [this]
theorem c_heldSet (d : Nat) {B T : LW} {σ : Sig} (hW : WI B T σ) : ∃ v, Ex d 36 0 [.ref 8, .null, .null] [] G0 σ = some (some (.int v), G0, σ) ∧ isM v (fun p => decide (hold σ 0 p)) := by
  obtain ⟨_, n8', en⟩ := WI_np hW
  rw [b36_0]
  obtain ⟨v, e, i⟩ := loop_ex (fun p (x : Int32) => Ex d 36 4 [.ref 8, .int x, .int (nI p)] [] G0 σ) (fun p x => isM x (fun q => decide (q < p) && decide (hold σ 0 q))) (np σ) 0 (M_ext M_0 (fun q _ => by simp)) (by
    intro p x hp i
    have hp8 : p < 8 := by omega
    have q8 : (nI (np σ) ≤ nI p) = False := by rw [nJ_le (by omega) (by omega)]; exact eq_false (by omega)
    show ∃ a', Ex d 36 4 [.ref 8, .int x, .int (nI p)] [] G0 σ = _ ∧ _
    rw [b36_4]
    simp only [en, q8, i10, i01, eq_self, if_true, if_false, true_and, false_and, and_true, and_false, not_true, not_false_iff, true_or, or_true, false_or, or_false, ne_eq, not_true_eq_false, not_false_eq_true, b36_14, i8 hp8, c8 hp8, nI_s]
    by_cases k : σ 9 p = -1
    · simp only [k, i10, i01, eq_self, if_true, if_false, true_and, false_and, and_true, and_false, not_true, not_false_iff, true_or, or_true, false_or, or_false, ne_eq, not_true_eq_false, not_false_eq_true]
      refine ⟨_, rfl, M_ext i (fun q hq => ?_)⟩
      by_cases e : q = p
      · subst e
        have : ¬ hold σ 0 q := fun h => h.2.1 k
        simp [this]
      · have : (q < p + 1) = (q < p) := propext (by omega)
        simp only [this]
    · simp only [k, i10, i01, eq_self, if_true, if_false, true_and, false_and, and_true, and_false, not_true, not_false_iff, true_or, or_true, false_or, or_false, ne_eq, not_true_eq_false, not_false_eq_true]
      refine ⟨_, rfl, M_ext (M_add i hp8) (fun q hq => ?_)⟩
      by_cases e : q = p
      · subst e
        have : hold σ 0 q := hold0.mpr ⟨hp, k⟩
        simp [this]
      · have : (q < p + 1) = (q < p) := propext (by omega)
        simp [this, e])
  rw [show Ex d 36 4 [.ref 8, .int 0, .int 0] [] G0 σ = _ from e]
  show ∃ v', Ex d 36 4 [.ref 8, .int v, .int (nI (np σ))] [] G0 σ = _ ∧ _
  rw [b36_4]
  have q8 : (nI (np σ) ≤ nI (np σ)) = True := by rw [nJ_le (by omega) (by omega)]; exact eq_true (Nat.le_refl _)
  simp only [en, q8, i10, i01, eq_self, if_true, if_false, true_and, false_and, and_true, and_false, not_true, not_false_iff, true_or, or_true, false_or, or_false, ne_eq, not_true_eq_false, not_false_eq_true, b36_36]
  refine ⟨v, rfl, M_ext i (fun q hq => ?_)⟩
  by_cases k : q < np σ
  · simp [k]
  · have : ¬ hold σ 0 q := fun h => k h.1
    simp [this]
abbrev cpl (p q : Nat) : Int32 := ((1 : Int32) <<< (nI p &&& 31)) ||| (1 <<< (nI q &&& 31))
abbrev unP (B : LW) (ω : Sig) (p q : Nat) : Prop := ω 9 p ≠ -1 ∧ ω 9 q ≠ -1 ∧ bearS B ω 0 (cpl p q)
def un0 (B : LW) (ω : Sig) (p q : Nat) (st : Nat × Nat) : Nat × Nat := if unP B ω p q then (st.1 + 1, if st.1 = 0 then 8 * p + q else st.2) else st
def un1 (B : LW) (ω : Sig) (p k : Nat) (st : Nat × Nat) : Nat × Nat := fo (fun j st => un0 B ω p (p + 1 + j) st) k st
def un2 (B : LW) (ω : Sig) (n : Nat) : Nat × Nat := fo (fun p st => un1 B ω p (np ω - (p + 1)) st) n (0, 0)
def unA (B : LW) (ω : Sig) (a : Int32) : Int32 := if 0 ≤ a ∧ a ≤ 2 then (if a = 0 then nI (un2 B ω (np ω)).1 else if (un2 B ω (np ω)).1 = 0 then -1 else if a = 1 then nI ((un2 B ω (np ω)).2 / 8) else nI ((un2 B ω (np ω)).2 % 8)) else -1
theorem un0_b {B : LW} {ω : Sig} {p q : Nat} {st : Nat × Nat} (hp : p < 8) (hq : q < 8) (h : st.2 < 64) : (un0 B ω p q st).2 < 64 ∧ (un0 B ω p q st).1 ≤ st.1 + 1 := by
  unfold un0
  split
  · dsimp only; split <;> omega
  · omega
theorem un1_b {B : LW} {ω : Sig} {p : Nat} {st : Nat × Nat} (hp : p < 8) (h : st.2 < 64) : ∀ k, p + 1 + k ≤ 8 → (un1 B ω p k st).2 < 64 ∧ (un1 B ω p k st).1 ≤ st.1 + k := by
  intro k
  induction k with
  | zero => intro _; exact ⟨h, Nat.le_refl _⟩
  | succ k ih =>
    intro hk
    have a := ih (by omega)
    have b := un0_b (B := B) (ω := ω) (p := p) (q := p + 1 + k) hp (by omega) a.1
    have e : un1 B ω p (k + 1) st = un0 B ω p (p + 1 + k) (un1 B ω p k st) := rfl
    rw [e]
    exact ⟨b.1, by omega⟩
theorem un2_b {B : LW} {ω : Sig} (h8 : np ω ≤ 8) : ∀ n, n ≤ np ω → (un2 B ω n).2 < 64 ∧ (un2 B ω n).1 ≤ 8 * n := by
  intro n
  induction n with
  | zero => intro _; exact ⟨by show (0 : Nat) < 64; omega, Nat.le_refl _⟩
  | succ n ih =>
    intro hn
    have a := ih (by omega)
    have b := un1_b (B := B) (ω := ω) (p := n) (by omega) a.1 (np ω - (n + 1)) (by omega)
    have e : un2 B ω (n + 1) = un1 B ω n (np ω - (n + 1)) (un2 B ω n) := rfl
    rw [e]
    exact ⟨b.1, by omega⟩
def clA (st : Nat × Nat) : Int32 := if st.1 = 0 then -1 else nI (st.2 / 8)
def clB (st : Nat × Nat) : Int32 := if st.1 = 0 then -1 else nI (st.2 % 8)
def moF (st : Nat × Nat) : Int32 := if st.1 = 0 then -1 else nI st.2
theorem c_unseen (d : Nat) {B T : LW} {σ : Sig} (a : Int32) (hW : WI B T σ) (hM : MEM B σ) (h0 : σ 67 8 = 0) : ∃ σ', Ex (d + 4) 126 0 [.ref 0, .int a, .null, .null, .null, .null, .null, .null, .null, .null] [] G0 σ = some (some (.int (unA B σ a)), G0, σ') ∧ Fr SCB [(67, 2), (67, 3)] σ σ' := by
  obtain ⟨_, n8', en⟩ := WI_np hW
  simp only [b126_0, c_within, Option.bind_some, Option.toList_some, Option.toList_none, List.cons_append, List.nil_append, i01a, i01b, if_true, if_false, b126_6, bI_z, bI_o, bI_em, ite_not]
  unfold unA
  by_cases h1 : 0 ≤ a ∧ a ≤ 2
  · obtain ⟨hm, em, im⟩ := c_heldSet (d + 3) hW
    simp only [h1, i10, i01, eq_self, if_true, if_false, true_and, false_and, and_true, and_false, not_true, not_false_iff, true_or, or_true, false_or, or_false, ne_eq, not_true_eq_false, not_false_eq_true, c_count, Option.bind_some, Option.toList_some, Option.toList_none, List.cons_append, List.nil_append, i01a, i01b, if_true, if_false, b126_28, em, b126_40, en]
    have q8 : ∀ p, p < np σ → (nI (np σ) ≤ nI p) = False := fun p hp => by rw [nJ_le (by omega) (by omega)]; exact eq_false (by omega)
    have q8' : (nI (np σ) ≤ nI (np σ)) = True := by rw [nJ_le (by omega) (by omega)]; exact eq_true (Nat.le_refl _)
    obtain ⟨⟨σ1, v8, v9⟩, e, i⟩ := loop_ex (fun p (x : Sig × Value × Value) => Ex (d + 4) 126 45 [.ref 0, .int a, .int (nI (un2 B σ p).1), .int (clA (un2 B σ p)), .int (clB (un2 B σ p)), .int (nI (np σ)), .int hm, .int (nI p), x.2.1, x.2.2] [] G0 (x.1)) (fun p x => Fr SCB [(67, 2), (67, 3)] σ x.1) (np σ) (σ, .null, .null) Fr_r (by
      intro p ⟨σ1, v8, v9⟩ hp i1
      dsimp only at i1
      have hb2 := un2_b (B := B) n8' p (by omega)
      show ∃ a', Ex (d + 4) 126 45 [.ref 0, .int a, .int (nI (un2 B σ p).1), .int (clA (un2 B σ p)), .int (clB (un2 B σ p)), .int (nI (np σ)), .int hm, .int (nI p), v8, v9] [] G0 σ1 = _ ∧ _
      rw [b126_45]
      simp only [q8 p hp, i10, i01, eq_self, if_true, if_false, true_and, false_and, and_true, and_false, not_true, not_false_iff, true_or, or_true, false_or, or_false, ne_eq, not_true_eq_false, not_false_eq_true, nI_s]
      generalize hst : un2 B σ p = st at hb2
      obtain ⟨⟨σ2, w9⟩, e2, i2⟩ := loop_ex (fun k (x : Sig × Value) => Ex (d + 4) 126 58 [.ref 0, .int a, .int (nI (un1 B σ p k st).1), .int (clA (un1 B σ p k st)), .int (clB (un1 B σ p k st)), .int (nI (np σ)), .int hm, .int (nI p), .int (nI (p + 1 + k)), x.2] [] G0 (x.1)) (fun k x => Fr SCB [(67, 2), (67, 3)] σ x.1) (np σ - (p + 1)) (σ1, v9) i1 (by
        intro k ⟨σ2, w9⟩ hk j1
        dsimp only at j1
        have hq : Wq σ σ2 := Wq_fr Wq_r j1 (by decide) (by decide)
        have r0 : σ2 67 8 = 0 := by rw [j1 67 8 (by decide) (by simp)]; exact h0
        have hb1 := un1_b (B := B) (ω := σ) (p := p) (by omega) hb2.1 k (by omega)
        obtain ⟨σ3, e3, f3, _, _, _⟩ := c_bearsW d (cpl p (p + 1 + k)) hq hW bw0 (Or.inl r0) (fun h => absurd r0 h)
        show ∃ a', Ex (d + 4) 126 58 [.ref 0, .int a, .int (nI (un1 B σ p k st).1), .int (clA (un1 B σ p k st)), .int (clB (un1 B σ p k st)), .int (nI (np σ)), .int hm, .int (nI p), .int (nI (p + 1 + k)), w9] [] G0 σ2 = _ ∧ _
        rw [b126_58]
        have es : un1 B σ p (k + 1) st = un0 B σ p (p + 1 + k) (un1 B σ p k st) := rfl
        rw [es]
        generalize un1 B σ p k st = tt at hb1
        simp only [q8 (p + 1 + k) (by omega), i10, i01, eq_self, if_true, if_false, true_and, false_and, and_true, and_false, not_true, not_false_iff, true_or, or_true, false_or, or_false, ne_eq, not_true_eq_false, not_false_eq_true, b126_76, M_sub im (show p < 8 by omega) (show p + 1 + k < 8 by omega), decide_eq_true_eq, nI_s]
        by_cases hh : hold σ 0 p ∧ hold σ 0 (p + 1 + k)
        · have h1' := (hold0.mp hh.1).2
          have h2' := (hold0.mp hh.2).2
          simp only [eq_true hh, i10, i01, eq_self, if_true, if_false, true_and, false_and, and_true, and_false, not_true, not_false_iff, true_or, or_true, false_or, or_false, ne_eq, not_true_eq_false, not_false_eq_true, e3, Option.bind_some, Option.toList_some, Option.toList_none, List.cons_append, List.nil_append, i01a, i01b, if_true, if_false, b126_100, bI_z, bI_o, bI_em, ite_not, nI_s, nI_z (show tt.1 < 2 ^ 31 by omega)]
          by_cases hb : bearS B σ 0 (cpl p (p + 1 + k))
          · have hun : un0 B σ p (p + 1 + k) tt = (tt.1 + 1, if tt.1 = 0 then 8 * p + (p + 1 + k) else tt.2) := by unfold un0; rw [if_pos ⟨h1', h2', hb⟩]
            rw [hun]
            simp only [eq_true hb, i10, i01, eq_self, if_true, if_false, true_and, false_and, and_true, and_false, not_true, not_false_iff, true_or, or_true, false_or, or_false, ne_eq, not_true_eq_false, not_false_eq_true]
            by_cases z : tt.1 = 0
            · have ca : clA (tt.1 + 1, 8 * p + (p + 1 + k)) = nI p := by
                unfold clA; dsimp only; rw [if_neg (by omega), show (8 * p + (p + 1 + k)) / 8 = p by omega]
              have cb : clB (tt.1 + 1, 8 * p + (p + 1 + k)) = nI (p + 1 + k) := by
                unfold clB; dsimp only; rw [if_neg (by omega), show (8 * p + (p + 1 + k)) % 8 = p + 1 + k by omega]
              simp only [eq_true z, i10, i01, eq_self, if_true, if_false, true_and, false_and, and_true, and_false, not_true, not_false_iff, true_or, or_true, false_or, or_false, ne_eq, not_true_eq_false, not_false_eq_true, ca, cb]
              exact ⟨(σ3, _), rfl, Fr_t j1 f3⟩
            · have ca : clA (tt.1 + 1, tt.2) = clA tt := by
                unfold clA; dsimp only; rw [if_neg (by omega), if_neg z]
              have cb : clB (tt.1 + 1, tt.2) = clB tt := by
                unfold clB; dsimp only; rw [if_neg (by omega), if_neg z]
              simp only [eq_false z, i10, i01, eq_self, if_true, if_false, true_and, false_and, and_true, and_false, not_true, not_false_iff, true_or, or_true, false_or, or_false, ne_eq, not_true_eq_false, not_false_eq_true, ca, cb]
              exact ⟨(σ3, _), rfl, Fr_t j1 f3⟩
          · have hun : un0 B σ p (p + 1 + k) tt = tt := by unfold un0; rw [if_neg (fun h => hb h.2.2)]
            rw [hun]
            simp only [eq_false hb, i10, i01, eq_self, if_true, if_false, true_and, false_and, and_true, and_false, not_true, not_false_iff, true_or, or_true, false_or, or_false, ne_eq, not_true_eq_false, not_false_eq_true]
            exact ⟨(σ3, _), rfl, Fr_t j1 f3⟩
        · have hun : un0 B σ p (p + 1 + k) tt = tt := by
            unfold un0
            rw [if_neg (fun h => hh ⟨hold0.mpr ⟨by omega, h.1⟩, hold0.mpr ⟨by omega, h.2.1⟩⟩)]
          rw [hun]
          simp only [eq_false hh, i10, i01, eq_self, if_true, if_false, true_and, false_and, and_true, and_false, not_true, not_false_iff, true_or, or_true, false_or, or_false, ne_eq, not_true_eq_false, not_false_eq_true]
          exact ⟨(σ2, _), rfl, j1⟩)
      dsimp only at i2
      refine ⟨(σ2, .int (nI (np σ)), w9), ?_, i2⟩
      refine (e2 : Ex (d + 4) 126 58 [.ref 0, .int a, .int (nI st.1), .int (clA st), .int (clB st), .int (nI (np σ)), .int hm, .int (nI p), .int (nI (p + 1)), v9] [] G0 σ1 = _).trans ?_
      show Ex (d + 4) 126 58 [.ref 0, .int a, .int (nI (un1 B σ p (np σ - (p + 1)) st).1), .int (clA (un1 B σ p (np σ - (p + 1)) st)), .int (clB (un1 B σ p (np σ - (p + 1)) st)), .int (nI (np σ)), .int hm, .int (nI p), .int (nI (p + 1 + (np σ - (p + 1)))), w9] [] G0 σ2 = _
      have es : un2 B σ (p + 1) = un1 B σ p (np σ - (p + 1)) st := by rw [← hst]; rfl
      rw [b126_58, show p + 1 + (np σ - (p + 1)) = np σ by omega, es]
      simp only [q8', i10, i01, eq_self, if_true, if_false, true_and, false_and, and_true, and_false, not_true, not_false_iff, true_or, or_true, false_or, or_false, ne_eq, not_true_eq_false, not_false_eq_true, nI_s])
    dsimp only at i
    rw [show Ex (d + 4) 126 45 [.ref 0, .int a, .int 0, .int (-1), .int (-1), .int (nI (np σ)), .int hm, .int 0, .null, .null] [] G0 σ = _ from e]
    show ∃ σ', Ex (d + 4) 126 45 [.ref 0, .int a, .int (nI (un2 B σ (np σ)).1), .int (clA (un2 B σ (np σ))), .int (clB (un2 B σ (np σ))), .int (nI (np σ)), .int hm, .int (nI (np σ)), v8, v9] [] G0 σ1 = _ ∧ _
    rw [b126_45]
    refine ⟨σ1, ?_, i⟩
    unfold clA clB
    simp only [q8', i10, i01, eq_self, if_true, if_false, true_and, false_and, and_true, and_false, not_true, not_false_iff, true_or, or_true, false_or, or_false, ne_eq, not_true_eq_false, not_false_eq_true]
    by_cases z : a = 0
    · simp only [eq_true z, i10, i01, eq_self, if_true, if_false, true_and, false_and, and_true, and_false, not_true, not_false_iff, true_or, or_true, false_or, or_false, ne_eq, not_true_eq_false, not_false_eq_true]
    · by_cases z1 : a = 1
      · subst z1
        by_cases y : (un2 B σ (np σ)).1 = 0 <;> simp [y]
      · by_cases y : (un2 B σ (np σ)).1 = 0 <;> simp [y, z, z1]
  · simp only [h1, i10, i01, eq_self, if_true, if_false, true_and, false_and, and_true, and_false, not_true, not_false_iff, true_or, or_true, false_or, or_false, ne_eq, not_true_eq_false, not_false_eq_true]
    exact ⟨σ, rfl, Fr_r⟩
theorem m_unseen (d : Nat) {B T : LW} {ω σ : Sig} (a : Int32) (hM : MR B T ω σ) (hW : WI B T ω) : ∃ σ', Ex (d + 6) 262 0 [.ref 112, .int a, .null, .null, .null, .null] [] G0 σ = some (some (.int (unA B ω a)), G0, σ') ∧ Fr SCM [(112, 0), (112, 49)] σ σ' := by
  obtain ⟨_, n8', en⟩ := WI_np hW
  have f0 : Fr SCM [(112, 0), (112, 49)] σ (pt σ 112 0 0) := Fr_p Fr_r (Or.inr (by simp))
  simp only [b262_0, m_isIn, Option.bind_some, Option.toList_some, Option.toList_none, List.cons_append, List.nil_append, i01a, i01b, if_true, if_false, b262_12, bI_z, bI_o, bI_em, ite_not]
  unfold unA
  by_cases h1 : 0 ≤ a ∧ a ≤ 2
  · simp only [h1, i10, i01, eq_self, if_true, if_false, true_and, false_and, and_true, and_false, not_true, not_false_iff, true_or, or_true, false_or, or_false, ne_eq, not_true_eq_false, not_false_eq_true]
    have q8 : ∀ p, p < np ω → (nI (np ω) ≤ nI p) = False := fun p hp => by rw [nJ_le (by omega) (by omega)]; exact eq_false (by omega)
    have q8' : (nI (np ω) ≤ nI (np ω)) = True := by rw [nJ_le (by omega) (by omega)]; exact eq_true (Nat.le_refl _)
    obtain ⟨⟨σ1, v5⟩, e, i⟩ := loop_ex (fun p (x : Sig × Value) => Ex (d + 6) 262 24 [.ref 112, .int a, .int (nI (un2 B ω p).1), .int (moF (un2 B ω p)), .int (nI p), x.2] [] G0 (x.1)) (fun p x => Fr SCM [(112, 0), (112, 49)] σ x.1) (np ω) (pt σ 112 0 0, .null) f0 (by
      intro p ⟨σ1, v5⟩ hp i1
      dsimp only at i1
      have hM1 : MR B T ω σ1 := MR_S hM i1 (by decide) (by simp)
      have hb2 := un2_b (B := B) n8' p (by omega)
      show ∃ a', Ex (d + 6) 262 24 [.ref 112, .int a, .int (nI (un2 B ω p).1), .int (moF (un2 B ω p)), .int (nI p), v5] [] G0 σ1 = _ ∧ _
      rw [b262_24]
      simp only [m_places, m_pl hM1 hW, Option.bind_some, Option.toList_some, Option.toList_none, List.cons_append, List.nil_append, i01a, i01b, if_true, if_false, b262_30, q8 p hp, i10, i01, eq_self, if_true, if_false, true_and, false_and, and_true, and_false, not_true, not_false_iff, true_or, or_true, false_or, or_false, ne_eq, not_true_eq_false, not_false_eq_true, nI_s]
      generalize hst : un2 B ω p = st at hb2
      obtain ⟨σ2, e2, i2⟩ := loop_ex (fun k (x : Sig) => Ex (d + 6) 262 39 [.ref 112, .int a, .int (nI (un1 B ω p k st).1), .int (moF (un1 B ω p k st)), .int (nI p), .int (nI (p + 1 + k))] [] G0 x) (fun k x => Fr SCM [(112, 0), (112, 49)] σ x) (np ω - (p + 1)) σ1 i1 (by
        intro k σ2 hk j1
        have hM2 : MR B T ω σ2 := MR_S hM j1 (by decide) (by simp)
        have hb1 := un1_b (B := B) (ω := ω) (p := p) (by omega) hb2.1 k (by omega)
        obtain ⟨σ3, e3, f3, _, _, _⟩ := m_bears d hM2 hW bw0 (cpl p (p + 1 + k))
        have f4 : Fr SCM [(112, 0), (112, 49)] σ σ3 := Fr_t j1 (Fr_m f3 (by simp) (by simp))
        show ∃ a', Ex (d + 6) 262 39 [.ref 112, .int a, .int (nI (un1 B ω p k st).1), .int (moF (un1 B ω p k st)), .int (nI p), .int (nI (p + 1 + k))] [] G0 σ2 = _ ∧ _
        rw [b262_39]
        have es : un1 B ω p (k + 1) st = un0 B ω p (p + 1 + k) (un1 B ω p k st) := rfl
        rw [es]
        generalize un1 B ω p k st = tt at hb1
        simp only [m_places, m_pl hM2 hW, Option.bind_some, Option.toList_some, Option.toList_none, List.cons_append, List.nil_append, i01a, i01b, if_true, if_false, b262_45, q8 (p + 1 + k) (by omega), i10, i01, eq_self, if_true, if_false, true_and, false_and, and_true, and_false, not_true, not_false_iff, true_or, or_true, false_or, or_false, ne_eq, not_true_eq_false, not_false_eq_true, (fun d => m_who d hM2 (show p < 8 by omega)), (fun d => m_who d hM2 (show p + 1 + k < 8 by omega)), b262_54, nI_s]
        by_cases w1 : ω 9 p = -1
        · have hun : un0 B ω p (p + 1 + k) tt = tt := by unfold un0; rw [if_neg (fun h => h.1 w1)]
          rw [hun]
          simp only [eq_true w1, i10, i01, eq_self, if_true, if_false, true_and, false_and, and_true, and_false, not_true, not_false_iff, true_or, or_true, false_or, or_false, ne_eq, not_true_eq_false, not_false_eq_true]
          exact ⟨σ2, rfl, j1⟩
        · simp only [eq_false w1, i10, i01, eq_self, if_true, if_false, true_and, false_and, and_true, and_false, not_true, not_false_iff, true_or, or_true, false_or, or_false, ne_eq, not_true_eq_false, not_false_eq_true, b262_64, nI_s]
          by_cases w2 : ω 9 (p + 1 + k) = -1
          · have hun : un0 B ω p (p + 1 + k) tt = tt := by unfold un0; rw [if_neg (fun h => h.2.1 w2)]
            rw [hun]
            simp only [eq_true w2, i10, i01, eq_self, if_true, if_false, true_and, false_and, and_true, and_false, not_true, not_false_iff, true_or, or_true, false_or, or_false, ne_eq, not_true_eq_false, not_false_eq_true]
            exact ⟨σ2, rfl, j1⟩
          · simp only [eq_false w2, i10, i01, eq_self, if_true, if_false, true_and, false_and, and_true, and_false, not_true, not_false_iff, true_or, or_true, false_or, or_false, ne_eq, not_true_eq_false, not_false_eq_true, e3, Option.bind_some, Option.toList_some, Option.toList_none, List.cons_append, List.nil_append, i01a, i01b, if_true, if_false, b262_82, bI_z, bI_o, bI_em, ite_not, nI_s, nI_z (show tt.1 < 2 ^ 31 by omega)]
            by_cases hb : bearS B ω 0 (cpl p (p + 1 + k))
            · have hun : un0 B ω p (p + 1 + k) tt = (tt.1 + 1, if tt.1 = 0 then 8 * p + (p + 1 + k) else tt.2) := by unfold un0; rw [if_pos ⟨w1, w2, hb⟩]
              rw [hun]
              simp only [eq_true hb, i10, i01, eq_self, if_true, if_false, true_and, false_and, and_true, and_false, not_true, not_false_iff, true_or, or_true, false_or, or_false, ne_eq, not_true_eq_false, not_false_eq_true]
              by_cases z : tt.1 = 0
              · have ca : moF (tt.1 + 1, 8 * p + (p + 1 + k)) = 8 * nI p + nI (p + 1 + k) := by
                  unfold moF; dsimp only; rw [if_neg (by omega)]
                  have : (8 : Int32) * nI p = nI (8 * p) := nI_mul' 8 p
                  rw [this, nI_add]
                simp only [eq_true z, i10, i01, eq_self, if_true, if_false, true_and, false_and, and_true, and_false, not_true, not_false_iff, true_or, or_true, false_or, or_false, ne_eq, not_true_eq_false, not_false_eq_true, ca]
                exact ⟨σ3, rfl, f4⟩
              · have ca : moF (tt.1 + 1, tt.2) = moF tt := by
                  unfold moF; dsimp only; rw [if_neg (by omega), if_neg z]
                simp only [eq_false z, i10, i01, eq_self, if_true, if_false, true_and, false_and, and_true, and_false, not_true, not_false_iff, true_or, or_true, false_or, or_false, ne_eq, not_true_eq_false, not_false_eq_true, ca]
                exact ⟨σ3, rfl, f4⟩
            · have hun : un0 B ω p (p + 1 + k) tt = tt := by unfold un0; rw [if_neg (fun h => hb h.2.2)]
              rw [hun]
              simp only [eq_false hb, i10, i01, eq_self, if_true, if_false, true_and, false_and, and_true, and_false, not_true, not_false_iff, true_or, or_true, false_or, or_false, ne_eq, not_true_eq_false, not_false_eq_true]
              exact ⟨σ3, rfl, f4⟩)
      have hM2 : MR B T ω σ2 := MR_S hM i2 (by decide) (by simp)
      refine ⟨(σ2, .int (nI (np ω))), ?_, i2⟩
      refine (e2 : Ex (d + 6) 262 39 [.ref 112, .int a, .int (nI st.1), .int (moF st), .int (nI p), .int (nI (p + 1))] [] G0 σ1 = _).trans ?_
      show Ex (d + 6) 262 39 [.ref 112, .int a, .int (nI (un1 B ω p (np ω - (p + 1)) st).1), .int (moF (un1 B ω p (np ω - (p + 1)) st)), .int (nI p), .int (nI (p + 1 + (np ω - (p + 1))))] [] G0 σ2 = _
      have es : un2 B ω (p + 1) = un1 B ω p (np ω - (p + 1)) st := by rw [← hst]; rfl
      rw [b262_39, show p + 1 + (np ω - (p + 1)) = np ω by omega, es]
      simp only [m_places, m_pl hM2 hW, Option.bind_some, Option.toList_some, Option.toList_none, List.cons_append, List.nil_append, i01a, i01b, if_true, if_false, b262_45, q8', i10, i01, eq_self, if_true, if_false, true_and, false_and, and_true, and_false, not_true, not_false_iff, true_or, or_true, false_or, or_false, ne_eq, not_true_eq_false, not_false_eq_true, nI_s])
    dsimp only at i
    have hM1 : MR B T ω σ1 := MR_S hM i (by decide) (by simp)
    have hb2 := un2_b (B := B) n8' (np ω) (Nat.le_refl _)
    rw [show Ex (d + 6) 262 24 [.ref 112, .int a, .int 0, .int (-1), .int 0, .null] [] G0 (pt σ 112 0 0) = _ from e]
    show ∃ σ', Ex (d + 6) 262 24 [.ref 112, .int a, .int (nI (un2 B ω (np ω)).1), .int (moF (un2 B ω (np ω))), .int (nI (np ω)), v5] [] G0 σ1 = _ ∧ _
    rw [b262_24]
    refine ⟨σ1, ?_, i⟩
    simp only [m_places, m_pl hM1 hW, Option.bind_some, Option.toList_some, Option.toList_none, List.cons_append, List.nil_append, i01a, i01b, if_true, if_false, b262_30, q8', i10, i01, eq_self, if_true, if_false, true_and, false_and, and_true, and_false, not_true, not_false_iff, true_or, or_true, false_or, or_false, ne_eq, not_true_eq_false, not_false_eq_true]
    generalize un2 B ω (np ω) = st at hb2
    have d8 : nI st.2 / 8 = nI (st.2 / 8) := nI_div (b := 8) (by omega) (by omega)
    have r8 : nI st.2 - nI st.2 / 8 * 8 = nI (st.2 % 8) := by
      have m8 : nI (st.2 / 8) * 8 = nI (st.2 / 8 * 8) := nI_mul' _ 8
      rw [d8, m8, nI_sub' (by omega)]; congr 1; omega
    have nm : ¬ nI st.2 = -1 := by
      intro e
      have := congrArg Int32.toInt e
      rw [nI_i (by omega)] at this
      have h2 : (-1 : Int32).toInt = -1 := rfl
      omega
    unfold moF
    by_cases z : a = 0
    · simp only [eq_true z, i10, i01, eq_self, if_true, if_false, true_and, false_and, and_true, and_false, not_true, not_false_iff, true_or, or_true, false_or, or_false, ne_eq, not_true_eq_false, not_false_eq_true]
    · by_cases y : st.1 = 0
      · by_cases z1 : a = 1 <;> simp [y, z, z1]
      · by_cases z1 : a = 1
        · subst z1; simp [y, nm, d8]
        · simp only [y, z, z1, nm, i10, i01, eq_self, if_true, if_false, true_and, false_and, and_true, and_false, not_true, not_false_iff, true_or, or_true, false_or, or_false, ne_eq, not_true_eq_false, not_false_eq_true, r8]
  · simp only [h1, i10, i01, eq_self, if_true, if_false, true_and, false_and, and_true, and_false, not_true, not_false_iff, true_or, or_true, false_or, or_false, ne_eq, not_true_eq_false, not_false_eq_true]
    exact ⟨_, rfl, f0⟩
