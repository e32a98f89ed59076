/-! L3: paces and undo, the model -/
def MU (B T : LW) (L : List Sig) (σ : Sig) : Prop := σ 112 3 = nI L.length ∧ ∀ j (h : j < L.length), ∃ ρ, MR B T L[j] ρ ∧ ∀ k, k < 31 → σ 114 (31 * j + k) = ρ 113 k
theorem MU_fr {B T : LW} {L : List Sig} {σ σ' : Sig} (h : MU B T L σ) (e : σ' 112 3 = σ 112 3) (e4 : σ' 114 = σ 114) : MU B T L σ' := by
  refine ⟨e.trans h.1, fun j hj => ?_⟩
  rw [e4]; exact h.2 j hj
theorem m_store (d : Nat) {n : Nat} {σ : Sig} (h3 : σ 112 3 = nI n) (hn : n ≤ 5) : ∃ σ', Ex d 146 55 [.ref 112, .int 0] [] G0 σ = some (none, G0, σ') ∧ Fr [114] [(112, 3)] σ σ' ∧ σ' 112 3 = nI (n + 1) ∧ (∀ k, k < 31 → σ' 114 (31 * n + k) = σ 113 k) ∧ ∀ i, i < 31 * n → σ' 114 i = σ 114 i := by
  have e31 : (31 : Int32) * nI n = nI (31 * n) := nI_mul' 31 n
  obtain ⟨σ1, e1, i1, i2, i3⟩ := loop_ex (fun p (x : Sig) => Ex d 146 55 [.ref 112, .int (nI p)] [] G0 x) (fun p x => Fr [114] [] σ x ∧ (∀ k, k < p → x 114 (31 * n + k) = σ 113 k) ∧ ∀ i, i < 31 * n → x 114 i = σ 114 i) 31 σ ⟨Fr_r, fun k hk => by omega, fun _ _ => rfl⟩ (by
    intro p x hp ⟨i1, i2, i3⟩
    show ∃ a', Ex d 146 55 [.ref 112, .int (nI p)] [] G0 x = _ ∧ _
    have x3 : x 112 3 = nI n := by rw [i1 112 3 (by decide) (by simp)]; exact h3
    have ea : nI (31 * n) + nI p = nI (31 * n + p) := (Int32.ofNat_add _ _).symm
    rw [b146_55]
    simp only [x3, e31, ea, n31 hp, inb_n hp (show p < 2 ^ 31 by omega), inb_n (show 31 * n + p < 186 by omega) (by omega), nI_c (show p < 2 ^ 31 by omega), nI_c (show 31 * n + p < 2 ^ 31 by omega), i10, i01, eq_self, if_true, if_false, true_and, false_and, and_true, and_false, not_true, not_false_iff, true_or, or_true, false_or, or_false, ne_eq, not_true_eq_false, not_false_eq_true, b146_81, nI_s]
    refine ⟨_, rfl, Fr_p i1 (Or.inl (by simp)), fun k hk => ?_, fun i hi => by rw [pt_k (by omega)]; exact i3 i hi⟩
    by_cases e : k = p
    · subst e; rw [pt_e, i1 113 k (by decide) (by simp)]
    · rw [pt_k (by omega)]; exact i2 k (by omega))
  have x3 : σ1 112 3 = nI n := by rw [i1 112 3 (by decide) (by simp)]; exact h3
  rw [show Ex d 146 55 [.ref 112, .int 0] [] G0 σ = _ from e1, b146_55]
  simp only [n3131, i10, i01, eq_self, if_true, if_false, true_and, false_and, and_true, and_false, not_true, not_false_iff, true_or, or_true, false_or, or_false, ne_eq, not_true_eq_false, not_false_eq_true, x3, nI_s, b146_97]
  exact ⟨_, rfl, Fr_p (Fr_m i1 (by simp) (by simp)) (Or.inr (by simp)), pt_e, fun k hk => by rw [pt_q (by decide)]; exact i2 k hk, fun i hi => by rw [pt_q (by decide)]; exact i3 i hi⟩
theorem m_shift (d : Nat) {σ : Sig} (h3 : σ 112 3 = 5) : ∃ σ', Ex d 146 21 [.ref 112, .int 0] [] G0 σ = Ex d 146 55 [.ref 112, .int 0] [] G0 (σ') ∧ Fr [114] [] σ σ' ∧ ∀ k, k < 155 → σ' 114 k = σ 114 (k + 31) := by
  have e31 : (31 : Int32) * 5 = nI 155 := by decide
  obtain ⟨σ1, e1, i1, i2, i3⟩ := loop_ex (fun p (x : Sig) => Ex d 146 21 [.ref 112, .int (nI p)] [] G0 x) (fun p x => Fr [114] [] σ x ∧ (∀ k, k < p → x 114 k = σ 114 (k + 31)) ∧ ∀ k, p ≤ k → x 114 k = σ 114 k) 155 σ ⟨Fr_r, fun k hk => by omega, fun _ _ => rfl⟩ (by
    intro p x hp ⟨i1, i2, i3⟩
    show ∃ a', Ex d 146 21 [.ref 112, .int (nI p)] [] G0 x = _ ∧ _
    have x3 : x 112 3 = 5 := by rw [i1 112 3 (by decide) (by simp)]; exact h3
    have ea : nI p + 31 = nI (p + 31) := (Int32.ofNat_add _ 31).symm
    have q : (nI 155 ≤ nI p) = False := by rw [nJ_le (by omega) (by omega)]; exact eq_false (by omega)
    rw [b146_21]
    simp only [x3, e31, ea, q, inb_n (show p < 186 by omega) (by omega), inb_n (show p + 31 < 186 by omega) (by omega), nI_c (show p < 2 ^ 31 by omega), nI_c (show p + 31 < 2 ^ 31 by omega), i10, i01, eq_self, if_true, if_false, true_and, false_and, and_true, and_false, not_true, not_false_iff, true_or, or_true, false_or, or_false, ne_eq, not_true_eq_false, not_false_eq_true, b146_47, nI_s]
    refine ⟨_, rfl, Fr_p i1 (Or.inl (by simp)), fun k hk => ?_, fun k hk => by rw [pt_k (by omega)]; exact i3 k (by omega)⟩
    by_cases e : k = p
    · subst e; rw [pt_e]; exact i3 _ (by omega)
    · rw [pt_k (by omega)]; exact i2 k (by omega))
  have x3 : σ1 112 3 = 5 := by rw [i1 112 3 (by decide) (by simp)]; exact h3
  have q : (nI 155 ≤ nI 155) = True := by rw [nJ_le (by omega) (by omega)]; exact eq_true (by omega)
  refine ⟨σ1, ?_, i1, i2⟩
  rw [show Ex d 146 21 [.ref 112, .int 0] [] G0 σ = _ from e1, b146_21]
  simp only [x3, e31, q, i10, i01, eq_self, if_true, if_false, true_and, false_and, and_true, and_false, not_true, not_false_iff, true_or, or_true, false_or, or_false, ne_eq, not_true_eq_false, not_false_eq_true]
theorem MU_push {B T : LW} {K : List Sig} {w ρ σ' : Sig} (hm : ∀ j (h : j < K.length), ∃ ρ, MR B T K[j] ρ ∧ ∀ k, k < 31 → σ' 114 (31 * j + k) = ρ 113 k) (hr : MR B T w ρ) (e3 : σ' 112 3 = nI (K.length + 1)) (h : ∀ k, k < 31 → σ' 114 (31 * K.length + k) = ρ 113 k) : MU B T (K ++ [w]) σ' := by
  refine ⟨by rw [e3, List.length_append]; rfl, fun j hj => ?_⟩
  rw [List.length_append] at hj
  simp only [List.length_singleton] at hj
  by_cases c : j < K.length
  · rw [List.getElem_append_left c]; exact hm j c
  · have e : j = K.length := by omega
    subst e
    rw [List.getElem_append_right (by omega)]
    simp only [Nat.sub_self, List.getElem_singleton]
    exact ⟨ρ, hr, h⟩
theorem m_keeps (d : Nat) {B T : LW} {L : List Sig} {w σ : Sig} (h : MU B T L σ) (hl : L.length ≤ 6) (hM : MR B T w σ) : ∃ σ', Ex d 146 0 [.ref 112, .null] [] G0 σ = some (none, G0, σ') ∧ Fr [114] [(112, 3)] σ σ' ∧ MU B T (kL L ++ [w]) σ' := by
  obtain ⟨h3, hm⟩ := h
  by_cases c : L.length = 6
  · have e3 : σ 112 3 = 6 := by rw [h3, c]; rfl
    have e5 : (6 : Int32) - 1 = 5 := by decide
    obtain ⟨σ1, e1, f1, k1⟩ := m_shift d (σ := pt σ 112 3 5) pt_e
    obtain ⟨σ2, e2, f2, t2, k2, g2⟩ := m_store d (n := 5) (σ := σ1) (by rw [f1 112 3 (by decide) (by simp), pt_e]; rfl) (by omega)
    simp only [b146_0, e3, e5, i10, i01, eq_self, if_true, if_false, true_and, false_and, and_true, and_false, not_true, not_false_iff, true_or, or_true, false_or, or_false, ne_eq, not_true_eq_false, not_false_eq_true]
    rw [e1, e2]
    have ek : kL L = L.tail := by unfold kL; rw [if_pos c]
    have el : L.tail.length = 5 := by rw [List.length_tail, c]
    refine ⟨σ2, rfl, Fr_t (Fr_p Fr_r (Or.inr (by simp))) (Fr_t (Fr_m f1 (by simp) (by simp)) f2), ?_⟩
    rw [ek]
    refine MU_push (ρ := σ) (fun j hj => ?_) hM (by rw [el]; exact t2) (fun k hk => ?_)
    · rw [List.getElem_tail]
      obtain ⟨ρ, hr, hk⟩ := hm (j + 1) (by omega)
      refine ⟨ρ, hr, fun k hk2 => ?_⟩
      rw [g2 _ (by omega), k1 _ (by omega), pt_q (by decide), ← hk k hk2, show 31 * j + k + 31 = 31 * (j + 1) + k by omega]
    · rw [el, k2 k hk, f1 113 k (by decide) (by simp), pt_q (by decide)]
  · have q : (nI L.length = 6) = False := by
      have : (nI L.length = 6) = (L.length = 6) := nJ_e (b := 6) (by omega) (by omega)
      rw [this]; exact eq_false c
    obtain ⟨σ2, e2, f2, t2, k2, g2⟩ := m_store d (n := L.length) h3 (by omega)
    simp only [b146_0, h3, q, i10, i01, eq_self, if_true, if_false, true_and, false_and, and_true, and_false, not_true, not_false_iff, true_or, or_true, false_or, or_false, ne_eq, not_true_eq_false, not_false_eq_true]
    rw [e2]
    have ek : kL L = L := by unfold kL; rw [if_neg c]
    refine ⟨σ2, rfl, f2, ?_⟩
    rw [ek]
    refine MU_push (ρ := σ) (fun j hj => ?_) hM t2 k2
    obtain ⟨ρ, hr, hk⟩ := hm j hj
    exact ⟨ρ, hr, fun k hk2 => by rw [g2 _ (by omega)]; exact hk k hk2⟩
theorem m_paces (d : Nat) {B T : LW} {L : List Sig} {ω σ : Sig} (a : Int32) (hM : MR B T ω σ) (hW : WI B T ω) (h5 : σ 112 5 = 0) (hU : UL B T L ω) (hC : MU B T L σ) :
    ∃ σ', Ex (d + 8) 230 0 [.ref 112, .int a, .null] [] G0 σ = some (some (.int (pacesA B T ω L a)), G0, σ') ∧ MR B T (pz3 B T ω L a).1 σ' ∧ MU B T (pz3 B T ω L a).2.1 σ' ∧ Fr (114 :: 123 :: SCS) [(112, 0), (112, 3), (112, 49)] σ σ' := by
  have f0 : Fr (114 :: 123 :: SCS) [(112, 0), (112, 3), (112, 49)] σ (pt σ 112 0 0) := Fr_p Fr_r (Or.inr (by simp))
  have hM0 : MR B T ω (pt σ 112 0 0) := MR_S hM (Fr_p Fr_r (Or.inr (by simp)) : Fr [] [(112, 0)] σ (pt σ 112 0 0)) (by decide) (by simp)
  have main : ∀ n, n ≤ 200 → ∀ k i (w : Sig) (L : List Sig) (σ1 : Sig), i + k = n → WI B T w → MR B T w σ1 → UL B T L w → MU B T L σ1 → σ1 112 5 = 0 → ∃ σ', Ex (d + 8) 230 35 [.ref 112, .int (nI n), .int (nI i)] [] G0 σ1 = some (some (.int (nI (i + (pzS B T k w L).2.2))), G0, σ') ∧ MR B T (pzS B T k w L).1 σ' ∧ MU B T (pzS B T k w L).2.1 σ' ∧ Fr (114 :: 123 :: SCS) [(112, 0), (112, 3), (112, 49)] σ1 σ' := by
    intro n hn k
    induction k with
    | zero =>
      intro i w L σ1 hi hWw m hU hC z
      rw [b230_35]
      have q : (nI n ≤ nI i) = True := by rw [nJ_le (by omega) (by omega)]; exact eq_true (by omega)
      simp only [q, i10, i01, eq_self, if_true, if_false, true_and, false_and, and_true, and_false, not_true, not_false_iff, true_or, or_true, false_or, or_false, ne_eq, not_true_eq_false, not_false_eq_true]
      exact ⟨σ1, rfl, m, hC, Fr_r⟩
    | succ k ih =>
      intro i w L σ1 hi hWw m hU hC z
      rw [b230_35]
      have q : (nI n ≤ nI i) = False := by rw [nJ_le (by omega) (by omega)]; exact eq_false (by omega)
      simp only [q, i10, i01, eq_self, if_true, if_false, true_and, false_and, and_true, and_false, not_true, not_false_iff, true_or, or_true, false_or, or_false, ne_eq, not_true_eq_false, not_false_eq_true, (fun d => m_hasPace d m hWw), Option.bind_some, Option.toList_some, Option.toList_none, List.cons_append, List.nil_append, i01a, i01b, if_true, if_false, b230_44]
      by_cases hp : hasP w
      · rw [@bI_T _ (Classical.propDecidable _) hp, pz_y hp]
        obtain ⟨σ2, e2, f2, u2⟩ := m_keeps (d + 7) hC hU.1 m
        have m2 : MR B T w σ2 := MR_S m f2 (by decide) (by simp)
        have z2 : σ2 112 5 = 0 := by rw [f2 112 5 (by decide) (by simp)]; exact z
        obtain ⟨σ3, e3, f3, _, m3⟩ := m_goesBy d m2 hWw (th := false) (by rw [z2]; rfl) hp
        have u3 : MU B T (kL L ++ [w]) σ3 := MU_fr u2 (f3 112 3 (by decide) (by simp)) (Fr_q f3 (by decide) (by simp))
        simp only [i10, i01, eq_self, if_true, if_false, true_and, false_and, and_true, and_false, not_true, not_false_iff, true_or, or_true, false_or, or_false, ne_eq, not_true_eq_false, not_false_eq_true, e2, Option.bind_some, Option.toList_some, Option.toList_none, List.cons_append, List.nil_append, i01a, i01b, if_true, if_false, b230_51, e3, b230_55, nI_s]
        obtain ⟨σ', e', w1, w2, w3⟩ := ih (i + 1) (goW B T false w) (kL L ++ [w]) σ3 (by omega) (WI_go hWw hp) m3 (UL_go hU hWw (Td_go hWw hp)) u3 (by rw [f3 112 5 (by decide) (by simp)]; exact z2)
        refine ⟨σ', ?_, w1, w2, Fr_t (Fr_m f2 (by simp) (by simp)) (Fr_t (Fr_m f3 (by decide) (by simp)) w3)⟩
        rw [e', show i + 1 + (pzS B T k (goW B T false w) (kL L ++ [w])).2.2 = i + ((pzS B T k (goW B T false w) (kL L ++ [w])).2.2 + 1) by omega]
      · rw [@bI_F _ (Classical.propDecidable _) hp, pz_n hp]
        simp only [i10, i01, eq_self, if_true, if_false, true_and, false_and, and_true, and_false, not_true, not_false_iff, true_or, or_true, false_or, or_false, ne_eq, not_true_eq_false, not_false_eq_true]
        exact ⟨σ1, rfl, m, hC, Fr_r⟩
  have x0 : pt σ 112 0 0 113 0 = ω 1 6 := by rw [pt_q (by decide)]; exact hM 7
  have hC0 : MU B T L (pt σ 112 0 0) := MU_fr hC (pt_k (by decide)) (pt_q (by decide))
  simp only [b230_0, m_isIn, Option.bind_some, Option.toList_some, Option.toList_none, List.cons_append, List.nil_append, i01a, i01b, if_true, if_false, b230_14, bI_z, bI_o, bI_em, ite_not, x0]
  unfold pacesA pz3
  by_cases c : pzC ω a
  · have c1 := c.1
    have c2 := c.2
    obtain ⟨n, en, n1, n2, n3⟩ := bwN (x := a) (a := 1) (b := 200) ⟨by have := c1.1; rw [Int32.le_iff_toInt_le] at this; exact this, by have := c1.2; rw [Int32.le_iff_toInt_le] at this; exact this⟩
    obtain ⟨σ', e', w1, w2, w3⟩ := main n (by omega) n 0 ω L (pt σ 112 0 0) (by omega) hW hM0 hU hC0 (by rw [pt_k (by decide)]; exact h5)
    have e2 : Ex (d + 8) 230 35 [.ref 112, .int a, .int 0] [] G0 (pt σ 112 0 0) = _ := (congrArg (fun x => Ex (d + 8) 230 35 [.ref 112, .int x, .int 0] [] G0 (pt σ 112 0 0)) en).trans e'
    simp only [c1, c2, eq_true c, i10, i01, eq_self, if_true, if_false, true_and, false_and, and_true, and_false, not_true, not_false_iff, true_or, or_true, false_or, or_false, ne_eq, not_true_eq_false, not_false_eq_true, e2, n3, Nat.zero_add]
    exact ⟨σ', rfl, w1, w2, Fr_t f0 w3⟩
  · simp only [eq_false c, i10, i01, eq_self, if_true, if_false, true_and, false_and, and_true, and_false, not_true, not_false_iff, true_or, or_true, false_or, or_false, ne_eq, not_true_eq_false, not_false_eq_true]
    refine ⟨pt σ 112 0 0, ?_, hM0, hC0, f0⟩
    by_cases c1 : 1 ≤ a ∧ a ≤ 200
    · have c2 : ¬ ω 1 6 + a ≤ 99999 := fun h => c ⟨c1, h⟩
      simp only [c1, c2, i10, i01, eq_self, if_true, if_false, true_and, false_and, and_true, and_false, not_true, not_false_iff, true_or, or_true, false_or, or_false, ne_eq, not_true_eq_false, not_false_eq_true]
    · simp only [c1, i10, i01, eq_self, if_true, if_false, true_and, false_and, and_true, and_false, not_true, not_false_iff, true_or, or_true, false_or, or_false, ne_eq, not_true_eq_false, not_false_eq_true]
theorem m_undo0 (d : Nat) {B T : LW} {σ : Sig} (hC : MU B T [] σ) : Ex d 147 0 [.ref 112, .null] [] G0 σ = some (some (.int 0), G0, pt σ 112 0 0) := by
  have e3 : pt σ 112 0 0 112 3 = 0 := by rw [pt_k (by decide)]; exact hC.1
  simp only [b147_0, e3, i10, i01, eq_self, if_true, if_false, true_and, false_and, and_true, and_false, not_true, not_false_iff, true_or, or_true, false_or, or_false, ne_eq, not_true_eq_false, not_false_eq_true]
theorem m_undo1 (d : Nat) {B T : LW} {L : List Sig} {v ω σ : Sig} (hC : MU B T (L ++ [v]) σ) (hl : L.length < 6) (hM : MR B T ω σ) (t : Td v ω) : ∃ σ', Ex d 147 0 [.ref 112, .null] [] G0 σ = some (some (.int 1), G0, σ') ∧ MR B T v σ' ∧ MU B T L σ' ∧ Fr [113] [(112, 0), (112, 3)] σ σ' := by
  obtain ⟨h3, hm⟩ := hC
  have e3 : pt σ 112 0 0 112 3 = nI (L.length + 1) := by rw [pt_k (by decide), h3, List.length_append]; rfl
  have q : (nI (L.length + 1) = 0) = False := by rw [nI_z (by omega)]; exact eq_false (by omega)
  have e9 : nI (L.length + 1) - 1 = nI L.length := nI_sub' (b := 1) (by omega)
  obtain ⟨ρ, hr, hk⟩ : ∃ ρ, MR B T v ρ ∧ ∀ k, k < 31 → σ 114 (31 * L.length + k) = ρ 113 k := by
    have := hm L.length (by rw [List.length_append]; simp)
    rw [List.getElem_append_right (by omega)] at this
    simpa using this
  have e31 : (31 : Int32) * nI L.length = nI (31 * L.length) := nI_mul' 31 _
  simp only [b147_0, e3, q, e9, i10, i01, eq_self, if_true, if_false, true_and, false_and, and_true, and_false, not_true, not_false_iff, true_or, or_true, false_or, or_false, ne_eq, not_true_eq_false, not_false_eq_true]
  generalize hσ : pt (pt σ 112 0 0) 112 3 (nI L.length) = σ0
  have f0 : Fr [113] [(112, 0), (112, 3)] σ σ0 := by rw [← hσ]; exact Fr_p (Fr_p Fr_r (Or.inr (by simp))) (Or.inr (by simp))
  have t0 : σ0 112 3 = nI L.length := by rw [← hσ, pt_e]
  obtain ⟨σ1, e1, i1, i2⟩ := loop_ex (fun p (x : Sig) => Ex d 147 26 [.ref 112, .int (nI p)] [] G0 x) (fun p x => Fr [113] [] σ0 x ∧ ∀ k, k < p → x 113 k = σ0 114 (31 * L.length + k)) 31 σ0 ⟨Fr_r, fun k hk => by omega⟩ (by
    intro p x hp ⟨i1, i2⟩
    show ∃ a', Ex d 147 26 [.ref 112, .int (nI p)] [] G0 x = _ ∧ _
    have x3 : x 112 3 = nI L.length := by rw [i1 112 3 (by decide) (by simp)]; exact t0
    have ea : nI (31 * L.length) + nI p = nI (31 * L.length + p) := (Int32.ofNat_add _ _).symm
    rw [b147_26]
    simp only [x3, e31, ea, n31 hp, inb_n hp (show p < 2 ^ 31 by omega), inb_n (show 31 * L.length + p < 186 by omega) (by omega), nI_c (show p < 2 ^ 31 by omega), nI_c (show 31 * L.length + p < 2 ^ 31 by omega), i10, i01, eq_self, if_true, if_false, true_and, false_and, and_true, and_false, not_true, not_false_iff, true_or, or_true, false_or, or_false, ne_eq, not_true_eq_false, not_false_eq_true, b147_52, nI_s]
    refine ⟨_, rfl, Fr_p i1 (Or.inl (by simp)), fun k hk => ?_⟩
    by_cases e : k = p
    · subst e; rw [pt_e, i1 114 _ (by decide) (by simp)]
    · rw [pt_k (by omega)]; exact i2 k (by omega))
  rw [show Ex d 147 26 [.ref 112, .int 0] [] G0 σ0 = _ from e1, b147_26]
  simp only [n3131, i10, i01, eq_self, if_true, if_false, true_and, false_and, and_true, and_false, not_true, not_false_iff, true_or, or_true, false_or, or_false, ne_eq, not_true_eq_false, not_false_eq_true]
  have f1 : Fr [113] [(112, 0), (112, 3)] σ σ1 := Fr_t f0 (Fr_m i1 (by simp) (by simp))
  have e14 : σ1 114 = σ 114 := Fr_q f1 (by decide) (by simp)
  refine ⟨σ1, rfl, MR_un hM hr t (fun k hk2 => ?_) (fun q hq => Fr_q f1 (by revert hq; simp; omega) (by revert hq; simp; omega)) (fun k hk => f1 112 k (by decide) (by revert hk; simp; omega)), ⟨?_, fun j hj => ?_⟩, f1⟩
  · rw [i2 k hk2, Fr_q f0 (q := 114) (by decide) (by simp)]; exact hk k hk2
  · rw [i1 112 3 (by decide) (by simp)]; exact t0
  · have := hm j (by rw [List.length_append]; omega)
    rw [List.getElem_append_left hj] at this
    rw [e14]; exact this
