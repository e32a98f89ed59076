/-! L3: ORDER, DEAREST, FITS, the model's calls -/
theorem m_keptSet (d : Nat) {B T : LW} {ω σ : Sig} (hM : MR B T ω σ) (hW : WI B T ω) : ∃ v, Ex (d + 2) 241 0 [.ref 112, .null, .null] [] G0 σ = some (some (.int v), G0, σ) ∧ isM v (kpt ω) := by
  obtain ⟨_, n8', en⟩ := WI_np hW
  have h9 : wi B T ω 9 := hW 9
  have h21 : mr B T ω σ 21 := hM 21
  rw [b241_0]
  obtain ⟨v, e, i⟩ := loop_ex (fun p (x : Int32) => Ex (d + 2) 241 4 [.ref 112, .int x, .int (nI p)] [] G0 σ) (fun p x => isM x (fun q => decide (q < p) && kpt ω q)) (np ω) 0 (M_ext M_0 (fun q _ => by simp)) (by
    intro p x hp i
    have hp8 : p < 8 := by omega
    show ∃ x', Ex (d + 2) 241 4 [.ref 112, .int x, .int (nI p)] [] G0 σ = _ ∧ _
    rw [b241_4, m_places, m_pl hM hW]
    have q : (nI (np ω) ≤ nI p) = False := by rw [nJ_le (by omega) (by omega)]; exact eq_false (by omega)
    simp only [Option.bind_some, Option.toList_some, Option.toList_none, List.cons_append, List.nil_append, i01a, i01b, if_true, if_false, b241_9, q, i10, i01, eq_self, if_true, if_false, true_and, false_and, and_true, and_false, not_true, not_false_iff, true_or, or_true, false_or, or_false, ne_eq, not_true_eq_false, not_false_eq_true, i8 hp8, c8 hp8, h21 p hp8, m_who (d + 1) hM hp8, b241_27, nI_s]
    by_cases k : kpt ω p = true
    · have kk := of_decide_eq_true k
      simp only [eq_true kk.2.2, eq_false kk.2.1, i10, i01, eq_self, if_true, if_false, true_and, false_and, and_true, and_false, not_true, not_false_iff, true_or, or_true, false_or, or_false, ne_eq, not_true_eq_false, not_false_eq_true]
      refine ⟨_, rfl, M_ext (M_add i hp8) (fun q _ => ?_)⟩
      rw [kpt_st hp, k, Bool.and_true]
    · have kf : kpt ω p = false := by simpa using k
      have fin : ∃ x', Ex (d + 2) 241 4 [.ref 112, .int x, .int (nI (p + 1))] [] G0 σ = Ex (d + 2) 241 4 [.ref 112, .int x', .int (nI (p + 1))] [] G0 σ ∧ isM x' (fun q => decide (q < p + 1) && kpt ω q) := ⟨_, rfl, M_ext i (fun q _ => by rw [kpt_st hp, kf, Bool.and_false, Bool.or_false])⟩
      by_cases c1 : ω 11 p = 1
      · have c2 : ω 9 p = -1 := Classical.byContradiction (fun c2 => k (decide_eq_true ⟨hp, c2, c1⟩))
        simp only [eq_true c1, eq_true c2, i10, i01, eq_self, if_true, if_false, true_and, false_and, and_true, and_false, not_true, not_false_iff, true_or, or_true, false_or, or_false, ne_eq, not_true_eq_false, not_false_eq_true]
        exact fin
      · simp only [eq_false c1, i10, i01, eq_self, if_true, if_false, true_and, false_and, and_true, and_false, not_true, not_false_iff, true_or, or_true, false_or, or_false, ne_eq, not_true_eq_false, not_false_eq_true]
        exact fin)
  rw [show Ex (d + 2) 241 4 [.ref 112, .int 0, .int 0] [] G0 σ = _ from e]
  show ∃ v', Ex (d + 2) 241 4 [.ref 112, .int v, .int (nI (np ω))] [] G0 σ = _ ∧ _
  rw [b241_4, m_places, m_pl hM hW]
  have q8 : (nI (np ω) ≤ nI (np ω)) = True := by rw [nJ_le (by omega) (by omega)]; exact eq_true (Nat.le_refl _)
  simp only [Option.bind_some, Option.toList_some, Option.toList_none, List.cons_append, List.nil_append, i01a, i01b, if_true, if_false, b241_9, q8, i10, i01, eq_self, if_true, if_false, true_and, false_and, and_true, and_false, not_true, not_false_iff, true_or, or_true, false_or, or_false, ne_eq, not_true_eq_false, not_false_eq_true]
  refine ⟨v, rfl, M_ext i (fun q hq => ?_)⟩
  by_cases k : q < np ω
  · simp [k]
  · have : kpt ω q = false := decide_eq_false (fun h => k h.1)
    rw [this, Bool.and_false]
theorem m_p0 {B T : LW} {ω σ : Sig} (hM : MR B T ω σ) : MR B T ω (pt σ 112 0 0) := MR_S hM (Fr_p Fr_r (Or.inr (by simp)) : Fr [] [(112, 0)] σ (pt σ 112 0 0)) (by decide) (by simp)
theorem moA_z {st : Option (Nat × List Nat)} (hb : ∀ x, st = some x → x.1 ≤ 1000) : (moA st = 1000000) = (st = none) := by
  cases st with
  | none => exact propext ⟨fun _ => rfl, fun _ => rfl⟩
  | some x =>
    have hx := hb x rfl
    have : (moA (some x) = 1000000) = (x.1 = 1000000) := nJ_e (b := 1000000) (by omega) (by omega)
    rw [this]; exact propext ⟨fun h => by omega, fun h => by cases h⟩
theorem m_order (d : Nat) {B T : LW} {ω σ : Sig} (a : Int32) (hM : MR B T ω σ) (hW : WI B T ω) (h5 : σ 112 5 = 0) :
    ∃ σ', Ex (d + 7) 243 0 [.ref 112, .int a, .null] [] G0 σ = some (some (.int (orderA B ω a)), G0, σ') ∧ MR B T ω σ' ∧ (∀ k, k < 31 → σ' 113 k = σ 113 k) ∧ σ' 112 5 = 0 ∧ Fr SCX ((112, 0) :: SLX) σ σ' := by
  obtain ⟨_, n8', en⟩ := WI_np hW
  have hM0 := m_p0 hM
  have f0 : Fr SCX ((112, 0) :: SLX) σ (pt σ 112 0 0) := Fr_p Fr_r (Or.inr (by simp))
  by_cases ca : a = 0 ∨ (10 ≤ a ∧ a ≤ 9 + 2 * ω 8 0)
  · obtain ⟨v, ev, iv⟩ := m_keptSet (d + 4) hM0 hW
    have ev' : Ex (d + 6) 241 0 [.ref 112, .null, .null] [] G0 (pt σ 112 0 0) = some (some (.int v), G0, pt σ 112 0 0) := ev
    obtain ⟨σ1, e1, m1, k1, z1, b1, f1⟩ := m_leastSpread d hM0 hW kpt_w iv
    have F1 : Fr SCX ((112, 0) :: SLX) σ σ1 := Fr_t f0 (Fr_m f1 (fun _ h => h) (fun x hx => Or.inl (List.mem_cons_of_mem _ hx)))
    have fin : ∀ d, Ex d 243 36 [.ref 112, .int a, .null] [.int (moA (orS B ω (kpt ω)))] G0 σ1 = some (some (.int (orderA B ω a)), G0, σ1) := by
      intro d
      rw [b243_36]
      simp only [moA_z (fun x hx => (b1 x hx).1)]
      unfold orderA
      rw [if_pos ca]
      cases hs : orS B ω (kpt ω) with
      | none => rw [if_pos rfl]
      | some x =>
        obtain ⟨b2, b3⟩ := b1 x hs
        rw [if_neg (by intro h; cases h)]
        have e : moA (some x) = nI x.1 := rfl
        rw [e]
        by_cases c0 : a = 0
        · simp only [eq_true c0, i10, i01, eq_self, if_true, if_false, true_and, false_and, and_true, and_false, not_true, not_false_iff, true_or, or_true, false_or, or_false, ne_eq, not_true_eq_false, not_false_eq_true]
        · obtain ⟨p, hp, p8, ep⟩ := pa_ix hW (ca.resolve_left c0)
          simp only [eq_false c0, i10, i01, eq_self, if_true, if_false, true_and, false_and, and_true, and_false, not_true, not_false_iff, true_or, or_true, false_or, or_false, ne_eq, not_true_eq_false, not_false_eq_true, ep, i8 p8, c8 p8, b3 p hp]
    refine ⟨σ1, ?_, m1, fun k hk => by rw [k1 k hk, pt_q (by decide)], z1, F1⟩
    by_cases c0 : a = 0
    · simp only [b243_0, eq_true c0, i10, i01, eq_self, if_true, if_false, true_and, false_and, and_true, and_false, not_true, not_false_iff, true_or, or_true, false_or, or_false, ne_eq, not_true_eq_false, not_false_eq_true, ev', Option.bind_some, Option.toList_some, Option.toList_none, List.cons_append, List.nil_append, i01a, i01b, if_true, if_false, b243_33, e1]
      exact fin _
    · simp only [b243_0, eq_false c0, i10, i01, eq_self, if_true, if_false, true_and, false_and, and_true, and_false, not_true, not_false_iff, true_or, or_true, false_or, or_false, ne_eq, not_true_eq_false, not_false_eq_true, m_places, Option.bind_some, Option.toList_some, Option.toList_none, List.cons_append, List.nil_append, i01a, i01b, if_true, if_false, b243_19, m_pp hM0, m_isIn, b243_23, bI_z, bI_o, bI_em, ite_not, eq_true (ca.resolve_left c0), ev', b243_33, e1, fin]
  · have c0 : ¬ a = 0 := fun e => ca (Or.inl e)
    have c1 : ¬ (10 ≤ a ∧ a ≤ 9 + 2 * ω 8 0) := fun e => ca (Or.inr e)
    refine ⟨pt σ 112 0 0, ?_, hM0, fun k _ => by rw [pt_q (by decide)], by rw [pt_k (by decide)]; exact h5, f0⟩
    unfold orderA
    rw [if_neg ca]
    simp only [b243_0, eq_false c0, i10, i01, eq_self, if_true, if_false, true_and, false_and, and_true, and_false, not_true, not_false_iff, true_or, or_true, false_or, or_false, ne_eq, not_true_eq_false, not_false_eq_true, m_places, Option.bind_some, Option.toList_some, Option.toList_none, List.cons_append, List.nil_append, i01a, i01b, if_true, if_false, b243_19, m_pp hM0, m_isIn, b243_23, bI_z, bI_o, bI_em, ite_not, eq_false c1]
theorem de_le {x y s : Nat} (hx : x ≤ 1000) (hy : y ≤ 1000000) (hs : s ≤ 1000) : (nI x - nI y ≤ nI s) = (¬ y + s < x) ∧ (y ≤ x ∨ (nI x - nI y < nI s ∨ nI x - nI y < 0) ) := by
  by_cases c : y ≤ x
  · refine ⟨?_, Or.inl c⟩
    rw [nI_sub' c, nJ_le (by omega) (by omega)]; exact propext ⟨fun h => by omega, fun h => by omega⟩
  · have e5 : nI x - nI y = -(nI (y - x)) := by
      rw [← nI_sub' (by omega)]; exact Int32.neg_sub.symm
    have l5 : (nI x - nI y).toInt < 0 := by
      rw [e5, Int32.toInt_neg, nI_i (by omega)]
      have := Int.bmod_eq_of_le (n := -((y - x : Nat) : Int)) (m := 2 ^ 32) (by omega) (by omega)
      rw [this]; omega
    refine ⟨?_, Or.inr (Or.inr ?_)⟩
    · rw [Int32.le_iff_toInt_le, nI_i (by omega)]
      exact propext ⟨fun _ => by omega, fun _ => by omega⟩
    · rw [Int32.lt_iff_toInt_lt]; exact l5
theorem mx_le {a b : Int32} (h : a ≤ b) : mx a b = b := by
  unfold mx
  split
  · rfl
  · rename_i c
    rw [Int32.le_iff_toInt_le] at h
    rw [Int32.lt_iff_toInt_lt] at c
    exact Int32.toInt_inj.mp (by omega)
theorem mx_gt {a b : Int32} (h : ¬ a ≤ b) : mx a b = a := by
  unfold mx
  rw [if_neg]
  rw [Int32.le_iff_toInt_le] at h
  rw [Int32.lt_iff_toInt_lt]
  omega
theorem m_dearest (d : Nat) {B T : LW} {ω σ : Sig} (hM : MR B T ω σ) (hW : WI B T ω) :
    ∃ σ', Ex (d + 7) 244 0 [.ref 112, .null, .null, .null, .null, .null, .null] [] G0 σ = some (some (.int (deA B ω)), G0, σ') ∧ MR B T ω σ' ∧ (∀ k, k < 31 → σ' 113 k = σ 113 k) ∧ σ' 112 5 = 0 ∧ Fr SCX ((112, 0) :: SLX) σ σ' := by
  obtain ⟨n4, n8', en⟩ := WI_np hW
  have hM0 := m_p0 hM
  have f0 : Fr SCX ((112, 0) :: SLX) σ (pt σ 112 0 0) := Fr_p Fr_r (Or.inr (by simp))
  obtain ⟨v, ev, iv⟩ := m_keptSet (d + 4) hM0 hW
  have ev' : Ex (d + 6) 241 0 [.ref 112, .null, .null] [] G0 (pt σ 112 0 0) = some (some (.int v), G0, pt σ 112 0 0) := ev
  obtain ⟨σ1, e1, m1, k1, z1, b1, f1⟩ := m_leastSpread d hM0 hW kpt_w iv
  have F1 : Fr SCX ((112, 0) :: SLX) σ σ1 := Fr_t f0 (Fr_m f1 (fun _ h => h) (fun x hx => Or.inl (List.mem_cons_of_mem _ hx)))
  have k1' : ∀ k, k < 31 → σ1 113 k = σ 113 k := fun k hk => by rw [k1 k hk, pt_q (by decide)]
  simp only [b244_0, ev', Option.bind_some, Option.toList_some, Option.toList_none, List.cons_append, List.nil_append, i01a, i01b, if_true, if_false, b244_9, e1, b244_15]
  cases hs : orS B ω (kpt ω) with
  | none =>
    have q : (nI (np ω) ≤ 0) = False := by
      have : (nI (np ω) ≤ 0) = (np ω = 0) := nI_le0 (by omega)
      rw [this]; exact eq_false (by omega)
    have q2 : ((1000000 : Int32) ≤ moA none) = True := eq_true (by decide)
    rw [b244_24, m_places, m_pl m1 hW]
    simp only [Option.bind_some, Option.toList_some, Option.toList_none, List.cons_append, List.nil_append, i01a, i01b, if_true, if_false, b244_30, q, q2, i10, i01, eq_self, if_true, if_false, true_and, false_and, and_true, and_false, not_true, not_false_iff, true_or, or_true, false_or, or_false, ne_eq, not_true_eq_false, not_false_eq_true]
    refine ⟨σ1, ?_, m1, k1', z1, F1⟩
    unfold deA; rw [hs]
  | some x =>
    have hx := (b1 x hs).1
    have ex : moA (some x) = nI x.1 := rfl
    have q2 : ((1000000 : Int32) ≤ nI x.1) = False := by
      have : ((1000000 : Int32) ≤ nI x.1) = (1000000 ≤ x.1) := nJ_le (a := 1000000) (by omega) (by omega)
      rw [this]; exact eq_false (by omega)
    rw [ex]
    obtain ⟨⟨s, v6⟩, e, i⟩ := loop_ex (fun p (y : Sig × Value) => Ex (d + 7) 244 24 [.ref 112, .int v, .int (nI x.1), .int (fo (deF B ω x.1) p (-1, 0)).1, .int (nI (fo (deF B ω x.1) p (-1, 0)).2), .int (nI p), y.2] [] G0 (y.1)) (fun p y => MR B T ω y.1 ∧ (∀ k, k < 31 → y.1 113 k = σ 113 k) ∧ y.1 112 5 = 0 ∧ Fr SCX ((112, 0) :: SLX) σ y.1) (np ω) (σ1, .null) ⟨m1, k1', z1, F1⟩ (by
      rintro p ⟨s, v6⟩ hp ⟨ms, ks, zs, fs⟩
      have hp8 : p < 8 := by omega
      show ∃ y' : Sig × Value, Ex (d + 7) 244 24 [.ref 112, .int v, .int (nI x.1), .int (fo (deF B ω x.1) p (-1, 0)).1, .int (nI (fo (deF B ω x.1) p (-1, 0)).2), .int (nI p), v6] [] G0 s = _ ∧ _
      have eF : fo (deF B ω x.1) (p + 1) (-1, 0) = deF B ω x.1 p (fo (deF B ω x.1) p (-1, 0)) := rfl
      have hb := deF_b (B := B) (ω := ω) (a := x.1) p
      rw [eF]
      generalize fo (deF B ω x.1) p (-1, 0) = st at hb ⊢
      have q : (nI (np ω) ≤ nI p) = False := by rw [nJ_le (by omega) (by omega)]; exact eq_false (by omega)
      rw [b244_24, m_places, m_pl ms hW]
      simp only [Option.bind_some, Option.toList_some, Option.toList_none, List.cons_append, List.nil_append, i01a, i01b, if_true, if_false, b244_30, q, q2, i10, i01, eq_self, if_true, if_false, true_and, false_and, and_true, and_false, not_true, not_false_iff, true_or, or_true, false_or, or_false, ne_eq, not_true_eq_false, not_false_eq_true, M_t0 iv hp8, nI_s]
      by_cases k : kpt ω p = true
      · have k' : (kpt ω p = false) = False := eq_false (by rw [k]; decide)
        obtain ⟨s1, e1, m1, k1, z1, b1, f1⟩ := m_leastSpread (h := fun q => kpt ω q && !decide (q = p)) d ms hW kpt_m (M_dif iv (M_1 hp8))
        have Fs : Fr SCX ((112, 0) :: SLX) σ s1 := Fr_t fs (Fr_m f1 (fun _ h => h) (fun x hx => Or.inl (List.mem_cons_of_mem _ hx)))
        have Is : MR B T ω s1 ∧ (∀ k, k < 31 → s1 113 k = σ 113 k) ∧ s1 112 5 = 0 ∧ Fr SCX ((112, 0) :: SLX) σ s1 := ⟨m1, fun k hk => (k1 k hk).trans (ks k hk), z1, Fs⟩
        simp only [k', i10, i01, eq_self, if_true, if_false, true_and, false_and, and_true, and_false, not_true, not_false_iff, true_or, or_true, false_or, or_false, ne_eq, not_true_eq_false, not_false_eq_true, e1, Option.bind_some, Option.toList_some, Option.toList_none, List.cons_append, List.nil_append, i01a, i01b, if_true, if_false, b244_65, m_greater, b244_90, nI_s]
        unfold deF
        rw [if_pos k]
        cases ho : orS B ω (fun q => kpt ω q && !decide (q = p)) with
        | none =>
          have e0 : moA none = nI 1000000 := rfl
          have dl := (de_le hx (show 1000000 ≤ 1000000 by omega) (show st.2 ≤ 1000 by omega)).1
          have l : nI x.1 - nI 1000000 ≤ nI st.2 := by rw [dl]; omega
          simp only [e0, eq_true l, i10, i01, eq_self, if_true, if_false, true_and, false_and, and_true, and_false, not_true, not_false_iff, true_or, or_true, false_or, or_false, ne_eq, not_true_eq_false, not_false_eq_true, mx_le l]
          exact ⟨(s1, _), rfl, Is⟩
        | some y =>
          have hy := (b1 y ho).1
          have ey : moA (some y) = nI y.1 := rfl
          have dl := (de_le hx (show y.1 ≤ 1000000 by omega) (show st.2 ≤ 1000 by omega)).1
          simp only [ey]
          by_cases c : y.1 + st.2 < x.1
          · have l : ¬ nI x.1 - nI y.1 ≤ nI st.2 := by rw [dl]; omega
            rw [nI_sub' (show y.1 ≤ x.1 by omega)] at l
            simp only [nI_sub' (show y.1 ≤ x.1 by omega), eq_false l, eq_true c, i10, i01, eq_self, if_true, if_false, true_and, false_and, and_true, and_false, not_true, not_false_iff, true_or, or_true, false_or, or_false, ne_eq, not_true_eq_false, not_false_eq_true, mx_gt l]
            exact ⟨(s1, _), rfl, Is⟩
          · have l : nI x.1 - nI y.1 ≤ nI st.2 := by rw [dl]; exact c
            simp only [eq_true l, eq_false c, i10, i01, eq_self, if_true, if_false, true_and, false_and, and_true, and_false, not_true, not_false_iff, true_or, or_true, false_or, or_false, ne_eq, not_true_eq_false, not_false_eq_true, mx_le l]
            exact ⟨(s1, _), rfl, Is⟩
      · have k' : (kpt ω p = false) = True := eq_true (by simpa using k)
        simp only [k', i10, i01, eq_self, if_true, if_false, true_and, false_and, and_true, and_false, not_true, not_false_iff, true_or, or_true, false_or, or_false, ne_eq, not_true_eq_false, not_false_eq_true]
        unfold deF
        rw [if_neg k]
        exact ⟨(s, v6), rfl, ms, ks, zs, fs⟩)
    rw [show Ex (d + 7) 244 24 [.ref 112, .int v, .int (nI x.1), .int (-1), .int 0, .int 0, .null] [] G0 σ1 = _ from e]
    show ∃ σ', Ex (d + 7) 244 24 [.ref 112, .int v, .int (nI x.1), .int (fo (deF B ω x.1) (np ω) (-1, 0)).1, .int (nI (fo (deF B ω x.1) (np ω) (-1, 0)).2), .int (nI (np ω)), v6] [] G0 s = _ ∧ _
    have q : (nI (np ω) ≤ nI (np ω)) = True := by rw [nJ_le (by omega) (by omega)]; exact eq_true (by omega)
    rw [b244_24, m_places, m_pl i.1 hW]
    simp only [Option.bind_some, Option.toList_some, Option.toList_none, List.cons_append, List.nil_append, i01a, i01b, if_true, if_false, b244_30, q, i10, i01, eq_self, if_true, if_false, true_and, false_and, and_true, and_false, not_true, not_false_iff, true_or, or_true, false_or, or_false, ne_eq, not_true_eq_false, not_false_eq_true]
    refine ⟨s, ?_, i⟩
    have : deA B ω = (fo (deF B ω x.1) (np ω) (-1, 0)).1 := by
      unfold deA; rw [hs]
      show (fo (deF B ω x.1) 8 (-1, 0)).1 = _
      rw [fo_ext n8' (fun p a h1 _ => by unfold deF; rw [if_neg (by intro k; have := (of_decide_eq_true k).1; omega)])]
    rw [this]
abbrev okFt (B : LW) (ω w : Sig) (p : Nat) : Prop := bearS B w 0 0 ∧ ∀ q, q < p → ω 13 q ≠ -1 → ω 13 q = nI (loadS B w 0 0 q)
def KC (ω : Sig) (st : Nat × List Nat) (σ : Sig) : Prop := st.1 ≠ 0 → ∀ p, p < np ω → σ 141 p = nI (wv st.2 p)
theorem KC_q {ω : Sig} {st : Nat × List Nat} {σ σ' : Sig} (k : KC ω st σ) (e : σ' 141 = σ 141) : KC ω st σ' := fun c p hp => by rw [e]; exact k c p hp
theorem m_fitsL {B T : LW} {ω : Sig} (hW : WI B T ω) (a1 : Int32) (d : Nat) (R : Int32 → Value → Value → Sig → Option Out) (hR : ∀ a v u s, Ex (d + 6) 245 43 [.ref 112, .int a1, .int a, v, u] [.int 0] G0 s = R a v u s) : ∀ L (st : Nat × List Nat) σ w0 a3 a4, st.1 + L.length ≤ 2 ^ 30 → RemS ω (fun _ => false) L σ → Tq ω w0 → MR B T w0 σ → KC ω st σ → ∃ σ' a3' a4', Ex (d + 6) 245 39 [.ref 112, .int a1, .int (nI st.1), a3, a4] [] G0 σ = R (nI (fdl (jF B ω) L st).1) a3' a4' σ' ∧ KC ω (fdl (jF B ω) L st) σ' ∧ Fr SCN SLN σ σ' := by
  obtain ⟨n4, n8', en⟩ := WI_np hW
  have h10 : wi B T ω 10 := hW 10
  intro L
  induction L with
  | nil =>
    intro st σ w0 a3 a4 hn r q0 hM kb
    obtain ⟨σ1, e1, f1⟩ := (m_nextWay (d + 2) hW (fun _ _ h => by cases h) r).1 rfl
    have e1' : Ex (d + 5) 239 0 [.ref 112, .null] [] G0 σ = some (some (.int 0), G0, σ1) := e1
    rw [b245_39, e1']
    simp only [Option.bind_some, Option.toList_some, Option.toList_none, List.cons_append, List.nil_append, i01a, i01b, if_true, if_false]
    exact ⟨σ1, a3, a4, hR _ _ _ _, KC_q kb (Fr_q f1 (by decide) (by decide)), Fr_m f1 (by decide) (by decide)⟩
  | cons w L ih =>
    intro st σ w0 a3 a4 hn r q0 hM kb
    rw [List.length_cons] at hn
    obtain ⟨σ1, e1, hl, hv, t1, r1, f1⟩ := (m_nextWay (d + 2) hW (fun _ _ h => by cases h) r).2 w L rfl
    have e1' : Ex (d + 5) 239 0 [.ref 112, .null] [] G0 σ = some (some (.int 1), G0, σ1) := e1
    have hM1 : MR B T w0 σ1 := MR_S hM f1 (by decide) (by decide)
    obtain ⟨σ2, e2, hM2, f2⟩ := m_sets (d + 3) hW q0 hM1 hl t1
    have e2' : Ex (d + 5) 240 0 [.ref 112, .null] [] G0 σ1 = some (none, G0, σ2) := e2
    have hWt := WI_tw hW hl hv
    obtain ⟨σ3, e3, f3, hM3, l3, k3⟩ := m_bears d hM2 hWt bw0 0
    have r3 : RemS ω (fun _ => false) L σ3 := RemS_fr (RemS_fr r1 f2 (by decide) (by simp) (by simp)) f3 (by decide) (by simp) (by simp)
    have t3 : TS ω (fun _ => false) w (np ω) σ3 := TS_fr (TS_fr t1 f2 (by decide) (by simp)) f3 (by decide) (by simp)
    have F3 : Fr SCN SLN σ σ3 := Fr_t (Fr_m f1 (by decide) (by decide)) (Fr_t (Fr_m f2 (by decide) (by simp)) (Fr_m f3 (by decide) (by decide)))
    have kb3 : KC ω st σ3 := KC_q kb (by rw [Fr_q f3 (by decide) (by decide), Fr_q f2 (by decide) (by simp), Fr_q f1 (by decide) (by decide)])
    have h23 : mr B T (tw ω w) σ3 23 := hM3 23
    have e122 : ∀ p, p < 8 → σ3 122 p = ω 13 p + 1 := fun p hp => by rw [h23 p hp, tw_q (by decide)]
    rw [b245_39, e1']
    simp only [Option.bind_some, Option.toList_some, Option.toList_none, List.cons_append, List.nil_append, i01a, i01b, if_true, if_false, b245_43, i10, i10, i01, eq_self, if_true, if_false, true_and, false_and, and_true, and_false, not_true, not_false_iff, true_or, or_true, false_or, or_false, ne_eq, not_true_eq_false, not_false_eq_true, e2', b245_50, e3, b245_56]
    obtain ⟨x, e, i1, i2⟩ := loop_ex (fun p (x : Int32) => Ex (d + 6) 245 60 [.ref 112, .int a1, .int (nI st.1), .int x, .int (nI p)] [] G0 σ3) (fun p x => (okFt B ω (tw ω w) p → x = 1) ∧ (¬ okFt B ω (tw ω w) p → x = 0)) (np ω) (bI (bearS B (tw ω w) 0 0)) ⟨fun h => bI_T h.1, fun h => bI_F (fun k => h ⟨k, fun q hq => by omega⟩)⟩ (by
      rintro p x hp ⟨i1, i2⟩
      show ∃ x', Ex (d + 6) 245 60 [.ref 112, .int a1, .int (nI st.1), .int x, .int (nI p)] [] G0 σ3 = _ ∧ _
      have p8 : p < 8 := by omega
      have qq : (nI (np ω) ≤ nI p) = False := by rw [nJ_le (by omega) (by omega)]; exact eq_false (by omega)
      have qs : (ω 13 p + 1 ≤ 0) = (ω 13 p = -1) := by
        obtain ⟨b1, b2⟩ := h10 p p8
        have hadd : (ω 13 p + 1).toInt = (ω 13 p).toInt + 1 := by
          rw [Int32.toInt_add]
          have h1 : (1 : Int32).toInt = 1 := rfl
          rw [h1]; exact Int.bmod_eq_of_le (by omega) (by omega)
        rw [Int32.le_iff_toInt_le, hadd]
        have h0 : (0 : Int32).toInt = 0 := rfl
        refine propext ⟨fun h => Int32.toInt_inj.mp ?_, fun h => ?_⟩
        · have h1 : (-1 : Int32).toInt = -1 := rfl
          omega
        · have h1 : (-1 : Int32).toInt = -1 := rfl
          rw [h, h1]; decide
      have ql : (nI (loadS B (tw ω w) 0 0 p) = ω 13 p) = (ω 13 p = nI (loadS B (tw ω w) 0 0 p)) := propext ⟨Eq.symm, Eq.symm⟩
      rw [b245_60, m_places, TS_pl hW t3]
      simp only [Option.bind_some, Option.toList_some, Option.toList_none, List.cons_append, List.nil_append, i01a, i01b, if_true, if_false, b245_66, qq, i10, i01, eq_self, if_true, if_false, true_and, false_and, and_true, and_false, not_true, not_false_iff, true_or, or_true, false_or, or_false, ne_eq, not_true_eq_false, not_false_eq_true, i8 p8, c8 p8, e122 p p8, l3 p p8, s1a, qs, ql, nI_s]
      have same : (ω 13 p ≠ -1 → ω 13 p = nI (loadS B (tw ω w) 0 0 p)) → (okFt B ω (tw ω w) (p + 1) ↔ okFt B ω (tw ω w) p) := fun k => ⟨fun h => ⟨h.1, fun q hq => h.2 q (by omega)⟩, fun h => ⟨h.1, fun q hq => by
        by_cases e : q = p
        · subst e; exact k
        · exact h.2 q (by omega)⟩⟩
      by_cases c1 : ω 13 p = -1
      · have sm := same (fun k => absurd c1 k)
        simp only [eq_true c1, i10, i01, eq_self, if_true, if_false, true_and, false_and, and_true, and_false, not_true, not_false_iff, true_or, or_true, false_or, or_false, ne_eq, not_true_eq_false, not_false_eq_true]
        exact ⟨x, rfl, fun h => i1 (sm.mp h), fun h => i2 (fun k => h (sm.mpr k))⟩
      · simp only [eq_false c1, i10, i01, eq_self, if_true, if_false, true_and, false_and, and_true, and_false, not_true, not_false_iff, true_or, or_true, false_or, or_false, ne_eq, not_true_eq_false, not_false_eq_true]
        by_cases c2 : ω 13 p = nI (loadS B (tw ω w) 0 0 p)
        · have sm := same (fun _ => c2)
          simp only [eq_true c2, i10, i01, eq_self, if_true, if_false, true_and, false_and, and_true, and_false, not_true, not_false_iff, true_or, or_true, false_or, or_false, ne_eq, not_true_eq_false, not_false_eq_true]
          exact ⟨x, rfl, fun h => i1 (sm.mp h), fun h => i2 (fun k => h (sm.mpr k))⟩
        · simp only [eq_false c2, i10, i01, eq_self, if_true, if_false, true_and, false_and, and_true, and_false, not_true, not_false_iff, true_or, or_true, false_or, or_false, ne_eq, not_true_eq_false, not_false_eq_true]
          exact ⟨0, rfl, fun h => absurd (h.2 p (by omega) c1) c2, fun _ => rfl⟩)
    rw [show Ex (d + 6) 245 60 [.ref 112, .int a1, .int (nI st.1), .int (bI (bearS B (tw ω w) 0 0)), .int 0] [] G0 σ3 = _ from e]
    show ∃ σ' a3' a4', Ex (d + 6) 245 60 [.ref 112, .int a1, .int (nI st.1), .int x, .int (nI (np ω))] [] G0 σ3 = _ ∧ _
    have q : (nI (np ω) ≤ nI (np ω)) = True := by rw [nJ_le (by omega) (by omega)]; exact eq_true (by omega)
    rw [b245_60, m_places, TS_pl hW t3]
    simp only [Option.bind_some, Option.toList_some, Option.toList_none, List.cons_append, List.nil_append, i01a, i01b, if_true, if_false, b245_66, q, i10, i01, eq_self, if_true, if_false, true_and, false_and, and_true, and_false, not_true, not_false_iff, true_or, or_true, false_or, or_false, ne_eq, not_true_eq_false, not_false_eq_true, nI_z (show st.1 < 2 ^ 31 by omega), nI_s]
    have eok : okFt B ω (tw ω w) (np ω) ↔ (bearS B (tw ω w) 0 0 ∧ seenS B ω (tw ω w)) := Iff.rfl
    by_cases c : okFt B ω (tw ω w) (np ω)
    · have ej := jF_y (st := st) (eok.mp c)
      have ej1 : (jF B ω w st).1 = st.1 + 1 := by rw [ej]
      rw [i1 c]
      by_cases y : st.1 = 0
      · simp only [i10, i01, eq_self, if_true, if_false, true_and, false_and, and_true, and_false, not_true, not_false_iff, true_or, or_true, false_or, or_false, ne_eq, not_true_eq_false, not_false_eq_true, eq_true y]
        obtain ⟨s, e, f, i1⟩ := loop_ex (fun p (s : Sig) => Ex (d + 6) 245 120 [.ref 112, .int a1, .int (nI st.1), .int 1, .int (nI p)] [] G0 s) (fun p s => Fr [141] [] σ3 s ∧ (∀ q, q < p → s 141 q = nI (wv w q))) (np ω) σ3 ⟨Fr_r, fun q hq => by omega⟩ (by
          rintro p s hp ⟨f, i1⟩
          show ∃ s', Ex (d + 6) 245 120 [.ref 112, .int a1, .int (nI st.1), .int 1, .int (nI p)] [] G0 s = _ ∧ _
          have p8 : p < 8 := by omega
          have ts : TS ω (fun _ => false) w (np ω) s := TS_fr t3 f (by decide) (by simp)
          have qq : (nI (np ω) ≤ nI p) = False := by rw [nJ_le (by omega) (by omega)]; exact eq_false (by omega)
          rw [b245_120, m_places, TS_pl hW ts]
          simp only [Option.bind_some, Option.toList_some, Option.toList_none, List.cons_append, List.nil_append, i01a, i01b, if_true, if_false, b245_126, qq, i10, i01, eq_self, if_true, if_false, true_and, false_and, and_true, and_false, not_true, not_false_iff, true_or, or_true, false_or, or_false, ne_eq, not_true_eq_false, not_false_eq_true, i8 p8, c8 p8, nI_s]
          refine ⟨_, rfl, Fr_p f (Or.inl (by simp)), fun q hq => ?_⟩
          by_cases e : q = p
          · subst e; rw [pt_e, ts.2.2.2.1 q (by omega)]
          · rw [pt_k (by omega)]; exact i1 q (by omega))
        rw [show Ex (d + 6) 245 120 [.ref 112, .int a1, .int (nI st.1), .int 1, .int 0] [] G0 σ3 = _ from e]
        show ∃ σ' a3' a4', Ex (d + 6) 245 120 [.ref 112, .int a1, .int (nI st.1), .int 1, .int (nI (np ω))] [] G0 s = _ ∧ _
        have ts : TS ω (fun _ => false) w (np ω) s := TS_fr t3 f (by decide) (by simp)
        rw [b245_120, m_places, TS_pl hW ts]
        simp only [Option.bind_some, Option.toList_some, Option.toList_none, List.cons_append, List.nil_append, i01a, i01b, if_true, if_false, b245_126, q, i10, i01, eq_self, if_true, if_false, true_and, false_and, and_true, and_false, not_true, not_false_iff, true_or, or_true, false_or, or_false, ne_eq, not_true_eq_false, not_false_eq_true, nI_s]
        have kbs : KC ω (jF B ω w st) s := by
          rw [ej]; intro _; rw [if_pos y]; exact i1
        obtain ⟨σ', a3', a4', g1, g2, g3⟩ := ih (jF B ω w st) s (tw ω w) (.int 1) (.int (nI (np ω))) (by rw [ej1]; omega) (RemS_fr r3 f (by decide) (by simp) (by simp)) Tq_w (MR_S hM3 f (by decide) (by simp)) kbs
        rw [ej1] at g1
        exact ⟨σ', a3', a4', g1, g2, Fr_t F3 (Fr_t (Fr_m f (by decide) (by simp)) g3)⟩
      · simp only [i10, i01, eq_self, if_true, if_false, true_and, false_and, and_true, and_false, not_true, not_false_iff, true_or, or_true, false_or, or_false, ne_eq, not_true_eq_false, not_false_eq_true, eq_false y]
        have kbs : KC ω (jF B ω w st) σ3 := by
          rw [ej]; intro _; rw [if_neg y]; exact kb3 y
        obtain ⟨σ', a3', a4', g1, g2, g3⟩ := ih (jF B ω w st) σ3 (tw ω w) (.int 1) (.int (nI (np ω))) (by rw [ej1]; omega) r3 Tq_w hM3 kbs
        rw [ej1] at g1
        exact ⟨σ', a3', a4', g1, g2, Fr_t F3 g3⟩
    · have ej := jF_n (st := st) (fun h => c (eok.mpr h))
      rw [i2 c]
      simp only [i10, i01, eq_self, if_true, if_false, true_and, false_and, and_true, and_false, not_true, not_false_iff, true_or, or_true, false_or, or_false, ne_eq, not_true_eq_false, not_false_eq_true]
      obtain ⟨σ', a3', a4', g1, g2, g3⟩ := ih st σ3 (tw ω w) (.int 0) (.int (nI (np ω))) (by omega) r3 Tq_w hM3 kb3
      have : fdl (jF B ω) (w :: L) st = fdl (jF B ω) L st := by show fdl (jF B ω) L (jF B ω w st) = _; rw [ej]
      rw [this]
      exact ⟨σ', a3', a4', g1, g2, Fr_t F3 g3⟩
theorem m_fits (d : Nat) {B T : LW} {ω σ : Sig} (a : Int32) (hM : MR B T ω σ) (hW : WI B T ω) (h5 : σ 112 5 = 0) :
    ∃ σ', Ex (d + 6) 245 0 [.ref 112, .int a, .null, .null, .null] [] G0 σ = some (some (.int (fitsA B ω a)), G0, σ') ∧ MR B T ω σ' ∧ (∀ k, k < 31 → σ' 113 k = σ 113 k) ∧ σ' 112 5 = 0 ∧ Fr SCX ((112, 0) :: SLX) σ σ' := by
  obtain ⟨_, n8', en⟩ := WI_np hW
  obtain ⟨_, s8⟩ : wi B T ω 5 := hW 5
  have hM0 := m_p0 hM
  have f0 : Fr SCX ((112, 0) :: SLX) σ (pt σ 112 0 0) := Fr_p Fr_r (Or.inr (by simp))
  by_cases ca : a = 0 ∨ (10 ≤ a ∧ a ≤ 9 + 2 * ω 8 0)
  · obtain ⟨σ1, e1, t1, d1, f1⟩ := m_beginsWays (d + 4) hM0 M_0
    have e1' : Ex (d + 5) 237 0 [.ref 112, .int 0, .null] [] G0 (pt σ 112 0 0) = some (none, G0, σ1) := e1
    have hM1 : MR B T ω σ1 := MR_S hM0 f1 (by decide) (by decide)
    obtain ⟨σ2, e2, f2, k2, z2⟩ := m_thinks (d + 5) σ1
    have e2' : Ex (d + 5) 148 0 [.ref 112, .null] [] G0 σ1 = some (none, G0, σ2) := e2
    have hM2 : MR B T ω σ2 := MR_S hM1 f2 (by decide) (by decide)
    have r2 : RemS ω (fun _ => false) (exL (cnW ω (fun _ => false) (np ω)) (sz ω) (np ω) []) σ2 := Or.inl ⟨TS_fr t1 f2 (by decide) (by simp), by rw [f2 112 53 (by decide) (by decide)]; exact d1, rfl⟩
    obtain ⟨σ3, a3, a4, e3, k3, f3⟩ := m_fitsL hW a d (fun x v u s => Ex (d + 6) 245 43 [.ref 112, .int a, .int x, v, u] [.int 0] G0 s) (fun _ _ _ _ => rfl) _ (0, []) σ2 ω .null .null (ex_le s8 n8') r2 Tq_r hM2 (fun c => absurd rfl c)
    obtain ⟨σ4, e4, f4, k4, z4, _⟩ := m_ends (d + 4) σ3
    have e4' : Ex (d + 5) 150 0 [.ref 112] [] G0 σ3 = some (none, G0, σ4) := e4
    have e0 : nI ((0 : Nat), ([] : List Nat)).1 = 0 := rfl
    rw [e0] at e3
    have bn : (fiT B ω).1 < 2 ^ 31 := by
      have h1 := jF_le (B := B) (ω := ω) (exL (cnW ω (fun _ => false) (np ω)) (sz ω) (np ω) []) (0, [])
      have h2 := ex_le (c := cnW ω (fun _ => false) (np ω)) s8 n8'
      have h3 : fiT B ω = fdl (jF B ω) (exL (cnW ω (fun _ => false) (np ω)) (sz ω) (np ω) []) (0, []) := rfl
      rw [h3]; omega
    have k4' : KC ω (fiT B ω) σ4 := KC_q k3 (Fr_q f4 (by decide) (by decide))
    have fin : ∀ d, Ex d 245 160 [.ref 112, .int a, .int (nI (fiT B ω).1), a3, a4] [] G0 σ4 = some (some (.int (fitsA B ω a)), G0, σ4) := by
      intro d
      rw [b245_160]
      simp only [nI_z bn]
      unfold fitsA
      rw [if_pos ca]
      by_cases c0 : a = 0
      · simp only [eq_true c0, i10, i01, eq_self, if_true, if_false, true_and, false_and, and_true, and_false, not_true, not_false_iff, true_or, or_true, false_or, or_false, ne_eq, not_true_eq_false, not_false_eq_true]
      · obtain ⟨p, hp, p8, ep⟩ := pa_ix hW (ca.resolve_left c0)
        simp only [eq_false c0, i10, i01, eq_self, if_true, if_false, true_and, false_and, and_true, and_false, not_true, not_false_iff, true_or, or_true, false_or, or_false, ne_eq, not_true_eq_false, not_false_eq_true]
        by_cases cn : (fiT B ω).1 = 0
        · simp only [eq_true cn, i10, i01, eq_self, if_true, if_false, true_and, false_and, and_true, and_false, not_true, not_false_iff, true_or, or_true, false_or, or_false, ne_eq, not_true_eq_false, not_false_eq_true]
        · simp only [eq_false cn, i10, i01, eq_self, if_true, if_false, true_and, false_and, and_true, and_false, not_true, not_false_iff, true_or, or_true, false_or, or_false, ne_eq, not_true_eq_false, not_false_eq_true, ep, i8 p8, c8 p8, k4' cn p hp]
    have h113 : ∀ k, k < 31 → σ4 113 k = σ 113 k := fun k hk => by
      rw [k4 k hk, f3 115 k (by decide) (by unfold SLN; simp), k2 k hk, f1 113 k (by decide) (by simp), pt_q (by decide)]
    have F : Fr SCX ((112, 0) :: SLX) σ σ4 := Fr_t f0 (Fr_t (Fr_m f1 (by decide) (by decide)) (Fr_t (Fr_m f2 (by decide) (by decide)) (Fr_t (Fr_m f3 (by decide) (by decide)) (Fr_m f4 (by decide) (by decide)))))
    have hE : fdl (jF B ω) (exL (cnW ω (fun _ => false) (np ω)) (sz ω) (np ω) []) (0, []) = fiT B ω := rfl
    rw [hE] at e3
    refine ⟨σ4, ?_, MR_back hM h113 (fun q hq => Fr_q F (by revert q; decide) (by revert q; decide)) (fun k hk => F 112 k (by decide) (by revert k; decide)), h113, z4, F⟩
    by_cases c0 : a = 0
    · simp only [b245_0, eq_true c0, i10, i01, eq_self, if_true, if_false, true_and, false_and, and_true, and_false, not_true, not_false_iff, true_or, or_true, false_or, or_false, ne_eq, not_true_eq_false, not_false_eq_true, e1', Option.bind_some, Option.toList_some, Option.toList_none, List.cons_append, List.nil_append, i01a, i01b, if_true, if_false, b245_35, e2', e3, b245_43, e4']
      exact fin _
    · simp only [b245_0, eq_false c0, i10, i01, eq_self, if_true, if_false, true_and, false_and, and_true, and_false, not_true, not_false_iff, true_or, or_true, false_or, or_false, ne_eq, not_true_eq_false, not_false_eq_true, m_places, Option.bind_some, Option.toList_some, Option.toList_none, List.cons_append, List.nil_append, i01a, i01b, if_true, if_false, b245_19, m_pp hM0, m_isIn, b245_23, bI_z, bI_o, bI_em, ite_not, eq_true (ca.resolve_left c0), e1', b245_35, e2', e3, b245_43, e4']
      exact fin _
  · have c0 : ¬ a = 0 := fun e => ca (Or.inl e)
    have c1 : ¬ (10 ≤ a ∧ a ≤ 9 + 2 * ω 8 0) := fun e => ca (Or.inr e)
    refine ⟨pt σ 112 0 0, ?_, hM0, fun k _ => by rw [pt_q (by decide)], by rw [pt_k (by decide)]; exact h5, f0⟩
    unfold fitsA
    rw [if_neg ca]
    simp only [b245_0, eq_false c0, i10, i01, eq_self, if_true, if_false, true_and, false_and, and_true, and_false, not_true, not_false_iff, true_or, or_true, false_or, or_false, ne_eq, not_true_eq_false, not_false_eq_true, m_places, Option.bind_some, Option.toList_some, Option.toList_none, List.cons_append, List.nil_append, i01a, i01b, if_true, if_false, b245_19, m_pp hM0, m_isIn, b245_23, bI_z, bI_o, bI_em, ite_not, eq_false c1]
