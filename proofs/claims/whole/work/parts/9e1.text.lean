/-! L3: text -/
theorem c_lcp0 (d : Nat) {m : Nat} {σ : Sig} (h : σ 40 1 = nI m) (hm : m ≤ 400) : Ex d 26 0 [.ref 14, .ref 40] [] G0 σ = some (none, G0, cpS (pt (pt σ 14 0 (σ 40 0)) 14 1 (nI m)) 41 15 m) := by
  have p1 : pt σ 14 0 (σ 40 0) 40 1 = nI m := by rw [pt_q (by decide)]; exact h
  have p2 : pt (pt σ 14 0 (σ 40 0)) 14 1 (nI m) 14 1 = nI m := pt_e
  rw [b26k0_0]
  simp only [p1, p2]
  refine Eq.trans (st_cp (n := 400) (m := 400) rfl rfl rfl hm hm (by omega)) ?_
  show Ex d 26 33 _ _ _ _ = _
  rw [b26k0_33]
theorem c_lcp1 (d : Nat) {m : Nat} {σ : Sig} (h : σ 43 1 = nI m) (hm : m ≤ 400) : Ex d 26 0 [.ref 17, .ref 43] [] G0 σ = some (none, G0, cpS (pt (pt σ 17 0 (σ 43 0)) 17 1 (nI m)) 44 18 m) := by
  have p1 : pt σ 17 0 (σ 43 0) 43 1 = nI m := by rw [pt_q (by decide)]; exact h
  have p2 : pt (pt σ 17 0 (σ 43 0)) 17 1 (nI m) 17 1 = nI m := pt_e
  rw [b26k1_0]
  simp only [p1, p2]
  refine Eq.trans (st_cp (n := 400) (m := 400) rfl rfl rfl hm hm (by omega)) ?_
  show Ex d 26 33 _ _ _ _ = _
  rw [b26k1_33]
theorem c_lcp2 (d : Nat) {m : Nat} {σ : Sig} (h : σ 14 1 = nI m) (hm : m ≤ 400) : Ex d 26 0 [.ref 40, .ref 14] [] G0 σ = some (none, G0, cpS (pt (pt σ 40 0 (σ 14 0)) 40 1 (nI m)) 15 41 m) := by
  have p1 : pt σ 40 0 (σ 14 0) 14 1 = nI m := by rw [pt_q (by decide)]; exact h
  have p2 : pt (pt σ 40 0 (σ 14 0)) 40 1 (nI m) 40 1 = nI m := pt_e
  rw [b26k2_0]
  simp only [p1, p2]
  refine Eq.trans (st_cp (n := 400) (m := 400) rfl rfl rfl hm hm (by omega)) ?_
  show Ex d 26 33 _ _ _ _ = _
  rw [b26k2_33]
theorem c_lcp3 (d : Nat) {m : Nat} {σ : Sig} (h : σ 17 1 = nI m) (hm : m ≤ 400) : Ex d 26 0 [.ref 43, .ref 17] [] G0 σ = some (none, G0, cpS (pt (pt σ 43 0 (σ 17 0)) 43 1 (nI m)) 18 44 m) := by
  have p1 : pt σ 43 0 (σ 17 0) 17 1 = nI m := by rw [pt_q (by decide)]; exact h
  have p2 : pt (pt σ 43 0 (σ 17 0)) 43 1 (nI m) 43 1 = nI m := pt_e
  rw [b26k3_0]
  simp only [p1, p2]
  refine Eq.trans (st_cp (n := 400) (m := 400) rfl rfl rfl hm hm (by omega)) ?_
  show Ex d 26 33 _ _ _ _ = _
  rw [b26k3_33]
theorem c_lcp4 (d : Nat) {m : Nat} {σ : Sig} (h : σ 54 1 = nI m) (hm : m ≤ 400) : Ex d 26 0 [.ref 14, .ref 54] [] G0 σ = some (none, G0, cpS (pt (pt σ 14 0 (σ 54 0)) 14 1 (nI m)) 55 15 m) := by
  have p1 : pt σ 14 0 (σ 54 0) 54 1 = nI m := by rw [pt_q (by decide)]; exact h
  have p2 : pt (pt σ 14 0 (σ 54 0)) 14 1 (nI m) 14 1 = nI m := pt_e
  rw [b26k4_0]
  simp only [p1, p2]
  refine Eq.trans (st_cp (n := 400) (m := 400) rfl rfl rfl hm hm (by omega)) ?_
  show Ex d 26 33 _ _ _ _ = _
  rw [b26k4_33]
theorem c_lcp5 (d : Nat) {m : Nat} {σ : Sig} (h : σ 54 1 = nI m) (hm : m ≤ 400) : Ex d 26 0 [.ref 17, .ref 54] [] G0 σ = some (none, G0, cpS (pt (pt σ 17 0 (σ 54 0)) 17 1 (nI m)) 55 18 m) := by
  have p1 : pt σ 17 0 (σ 54 0) 54 1 = nI m := by rw [pt_q (by decide)]; exact h
  have p2 : pt (pt σ 17 0 (σ 54 0)) 17 1 (nI m) 17 1 = nI m := pt_e
  rw [b26k5_0]
  simp only [p1, p2]
  refine Eq.trans (st_cp (n := 400) (m := 400) rfl rfl rfl hm hm (by omega)) ?_
  show Ex d 26 33 _ _ _ _ = _
  rw [b26k5_33]
def SCTx : List Nat := [53, 54, 55, 57, 58, 59, 60, 61, 63, 64, 65, 66]
def RTL (n N : Nat) (F : Nat → Nat) (A C : Nat) (σ : Sig) (r : Sum (Nat × Nat) LW) (v : Int32) (σ' : Sig) : Prop := σ' 53 0 = 0 ∧ match r with
  | .inl (k, x) => v = -1 ∧ σ' 53 1 = nI k ∧ σ' 53 2 = nI (fN n N F x) ∧ Fr SCTx [] σ σ'
  | .inr ls => v = nI ls.length ∧ σ' 53 1 = 0 ∧ σ' 53 2 = -1 ∧ clsLaw (σ' C) (σ' A 0) (σ' A 1) ls ∧ σ' 0 10 = 0 ∧ Fr (C :: SCTx) [(A, 0), (A, 1), (0, 10)] σ σ'
theorem c_text0 (d : Nat) {σ : Sig} {b : Nat → Nat} {n : Nat} (h : TPe b n σ) : ∃ (σ' : Sig) (v : Int32) (N : Nat) (F E : Nat → Nat), Ex (d + 23) 106 0 [.ref 0, .int 0] [] G0 σ = some (some (.int v), G0, σ') ∧ TOK (fun i => sr (b i)) n N F E ∧ RTL n N F 14 15 σ (pLw (kd b N F E) (vN b F E) 15 16 0) v σ' := by
  obtain ⟨s1, N, F, E, e1, kt, h0, h1, h2, h11, h12, f1⟩ := c_open (d + 15) h
  have e1' : Ex (d + 22) 41 0 [.ref 53, .int 1, .null] [] G0 σ = some (none, G0, s1) := e1
  have tk := kt.1
  have hn : n ≤ 400 := h.1
  have hN : N ≤ n := tk.2.2.2
  have hV : ∀ t, kd b N F E t = 30 → vN b F E t ≤ 9999 := fun t ht => (kd_30 tk ht).2.2.2
  obtain ⟨s2, v, e2, r2, f2⟩ := c_readLaw d (g := 15) hV (by decide) (KT_t kt) h11 h12
  have e2' : Ex (d + 22) 48 0 [.ref 53, .int 15, .null, .null] [] G0 s1 = some (some (.int v), G0, s2) := e2
  have F2 : Fr SCTx [] σ s2 := Fr_t (Fr_m f1 (by decide) (by decide)) (Fr_m f2 (by decide) (by decide))
  have bb : bI ((0 : Int32) ≤ 0 ∧ (0 : Int32) ≤ 2) = 1 := bI_T (by decide)
  have g0 : s2 53 0 = 0 := by rw [f2 53 0 (by decide) (by decide)]; exact h0
  refine Exists.elim (?_ : ∃ (σ' : Sig) (v' : Int32), Ex (d + 23) 106 0 [.ref 0, .int 0] [] G0 σ = some (some (.int v'), G0, σ') ∧ RTL n N F 14 15 σ (pLw (kd b N F E) (vN b F E) 15 16 0) v' σ') (fun σ' hx => Exists.elim hx (fun v' hy => ⟨σ', v', N, F, E, hy.1, tk, hy.2⟩))
  rw [b106_0]
  simp only [c_within, Option.bind_some, Option.toList_some, Option.toList_none, List.cons_append, List.nil_append, i01a, i01b, if_true, if_false, b106_10, bb, e1', b106_13, b106_62, i10, i01, eq_self, if_true, if_false, true_and, false_and, and_true, and_false, not_true, not_false_iff, true_or, or_true, false_or, or_false, ne_eq, not_true_eq_false, not_false_eq_true, e2', b106_26]
  cases hw : pLw (kd b N F E) (vN b F E) 15 16 0 with
  | inl y =>
    rw [hw] at r2
    obtain ⟨y1, y2⟩ := y
    have n1 : ((0 : Int32) = 2) = False := eq_false (by decide)
    have n2 : ((1 : Int32) = 2) = False := eq_false (by decide)
    simp only [r2.1, i10, i01, eq_self, if_true, if_false, true_and, false_and, and_true, and_false, not_true, not_false_iff, true_or, or_true, false_or, or_false, ne_eq, not_true_eq_false, not_false_eq_true, n1, n2, b106_62]
    exact ⟨s2, _, rfl, g0, rfl, r2.2.1, r2.2.2, F2⟩
  | inr ls =>
    rw [hw] at r2
    obtain ⟨v1, c1, c2, c3, c4⟩ := r2
    obtain ⟨w1, w2, w3, w4, w5⟩ := pLw_k kd_e hV (by decide) 16 0 ls (Nat.zero_le _) hw
    have hf : (flt ls).length ≤ 400 := by omega
    have c1' : CO (flt ls) s2 := c1
    have cp := c_lcp4 (d + 22) c1'.1 hf
    have n10 : ((1 : Int32) = 0) = False := eq_false (by decide)
    have c2' : s2 54 0 = nI ls.length := by rw [c2]; congr 1; omega
    have A0 : cpS (pt (pt s2 14 0 (s2 54 0)) 14 1 (nI (flt ls).length)) 55 15 (flt ls).length 14 0 = nI ls.length := by rw [cpS_q (by decide), pt_k (by decide), pt_e]; exact c2'
    have A1 : cpS (pt (pt s2 14 0 (s2 54 0)) 14 1 (nI (flt ls).length)) 55 15 (flt ls).length 14 1 = nI (flt ls).length := by rw [cpS_q (by decide), pt_e]
    have AC : ∀ i, i < (flt ls).length → cpS (pt (pt s2 14 0 (s2 54 0)) 14 1 (nI (flt ls).length)) 55 15 (flt ls).length 15 i = (flt ls).getD i 0 := fun i hi => by
      rw [cpS_k (by exact hi), pt_q (by decide), pt_q (by decide)]; exact c1.2 i hi
    have Aq : ∀ q k, q ≠ 15 → (q = 14 → k ≠ 0 ∧ k ≠ 1) → cpS (pt (pt s2 14 0 (s2 54 0)) 14 1 (nI (flt ls).length)) 55 15 (flt ls).length q k = s2 q k := fun q k h1 h2 => by
      rw [cpS_q h1, pt_ap, if_neg (fun e => (h2 e.1).2 e.2), pt_ap, if_neg (fun e => (h2 e.1).1 e.2)]
    simp only [v1, n10, i10, i01, eq_self, if_true, if_false, true_and, false_and, and_true, and_false, not_true, not_false_iff, true_or, or_true, false_or, or_false, ne_eq, not_true_eq_false, not_false_eq_true, cp, Option.bind_some, Option.toList_some, Option.toList_none, List.cons_append, List.nil_append, i01a, i01b, if_true, if_false, b106_46]
    generalize cpS (pt (pt s2 14 0 (s2 54 0)) 14 1 (nI (flt ls).length)) 55 15 (flt ls).length = s3 at A0 A1 AC Aq
    have A0' : pt s3 0 10 0 14 0 = nI ls.length := by rw [pt_q (by decide)]; exact A0
    have g1 : s2 53 1 = 0 := by rw [c3]; exact h1
    have g2 : s2 53 2 = -1 := by rw [c4]; exact h2
    refine ⟨_, _, rfl, ?_, A0', ?_, ?_, ⟨A0', ?_, fun i hi => ?_⟩, pt_e, ?_⟩
    · rw [pt_q (by decide), Aq 53 0 (by decide) (by decide)]; exact g0
    · rw [pt_q (by decide), Aq 53 1 (by decide) (by decide)]; exact g1
    · rw [pt_q (by decide), Aq 53 2 (by decide) (by decide)]; exact g2
    · rw [pt_q (by decide)]; exact A1
    · rw [pt_q (by decide)]; exact AC i hi
    · intro q k h1 h2
      rw [pt_ap, if_neg (fun e => h2 (by rw [e.1, e.2]; simp)), Aq q k (fun e => h1 (by rw [e]; simp)) (fun e => ⟨fun e2 => h2 (by rw [e, e2]; simp), fun e2 => h2 (by rw [e, e2]; simp)⟩)]
      exact F2 q k (fun e => h1 (List.mem_cons_of_mem _ e)) (by simp)
theorem c_text1 (d : Nat) {σ : Sig} {b : Nat → Nat} {n : Nat} (h : TPe b n σ) : ∃ (σ' : Sig) (v : Int32) (N : Nat) (F E : Nat → Nat), Ex (d + 23) 106 0 [.ref 0, .int 1] [] G0 σ = some (some (.int v), G0, σ') ∧ TOK (fun i => sr (b i)) n N F E ∧ RTL n N F 17 18 σ (pLw (kd b N F E) (vN b F E) 16 16 0) v σ' := by
  obtain ⟨s1, N, F, E, e1, kt, h0, h1, h2, h11, h12, f1⟩ := c_open (d + 15) h
  have e1' : Ex (d + 22) 41 0 [.ref 53, .int 1, .null] [] G0 σ = some (none, G0, s1) := e1
  have tk := kt.1
  have hn : n ≤ 400 := h.1
  have hN : N ≤ n := tk.2.2.2
  have hV : ∀ t, kd b N F E t = 30 → vN b F E t ≤ 9999 := fun t ht => (kd_30 tk ht).2.2.2
  obtain ⟨s2, v, e2, r2, f2⟩ := c_readLaw d (g := 16) hV (by decide) (KT_t kt) h11 h12
  have e2' : Ex (d + 22) 48 0 [.ref 53, .int 16, .null, .null] [] G0 s1 = some (some (.int v), G0, s2) := e2
  have F2 : Fr SCTx [] σ s2 := Fr_t (Fr_m f1 (by decide) (by decide)) (Fr_m f2 (by decide) (by decide))
  have bb : bI ((0 : Int32) ≤ 1 ∧ (1 : Int32) ≤ 2) = 1 := bI_T (by decide)
  have g0 : s2 53 0 = 0 := by rw [f2 53 0 (by decide) (by decide)]; exact h0
  refine Exists.elim (?_ : ∃ (σ' : Sig) (v' : Int32), Ex (d + 23) 106 0 [.ref 0, .int 1] [] G0 σ = some (some (.int v'), G0, σ') ∧ RTL n N F 17 18 σ (pLw (kd b N F E) (vN b F E) 16 16 0) v' σ') (fun σ' hx => Exists.elim hx (fun v' hy => ⟨σ', v', N, F, E, hy.1, tk, hy.2⟩))
  rw [b106_0]
  simp only [c_within, Option.bind_some, Option.toList_some, Option.toList_none, List.cons_append, List.nil_append, i01a, i01b, if_true, if_false, b106_10, bb, e1', b106_13, b106_62, i10, i01, eq_self, if_true, if_false, true_and, false_and, and_true, and_false, not_true, not_false_iff, true_or, or_true, false_or, or_false, ne_eq, not_true_eq_false, not_false_eq_true, e2', b106_76]
  cases hw : pLw (kd b N F E) (vN b F E) 16 16 0 with
  | inl y =>
    rw [hw] at r2
    obtain ⟨y1, y2⟩ := y
    have n1 : ((0 : Int32) = 2) = False := eq_false (by decide)
    have n2 : ((1 : Int32) = 2) = False := eq_false (by decide)
    simp only [r2.1, i10, i01, eq_self, if_true, if_false, true_and, false_and, and_true, and_false, not_true, not_false_iff, true_or, or_true, false_or, or_false, ne_eq, not_true_eq_false, not_false_eq_true, n1, n2, b106_62]
    exact ⟨s2, _, rfl, g0, rfl, r2.2.1, r2.2.2, F2⟩
  | inr ls =>
    rw [hw] at r2
    obtain ⟨v1, c1, c2, c3, c4⟩ := r2
    obtain ⟨w1, w2, w3, w4, w5⟩ := pLw_k kd_e hV (by decide) 16 0 ls (Nat.zero_le _) hw
    have hf : (flt ls).length ≤ 400 := by omega
    have c1' : CO (flt ls) s2 := c1
    have cp := c_lcp5 (d + 22) c1'.1 hf
    have n10 : ((1 : Int32) = 0) = False := eq_false (by decide)
    have c2' : s2 54 0 = nI ls.length := by rw [c2]; congr 1; omega
    have A0 : cpS (pt (pt s2 17 0 (s2 54 0)) 17 1 (nI (flt ls).length)) 55 18 (flt ls).length 17 0 = nI ls.length := by rw [cpS_q (by decide), pt_k (by decide), pt_e]; exact c2'
    have A1 : cpS (pt (pt s2 17 0 (s2 54 0)) 17 1 (nI (flt ls).length)) 55 18 (flt ls).length 17 1 = nI (flt ls).length := by rw [cpS_q (by decide), pt_e]
    have AC : ∀ i, i < (flt ls).length → cpS (pt (pt s2 17 0 (s2 54 0)) 17 1 (nI (flt ls).length)) 55 18 (flt ls).length 18 i = (flt ls).getD i 0 := fun i hi => by
      rw [cpS_k (by exact hi), pt_q (by decide), pt_q (by decide)]; exact c1.2 i hi
    have Aq : ∀ q k, q ≠ 18 → (q = 17 → k ≠ 0 ∧ k ≠ 1) → cpS (pt (pt s2 17 0 (s2 54 0)) 17 1 (nI (flt ls).length)) 55 18 (flt ls).length q k = s2 q k := fun q k h1 h2 => by
      rw [cpS_q h1, pt_ap, if_neg (fun e => (h2 e.1).2 e.2), pt_ap, if_neg (fun e => (h2 e.1).1 e.2)]
    simp only [v1, n10, i10, i01, eq_self, if_true, if_false, true_and, false_and, and_true, and_false, not_true, not_false_iff, true_or, or_true, false_or, or_false, ne_eq, not_true_eq_false, not_false_eq_true, cp, Option.bind_some, Option.toList_some, Option.toList_none, List.cons_append, List.nil_append, i01a, i01b, if_true, if_false, b106_96]
    generalize cpS (pt (pt s2 17 0 (s2 54 0)) 17 1 (nI (flt ls).length)) 55 18 (flt ls).length = s3 at A0 A1 AC Aq
    have A0' : pt s3 0 10 0 17 0 = nI ls.length := by rw [pt_q (by decide)]; exact A0
    have g1 : s2 53 1 = 0 := by rw [c3]; exact h1
    have g2 : s2 53 2 = -1 := by rw [c4]; exact h2
    refine ⟨_, _, rfl, ?_, A0', ?_, ?_, ⟨A0', ?_, fun i hi => ?_⟩, pt_e, ?_⟩
    · rw [pt_q (by decide), Aq 53 0 (by decide) (by decide)]; exact g0
    · rw [pt_q (by decide), Aq 53 1 (by decide) (by decide)]; exact g1
    · rw [pt_q (by decide), Aq 53 2 (by decide) (by decide)]; exact g2
    · rw [pt_q (by decide)]; exact A1
    · rw [pt_q (by decide)]; exact AC i hi
    · intro q k h1 h2
      rw [pt_ap, if_neg (fun e => h2 (by rw [e.1, e.2]; simp)), Aq q k (fun e => h1 (by rw [e]; simp)) (fun e => ⟨fun e2 => h2 (by rw [e, e2]; simp), fun e2 => h2 (by rw [e, e2]; simp)⟩)]
      exact F2 q k (fun e => h1 (List.mem_cons_of_mem _ e)) (by simp)
theorem c_bw (d : Nat) (σ : Sig) : ∃ σ', Ex (d + 3) 92 0 [.ref 1, .ref 57] [] G0 σ = some (none, G0, σ') ∧ (∀ ls : List WLn, ls.length ≤ 40 → WCa 57 ls σ → WCa 20 ls σ') ∧ σ' 1 9 = 0 ∧ σ' 1 10 = 0 ∧ Fr [20, 21, 22, 23, 24] [(1, 9), (1, 10)] σ σ' := by
  have p1 : pt σ 20 0 (σ 57 0) 57 1 = σ 57 1 := by rw [pt_q (by decide)]
  simp only [b92_0, b90k2_0, b90k2_27, b90k2_38, b90k2_49, b90k2_60, p1, (fun d σ => c_copy d σ 58 21 40 rfl rfl (by decide)), (fun d σ => c_copy d σ 59 22 40 rfl rfl (by decide)), (fun d σ => c_copy d σ 60 23 40 rfl rfl (by decide)), (fun d σ => c_copy d σ 61 24 40 rfl rfl (by decide)), Option.bind_some, Option.toList_some, Option.toList_none, List.cons_append, List.nil_append, i01a, i01b, if_true, if_false, b92_8]
  refine ⟨_, rfl, fun ls hl h => ⟨?_, fun l hl' => ⟨?_, ?_, ?_, ?_⟩, ?_⟩, ?_, pt_e, ?_⟩
  · rw [pt_q (by decide), pt_q (by decide), cpS_q (by decide), cpS_q (by decide), cpS_q (by decide), cpS_q (by decide), pt_k (by decide), pt_e]; exact h.1
  · rw [pt_q (by decide), pt_q (by decide), cpS_q (by decide), cpS_q (by decide), cpS_q (by decide), cpS_k (by omega), pt_q (by decide), pt_q (by decide)]; exact (h.2.1 l hl').1
  · rw [pt_q (by decide), pt_q (by decide), cpS_q (by decide), cpS_q (by decide), cpS_k (by omega), cpS_q (by decide), pt_q (by decide), pt_q (by decide)]; exact (h.2.1 l hl').2.1
  · rw [pt_q (by decide), pt_q (by decide), cpS_q (by decide), cpS_k (by omega), cpS_q (by decide), cpS_q (by decide), pt_q (by decide), pt_q (by decide)]; exact (h.2.1 l hl').2.2.1
  · rw [pt_q (by decide), pt_q (by decide), cpS_k (by omega), cpS_q (by decide), cpS_q (by decide), cpS_q (by decide), pt_q (by decide), pt_q (by decide)]; exact (h.2.1 l hl').2.2.2
  · rw [pt_q (by decide), pt_q (by decide), cpS_q (by decide), cpS_q (by decide), cpS_q (by decide), cpS_q (by decide), pt_e]; exact h.2.2
  · rw [pt_k (by decide), pt_e]
  · intro q k h1 h2
    have n0 : ∀ x, x ∈ [20, 21, 22, 23, 24] → q ≠ x := fun x hx e => h1 (e ▸ hx)
    rw [pt_ap, if_neg (fun e => h2 (by rw [e.1, e.2]; simp)), pt_ap, if_neg (fun e => h2 (by rw [e.1, e.2]; simp)), cpS_q (n0 24 (by simp)), cpS_q (n0 23 (by simp)), cpS_q (n0 22 (by simp)), cpS_q (n0 21 (by simp)), pt_q (n0 20 (by simp)), pt_q (n0 20 (by simp))]
def SCU : List Nat := [20, 21, 22, 23, 24, 53, 54, 55, 57, 58, 59, 60, 61, 63, 64, 65, 66]
def RTW (n N : Nat) (F : Nat → Nat) (σ : Sig) (r : Sum (Nat × Nat) (List WLn)) (v : Int32) (σ' : Sig) : Prop := σ' 53 0 = 0 ∧ match r with
  | .inl (k, x) => v = -1 ∧ σ' 53 1 = nI k ∧ σ' 53 2 = nI (fN n N F x) ∧ Fr SCTx [] σ σ'
  | .inr ls => v = nI ls.length ∧ σ' 53 1 = 0 ∧ σ' 53 2 = -1 ∧ WCa 20 ls σ' ∧ σ' 1 9 = 0 ∧ σ' 1 10 = 0 ∧ σ' 0 8 = 0 ∧ σ' 0 10 = 0 ∧ Fr SCU [(1, 9), (1, 10), (0, 8), (0, 10)] σ σ'
theorem c_text2 (d : Nat) {σ : Sig} {b : Nat → Nat} {n P Bn : Nat} (h : TPe b n σ) (hP : 2 * σ 8 0 = nI P) (hB : σ 2 0 = nI Bn) (hP8 : 1 ≤ P ∧ P ≤ 8) (hB8 : Bn ≤ 8) : ∃ (σ' : Sig) (v : Int32) (N : Nat) (F E : Nat → Nat), Ex (d + 23) 106 0 [.ref 0, .int 2] [] G0 σ = some (some (.int v), G0, σ') ∧ TOK (fun i => sr (b i)) n N F E ∧ RTW n N F σ (pWy (kd b N F E) (vN b F E) P Bn 40 0) v σ' := by
  obtain ⟨s1, N, F, E, e1, kt, h0, h1, h2, h11, h12, f1⟩ := c_open (d + 15) h
  have e1' : Ex (d + 22) 41 0 [.ref 53, .int 1, .null] [] G0 σ = some (none, G0, s1) := e1
  have tk := kt.1
  have hV : ∀ t, kd b N F E t = 30 → vN b F E t ≤ 9999 := fun t ht => (kd_30 tk ht).2.2.2
  obtain ⟨s2, v, e2, r2, f2⟩ := c_readWay (d + 19) hV hP8 hB8 (KT_t kt) h11
  have e2' : Ex (d + 22) 54 0 [.ref 53, .int (nI P), .int (nI Bn), .null, .null] [] G0 s1 = some (some (.int v), G0, s2) := e2
  have F2 : Fr SCTx [] σ s2 := Fr_t (Fr_m f1 (by decide) (by decide)) (Fr_m f2 (by decide) (by decide))
  have bb : bI ((0 : Int32) ≤ 2 ∧ (2 : Int32) ≤ 2) = 1 := bI_T (by decide)
  have g0 : s2 53 0 = 0 := by rw [f2 53 0 (by decide) (by decide)]; exact h0
  have s8 : 2 * s1 8 0 = nI P := by rw [f1 8 0 (by decide) (by decide)]; exact hP
  have s2' : s1 2 0 = nI Bn := by rw [f1 2 0 (by decide) (by decide)]; exact hB
  have n20 : ((2 : Int32) = 0) = False := eq_false (by decide)
  have n21 : ((2 : Int32) = 1) = False := eq_false (by decide)
  refine Exists.elim (?_ : ∃ (σ' : Sig) (v' : Int32), Ex (d + 23) 106 0 [.ref 0, .int 2] [] G0 σ = some (some (.int v'), G0, σ') ∧ RTW n N F σ (pWy (kd b N F E) (vN b F E) P Bn 40 0) v' σ') (fun σ' hx => Exists.elim hx (fun v' hy => ⟨σ', v', N, F, E, hy.1, tk, hy.2⟩))
  rw [b106_0]
  simp only [c_within, Option.bind_some, Option.toList_some, Option.toList_none, List.cons_append, List.nil_append, i01a, i01b, if_true, if_false, b106_10, bb, e1', b106_13, n20, n21, b106_62, i10, i01, eq_self, if_true, if_false, true_and, false_and, and_true, and_false, not_true, not_false_iff, true_or, or_true, false_or, or_false, ne_eq, not_true_eq_false, not_false_eq_true, c_count, s8, b106_131, s2', e2', b106_144]
  cases hw : pWy (kd b N F E) (vN b F E) P Bn 40 0 with
  | inl y =>
    rw [hw] at r2
    obtain ⟨y1, y2⟩ := y
    simp only [r2.1, i10, i01, eq_self, if_true, if_false, true_and, false_and, and_true, and_false, not_true, not_false_iff, true_or, or_true, false_or, or_false, ne_eq, not_true_eq_false, not_false_eq_true]
    exact ⟨s2, _, rfl, g0, rfl, r2.2.1, r2.2.2, F2⟩
  | inr ls =>
    rw [hw] at r2
    obtain ⟨v1, c1, c3, c4⟩ := r2
    have hl := (pWy_ok kd_e hV hP8 hB8 40 0 ls (Nat.zero_le _) hw).1
    obtain ⟨s3, e3, W3, a9, a10, f3⟩ := c_bw (d + 19) s2
    have e3' : Ex (d + 22) 92 0 [.ref 1, .ref 57] [] G0 s2 = some (none, G0, s3) := e3
    have W := W3 ls hl c1
    simp only [v1, i10, i01, eq_self, if_true, if_false, true_and, false_and, and_true, and_false, not_true, not_false_iff, true_or, or_true, false_or, or_false, ne_eq, not_true_eq_false, not_false_eq_true, e3', Option.bind_some, Option.toList_some, Option.toList_none, List.cons_append, List.nil_append, i01a, i01b, if_true, if_false, b106_161, c_forget, b106_165]
    have F3 : Fr SCU [(1, 9), (1, 10), (0, 8), (0, 10)] σ s3 := Fr_t (Fr_m F2 (by decide) (by decide)) (Fr_m f3 (by decide) (by decide))
    have kq : ∀ q k, q ≠ 0 → pt (pt s3 0 8 0) 0 10 0 q k = s3 q k := fun q k hq => by rw [pt_q hq, pt_q hq]
    refine ⟨_, _, rfl, ?_, ?_, ?_, ?_, WCa_k W (fun q q1 q2 => by funext k; exact kq q k (by omega)), ?_, ?_, ?_, pt_e, Fr_p (Fr_p F3 (Or.inr (by decide))) (Or.inr (by decide))⟩
    · rw [kq 53 0 (by decide), f3 53 0 (by decide) (by decide)]; exact g0
    · rw [kq 20 0 (by decide)]; exact W.1
    · rw [kq 53 1 (by decide), f3 53 1 (by decide) (by decide), c3]; exact h1
    · rw [kq 53 2 (by decide), f3 53 2 (by decide) (by decide), c4]; exact h2
    · rw [kq 1 9 (by decide)]; exact a9
    · rw [kq 1 10 (by decide)]; exact a10
    · rw [pt_k (by decide), pt_e]
theorem c_text_ (d : Nat) {σ : Sig} {k : Int32} (h0 : ¬ k = 0) (h1 : ¬ k = 1) (h2 : ¬ k = 2) : ∃ σ' : Sig, Ex (d + 23) 106 0 [.ref 0, .int k] [] G0 σ = some (some (.int (-1)), G0, σ') ∧ σ' 53 0 = 0 ∧ σ' 53 1 = 0 ∧ σ' 53 2 = -1 ∧ Fr SCTx [] σ σ' := by
  have nk : ¬ ((0 : Int32) ≤ k ∧ k ≤ 2) := by
    rintro ⟨a, b⟩
    rw [Int32.le_iff_toInt_le] at a b
    have z0 : (0 : Int32).toInt = 0 := rfl
    have z2 : (2 : Int32).toInt = 2 := rfl
    have : k.toInt = 0 ∨ k.toInt = 1 ∨ k.toInt = 2 := by omega
    rcases this with e | e | e
    · exact h0 (Int32.toInt_inj.mp e)
    · exact h1 (Int32.toInt_inj.mp e)
    · exact h2 (Int32.toInt_inj.mp e)
  have F0 : Fr SCTx [] σ (pt (pt (pt (pt (pt σ 53 1 0) 53 2 (-1)) 53 10 0) 53 11 0) 53 12 0) := Fr_p (Fr_p (Fr_p (Fr_p (Fr_p Fr_r (Or.inl (by decide))) (Or.inl (by decide))) (Or.inl (by decide))) (Or.inl (by decide))) (Or.inl (by decide))
  have k10 : pt (pt (pt (pt (pt σ 53 1 0) 53 2 (-1)) 53 10 0) 53 11 0) 53 12 0 53 10 = 0 := by rw [pt_k (by decide), pt_k (by decide), pt_e]
  have k1 : pt (pt (pt (pt (pt σ 53 1 0) 53 2 (-1)) 53 10 0) 53 11 0) 53 12 0 53 1 = 0 := by rw [pt_k (by decide), pt_k (by decide), pt_k (by decide), pt_k (by decide), pt_e]
  have k2 : pt (pt (pt (pt (pt σ 53 1 0) 53 2 (-1)) 53 10 0) 53 11 0) 53 12 0 53 2 = -1 := by rw [pt_k (by decide), pt_k (by decide), pt_k (by decide), pt_e]
  have i0 : inb (0 : Int32) 401 = true := by decide
  have c0 : (0 : Int32).toNatClampNeg = 0 := by decide
  rw [b106_0]
  simp only [c_within, Option.bind_some, Option.toList_some, Option.toList_none, List.cons_append, List.nil_append, i01a, i01b, if_true, if_false, b106_10, bI_F nk, b41_0, i10, i01, eq_self, if_true, if_false, true_and, false_and, and_true, and_false, not_true, not_false_iff, true_or, or_true, false_or, or_false, ne_eq, not_true_eq_false, not_false_eq_true, b41_54, k10, i0, c0]
  generalize pt (pt (pt (pt (pt σ 53 1 0) 53 2 (-1)) 53 10 0) 53 11 0) 53 12 0 = s at F0 k10 k1 k2
  have p10 : pt s 63 0 32 53 10 = 0 := by rw [pt_q (by decide)]; exact k10
  simp only [p10, i0, c0, i10, i01, eq_self, if_true, if_false, true_and, false_and, and_true, and_false, not_true, not_false_iff, true_or, or_true, false_or, or_false, ne_eq, not_true_eq_false, not_false_eq_true, Option.bind_some, Option.toList_some, Option.toList_none, List.cons_append, List.nil_append, i01a, i01b, if_true, if_false, b106_13, eq_false h0, b106_62, eq_false h1, eq_false h2]
  refine ⟨_, rfl, pt_e, ?_, ?_, Fr_p (Fr_p (Fr_p F0 (Or.inl (by decide))) (Or.inl (by decide))) (Or.inl (by decide))⟩
  · rw [pt_k (by decide), pt_q (by decide), pt_q (by decide)]; exact k1
  · rw [pt_k (by decide), pt_q (by decide), pt_q (by decide)]; exact k2
