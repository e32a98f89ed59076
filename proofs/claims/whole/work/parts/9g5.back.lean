/-! L3: seen, paces, undo, feed, end -/
theorem Td_b {u v w : Sig} (hu : Td u w) (hv : Td v w) (hl : lns u ≤ lns v) : Td u v := by
  refine ⟨⟨fun q a b c => (hv.1.1 q a b c).symm.trans (hu.1.1 q a b c), fun k hk => (hv.1.2.1 k hk).symm.trans (hu.1.2.1 k hk), fun k hk => ?_, fun k hk => (hv.1.2.2.2.1 k hk).symm.trans (hu.1.2.2.2.1 k hk), fun i hi => ?_⟩, hl⟩
  · obtain ⟨a1, a2, a3⟩ := hu.1.2.2.1 k hk
    obtain ⟨b1, b2, b3⟩ := hv.1.2.2.1 k hk
    exact ⟨b1.symm.trans a1, b2.symm.trans a2, b3.symm.trans a3⟩
  · exact (hv.1.2.2.2.2 i (by unfold lns at hl; omega)).symm.trans (hu.1.2.2.2.2 i hi)
theorem SLw_k {L : List Sig} (h : SLw L) : SLw (kL L) := by
  unfold kL; split
  · exact List.Pairwise.sublist (List.tail_sublist L) h
  · exact h
theorem SLw_a {L : List Sig} {w : Sig} (h : SLw L) (k : ∀ v ∈ L, lns v ≤ lns w) : SLw (L ++ [w]) := List.pairwise_append.mpr ⟨h, List.pairwise_singleton _ _, fun a ha b hb => by rw [List.mem_singleton.mp hb]; exact k a ha⟩
theorem pz_sl {B T : LW} : ∀ k (w : Sig) (L : List Sig), WI B T w → UL B T L w → SLw L → SLw (pzS B T k w L).2.1 := by
  intro k
  induction k with
  | zero => intro w L hW h hs; exact hs
  | succ k ih =>
    intro w L hW h hs
    by_cases hp : hasP w
    · rw [pz_y hp]
      exact ih _ _ (WI_go hW hp) (UL_go h hW (Td_go hW hp)) (SLw_a (SLw_k hs) (fun v hv => (h.2 v (kL_m hv)).2.2))
    · rw [pz_n hp]; exact hs
theorem RW_Wb {ω σ : Sig} (h : RW false ω σ) : Wb ω σ := by
  obtain ⟨h1, h2, _⟩ := h
  obtain ⟨e25, e26⟩ := h2 rfl
  refine ⟨fun q a b c d e => ?_, fun i _ => by rw [e26]⟩
  by_cases k : q = 25
  · rw [k]; exact e25
  · exact h1 q a b (by simp; omega)
section
variable {σ : Sig}
theorem q_paces (h : INV σ) (a : Int32) : ∃ u σ1 σ2, Ex (0 + 40) 108 0 [.ref 0, .int a, .null] [] G0 σ = some (some (.int u), G0, σ1) ∧ Ex (0 + 40) 230 0 [.ref 112, .int a, .null] [] G0 σ1 = some (some (.int u), G0, σ2) ∧ INV σ2 := by
  obtain ⟨B, T, L, hI⟩ := h
  obtain ⟨hW, hM, hU, hC, hMU, hK, h5, h67, hO, hS⟩ := hI
  obtain ⟨σ1, e1, w1, hC1, f1, k1, k2⟩ := c_paces (40 - 7) a hW h67 hU hC
  have hM1 := MR_fc hM f1 (by decide) (by decide)
  have hMU1 : MU B T L σ1 := MU_fr hMU (f1 112 3 (by decide) (by decide)) (Fr_q f1 (by decide) (by decide))
  obtain ⟨σ2, e2, hM2, hMU2, f2⟩ := m_paces (40 - 8) a hM1 hW (by rw [f1 112 5 (by decide) (by decide)]; exact h5) hU hMU1
  have g2 : ∀ q, q < 112 → σ2 q = σ1 q := fun q hq => Fr_q f2 (by unfold SCS; simp; omega) (by simp; omega)
  have ok : WI B T (pz3 B T σ L a).1 ∧ UL B T (pz3 B T σ L a).2.1 (pz3 B T σ L a).1 ∧ SLw (pz3 B T σ L a).2.1 := by
    unfold pz3
    split
    · have p := pz_ok (B := B) (T := T) a.toNatClampNeg σ L hW hU
      exact ⟨p.1, p.2, pz_sl _ σ L hW hU hS⟩
    · exact ⟨hW, hU, hS⟩
  have w2 : Wb (pz3 B T σ L a).1 σ2 := by
    have w := RW_Wb w1
    exact ⟨fun q c1 c2 c3 c4 c5 => by rw [g2 q (by omega)]; exact w.1 q c1 c2 c3 c4 c5, fun i hi => by rw [g2 26 (by omega)]; exact w.2 i hi⟩
  have kn : KN B T (pz3 B T σ L a).1 σ2 := by
    by_cases c : pzC σ a
    · exact KN_0 (by rw [g2 0 (by decide)]; exact k1 c)
    · have e : (pz3 B T σ L a).1 = σ := by unfold pz3; rw [if_neg c]
      rw [e]
      exact KN_x hK (fun q k hq => by rw [g2 q (by simp only [Kc] at hq; omega), k2 c])
  exact ⟨_, σ1, σ2, e1, e2, B, T, _, IV_g ok.1 hM2 w2 ok.2.1 (CU_k hC1 (by rw [g2 0 (by decide)]) (by rw [g2 0 (by decide)]) (fun q c1 c2 => g2 q c2)) hMU2 kn (by rw [f2 112 5 (by decide) (by decide), f1 112 5 (by decide) (by decide)]; exact h5) (by rw [g2 67 (by decide), f1 67 8 (by decide) (by decide)]; exact h67) (OT_x hO (FX_t (FX_o f1 (by decide) (by decide)) (FX_o f2 (by decide) (by decide)))) ok.2.2⟩
theorem q_undo (h : INV σ) : ∃ u σ1 σ2, Ex (0 + 40) 128 0 [.ref 0] [] G0 σ = some (some (.int u), G0, σ1) ∧ Ex (0 + 40) 147 0 [.ref 112, .null] [] G0 σ1 = some (some (.int u), G0, σ2) ∧ INV σ2 := by
  obtain ⟨B, T, L, hI⟩ := h
  have hJ := hI
  obtain ⟨hW, hM, hU, hC, hMU, hK, h5, h67, hO, hS⟩ := hI
  rcases List.eq_nil_or_concat L with e | ⟨L0, v, e⟩
  · subst e
    exact ⟨_, σ, _, c_undo0 (40 - 3) hC, m_undo0 (40 - 0) hMU, B, T, [], IV_1 hJ⟩
  · rw [List.concat_eq_append] at e
    subst e
    have hl : L0.length < 6 := by have := hU.1; rw [List.length_append] at this; simp at this; omega
    have hv := hU.2 v (by simp)
    obtain ⟨σ1, e1, w1, hC1, k10, f1⟩ := c_undo1 (40 - 3) hC hl hv.2
    have hM1 := MR_fc hM f1 (by decide) (by decide)
    have hMU1 := MU_fr hMU (f1 112 3 (by decide) (by decide)) (Fr_q f1 (by decide) (by decide))
    obtain ⟨σ2, e2, hM2, hMU2, f2⟩ := m_undo1 (40 - 0) hMU1 hl hM1 hv.2
    have g2 : ∀ q, q < 112 → σ2 q = σ1 q := fun q hq => Fr_q f2 (by simp; omega) (by simp; omega)
    have w2 : Wb v σ2 := ⟨fun q c1 c2 c3 c4 c5 => by rw [g2 q (by omega)]; exact w1.1 q c1 c2 c3 c4 c5, fun i hi => by rw [g2 26 (by omega)]; exact w1.2 i hi⟩
    have ps := List.pairwise_append.mp hS
    have hU0 : UL B T L0 v := ⟨by omega, fun u hu => ⟨(hU.2 u (List.mem_append_left _ hu)).1, Td_b (hU.2 u (List.mem_append_left _ hu)).2 hv.2 (ps.2.2 u hu v (by simp))⟩⟩
    exact ⟨_, σ1, σ2, e1, e2, B, T, L0, IV_g hv.1 hM2 w2 hU0 (CU_k hC1 (by rw [g2 0 (by decide)]) (by rw [g2 0 (by decide)]) (fun q c1 c2 => g2 q c2)) hMU2 (KN_0 (by rw [g2 0 (by decide)]; exact k10)) (by rw [f2 112 5 (by decide) (by decide), f1 112 5 (by decide) (by decide)]; exact h5) (by rw [g2 67 (by decide), f1 67 8 (by decide) (by decide)]; exact h67) (OT_x hO (FX_t (FX_o f1 (by decide) (by decide)) (FX_o f2 (by decide) (by decide)))) ps.1⟩
theorem Td_13 {v w : Sig} (h : Td v w) (n : Nat) (c : Int32) : Td (pt v 13 n c) (pt w 13 n c) := by
  have q : ∀ (x : Sig) q, q ≠ 13 → pt x 13 n c q = x q := fun x q hq => pt_q hq
  refine ⟨⟨fun r a b d => ?_, fun k hk => by rw [q w 1 (by decide), q v 1 (by decide)]; exact h.1.2.1 k hk, fun k hk => by rw [q w 7 (by decide), q v 7 (by decide), q w 9 (by decide), q v 9 (by decide), q w 10 (by decide), q v 10 (by decide)]; exact h.1.2.2.1 k hk, fun k hk => by rw [q w 25 (by decide), q v 25 (by decide)]; exact h.1.2.2.2.1 k hk, fun i hi => ?_⟩, ?_⟩
  · funext k; rw [pt_ap, pt_ap, h.1.1 r a b d]
  · rw [q v 25 (by decide)] at hi
    rw [q w 26 (by decide), q v 26 (by decide)]; exact h.1.2.2.2.2 i hi
  · unfold lns; rw [q v 25 (by decide), q w 25 (by decide)]; exact h.2
theorem MM_13 {v : Sig} {q n : Nat} {c : Int32} (h : MM v q σ) : MM (pt v 13 n c) q σ := by
  unfold MM at h ⊢
  rw [pt_q (by decide), pt_q (by decide), pt_q (by decide), pt_q (by decide), pt_q (by decide)]; exact h
theorem q_seen (h : INV σ) (a c : Int32) : ∃ u σ1 σ2, Ex (0 + 40) 124 0 [.ref 0, .int a, .int c] [] G0 σ = some (some (.int u), G0, σ1) ∧ Ex (0 + 40) 169 0 [.ref 112, .int a, .int c] [] G0 σ1 = some (some (.int u), G0, σ2) ∧ INV σ2 := by
  obtain ⟨B, T, L, hI⟩ := h
  have hJ := hI
  obtain ⟨hW, hM, hU, hC, hMU, hK, h5, h67, hO, hS⟩ := hI
  have e1 := c_seen (40 - 1) a c hW
  by_cases k : snC σ a c
  · rw [if_pos k] at e1
    have es : snW σ a c = pt σ 13 a.toNatClampNeg c := by unfold snW; rw [if_pos k]
    have hb : bw c (-1) 999 := ⟨Int32.le_iff_toInt_le.mp k.2.1, Int32.le_iff_toInt_le.mp k.2.2⟩
    have f1 : Fr [13] [(0, 10)] σ (pt (snW σ a c) 0 10 0) := by rw [es]; exact Fr_p (Fr_p Fr_r (Or.inl (by simp))) (Or.inr (by simp))
    obtain ⟨σ2, e2, hM2, f2⟩ := m_seen (40 - 3) a c (MR_fc hM f1 (by decide) (by decide)) hW
    rw [es] at e1 hM2 f1 f2 e2
    have g2 : ∀ q, q < 112 → σ2 q = pt (pt σ 13 a.toNatClampNeg c) 0 10 0 q := fun q hq => Fr_q f2 (by simp; omega) (by simp; omega)
    have w2 : Wb (pt σ 13 a.toNatClampNeg c) σ2 := Wb_e (fun q a b => by rw [g2 q (by omega), pt_q (by omega)])
    have ll : ∀ v : Sig, lns (pt v 13 a.toNatClampNeg c) = lns v := fun v => by unfold lns; rw [pt_q (by decide)]
    have hU' : UL B T (L.map (fun v => pt v 13 a.toNatClampNeg c)) (pt σ 13 a.toNatClampNeg c) := by
      refine ⟨by rw [List.length_map]; exact hU.1, fun v hv => ?_⟩
      obtain ⟨u, hu, e⟩ := List.mem_map.mp hv
      subst e
      exact ⟨WI_13 (hU.2 u hu).1 hb, Td_13 (hU.2 u hu).2 _ _⟩
    have hC' : CU (L.map (fun v => pt v 13 a.toNatClampNeg c)) σ2 := by
      have hC0 := CU_k (σ' := σ2) hC (by rw [g2 0 (by decide), pt_k (by decide), pt_q (by decide)]) (by rw [g2 0 (by decide), pt_k (by decide), pt_q (by decide)]) (fun q c1 c2 => by rw [g2 q c2, pt_q (by omega), pt_q (by omega)])
      obtain ⟨c8, o, ho, c7, hm⟩ := hC0
      refine ⟨by rw [List.length_map]; exact c8, o, ho, c7, fun j hj => ?_⟩
      rw [List.length_map] at hj
      rw [List.getElem_map]
      exact MM_13 (hm j hj)
    have hMU' : MU B T (L.map (fun v => pt v 13 a.toNatClampNeg c)) σ2 := by
      have hMU0 := MU_fr (σ' := σ2) hMU (by rw [f2 112 3 (by decide) (by decide), f1 112 3 (by decide) (by decide)]) (by rw [Fr_q f2 (by decide) (by decide), Fr_q f1 (by decide) (by decide)])
      refine ⟨by rw [List.length_map]; exact hMU0.1, fun j hj => ?_⟩
      rw [List.length_map] at hj
      obtain ⟨ρ, r1, r2⟩ := hMU0.2 j hj
      rw [List.getElem_map]
      exact ⟨_, MR_13 r1 _ _, fun k hk => by rw [pt_q (by decide)]; exact r2 k hk⟩
    have hS' : SLw (L.map (fun v => pt v 13 a.toNatClampNeg c)) := by
      refine List.pairwise_map.mpr (List.Pairwise.imp ?_ hS)
      intro u v huv
      rw [ll, ll]; exact huv
    exact ⟨_, _, σ2, e1, e2, B, T, _, IV_g (WI_13 hW hb) hM2 w2 hU' hC' hMU' (KN_0 (by rw [g2 0 (by decide), pt_e])) (by rw [f2 112 5 (by decide) (by decide), f1 112 5 (by decide) (by decide)]; exact h5) (by rw [g2 67 (by decide), f1 67 8 (by decide) (by decide)]; exact h67) (OT_x hO (FX_t (FX_o f1 (by decide) (by decide)) (FX_o f2 (by decide) (by decide)))) hS'⟩
  · rw [if_neg k] at e1
    obtain ⟨σ2, e2, hM2, f2⟩ := m_seen (40 - 3) a c hM hW
    have es : snW σ a c = σ := by unfold snW; rw [if_neg k]
    rw [es] at hM2
    have g2 : ∀ q, q < 112 → σ2 q = σ q := fun q hq => Fr_q f2 (by simp; omega) (by simp; omega)
    exact ⟨_, σ, σ2, e1, e2, B, T, L, IV_g hW hM2 (Wb_e (fun q a b => g2 q (by omega))) hU (CU_k hC (by rw [g2 0 (by decide)]) (by rw [g2 0 (by decide)]) (fun q c1 c2 => g2 q c2)) (MU_fr hMU (f2 112 3 (by decide) (by decide)) (Fr_q f2 (by decide) (by decide))) (KN_x hK (fun q k hq => by rw [g2 q (by simp only [Kc] at hq; omega)])) (by rw [f2 112 5 (by decide) (by decide)]; exact h5) (by rw [g2 67 (by decide)]; exact h67) (OT_x hO (FX_o f2 (by decide) (by decide))) hS⟩
/-- only the tape and the fault change -/
theorem IV_t {B T : LW} {L : List Sig} {σ2 : Sig} (h : IV B T L σ) (hM : MR B T σ σ2) (e : ∀ q, q < 112 → q ≠ 53 → q ≠ 54 → q ≠ 55 → ¬ (57 ≤ q ∧ q ≤ 66) → σ2 q = σ q) (e3 : σ2 112 3 = σ 112 3) (e114 : σ2 114 = σ 114) (e5 : σ2 112 5 = σ 112 5) (hO : OT σ2) : IV B T L σ2 := by
  obtain ⟨hW, _, hU, hC, hMU, hK, h5, h67, _, hS⟩ := h
  exact IV_g hW hM (Wb_e (fun q a b => e q (by omega) (by omega) (by omega) (by omega) (by omega))) hU (CU_k hC (by rw [e 0 (by omega) (by omega) (by omega) (by omega) (by omega)]) (by rw [e 0 (by omega) (by omega) (by omega) (by omega) (by omega)]) (fun q c1 c2 => e q c2 (by omega) (by omega) (by omega) (by omega))) (MU_fr hMU e3 e114) (KN_x hK (fun q k hq => by rw [e q (by simp only [Kc] at hq; omega) (by simp only [Kc] at hq; omega) (by simp only [Kc] at hq; omega) (by simp only [Kc] at hq; omega) (by simp only [Kc] at hq; omega)])) (e5.trans h5) (by rw [e 67 (by omega) (by omega) (by omega) (by omega) (by omega)]; exact h67) hO hS
theorem q_feed (h : INV σ) (a b c d e : Int32) : ∃ u σ1 σ2, Ex (0 + 40) 104 0 [.ref 0, .int a, .int b, .int c, .int d, .int e] [] G0 σ = some (some (.int u), G0, σ1) ∧ Ex (0 + 40) 171 0 [.ref 112, .int a, .int b, .int c, .int d, .int e] [] G0 σ1 = some (some (.int u), G0, σ2) ∧ INV σ2 := by
  obtain ⟨B, T, L, hI⟩ := h
  have hJ := hI
  obtain ⟨hW, hM, hU, hC, hMU, hK, h5, h67, hO, hS⟩ := hI
  obtain ⟨⟨by', n, hE, hm⟩, hf, hi⟩ := hO
  obtain ⟨hn, a2, a3⟩ := hE
  obtain ⟨_, m2, m3, m4⟩ := hm
  obtain ⟨σ1, e1, f1, x1, y1⟩ := c_feed (40 - 1) a b c d e a2 hn
  obtain ⟨σ2, e2, f2, x2, y2⟩ := m_feed (40 - 1) a b c d e (σ := σ1) (n := n) (by rw [f1 112 22 (by decide) (by decide)]; exact m2) hn
  by_cases k : n ≤ 380
  · rw [if_pos k] at e1 e2
    obtain ⟨p1, p2, p3⟩ := y1 k
    obtain ⟨q1, q2, q3⟩ := y2 k
    have ex : ∀ j, ∃ m : Nat, m < 256 ∧ fdB a b c d e j &&& 255 = nI m ∧ by8 (fdB a b c d e j) = by8 (nI m) := fun j => by_n _
    have g2 : ∀ q, q < 112 → σ2 q = σ1 q := fun q hq => Fr_q f2 (by simp; omega) (by simp; omega)
    let bb : Nat → Nat := fun i => if i < n then by' i else Classical.choose (ex (i - n))
    have hbb : ∀ j, bb (n + j) < 256 ∧ fdB a b c d e j &&& 255 = nI (bb (n + j)) ∧ by8 (fdB a b c d e j) = by8 (nI (bb (n + j))) := fun j => by
      have : bb (n + j) = Classical.choose (ex j) := by
        show (if n + j < n then _ else Classical.choose (ex (n + j - n))) = _
        rw [if_neg (by omega), show n + j - n = j by omega]
      rw [this]; exact Classical.choose_spec (ex j)
    have hb0 : ∀ i, i < n → bb i = by' i := fun i hi => if_pos hi
    refine ⟨_, σ1, σ2, e1, e2, B, T, L, IV_t hJ (MR_s (MR_fc hM f1 (by decide) (by decide)) (fun q k hq => f2 q k (by simp; omega) (by simp; omega))) (fun q c1 c2 c3 c4 c5 => ?_) (by rw [f2 112 3 (by decide) (by decide), f1 112 3 (by decide) (by decide)]) (by rw [Fr_q f2 (by decide) (by decide), Fr_q f1 (by decide) (by decide)]) (by rw [f2 112 5 (by decide) (by decide), f1 112 5 (by decide) (by decide)]) ⟨⟨bb, n + 20, ⟨by omega, by rw [g2 53 (by decide)]; exact p1, fun i hi => ?_⟩, ⟨by omega, q1, fun i hi => ?_, fun i hi => ?_⟩⟩, ?_, ?_⟩⟩
    · rw [g2 q c1]; exact Fr_q f1 (by simp; omega) (by simp; omega)
    · rw [g2 62 (by decide)]
      by_cases c : i < n
      · rw [p2 i c, hb0 i c]; exact a3 i c
      · obtain ⟨j, ej⟩ : ∃ j, i = n + j := ⟨i - n, by omega⟩
        subst ej
        obtain ⟨b1, b2, b3⟩ := hbb j
        obtain ⟨t1, _, _, t4⟩ := by8_a _ b1
        rw [p3 j (by omega), b3]
        exact ⟨b1, t4, t1⟩
    · by_cases c : i < n
      · rw [q2 i c, hb0 i c, f1 124 i (by decide) (by simp)]; exact m3 i c
      · obtain ⟨j, ej⟩ : ∃ j, i = n + j := ⟨i - n, by omega⟩
        subst ej
        obtain ⟨b1, b2, b3⟩ := hbb j
        exact ⟨b1, by rw [q3 j (by omega)]; exact b2⟩
    · rw [Fr_q f2 (by decide) (by decide), Fr_q f1 (by decide) (by decide)]; exact m4 i hi
    · rw [g2 53 (by decide), f1 53 1 (by decide) (by decide), f1 53 2 (by decide) (by decide), f2 112 41 (by decide) (by decide), f2 112 42 (by decide) (by decide), f1 112 41 (by decide) (by decide), f1 112 42 (by decide) (by decide)]; exact hf
    · exact IMG_x hi (by rw [g2 0 (by decide), f1 0 9 (by decide) (by decide)]) (by rw [f2 112 58 (by decide) (by decide), f1 112 58 (by decide) (by decide)]) (by rw [Fr_q f2 (by decide) (by decide), Fr_q f1 (by decide) (by decide)]) (fun q c1 c2 => by rw [g2 q (by omega)]; exact Fr_q f1 (by simp; omega) (by simp; omega))
  · rw [if_neg k] at e1 e2
    rw [x2 k] at e2
    rw [x1 k] at e1 e2
    exact ⟨_, _, _, e1, e2, B, T, L, IV_1 hJ⟩
theorem q_end (h : INV σ) (a : Int32) : ∃ u σ1 σ2, Ex (0 + 40) 105 0 [.ref 0, .int a] [] G0 σ = some (some (.int u), G0, σ1) ∧ Ex (0 + 40) 172 0 [.ref 112, .int a] [] G0 σ1 = some (some (.int u), G0, σ2) ∧ INV σ2 := by
  obtain ⟨B, T, L, hI⟩ := h
  have hJ := hI
  obtain ⟨hW, hM, hU, hC, hMU, hK, h5, h67, hO, hS⟩ := hI
  obtain ⟨⟨by', n, ⟨hn, a2, a3⟩, ⟨_, m2, m3, m4⟩⟩, hf, hi⟩ := hO
  have e1 := c_end (40 - 1) σ a
  by_cases k : 0 ≤ a ∧ a ≤ σ 53 0
  · rw [if_pos k, bI_T k] at e1
    have e2 := m_end (40 - 1) (pt σ 53 0 a) a
    have k' : 0 ≤ a ∧ a ≤ pt σ 53 0 a 112 22 := by rw [pt_q (by decide), m2, ← a2]; exact k
    rw [if_pos k', bI_T k'] at e2
    have k0 := Int32.le_iff_toInt_le.mp k.1
    have k1 := Int32.le_iff_toInt_le.mp k.2
    have z0 : (0 : Int32).toInt = 0 := rfl
    have ea : a = nI a.toNatClampNeg := nI_of0 (by omega)
    have la : a.toNatClampNeg ≤ n := by
      have t : a.toNatClampNeg = a.toInt.toNat := rfl
      rw [a2, nI_i (by omega)] at k1; omega
    have f1 : Fr [] [(53, 0)] σ (pt σ 53 0 a) := Fr_p Fr_r (Or.inr (by simp))
    have f2 : Fr [] [(112, 0), (112, 22)] (pt σ 53 0 a) (pt (pt (pt σ 53 0 a) 112 0 0) 112 22 a) := Fr_p (Fr_p Fr_r (Or.inr (by simp))) (Or.inr (by simp))
    have v53 : pt (pt (pt σ 53 0 a) 112 0 0) 112 22 a 53 0 = a := by rw [pt_q (by decide), pt_q (by decide), pt_e]
    have v22 : pt (pt (pt σ 53 0 a) 112 0 0) 112 22 a 112 22 = a := pt_e
    generalize pt (pt (pt σ 53 0 a) 112 0 0) 112 22 a = σ2 at e2 f2 v53 v22
    have g2 : ∀ q, q < 112 → σ2 q = pt σ 53 0 a q := fun q hq => Fr_q f2 (by simp) (by simp; omega)
    refine ⟨_, _, σ2, e1, e2, B, T, L, IV_t hJ (MR_s (MR_fc hM f1 (by decide) (by decide)) (fun q k hq => f2 q k (by simp) (by simp; omega))) (fun q c1 c2 c3 c4 c5 => by rw [g2 q c1, pt_q c2]) (by rw [f2 112 3 (by decide) (by decide), f1 112 3 (by decide) (by decide)]) (by rw [Fr_q f2 (by decide) (by decide), Fr_q f1 (by decide) (by decide)]) (by rw [f2 112 5 (by decide) (by decide), f1 112 5 (by decide) (by decide)]) ⟨⟨by', a.toNatClampNeg, ⟨by omega, by rw [v53]; exact ea, fun i hi => ?_⟩, ⟨by omega, by rw [v22]; exact ea, fun i hi => ?_, fun i hi => ?_⟩⟩, ?_, ?_⟩⟩
    · rw [g2 62 (by decide), pt_q (by decide)]; exact a3 i (by omega)
    · rw [f2 124 i (by decide) (by simp), f1 124 i (by decide) (by simp)]; exact m3 i (by omega)
    · rw [f2 125 i (by decide) (by simp), f1 125 i (by decide) (by simp)]; exact m4 i hi
    · rw [g2 53 (by decide), f1 53 1 (by decide) (by decide), f1 53 2 (by decide) (by decide), f2 112 41 (by decide) (by decide), f2 112 42 (by decide) (by decide), f1 112 41 (by decide) (by decide), f1 112 42 (by decide) (by decide)]; exact hf
    · exact IMG_x hi (by rw [g2 0 (by decide), f1 0 9 (by decide) (by decide)]) (by rw [f2 112 58 (by decide) (by decide), f1 112 58 (by decide) (by decide)]) (by rw [Fr_q f2 (by decide) (by decide), Fr_q f1 (by decide) (by decide)]) (fun q c1 c2 => by rw [g2 q (by omega)]; exact Fr_q f1 (by simp) (by simp; omega))
  · rw [if_neg k, bI_F k] at e1
    have e2 := m_end (40 - 1) σ a
    have k' : ¬ (0 ≤ a ∧ a ≤ σ 112 22) := by rw [m2, ← a2]; exact k
    rw [if_neg k', bI_F k'] at e2
    exact ⟨_, _, _, e1, e2, B, T, L, IV_1 hJ⟩
end
