/-! L3: rests, both sides -/
theorem nI_ne1 {n : Nat} (h : n < 2 ^ 31) : (nI n = -1) = False := eq_false (fun e => by
  have := congrArg Int32.toInt e
  rw [nI_i h] at this
  have e1 : (-1 : Int32).toInt = -1 := by decide
  omega)
noncomputable def rsA (B T : LW) (ω : Sig) : Int32 := match rsN B T 8000 ω with
  | some m => nI m
  | none => -1
theorem rs_n {B T : LW} {k : Nat} {w : Sig} (h : ¬ hasP w) : rsN B T k w = some 0 := by
  cases k with
  | zero => rfl
  | succ k => rw [rsN]; exact if_neg h
theorem rs_o {B T : LW} {k : Nat} {w : Sig} (h : hasP w) (r : raS B 100 (psS true w) = none) : rsN B T (k + 1) w = none := by
  rw [rsN, r]; exact if_pos h
theorem rs_y {B T : LW} {k : Nat} {w : Sig} {x : Nat × Sig} (h : hasP w) (r : raS B 100 (psS true w) = some x) : rsN B T (k + 1) w = (rsN B T k (pcW B T true x.2)).map (x.1 + ·) := by
  rw [rsN, r]; exact if_pos h
theorem c_restsNeeded (d : Nat) {B T : LW} {σ : Sig} (hW : WI B T σ) (h0 : σ 67 8 = 0) :
    ∃ σ', Ex (d + 6) 84 0 [.ref 74, .null, .null, .null] [] G0 σ = some (some (.int (rsA B T σ)), G0, σ') ∧ Wb σ σ' ∧ Fr SCW SLC σ σ' := by
  obtain ⟨σ1, e1, f1, m1⟩ := c_take75 (d + 3) σ
  rw [b84_0, e1]
  simp only [Option.bind_some, Option.toList_some, Option.toList_none, List.cons_append, List.nil_append, i01a, i01b, if_true, if_false, b84_11]
  have f1' : Fr SCW SLC σ σ1 := Fr_m f1 (by decide) (by simp)
  have r1 : RW true σ σ1 := RW_fr (RW_r hW true) f1 (by decide) (by simp)
  have fin : ∀ (σ2 w : Sig), WI B T w → RW true w σ2 → Ts σ w → MM σ 75 σ2 → Fr SCW SLC σ σ2 → ∃ σ3, Ex (d + 5) 29 0 [.ref 75, .ref 1] [] G0 σ2 = some (none, G0, σ3) ∧ Wb σ σ3 ∧ Fr SCW SLC σ σ3 := by
    intro σ2 w hWw r t m f
    obtain ⟨σ3, e3, f3, m3, k3⟩ := c_give75 (d + 3) σ2
    exact ⟨σ3, e3, Th_end (RW_Th r t) m f3 m3 k3, Fr_t f (Fr_m f3 (by decide) (by decide))⟩
  have main : ∀ k n s (w σ2 : Sig) (a3 : Value), n + k = 8000 → s ≤ 99 * n → WI B T w → RW true w σ2 → Ts σ w → MM σ 75 σ2 → Fr SCW SLC σ σ2 → ∃ σ', Ex (d + 6) 84 15 [.ref 74, .int (nI s), .int (nI n), a3] [] G0 σ2 = some (some (.int (match rsN B T k w with
      | some m => nI (s + m)
      | none => -1)), G0, σ') ∧ Wb σ σ' ∧ Fr SCW SLC σ σ' := by
    intro k
    induction k with
    | zero =>
      intro n s w σ2 a3 hn hs hWw r t m f
      obtain ⟨σ3, e3, w3, f3⟩ := fin σ2 w hWw r t m f
      rw [b84_15]
      have q : ((8000 : Int32) ≤ nI n) = True := by
        have : ((8000 : Int32) ≤ nI n) = (8000 ≤ n) := nJ_le (a := 8000) (by omega) (by omega)
        rw [this]; exact eq_true (by omega)
      simp only [q, i10, i01, eq_self, if_true, if_false, true_and, false_and, and_true, and_false, not_true, not_false_iff, true_or, or_true, false_or, or_false, ne_eq, not_true_eq_false, not_false_eq_true, e3, Option.bind_some, Option.toList_some, Option.toList_none, List.cons_append, List.nil_append, i01a, i01b, if_true, if_false, b84_78]
      exact ⟨σ3, rfl, w3, f3⟩
    | succ k ih =>
      intro n s w σ2 a3 hn hs hWw r t m f
      rw [b84_15]
      have q : ((8000 : Int32) ≤ nI n) = False := by
        have : ((8000 : Int32) ≤ nI n) = (8000 ≤ n) := nJ_le (a := 8000) (by omega) (by omega)
        rw [this]; exact eq_false (by omega)
      simp only [q, i10, i01, eq_self, if_true, if_false, true_and, false_and, and_true, and_false, not_true, not_false_iff, true_or, or_true, false_or, or_false, ne_eq, not_true_eq_false, not_false_eq_true, nI_ne1 (show s < 2 ^ 31 by omega), (fun d => c_hasPace d hWw r), Option.bind_some, Option.toList_some, Option.toList_none, List.cons_append, List.nil_append, i01a, i01b, if_true, if_false, b84_31]
      by_cases hp : hasP w
      · obtain ⟨p1, p2, p3⟩ := ps_ok (th := true) hWw hp
        obtain ⟨σ3, e3, r3, f3⟩ := c_passLines (d + 2) hWw r
        have z3 : σ3 67 8 = 0 := by rw [f3 67 8 (by decide) (by simp), f 67 8 (by decide) (by decide)]; exact h0
        obtain ⟨σ4, v, e4, r4, ea, hWv, hv, f4⟩ := c_restAhead (d + 1) p1 r3 z3 p2 p3
        obtain ⟨n1, n2, _, n4, _, _, _⟩ := Ea_nx ea
        have hlv : nx v < wl v := by omega
        have hpv : paced v (nx v) := by rw [n4, n1]; exact p3
        obtain ⟨σ5, e5, r5, f5⟩ := c_takePace d hWv r4 (by rw [f4 67 8 (by decide) (by decide)]; exact z3) hlv hpv
        have e5' : Ex (d + 5) 75 0 [.ref 74, .int 0, .null, .null, .null] [] G0 σ4 = _ := e5
        have m3 : MM σ 75 σ3 := MM_fr m (Fr_q f3 (by decide) (by simp)) (Fr_q f3 (by decide) (by simp)) (Fr_q f3 (by decide) (by simp)) (Fr_q f3 (by decide) (by simp))
        have m4 : MM σ 75 σ4 := MM_fr m3 (Fr_q f4 (by decide) (by decide)) (Fr_q f4 (by decide) (by decide)) (Fr_q f4 (by decide) (by decide)) (Fr_q f4 (by decide) (by decide))
        have m5 : MM σ 75 σ5 := MM_fr m4 (Fr_q f5 (by decide) (by decide)) (Fr_q f5 (by decide) (by decide)) (Fr_q f5 (by decide) (by decide)) (Fr_q f5 (by decide) (by decide))
        have t5 : Ts σ (pcW B T true v) := Ts_t t (Ts_t (Ts_ps hWw) (Ts_t (Ea_Ts ea) (Ts_pc hWv)))
        have fr5 : Fr SCW SLC σ σ5 := Fr_t f (Fr_t (Fr_m f3 (by decide) (by simp)) (Fr_t (Fr_m f4 (by decide) (fun x hx => Or.inl hx)) (Fr_m f5 (by decide) (fun x hx => Or.inl hx))))
        have hW5 := WI_pc (th := true) hWv hlv hpv
        rw [@bI_T _ (Classical.propDecidable _) hp]
        simp only [i10, i01, eq_self, if_true, if_false, true_and, false_and, and_true, and_false, not_true, not_false_iff, true_or, or_true, false_or, or_false, ne_eq, not_true_eq_false, not_false_eq_true, e3, Option.bind_some, Option.toList_some, Option.toList_none, List.cons_append, List.nil_append, i01a, i01b, if_true, if_false, b84_38, e4, b84_42]
        cases hr : raS B 100 (psS true w) with
        | none =>
          obtain ⟨σ6, e6, w6, f6⟩ := fin σ5 _ hW5 r5 t5 m5 fr5
          rw [rs_o hp hr]
          simp only [i10, i01, eq_self, if_true, if_false, true_and, false_and, and_true, and_false, not_true, not_false_iff, true_or, or_true, false_or, or_false, ne_eq, not_true_eq_false, not_false_eq_true, e5', Option.bind_some, Option.toList_some, Option.toList_none, List.cons_append, List.nil_append, i01a, i01b, if_true, if_false, b84_61]
          rw [b84_15]
          simp only [e6, Option.bind_some, Option.toList_some, Option.toList_none, List.cons_append, List.nil_append, i01a, i01b, if_true, if_false, i10, i01, eq_self, if_true, if_false, true_and, false_and, and_true, and_false, not_true, not_false_iff, true_or, or_true, false_or, or_false, ne_eq, not_true_eq_false, not_false_eq_true, b84_78, ite_self]
          exact ⟨σ6, rfl, w6, f6⟩
        | some x =>
          have hx := (ra_E 100 _ p1 x hr).2.2
          have ev := hv x hr
          subst ev
          rw [rs_y hp hr]
          simp only [nI_ne1 (show x.1 < 2 ^ 31 by omega), i10, i01, eq_self, if_true, if_false, true_and, false_and, and_true, and_false, not_true, not_false_iff, true_or, or_true, false_or, or_false, ne_eq, not_true_eq_false, not_false_eq_true, e5', Option.bind_some, Option.toList_some, Option.toList_none, List.cons_append, List.nil_append, i01a, i01b, if_true, if_false, b84_61, nI_s]
          have ea' : nI s + nI x.1 = nI (s + x.1) := (Int32.ofNat_add s x.1).symm
          rw [ea']
          obtain ⟨σ', e', w', g'⟩ := ih (n + 1) (s + x.1) (pcW B T true x.2) σ5 (.int (nI x.1)) (by omega) (by omega) hW5 r5 t5 m5 fr5
          refine ⟨σ', ?_, w', g'⟩
          rw [e']
          cases rsN B T k (pcW B T true x.2) with
          | none => rfl
          | some y => simp only [Option.map_some]; rw [Nat.add_assoc]
      · obtain ⟨σ3, e3, w3, f3⟩ := fin σ2 w hWw r t m f
        rw [@bI_F _ (Classical.propDecidable _) hp, rs_n hp]
        simp only [i10, i01, eq_self, if_true, if_false, true_and, false_and, and_true, and_false, not_true, not_false_iff, true_or, or_true, false_or, or_false, ne_eq, not_true_eq_false, not_false_eq_true, e3, Option.bind_some, Option.toList_some, Option.toList_none, List.cons_append, List.nil_append, i01a, i01b, if_true, if_false, b84_78]
        exact ⟨σ3, rfl, w3, f3⟩
  obtain ⟨σ', e', w', g'⟩ := main 8000 0 0 σ σ1 .null rfl (by omega) hW r1 Ts_r m1 f1'
  refine ⟨σ', ?_, w', g'⟩
  refine (e' : Ex (d + 6) 84 15 [.ref 74, .int 0, .int 0, .null] [] G0 σ1 = _).trans ?_
  unfold rsA
  cases rsN B T 8000 σ with
  | none => rfl
  | some y => simp only [Nat.zero_add]
theorem c_rests (d : Nat) {B T : LW} {σ : Sig} (hW : WI B T σ) (h0 : σ 67 8 = 0) : ∃ σ', Ex (d + 7) 122 0 [.ref 0] [] G0 σ = some (some (.int (rsA B T σ)), G0, σ') ∧ Wb σ σ' ∧ Fr SCW SLC σ σ' := by
  obtain ⟨σ', e, w, f⟩ := c_restsNeeded d hW h0
  simp only [b122_0, e, Option.bind_some, Option.toList_some, Option.toList_none, List.cons_append, List.nil_append, i01a, i01b, if_true, if_false, b122_7]
  exact ⟨σ', rfl, w, f⟩
theorem mu_ra {B T : LW} {w v : Sig} (hW : WI B T w) (hp : hasP w) (ea : Ea (psS true w) v) (hWv : WI B T v) : mu (pcW B T true v) + 1 ≤ mu w := by
  have hn := WI_nx hW
  obtain ⟨p1, p2, p3⟩ := ps_ok (th := true) hW hp
  obtain ⟨n1, n2, n3, n4, _, _, _⟩ := Ea_nx ea
  obtain ⟨_, a2, a3, a4, _, _, _, a8⟩ := psW_spec (th := true) (wl w - nx w) w hW (by omega)
  have hd : dn v = dn w := by rw [n3]; unfold dn; rw [show psS true w 1 10 = w 1 10 from a8 10 (by decide)]
  have hw : wl v = wl w := n2.trans a2
  have hx : nx w ≤ nx v := by rw [n1]; exact a3
  have hlv : nx v < wl v := by omega
  obtain ⟨b1, b2⟩ := pc_nx (th := true) hWv hlv (by rw [n4, n1]; exact p3)
  unfold mu
  rw [b1]
  rcases b2 with ⟨c1, c2, c3⟩ | ⟨c1, c2⟩
  · rw [c1, c2]; omega
  · rw [c1, c2]; omega
theorem has_ps {B T : LW} {w : Sig} (hW : WI B T w) (h : hasP (psS true w)) : hasP w := by
  obtain ⟨l, l1, l2, l3⟩ := h
  have hn2 := WI_nx hW
  obtain ⟨_, b2, b3, _, _, _, b7, _⟩ := psW_spec (th := true) (wl w - nx w) w hW (by omega)
  refine ⟨l, Nat.le_trans b3 l1, by rw [← b2]; exact l2, ?_⟩
  have e21 : psS true w 21 = w 21 := b7 21 (by decide)
  unfold paced at l3 ⊢; rw [e21] at l3; exact l3
theorem ps_p {th : Bool} {w : Sig} (hl : nx w < wl w) (hp : paced w (nx w)) : psS th w = w := by
  unfold psS
  obtain ⟨k, hk⟩ : ∃ k, wl w - nx w = k + 1 := ⟨wl w - nx w - 1, by omega⟩
  rw [hk, psW_p hp]
theorem m_rests (d : Nat) {B T : LW} {ω σ : Sig} (hM : MR B T ω σ) (hW : WI B T ω) :
    ∃ σ', Ex (d + 8) 259 0 [.ref 112, .null] [] G0 σ = some (some (.int (rsA B T ω)), G0, σ') ∧ Fr SCF [(112, 0), (112, 49), (112, 5)] σ σ' ∧ (∀ k, k < 31 → σ' 113 k = σ 113 k) ∧ σ' 112 5 = 0 ∧ MR B T ω σ' := by
  have f0 : Fr SCF [(112, 0), (112, 49), (112, 5)] σ (pt σ 112 0 0) := Fr_p Fr_r (Or.inr (by simp))
  have hM0 : MR B T ω (pt σ 112 0 0) := MR_S hM (Fr_p Fr_r (Or.inr (by simp)) : Fr [] [(112, 0)] σ (pt σ 112 0 0)) (by decide) (by simp)
  obtain ⟨σ1, e1, f1, k1, t1⟩ := m_thinks (d + 7) (pt σ 112 0 0)
  have hM1 : MR B T ω σ1 := MR_S hM0 f1 (by decide) (by decide)
  simp only [b259_0, e1, Option.bind_some, Option.toList_some, Option.toList_none, List.cons_append, List.nil_append, i01a, i01b, if_true, if_false, b259_9]
  have fr1 : Fr SCF [(112, 0), (112, 49), (112, 5)] σ σ1 := Fr_t f0 (Fr_m f1 (by decide) (by decide))
  have k1' : ∀ k, k < 31 → σ1 115 k = σ 113 k := fun k hk => by rw [k1 k hk, pt_q (by decide)]
  have fin : ∀ (σ2 : Sig), Fr SCF [(112, 0), (112, 49), (112, 5)] σ σ2 → (∀ k, k < 31 → σ2 115 k = σ 113 k) →
      ∃ σ', Ex (d + 7) 150 0 [.ref 112] [] G0 σ2 = some (none, G0, σ') ∧ Fr SCF [(112, 0), (112, 49), (112, 5)] σ σ' ∧ (∀ k, k < 31 → σ' 113 k = σ 113 k) ∧ σ' 112 5 = 0 ∧ MR B T ω σ' := by
    intro σ2 f k2
    obtain ⟨σ3, e3, f3, k3, t3, _⟩ := m_ends (d + 6) σ2
    have f4 : Fr SCF [(112, 0), (112, 49), (112, 5)] σ σ3 := Fr_t f (Fr_m f3 (by decide) (by decide))
    have h113 : ∀ k, k < 31 → σ3 113 k = σ 113 k := fun k c => by rw [k3 k c, k2 k c]
    have mb : MR B T ω σ3 := MR_back hM h113 (fun q hq => Fr_q f4 (by revert hq; unfold SCF; simp; omega) (by revert hq; simp; omega)) (fun k hk => f4 112 k (by decide) (by revert hk; simp; omega))
    exact ⟨σ3, e3, f4, h113, t3, mb⟩
  have lt : ∀ {a : Nat}, a < 2 ^ 31 → ((1000000 : Int32) ≤ nI a) = (1000000 ≤ a) := fun h => nJ_le (a := 1000000) (by omega) h
  have lt' : ∀ {a : Nat}, a < 2 ^ 31 → (nI a < (1000000 : Int32)) = (a < 1000000) := fun h => nJ_lt (b := 1000000) h (by omega)
  have exit : ∀ s (u σ2 : Sig), s ≤ 800000 → WI B T u → ¬ hasP u → MR B T u σ2 → Fr SCF [(112, 0), (112, 49), (112, 5)] σ σ2 → (∀ k, k < 31 → σ2 115 k = σ 113 k) →
      ∃ σ', Ex (d + 8) 259 11 [.ref 112, .int (nI s)] [] G0 σ2 = some (some (.int (nI s)), G0, σ') ∧ Fr SCF [(112, 0), (112, 49), (112, 5)] σ σ' ∧ (∀ k, k < 31 → σ' 113 k = σ 113 k) ∧ σ' 112 5 = 0 ∧ MR B T ω σ' := by
    intro s u σ2 hs hWu nu m f k2
    obtain ⟨σ3, e3, rest⟩ := fin σ2 f k2
    rw [b259_11]
    have q1 : ((1000000 : Int32) ≤ nI s) = False := by rw [lt (by omega)]; exact eq_false (by omega)
    have q2 : (nI s < (1000000 : Int32)) = True := by rw [lt' (by omega)]; exact eq_true (by omega)
    simp only [q1, i10, i01, eq_self, if_true, if_false, true_and, false_and, and_true, and_false, not_true, not_false_iff, true_or, or_true, false_or, or_false, ne_eq, not_true_eq_false, not_false_eq_true, (fun d => m_hasPace d m hWu), Option.bind_some, Option.toList_some, Option.toList_none, List.cons_append, List.nil_append, i01a, i01b, if_true, if_false, b259_22]
    rw [@bI_F _ (Classical.propDecidable _) nu]
    simp only [i10, i01, eq_self, if_true, if_false, true_and, false_and, and_true, and_false, not_true, not_false_iff, true_or, or_true, false_or, or_false, ne_eq, not_true_eq_false, not_false_eq_true, e3, Option.bind_some, Option.toList_some, Option.toList_none, List.cons_append, List.nil_append, i01a, i01b, if_true, if_false, b259_47, q2]
    exact ⟨σ3, rfl, rest⟩
  have main : ∀ k n s (w u σ2 : Sig), WI B T w → WI B T u → mu w ≤ k → (hasP w → u = w) → (hasP u → hasP w) → n + k ≤ 8000 → s ≤ 99 * n → MR B T u σ2 → σ2 112 5 = 1 → Fr SCF [(112, 0), (112, 49), (112, 5)] σ σ2 → (∀ k, k < 31 → σ2 115 k = σ 113 k) →
      ∃ σ', Ex (d + 8) 259 11 [.ref 112, .int (nI s)] [] G0 σ2 = some (some (.int (match rsN B T k w with
      | some m => nI (s + m)
      | none => -1)), G0, σ') ∧ Fr SCF [(112, 0), (112, 49), (112, 5)] σ σ' ∧ (∀ k, k < 31 → σ' 113 k = σ 113 k) ∧ σ' 112 5 = 0 ∧ MR B T ω σ' := by
    intro k
    induction k with
    | zero =>
      intro n s w u σ2 hWw hWu hmu hy hup hnk hs m t f k2
      have np : ¬ hasP w := fun h => by have := mu_has hWw h; omega
      exact exit s u σ2 (by omega) hWu (fun h => np (hup h)) m f k2
    | succ k ih =>
      intro n s w u σ2 hWw hWu hmu hy hup hnk hs m t f k2
      by_cases hp : hasP w
      · have eu := hy hp
        subst eu
        obtain ⟨p1, p2, p3⟩ := ps_ok (th := true) hWw hp
        obtain ⟨σ3, e3, _, g3, m3⟩ := m_doesLines (d + 3) m hWw (th := true) (by rw [t]; rfl)
        have f3 := g3 rfl
        obtain ⟨σ4, v, e4, m4, ea, hWv, hv, f4⟩ := m_restsAhead (d + 1) m3 p1 p2 p3
        obtain ⟨n1, n2, _, n4, _, _, _⟩ := Ea_nx ea
        have hlv : nx v < wl v := by omega
        have hpv : paced v (nx v) := by rw [n4, n1]; exact p3
        have hhv : hasP v := ⟨nx v, Nat.le_refl _, hlv, hpv⟩
        have t4 : σ4 112 5 = 1 := by rw [f4 112 5 (by decide) (by simp), f3 112 5 (by decide) (by simp)]; exact t
        obtain ⟨σ5, e5, _, g5, m5⟩ := m_goesBy d m4 hWv (th := true) (by rw [t4]; rfl) hhv
        have f5 := g5 rfl
        have fr5 : Fr SCF [(112, 0), (112, 49), (112, 5)] σ σ5 := Fr_t f (Fr_t (Fr_m f3 (by decide) (by simp)) (Fr_t (Fr_m f4 (by decide) (by simp)) (Fr_m f5 (by decide) (by simp))))
        have k5 : ∀ j, j < 31 → σ5 115 j = σ 113 j := fun j hj => by
          rw [f5 115 j (by decide) (by simp), f4 115 j (by decide) (by simp), f3 115 j (by decide) (by simp)]; exact k2 j hj
        have t5 : σ5 112 5 = 1 := by rw [f5 112 5 (by decide) (by simp)]; exact t4
        rw [b259_11]
        have q1 : ((1000000 : Int32) ≤ nI s) = False := by rw [lt (by omega)]; exact eq_false (by omega)
        simp only [q1, i10, i01, eq_self, if_true, if_false, true_and, false_and, and_true, and_false, not_true, not_false_iff, true_or, or_true, false_or, or_false, ne_eq, not_true_eq_false, not_false_eq_true, (fun d => m_hasPace d m hWw), Option.bind_some, Option.toList_some, Option.toList_none, List.cons_append, List.nil_append, i01a, i01b, if_true, if_false, b259_22]
        rw [@bI_T _ (Classical.propDecidable _) hp]
        simp only [i10, i01, eq_self, if_true, if_false, true_and, false_and, and_true, and_false, not_true, not_false_iff, true_or, or_true, false_or, or_false, ne_eq, not_true_eq_false, not_false_eq_true, e3, Option.bind_some, Option.toList_some, Option.toList_none, List.cons_append, List.nil_append, i01a, i01b, if_true, if_false, b259_29, e4, b259_34, e5, b259_40]
        cases hr : raS B 100 (psS true u) with
        | none =>
          rw [rs_o hp hr]
          obtain ⟨σ6, e6, rest⟩ := fin σ5 fr5 k5
          have ea' : nI s + 1000000 = nI (s + 1000000) := (Int32.ofNat_add s 1000000).symm
          have q2 : ((1000000 : Int32) ≤ nI (s + 1000000)) = True := by rw [lt (by omega)]; exact eq_true (by omega)
          have q3 : (nI (s + 1000000) < (1000000 : Int32)) = False := by rw [lt' (by omega)]; exact eq_false (by omega)
          dsimp only
          rw [ea', b259_11]
          simp only [q2, i10, i01, eq_self, if_true, if_false, true_and, false_and, and_true, and_false, not_true, not_false_iff, true_or, or_true, false_or, or_false, ne_eq, not_true_eq_false, not_false_eq_true, e6, Option.bind_some, Option.toList_some, Option.toList_none, List.cons_append, List.nil_append, i01a, i01b, if_true, if_false, b259_47, q3]
          exact ⟨σ6, rfl, rest⟩
        | some x =>
          have hx := (ra_E 100 _ p1 x hr).2.2
          have ev := hv x hr
          subst ev
          rw [rs_y hp hr]
          have ea' : nI s + nI x.1 = nI (s + x.1) := (Int32.ofNat_add s x.1).symm
          dsimp only
          rw [ea']
          have hWp : WI B T (pcW B T true x.2) := WI_pc (th := true) hWv hlv hpv
          have hWg := WI_go (th := true) hWv hhv
          have epv := ps_p (th := true) hlv hpv
          have g1 : hasP (pcW B T true x.2) → goW B T true x.2 = pcW B T true x.2 := fun h => by unfold goW; rw [epv]; exact if_pos h
          have g2 : ¬ hasP (pcW B T true x.2) → goW B T true x.2 = psS true (pcW B T true x.2) := fun h => by unfold goW; rw [epv]; exact if_neg h
          have hmp := mu_ra hWw hp ea hWv
          obtain ⟨σ', e', w'⟩ := ih (n + 1) (s + x.1) (pcW B T true x.2) (goW B T true x.2) σ5 hWp hWg (by omega) g1 (fun h => by
            apply Classical.byContradiction
            intro np
            rw [g2 np] at h
            exact np (has_ps hWp h)) (by omega) (by omega) m5 t5 fr5 k5
          refine ⟨σ', ?_, w'⟩
          rw [e']
          cases rsN B T k (pcW B T true x.2) with
          | none => rfl
          | some y => simp only [Option.map_some]; rw [Nat.add_assoc]
      · rw [rs_n hp]
        exact exit s u σ2 (by omega) hWu (fun h => hp (hup h)) m f k2
  have hmu : mu ω ≤ 8000 := by have := WI_nx hW; unfold mu; omega
  obtain ⟨σ', e', w'⟩ := main 8000 0 0 ω ω σ1 hW hW hmu (fun _ => rfl) (fun h => h) (by omega) (by omega) hM1 t1 fr1 k1'
  refine ⟨σ', ?_, w'⟩
  refine (e' : Ex (d + 8) 259 11 [.ref 112, .int 0] [] G0 σ1 = _).trans ?_
  unfold rsA
  cases rsN B T 8000 ω with
  | none => rfl
  | some y => simp only [Nat.zero_add]
