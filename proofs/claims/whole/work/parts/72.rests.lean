/-! L3: rests -/
noncomputable def raS (B : LW) : Nat → Sig → Option (Nat × Sig)
  | 0, _ => none
  | k + 1, w => if bearS B w (w 23 (nx w)) (gtS w (nx w)) then some (0, w) else (raS B k (eaS w (w 1 3))).map (fun x => (x.1 + 1, x.2))
noncomputable def rsN (B T : LW) : Nat → Sig → Option Nat
  | 0, _ => some 0
  | k + 1, w => @ite (Option Nat) (hasP w) (Classical.propDecidable _) (match raS B 100 (psS true w) with
    | none => none
    | some x => (rsN B T k (pcW B T true x.2)).map (x.1 + ·)) (some 0)
def Ea (w v : Sig) : Prop := (∀ q, q ≠ 7 → v q = w q) ∧ ∀ j, 8 ≤ j → v 7 j = w 7 j
theorem Ea_r {w : Sig} : Ea w w := ⟨fun _ _ => rfl, fun _ _ => rfl⟩
theorem Ea_t {a b c : Sig} (h : Ea a b) (k : Ea b c) : Ea a c := ⟨fun q hq => (k.1 q hq).trans (h.1 q hq), fun j hj => (k.2 j hj).trans (h.2 j hj)⟩
theorem Ea_nx {w v : Sig} (h : Ea w v) : nx v = nx w ∧ wl v = wl w ∧ dn v = dn w ∧ (∀ l, paced v l = paced w l) ∧ v 23 = w 23 ∧ gtS v = gtS w ∧ v 1 = w 1 := by
  have e1 := h.1 1 (by decide)
  refine ⟨by unfold nx; rw [e1], by unfold wl; rw [h.1 20 (by decide)], by unfold dn; rw [e1], fun l => by unfold paced; rw [h.1 21 (by decide)], h.1 23 (by decide), ?_, e1⟩
  funext l
  unfold gtS; rw [e1, h.1 8 (by decide), h.1 21 (by decide), h.1 22 (by decide)]
theorem Ea_ea {B T : LW} {w : Sig} (hW : WI B T w) (x : Int32) : Ea w (eaS w x) := ⟨fun q hq => eaS_q hq, fun j hj => (Ts_ea hW x).2.2 j hj |>.1⟩
theorem Ea_Ts {w v : Sig} (h : Ea w v) : Ts w v := Ts_7 h.1 h.2
theorem ease_w {B T : LW} {w : Sig} (hW : WI B T w) : WI B T (eaS w (w 1 3)) := WI_ea hW (by have h2 : bw (w 1 3) 0 1000 := hW 2; unfold bw at *; omega)
theorem ra_E {B T : LW} : ∀ k (w : Sig), WI B T w → ∀ x, raS B k w = some x → Ea w x.2 ∧ WI B T x.2 ∧ x.1 < k := by
  intro k
  induction k with
  | zero => intro w _ x h; cases h
  | succ k ih =>
    intro w hW x h
    rw [raS] at h
    by_cases c : bearS B w (w 23 (nx w)) (gtS w (nx w))
    · rw [if_pos c] at h; cases h; exact ⟨Ea_r, hW, by omega⟩
    · rw [if_neg c] at h
      cases hr : raS B k (eaS w (w 1 3)) with
      | none => rw [hr] at h; cases h
      | some y =>
        rw [hr] at h
        cases h
        obtain ⟨a, b, c'⟩ := ih _ (ease_w hW) y hr
        exact ⟨Ea_t (Ea_ea hW _) a, b, by dsimp only; omega⟩
theorem c_restAhead (d : Nat) {B T : LW} {w σ : Sig} (hW : WI B T w) (r : RW true w σ) (h0 : σ 67 8 = 0) (hl : nx w < wl w) (hp : paced w (nx w)) :
    ∃ σ' v, Ex (d + 4) 85 0 [.ref 74, .null] [] G0 σ = some (some (.int (match raS B 100 w with
      | some x => nI x.1
      | none => -1)), G0, σ') ∧ RW true v σ' ∧ Ea w v ∧ WI B T v ∧ (∀ x, raS B 100 w = some x → v = x.2) ∧ Fr SCV SLC σ σ' := by
  rw [b85_0]
  have main : ∀ k n (w1 σ1 : Sig), n + k = 100 → WI B T w1 → RW true w1 σ1 → Ea w w1 → Fr SCV SLC σ σ1 → ∃ σ' v, Ex (d + 4) 85 2 [.ref 74, .int (nI n)] [] G0 σ1 = some (some (.int (match raS B k w1 with
      | some x => nI (n + x.1)
      | none => -1)), G0, σ') ∧ RW true v σ' ∧ Ea w v ∧ WI B T v ∧ (∀ x, raS B k w1 = some x → v = x.2) ∧ Fr SCV SLC σ σ' := by
    intro k
    induction k with
    | zero =>
      intro n w1 σ1 hn hW1 r1 ea f
      rw [b85_2]
      have q : ((99 : Int32) < nI n) = True := by
        have : ((99 : Int32) < nI n) = (99 < n) := nJ_lt (a := 99) (by omega) (by omega)
        rw [this]; exact eq_true (by omega)
      simp only [q, i10, i01, eq_self, if_true, if_false, true_and, false_and, and_true, and_false, not_true, not_false_iff, true_or, or_true, false_or, or_false, ne_eq, not_true_eq_false, not_false_eq_true]
      exact ⟨σ1, w1, rfl, r1, ea, hW1, fun x h => (by cases h), f⟩
    | succ k ih =>
      intro n w1 σ1 hn hW1 r1 ea f
      obtain ⟨n1, n2, _, n4, n5, n6, n7⟩ := Ea_nx ea
      have hl1 : nx w1 < wl w1 := by omega
      have hp1 : paced w1 (nx w1) := by rw [n4, n1]; exact hp
      have hc2 := (pcd hW1 hl1 hp1).2.1
      rw [b85_2]
      have q : ((99 : Int32) < nI n) = False := by
        have : ((99 : Int32) < nI n) = (99 < n) := nJ_lt (a := 99) (by omega) (by omega)
        rw [this]; exact eq_false (by omega)
      have hsl := fun d => c_slopeNow d (σ := σ1) hW1 (by rw [RW_q r1 (by omega) (by omega) (by omega) (by omega)]) (RW_q r1 (by omega) (by omega) (by omega) (by omega)) (RW_q r1 (by omega) (by omega) (by omega) (by omega)) hl1
      have hgp := fun d => c_gatePair d hW1 r1 hl1 hp1
      have r0 : σ1 67 8 = 0 := by rw [f 67 8 (by decide) (by decide)]; exact h0
      obtain ⟨σ2, e2, f2, _, _, _, _, _⟩ := c_bears d B T σ1 (w1 23 (nx w1)) (gtS w1 (nx w1)) (RW_WI r1 hW1) hc2 (Or.inl r0) (fun h => absurd r0 h)
      have hbe : bI (bearS B σ1 (w1 23 (nx w1)) (gtS w1 (nx w1))) = bI (bearS B w1 (w1 23 (nx w1)) (gtS w1 (nx w1))) := bI_c (by rw [sp_bearS (Cq_B (RW_C r1))])
      rw [hbe] at e2
      have r2 : RW true w1 σ2 := RW_fr r1 f2 (by decide) (by decide)
      have f2' : Fr SCV SLC σ σ2 := Fr_t f (Fr_m f2 (by decide) (by decide))
      simp only [q, i10, i01, eq_self, if_true, if_false, true_and, false_and, and_true, and_false, not_true, not_false_iff, true_or, or_true, false_or, or_false, ne_eq, not_true_eq_false, not_false_eq_true, hsl, Option.bind_some, Option.toList_some, Option.toList_none, List.cons_append, List.nil_append, i01a, i01b, if_true, if_false, b85_20, hgp, b85_24, e2, b85_27, bI_z, bI_o, bI_em, ite_not]
      rw [raS]
      by_cases c : bearS B w1 (w1 23 (nx w1)) (gtS w1 (nx w1))
      · rw [if_pos c]
        simp only [eq_true c, i10, i01, eq_self, if_true, if_false, true_and, false_and, and_true, and_false, not_true, not_false_iff, true_or, or_true, false_or, or_false, ne_eq, not_true_eq_false, not_false_eq_true]
        refine ⟨σ2, w1, rfl, r2, ea, hW1, fun x h => ?_, f2'⟩
        cases h; rfl
      · rw [if_neg c]
        have e13 : σ2 1 3 = w1 1 3 := by rw [RW_q r2 (by omega) (by omega) (by omega) (by omega)]
        simp only [eq_false c, i10, i01, eq_self, if_true, if_false, true_and, false_and, and_true, and_false, not_true, not_false_iff, true_or, or_true, false_or, or_false, ne_eq, not_true_eq_false, not_false_eq_true, e13, (fun d => c_ease d (RW_WI r2 hW1)), Option.bind_some, Option.toList_some, Option.toList_none, List.cons_append, List.nil_append, i01a, i01b, if_true, if_false, b85_49, nI_s]
        obtain ⟨σ', v, e', a1, a2, a3, a4, a5⟩ := ih (n + 1) (eaS w1 (w1 1 3)) (eaS σ2 (w1 1 3)) (by omega) (ease_w hW1) (RW_ea r2 _) (Ea_t ea (Ea_ea hW1 _)) (by
          intro q k k1 k2
          have hq := k1
          unfold SCV at hq; simp at hq
          rw [eaS_q (by omega)]; exact f2' q k k1 k2)
        refine ⟨σ', v, ?_, a1, a2, a3, fun x h => ?_, a5⟩
        · rw [e']
          cases hr : raS B k (eaS w1 (w1 1 3)) with
          | none => rfl
          | some y => simp only [Option.map_some]; rw [show n + 1 + y.1 = n + (y.1 + 1) by omega]
        · cases hr : raS B k (eaS w1 (w1 1 3)) with
          | none => rw [hr] at h; cases h
          | some y => rw [hr] at h; cases h; exact a4 y hr
  obtain ⟨σ', v, e', rest⟩ := main 100 0 w σ rfl hW r Ea_r Fr_r
  refine ⟨σ', v, ?_, rest⟩
  refine (e' : Ex (d + 4) 85 2 [.ref 74, .int 0] [] G0 σ = _).trans ?_
  cases raS B 100 w with
  | none => rfl
  | some y => simp only [Nat.zero_add]
theorem m_restsAhead (d : Nat) {B T : LW} {w σ : Sig} (hM : MR B T w σ) (hW : WI B T w) (hl : nx w < wl w) (hp : paced w (nx w)) :
    ∃ σ' v, Ex (d + 6) 258 0 [.ref 112, .null] [] G0 σ = some (some (.int (match raS B 100 w with
      | some x => nI x.1
      | none => 1000000)), G0, σ') ∧ MR B T v σ' ∧ Ea w v ∧ WI B T v ∧ (∀ x, raS B 100 w = some x → v = x.2) ∧ Fr SCS [(112, 49)] σ σ' := by
  rw [b258_0]
  have main : ∀ k n (w1 σ1 : Sig), n + k = 99 → WI B T w1 → MR B T w1 σ1 → Ea w w1 → Fr SCS [(112, 49)] σ σ1 → ∃ σ' v, Ex (d + 6) 258 2 [.ref 112, .int (nI n)] [] G0 σ1 = some (some (.int (match raS B (k + 1) w1 with
      | some x => nI (n + x.1)
      | none => 1000000)), G0, σ') ∧ MR B T v σ' ∧ Ea w v ∧ WI B T v ∧ (∀ x, raS B (k + 1) w1 = some x → v = x.2) ∧ Fr SCS [(112, 49)] σ σ' := by
    intro k
    induction k with
    | zero =>
      intro n w1 σ1 hn hW1 m1 ea f
      obtain ⟨n1, n2, _, n4, n5, n6, n7⟩ := Ea_nx ea
      have hl1 : nx w1 < wl w1 := by omega
      have hp1 : paced w1 (nx w1) := by rw [n4, n1]; exact hp
      have hc2 := (pcd hW1 hl1 hp1).2.1
      have h25 : mr B T w1 σ1 25 := m1 25
      have nk23 : w1 21 (nx w1) ≠ 23 := fun e => by rcases hp1 with k | k <;> rw [k] at e <;> exact absurd e (by decide)
      have l2 : ∀ d, Ex d 222 0 [.ref 112, .int 2] [] G0 σ1 = some (some (.int (w1 23 (nx w1))), G0, σ1) := fun d => by rw [← (h25 (nx w1) hl1).2.2.1 nk23]; exact m_ofLine d m1 hW1 hl1 (k := 2) (by omega)
      obtain ⟨σ2, e2, f2, m2, _, _⟩ := m_bears d m1 hW1 hc2 (gtS w1 (nx w1))
      have q : (nI n = 99) = True := by rw [show n = 99 by omega]; exact eq_true rfl
      rw [b258_2]
      simp only [l2, Option.bind_some, Option.toList_some, Option.toList_none, List.cons_append, List.nil_append, i01a, i01b, if_true, if_false, b258_8, (fun d => m_gateNow d m1 hW1 hl1 hp1), b258_12, e2, b258_15, bI_z, bI_o, bI_em, ite_not, q, i10, i01, eq_self, if_true, if_false, true_and, false_and, and_true, and_false, not_true, not_false_iff, true_or, or_true, false_or, or_false, ne_eq, not_true_eq_false, not_false_eq_true]
      rw [raS, raS]
      by_cases c : bearS B w1 (w1 23 (nx w1)) (gtS w1 (nx w1))
      · rw [if_pos c]
        simp only [eq_true c, i10, i01, eq_self, if_true, if_false, true_and, false_and, and_true, and_false, not_true, not_false_iff, true_or, or_true, false_or, or_false, ne_eq, not_true_eq_false, not_false_eq_true]
        exact ⟨σ2, w1, rfl, m2, ea, hW1, fun x h => (by cases h; rfl), Fr_t f (Fr_m f2 (by decide) (by simp))⟩
      · rw [if_neg c]
        simp only [eq_false c, i10, i01, eq_self, if_true, if_false, true_and, false_and, and_true, and_false, not_true, not_false_iff, true_or, or_true, false_or, or_false, ne_eq, not_true_eq_false, not_false_eq_true, Option.map_none]
        exact ⟨σ2, w1, rfl, m2, ea, hW1, fun x h => (by cases h), Fr_t f (Fr_m f2 (by decide) (by simp))⟩
    | succ k ih =>
      intro n w1 σ1 hn hW1 m1 ea f
      obtain ⟨n1, n2, _, n4, n5, n6, n7⟩ := Ea_nx ea
      have hl1 : nx w1 < wl w1 := by omega
      have hp1 : paced w1 (nx w1) := by rw [n4, n1]; exact hp
      have hc2 := (pcd hW1 hl1 hp1).2.1
      have h25 : mr B T w1 σ1 25 := m1 25
      have nk23 : w1 21 (nx w1) ≠ 23 := fun e => by rcases hp1 with k | k <;> rw [k] at e <;> exact absurd e (by decide)
      have l2 : ∀ d, Ex d 222 0 [.ref 112, .int 2] [] G0 σ1 = some (some (.int (w1 23 (nx w1))), G0, σ1) := fun d => by rw [← (h25 (nx w1) hl1).2.2.1 nk23]; exact m_ofLine d m1 hW1 hl1 (k := 2) (by omega)
      obtain ⟨σ2, e2, f2, m2, _, _⟩ := m_bears d m1 hW1 hc2 (gtS w1 (nx w1))
      have q : (nI n = 99) = False := by
        have : (nI n = 99) = (n = 99) := nJ_e (b := 99) (by omega) (by omega)
        rw [this]; exact eq_false (by omega)
      rw [b258_2]
      simp only [l2, Option.bind_some, Option.toList_some, Option.toList_none, List.cons_append, List.nil_append, i01a, i01b, if_true, if_false, b258_8, (fun d => m_gateNow d m1 hW1 hl1 hp1), b258_12, e2, b258_15, bI_z, bI_o, bI_em, ite_not, q, i10, i01, eq_self, if_true, if_false, true_and, false_and, and_true, and_false, not_true, not_false_iff, true_or, or_true, false_or, or_false, ne_eq, not_true_eq_false, not_false_eq_true]
      rw [raS]
      by_cases c : bearS B w1 (w1 23 (nx w1)) (gtS w1 (nx w1))
      · rw [if_pos c]
        simp only [eq_true c, i10, i01, eq_self, if_true, if_false, true_and, false_and, and_true, and_false, not_true, not_false_iff, true_or, or_true, false_or, or_false, ne_eq, not_true_eq_false, not_false_eq_true]
        exact ⟨σ2, w1, rfl, m2, ea, hW1, fun x h => (by cases h; rfl), Fr_t f (Fr_m f2 (by decide) (by simp))⟩
      · rw [if_neg c]
        have hm1 : w1 1 3 * 1 = w1 1 3 := Int32.mul_one _
        obtain ⟨σ3, e3, f3, m3⟩ := m_eases (d + 4) m2 hW1 1 (by rw [hm1]; have h2 : bw (w1 1 3) 0 1000 := hW1 2; unfold bw at *; omega)
        rw [hm1] at m3
        simp only [eq_false c, i10, i01, eq_self, if_true, if_false, true_and, false_and, and_true, and_false, not_true, not_false_iff, true_or, or_true, false_or, or_false, ne_eq, not_true_eq_false, not_false_eq_true, e3, Option.bind_some, Option.toList_some, Option.toList_none, List.cons_append, List.nil_append, i01a, i01b, if_true, if_false, b258_33, nI_s]
        obtain ⟨σ', v, e', a1, a2, a3, a4, a5⟩ := ih (n + 1) (eaS w1 (w1 1 3)) σ3 (by omega) (ease_w hW1) m3 (Ea_t ea (Ea_ea hW1 _)) (Fr_t f (Fr_t (Fr_m f2 (by decide) (by simp)) (Fr_m f3 (by decide) (by simp))))
        refine ⟨σ', v, ?_, a1, a2, a3, fun x h => ?_, a5⟩
        · rw [e']
          cases hr : raS B (k + 1) (eaS w1 (w1 1 3)) with
          | none => rfl
          | some y => simp only [Option.map_some]; rw [show n + 1 + y.1 = n + (y.1 + 1) by omega]
        · cases hr : raS B (k + 1) (eaS w1 (w1 1 3)) with
          | none => rw [hr] at h; cases h
          | some y => rw [hr] at h; cases h; exact a4 y hr
  obtain ⟨σ', v, e', rest⟩ := main 99 0 w σ rfl hW hM Ea_r Fr_r
  refine ⟨σ', v, ?_, rest⟩
  refine (e' : Ex (d + 6) 258 2 [.ref 112, .int 0] [] G0 σ = _).trans ?_
  cases raS B 100 w with
  | none => rfl
  | some y => simp only [Nat.zero_add]
