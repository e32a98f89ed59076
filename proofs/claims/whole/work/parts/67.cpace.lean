/-! L3: the class takes a pace, whole -/
theorem RW_fall {B T : LW} {th : Bool} {ω σ : Sig} (hW : WI B T ω) (h : RW th ω σ) : RW th (fallW th ω) (noW false (eaS (pt (pt σ 1 7 (σ 1 7 + 1)) 1 8 0) (σ 1 3)) 0 0 (-1)) := by
  have e1 := RW_q h (q := 1) (by omega) (by omega) (by omega) (by omega)
  unfold fallW
  rw [e1]
  have r1 : RW th (pt (pt ω 1 7 (ω 1 7 + 1)) 1 8 0) (pt (pt σ 1 7 (ω 1 7 + 1)) 1 8 0) := RW_pt (RW_pt h (by decide) (by decide)) (by decide) (by decide)
  refine RW_note (B := B) (T := T) ?_ (RW_ea r1 _) 0 0 (-1)
  refine WI_ea (WI_18 (WI_17 hW _) _) ?_
  have h2 : bw (ω 1 3) 0 1000 := hW 2
  unfold bw at *; omega
def drw (th : Bool) : Int32 := if th = true then 0 else 1
theorem c_takePace (d : Nat) {B T : LW} {th : Bool} {ω σ : Sig} (hW : WI B T ω) (h : RW th ω σ) (h0 : σ 67 8 = 0) (hl : nx ω < wl ω) (hp : paced ω (nx ω)) :
    ∃ σ', Ex (d + 5) 75 0 [.ref 74, .int (drw th), .null, .null, .null] [] G0 σ = some (none, G0, σ') ∧ RW th (pcW B T th ω) σ' ∧ Fr SCV SLC σ σ' := by
  have hn := WI_nx hW
  have h15 : wi B T ω 15 := hW 15
  obtain ⟨hc1, hc2, hc3⟩ := pcd hW hl hp
  have e1 := RW_q h (q := 1) (by omega) (by omega) (by omega) (by omega)
  have e20 := RW_q h (q := 20) (by omega) (by omega) (by omega) (by omega)
  have e24 := RW_q h (q := 24) (by omega) (by omega) (by omega) (by omega)
  have q1 : (nI (nx ω) < nI (wl ω)) = True := by rw [nJ_lt (by omega) (by omega)]; exact eq_true hl
  -- from the letting go on
  have tail : ∀ (ω1 σ1 : Sig) (lg : Int32), lgS th ω (nx ω) = (ω1, lg) → RW th ω1 σ1 → Fr SCV [] σ σ1 → ∃ σ', ((Ex (d + 4) 76 0 [.ref 74] [] G0 σ1).bind fun o => Ex (d + 4 + 1) 75 71 [.ref 74, .int (drw th), .int (nI (nx ω)), .int (ω 24 (nx ω)), .int lg] (o.1.toList ++ [.ref 74]) o.2.1 o.2.2) = some (none, G0, σ') ∧ RW th (pcW B T th ω) σ' ∧ Fr SCV SLC σ σ' := by
    intro ω1 σ1 lg hlg r1 f1
    have hW1 : WI B T ω1 := by have := WI_lg (th := th) hW (nx ω); rw [hlg] at this; exact this
    have oq : ∀ q, q ∉ [1, 25, 26] → ω1 q = ω q := fun q hq => by have := lg_q (th := th) (ω := ω) (l := nx ω) hq; rw [hlg] at this; exact this
    have o1 : ∀ k, k ≠ 5 → ω1 1 k = ω 1 k := fun k hk => by have := lg_1 (th := th) (ω := ω) (l := nx ω) hk; rw [hlg] at this; exact this
    have s1 := RW_q r1 (q := 1) (by omega) (by omega) (by omega) (by omega)
    have hsl := c_slopeNow (d + 4) (σ := σ1) hW (by rw [s1, o1 9 (by decide)]) (by rw [RW_q r1 (by omega) (by omega) (by omega) (by omega), oq 20 (by decide)]) (by rw [RW_q r1 (by omega) (by omega) (by omega) (by omega), oq 23 (by decide)]) hl
    obtain ⟨σ2, e2, b2, nb2⟩ := c_carry d (ω 24 (nx ω)) lg (RW_WI r1 hW1) hc2 (by rw [f1 67 8 (by decide) (by simp)]; exact h0)
    have hbe : bI (bearS B σ1 (ω 23 (nx ω)) lg) = bI (bearS B ω1 (ω 23 (nx ω)) lg) := bI_c (by rw [sp_bearS (Cq_B (RW_C r1))])
    rw [hbe] at e2
    simp only [hsl, Option.bind_some, Option.toList_some, Option.toList_none, List.cons_append, List.nil_append, i01a, i01b, if_true, if_false, b75_71, e2, b75_77, bI_z, bI_o, bI_em, ite_not]
    -- behind carry or fall
    have fin : ∀ (σ3 : Sig), RW th (if bearS B ω1 (ω 23 (nx ω)) lg then carW B T ω1 (ω 23 (nx ω)) (ω 24 (nx ω)) lg else fallW th ω1) σ3 → Fr SCV SLC σ σ3 → ∃ σ', Ex (d + 4 + 1) 75 138 [.ref 74, .int (drw th), .int (nI (nx ω)), .int (ω 24 (nx ω)), .int lg] [] G0 σ3 = some (none, G0, σ') ∧ RW th (pcW B T th ω) σ' ∧ Fr SCV SLC σ σ' := by
      intro σ3 r3 f3
      generalize hA : (if bearS B ω1 (ω 23 (nx ω)) lg then carW B T ω1 (ω 23 (nx ω)) (ω 24 (nx ω)) lg else fallW th ω1) = A at r3
      have a1 : ∀ k, k ∉ [7, 8] → A 1 k = ω1 1 k := fun k hk => by
        rw [← hA]; simp at hk
        split
        · rw [carW_1 (by omega)]
        · rw [fall_1 (by omega) (by omega)]
      have aq : ∀ q, q ∉ [1, 7, 25, 26] → A q = ω1 q := fun q hq => by
        rw [← hA]
        split
        · simp at hq; rw [carW_q (by omega) (by omega)]
        · exact fall_q hq
      have t1 := RW_q r3 (q := 1) (by omega) (by omega) (by omega) (by omega)
      have t22 : σ3 22 = ω 22 := by rw [RW_q r3 (by omega) (by omega) (by omega) (by omega), aq 22 (by decide), oq 22 (by decide)]
      have v6 : σ3 1 6 = ω1 1 6 := by rw [t1, a1 6 (by decide)]
      have v9 : σ3 1 9 = nI (nx ω) := by rw [t1, a1 9 (by decide), o1 9 (by decide), hn.1]
      have v10 : σ3 1 10 = ω 1 10 := by rw [t1, a1 10 (by decide), o1 10 (by decide)]
      rw [b75_138]
      simp (disch := decide) only [inb_n (show nx ω < 40 by omega) (show nx ω < 2 ^ 31 by omega), nI_c (show nx ω < 2 ^ 31 by omega), if_true, pt_q, pt_k, pt_e, v6, v9, v10, t22, nI_s]
      unfold pcW stW
      dsimp only
      rw [hlg]
      dsimp only
      rw [hA]
      have r4 : RW th (pt A 1 6 (ω1 1 6 + 1)) (pt σ3 1 6 (ω1 1 6 + 1)) := RW_pt r3 (by decide) (by decide)
      have f4 : Fr SCV SLC σ (pt σ3 1 6 (ω1 1 6 + 1)) := Fr_p f3 (Or.inl (by decide))
      by_cases c : ω 1 10 + 1 < ω 22 (nx ω)
      · simp only [eq_true c, if_true]
        exact ⟨_, rfl, RW_pt r4 (by decide) (by decide), Fr_p f4 (Or.inl (by decide))⟩
      · simp only [eq_false c, if_false, b75_199]
        refine ⟨_, rfl, ?_, Fr_p (Fr_p (Fr_p f4 (Or.inl (by decide))) (Or.inl (by decide))) (Or.inl (by decide))⟩
        have := RW_pt (q := 1) (k := 10) (v := 0) (RW_pt (q := 1) (k := 9) (v := nI (nx ω + 1)) r4 (by decide) (by decide)) (by decide) (by decide)
        have ep : pt (pt (pt (pt σ3 1 6 (ω1 1 6 + 1)) 1 10 (ω 1 10 + 1)) 1 9 (nI (nx ω + 1))) 1 10 0 = pt (pt (pt σ3 1 6 (ω1 1 6 + 1)) 1 9 (nI (nx ω + 1))) 1 10 0 := by
          funext q k
          simp only [pt_ap]
          by_cases k10 : q = 1 ∧ k = 10
          · simp [k10]
          · simp [k10]
        rw [ep]; exact this
    by_cases hb : bearS B ω1 (ω 23 (nx ω)) lg
    · have hb' : bearS B σ1 (ω 23 (nx ω)) lg := by rw [sp_bearS (Cq_B (RW_C r1))]; exact hb
      obtain ⟨f2, _⟩ := b2 hb'
      have r2 : RW th (carW B T ω1 (ω 23 (nx ω)) (ω 24 (nx ω)) lg) σ2 := RW_fr (RW_car r1 _ _ _) f2 (by decide) (by decide)
      have f2' : Fr SCV SLC σ σ2 := by
        intro q k k1 k2
        have : q ∉ SCC := fun e => k1 (by revert e; unfold SCC SCV; simp; omega)
        rw [f2 q k this k2]
        unfold SCV at k1; simp at k1
        rw [carW_q (by omega) (by omega)]
        exact f1 q k (by unfold SCV; simp; omega) (by simp)
      simp only [eq_true hb, i10, i01, eq_self, if_true, if_false, true_and, false_and, and_true, and_false, not_true, not_false_iff, true_or, or_true, false_or, or_false, ne_eq, not_true_eq_false, not_false_eq_true]
      exact fin σ2 (by rw [if_pos hb]; exact r2) f2'
    · have hb' : ¬ bearS B σ1 (ω 23 (nx ω)) lg := by rw [sp_bearS (Cq_B (RW_C r1))]; exact hb
      have f2 := nb2 hb'
      have r2 : RW th ω1 σ2 := RW_fr r1 f2 (by decide) (by decide)
      have f2' : Fr SCV SLC σ σ2 := Fr_t (Fr_m f1 (fun _ h => h) (by simp)) (Fr_m f2 (by decide) (fun x hx => Or.inl hx))
      have rf := RW_fall hW1 r2
      have hWs : WI B T (pt (pt σ2 1 7 (σ2 1 7 + 1)) 1 8 0) := WI_18 (WI_17 (RW_WI r2 hW1) _) _
      have hbk : bw (eaS (pt (pt σ2 1 7 (σ2 1 7 + 1)) 1 8 0) (σ2 1 3) 25 0) 0 150 := by
        rw [eaS_q (by decide)]; exact hWs 14
      have e13 : (pt (pt σ2 1 7 (σ2 1 7 + 1)) 1 8 0) 1 3 = σ2 1 3 := by rw [pt_k (by decide), pt_k (by decide)]
      have ew := c_write (d + 4) hbk 0 0 (-1)
      simp only [eq_false hb, i10, i01, eq_self, if_true, if_false, true_and, false_and, and_true, and_false, not_true, not_false_iff, true_or, or_true, false_or, or_false, ne_eq, not_true_eq_false, not_false_eq_true, e13, (fun d => c_ease d hWs), Option.bind_some, Option.toList_some, Option.toList_none, List.cons_append, List.nil_append, i01a, i01b, if_true, if_false, b75_118, ew]
      refine fin _ (by rw [if_neg hb]; exact rf) ?_
      intro q k k1 k2
      have hq := k1
      unfold SCV at hq; simp at hq
      rw [noW_q (by omega) (by omega), eaS_q (by omega), pt_q (by omega), pt_q (by omega)]
      exact f2' q k k1 k2
  rw [b75_0]
  simp only [e1, e20, e24, h15.1, hn.1, q1, i10, i01, eq_self, if_true, if_false, true_and, false_and, and_true, and_false, not_true, not_false_iff, true_or, or_true, false_or, or_false, ne_eq, not_true_eq_false, not_false_eq_true, inb_n (show nx ω < 40 by omega) (show nx ω < 2 ^ 31 by omega), nI_c (show nx ω < 2 ^ 31 by omega), (fun d => c_gatePair d hW h hl hp), Option.bind_some, Option.toList_some, Option.toList_none, List.cons_append, List.nil_append, i01a, i01b, if_true, if_false, b75_40]
  cases th with
  | true =>
    have hd : (drw true = 0) = True := eq_true rfl
    simp only [hd, i10, i01, eq_self, if_true, if_false, true_and, false_and, and_true, and_false, not_true, not_false_iff, true_or, or_true, false_or, or_false, ne_eq, not_true_eq_false, not_false_eq_true]
    exact tail ω σ (gtS ω (nx ω)) (by unfold lgS; rw [if_pos (Or.inl rfl)]) h Fr_r
  | false =>
    have hd : (drw false = 0) = False := eq_false (by decide)
    simp only [hd, i10, i01, eq_self, if_true, if_false, true_and, false_and, and_true, and_false, not_true, not_false_iff, true_or, or_true, false_or, or_false, ne_eq, not_true_eq_false, not_false_eq_true, e1]
    by_cases c : ω 1 4 ≤ 0
    · simp only [eq_true c, i10, i01, eq_self, if_true, if_false, true_and, false_and, and_true, and_false, not_true, not_false_iff, true_or, or_true, false_or, or_false, ne_eq, not_true_eq_false, not_false_eq_true]
      exact tail ω σ (gtS ω (nx ω)) (by unfold lgS; rw [if_pos (Or.inr c)]) h Fr_r
    · obtain ⟨σ1, e3, r3, f3⟩ := c_slipping (d + 3) hW h (ω 24 (nx ω))
      simp only [eq_false c, i10, i01, eq_self, if_true, if_false, true_and, false_and, and_true, and_false, not_true, not_false_iff, true_or, or_true, false_or, or_false, ne_eq, not_true_eq_false, not_false_eq_true, e3, Option.bind_some, Option.toList_some, Option.toList_none, List.cons_append, List.nil_append, i01a, i01b, if_true, if_false, b75_63]
      exact tail (slS ω (ω 24 (nx ω))).1 σ1 (gtS ω (nx ω) ||| (slS ω (ω 24 (nx ω))).2) (by unfold lgS; rw [if_neg (fun e => e.elim (fun e => by cases e) c)]) r3 f3
/-- is there a pace ahead? -/
def hasP (ω : Sig) : Prop := ∃ l, nx ω ≤ l ∧ l < wl ω ∧ paced ω l
theorem hasP_i {B T : LW} {ω : Sig} (hW : WI B T ω) : (ω 20 1 < ω 1 9) = ¬ hasP ω := by
  have hn := WI_nx hW
  have h19 : wi B T ω 19 := hW 19
  rw [hn.1]
  rcases h19 with ⟨e, h⟩ | ⟨m, hm, e, hp, h⟩
  · rw [e]
    refine propext ⟨fun _ ⟨l, _, h2, h3⟩ => h l h2 h3, fun _ => ?_⟩
    rw [Int32.lt_iff_toInt_lt, nI_i (by omega)]
    have h2 : (-1 : Int32).toInt = -1 := rfl
    omega
  · rw [e, nJ_lt (by omega) (by omega)]
    refine propext ⟨fun k ⟨l, h1, h2, h3⟩ => ?_, fun k => ?_⟩
    · exact h l (by omega) h2 h3
    · apply Classical.byContradiction
      intro c
      exact k ⟨m, by omega, hm, hp⟩
noncomputable def goW (B T : LW) (th : Bool) (ω : Sig) : Sig := @ite Sig (hasP (pcW B T th (psS th ω))) (Classical.propDecidable _) (pcW B T th (psS th ω)) (psS th (pcW B T th (psS th ω)))
theorem ps_ok {B T : LW} {th : Bool} {ω : Sig} (hW : WI B T ω) (hp : hasP ω) : WI B T (psS th ω) ∧ nx (psS th ω) < wl (psS th ω) ∧ paced (psS th ω) (nx (psS th ω)) := by
  have hn := WI_nx hW
  obtain ⟨a1, a2, a3, a4, a5, a6, a7, _⟩ := psW_spec (th := th) (wl ω - nx ω) ω hW (by omega)
  obtain ⟨l, l1, l2, l3⟩ := hp
  have hlt : nx (psS th ω) < wl ω := by
    apply Classical.byContradiction
    intro c
    exact a6 l l1 (by unfold psS at c; omega) l3
  exact ⟨a1, by unfold psS at *; omega, a5 hlt⟩
theorem WI_ps {B T : LW} {th : Bool} {ω : Sig} (hW : WI B T ω) : WI B T (psS th ω) := by
  have hn := WI_nx hW
  exact (psW_spec (th := th) (wl ω - nx ω) ω hW (by omega)).1
theorem WI_go {B T : LW} {th : Bool} {ω : Sig} (hW : WI B T ω) (hp : hasP ω) : WI B T (goW B T th ω) := by
  obtain ⟨a, b, c⟩ := ps_ok (th := th) hW hp
  have := WI_pc (th := th) a b c
  unfold goW
  split
  · exact this
  · exact WI_ps this
theorem c_hasPace (d : Nat) {B T : LW} {th : Bool} {ω σ : Sig} (hW : WI B T ω) (h : RW th ω σ) : Ex d 71 0 [.ref 74] [] G0 σ = some (some (.int (@bI (hasP ω) (Classical.propDecidable _))), G0, σ) := by
  have e1 := RW_q h (q := 1) (by omega) (by omega) (by omega) (by omega)
  have e20 := RW_q h (q := 20) (by omega) (by omega) (by omega) (by omega)
  rw [b71_0]
  simp only [Option.bind_some, Option.toList_some, Option.toList_none, List.cons_append, List.nil_append, i01a, i01b, if_true, if_false, e1, e20]
  have hi := hasP_i hW
  by_cases k : hasP ω
  · rw [if_neg (by rw [hi]; exact fun e => e k), @bI_T _ (Classical.propDecidable _) k]
    simp only [i10, i01, eq_self, if_true, if_false, true_and, false_and, and_true, and_false, not_true, not_false_iff, true_or, or_true, false_or, or_false, ne_eq, not_true_eq_false, not_false_eq_true]
  · rw [if_pos (by rw [hi]; exact k), @bI_F _ (Classical.propDecidable _) k]
    simp only [i10, i01, eq_self, if_true, if_false, true_and, false_and, and_true, and_false, not_true, not_false_iff, true_or, or_true, false_or, or_false, ne_eq, not_true_eq_false, not_false_eq_true]
theorem c_step (d : Nat) {B T : LW} {ω σ : Sig} (hW : WI B T ω) (h : RW false ω σ) (h0 : σ 67 8 = 0) (hp : hasP ω) :
    ∃ σ', Ex (d + 6) 72 0 [.ref 74] [] G0 σ = some (none, G0, σ') ∧ RW false (goW B T false ω) σ' ∧ Fr SCV SLC σ σ' := by
  obtain ⟨p1, p2, p3⟩ := ps_ok (th := false) hW hp
  obtain ⟨σ1, e1, r1, f1⟩ := c_passLines (d + 2) hW h
  obtain ⟨σ2, e2, r2, f2⟩ := c_takePace d p1 r1 (by rw [f1 67 8 (by decide) (by simp)]; exact h0) p2 p3
  have e2' : Ex (d + 5) 75 0 [.ref 74, .int 1, .null, .null, .null] [] G0 σ1 = _ := e2
  have hW2 := WI_pc (th := false) p1 p2 p3
  have f12 : Fr SCV SLC σ σ2 := Fr_t (Fr_m f1 (fun _ h => h) (by simp)) f2
  simp only [b72_0, e1, Option.bind_some, Option.toList_some, Option.toList_none, List.cons_append, List.nil_append, i01a, i01b, if_true, if_false, b72_4, e2', b72_9, (fun d => c_hasPace d hW2 r2), b72_13]
  unfold goW
  by_cases k : hasP (pcW B T false (psS false ω))
  · rw [@bI_T _ (Classical.propDecidable _) k, if_pos k]
    simp only [i10, i10, i01, eq_self, if_true, if_false, true_and, false_and, and_true, and_false, not_true, not_false_iff, true_or, or_true, false_or, or_false, ne_eq, not_true_eq_false, not_false_eq_true, b72_20]
    exact ⟨σ2, rfl, r2, f12⟩
  · obtain ⟨σ3, e3, r3, f3⟩ := c_passLines (d + 2) hW2 r2
    rw [@bI_F _ (Classical.propDecidable _) k, if_neg k]
    simp only [i10, i01, eq_self, if_true, if_false, true_and, false_and, and_true, and_false, not_true, not_false_iff, true_or, or_true, false_or, or_false, ne_eq, not_true_eq_false, not_false_eq_true, e3, Option.bind_some, Option.toList_some, Option.toList_none, List.cons_append, List.nil_append, i01a, i01b, if_true, if_false, b72_20]
    exact ⟨σ3, rfl, r3, Fr_t f12 (Fr_m f3 (fun _ h => h) (by simp))⟩
