/-! L3: the model goes by -/
theorem m_gateNow (d : Nat) {B T : LW} {ω σ : Sig} (hM : MR B T ω σ) (hW : WI B T ω) (hl : nx ω < wl ω) (hp : paced ω (nx ω)) : Ex (d + 1) 227 0 [.ref 112] [] G0 σ = some (some (.int (gtS ω (nx ω))), G0, σ) := by
  have h25 : mr B T ω σ 25 := hM 25
  obtain ⟨w0, w1, _, _⟩ := h25 (nx ω) hl
  have l0 : ∀ d, Ex d 222 0 [.ref 112, .int 0] [] G0 σ = some (some (.int (mway (ω 21 (nx ω)))), G0, σ) := fun d => by rw [← w0]; exact m_ofLine d hM hW hl (k := 0) (by omega)
  have l1 : ∀ d, Ex d 222 0 [.ref 112, .int 1] [] G0 σ = some (some (.int (ω 22 (nx ω))), G0, σ) := fun d => by rw [← w1]; exact m_ofLine d hM hW hl (k := 1) (by omega)
  have hc := (pcd hW hl hp).1
  have q0 : (ω 22 (nx ω) = 0) = False := eq_false (fun e => by rw [e] at hc; unfold bw at hc; have : (0 : Int32).toInt = 0 := rfl; omega)
  have e6 : σ 113 6 = ω 1 10 := hM 13
  have e7 : σ 112 7 + 3 = ω 8 0 := by rw [show σ 112 7 = ω 8 0 - 3 from hM 1, s3a]
  simp only [b227_0, l0, Option.bind_some, Option.toList_some, Option.toList_none, List.cons_append, List.nil_append, i01a, i01b, if_true, if_false, b227_5]
  unfold gtS
  rcases hp with k | k
  · have c1 : (mway (ω 21 (nx ω)) = 1) = False := eq_false (by rw [k]; decide)
    have c2 : (ω 21 (nx ω) = 22) = False := eq_false (by rw [k]; decide)
    simp only [c1, c2, i10, i01, eq_self, if_true, if_false, true_and, false_and, and_true, and_false, not_true, not_false_iff, true_or, or_true, false_or, or_false, ne_eq, not_true_eq_false, not_false_eq_true]
  · have c1 : (mway (ω 21 (nx ω)) = 1) = True := eq_true (by rw [k]; decide)
    have c2 : (ω 21 (nx ω) = 22) = True := eq_true k
    simp only [c1, c2, i10, i01, eq_self, if_true, if_false, true_and, false_and, and_true, and_false, not_true, not_false_iff, true_or, or_true, false_or, or_false, ne_eq, not_true_eq_false, not_false_eq_true, m_pairs, e7, e6, Option.bind_some, Option.toList_some, Option.toList_none, List.cons_append, List.nil_append, i01a, i01b, if_true, if_false, b227_22, l1, b227_28, q0]
theorem m_draw (d : Nat) {B T : LW} {ω σ : Sig} (hM : MR B T ω σ) {m : Int32} (h : ¬ m = 0) : Ex d 152 0 [.ref 112, .int m] [] G0 σ = some (some (.int (dvS (drS (ω 1 5)) m)), G0, pt σ 113 1 (drS (ω 1 5))) ∧ MR B T (pt ω 1 5 (drS (ω 1 5))) (pt σ 113 1 (drS (ω 1 5))) := by
  have e1 : σ 113 1 = ω 1 5 := hM 8
  refine ⟨?_, MR_n1 hM _⟩
  rw [b152_0]
  simp only [h, i10, i01, eq_self, if_true, if_false, true_and, false_and, and_true, and_false, not_true, not_false_iff, true_or, or_true, false_or, or_false, ne_eq, not_true_eq_false, not_false_eq_true, pt_e, e1, Int32.mul_comm 1664525, ← drS_e, ← dvS_e]
theorem bound_e {B T : LW} {ω : Sig} (hW : WI B T ω) {gr : Int32} (hg : bw gr 0 1) : (if gr = 1 then (2 : Int32) * ω 1 4 else ω 1 4) = ω 1 4 <<< (gr &&& 31) := by
  have h3 : bw (ω 1 4) 0 1000 := hW 3
  obtain ⟨n, en, _, hn, _⟩ := bwN (a := 0) (b := 1000) h3
  have hgr : gr = 0 ∨ gr = 1 := by
    have h0 : (0 : Int32).toInt = 0 := rfl
    have h1 : (1 : Int32).toInt = 1 := rfl
    unfold bw at hg
    by_cases c : gr.toInt = 0
    · left; exact Int32.toInt_inj.mp (by omega)
    · right; exact Int32.toInt_inj.mp (by omega)
  rw [en]
  rcases hgr with e | e
  · subst e
    rw [if_neg (by decide), pk_shlN ((0 : Int32) &&& 31) 0 (by decide) (by omega), Nat.pow_zero, Nat.mul_one]
  · subst e
    rw [if_pos rfl, pk_shlN ((1 : Int32) &&& 31) 1 (by decide) (by omega)]
    have : (2 : Int32) * nI n = nI (2 * n) := nI_mul' 2 n
    rw [this]; congr 1; omega
/-- slips, with the gate's letting go joined -/
theorem m_slips (d : Nat) {B T : LW} {th : Bool} {ω σ : Sig} (hM : MR B T ω σ) (hW : WI B T ω) (ht : σ 112 5 = bI (th = true)) (hl : nx ω < wl ω) (hp : paced ω (nx ω)) :
    ∃ σ' v, Ex (d + 2) 228 0 [.ref 112, .int (ω 24 (nx ω)), .null] [] G0 σ = some (some (.int v), G0, σ') ∧ gtS ω (nx ω) ||| v = (lgS th ω (nx ω)).2 ∧ MR B T (lgS th ω (nx ω)).1 σ' ∧ Fr [113, 123] [] σ σ' ∧ (th = true → σ' = σ) := by
  obtain ⟨n4, n8', en⟩ := WI_np hW
  have hgr := (pcd hW hl hp).2.2
  have e11 : σ 112 11 = ω 1 4 := hM 5
  have h3 : bw (ω 1 4) 0 1000 := hW 3
  rw [b228_0, ht]
  unfold lgS
  cases th with
  | true =>
    rw [bI_T rfl]
    simp only [i10, i10, i01, eq_self, if_true, if_false, true_and, false_and, and_true, and_false, not_true, not_false_iff, true_or, or_true, false_or, or_false, ne_eq, not_true_eq_false, not_false_eq_true]
    exact ⟨σ, 0, rfl, M_or0 _, hM, Fr_r, fun _ => rfl⟩
  | false =>
    rw [bI_F (by decide)]
    simp only [i10, i01, eq_self, if_true, if_false, true_and, false_and, and_true, and_false, not_true, not_false_iff, true_or, or_true, false_or, or_false, ne_eq, not_true_eq_false, not_false_eq_true, e11, Bool.false_eq_true]
    by_cases c : ω 1 4 = 0
    · have c' : ω 1 4 ≤ 0 := by rw [c]; decide
      simp only [eq_true c, eq_true c', i10, i01, eq_self, if_true, if_false, true_and, false_and, and_true, and_false, not_true, not_false_iff, true_or, or_true, false_or, or_false, ne_eq, not_true_eq_false, not_false_eq_true]
      exact ⟨σ, 0, rfl, M_or0 _, hM, Fr_r, fun h => by cases h⟩
    · have c' : ¬ ω 1 4 ≤ 0 := fun e => c (by
        have := Int32.le_iff_toInt_le.mp e
        have h0 : (0 : Int32).toInt = 0 := rfl
        unfold bw at h3
        exact Int32.toInt_inj.mp (by omega))
      obtain ⟨d1, m1⟩ := m_draw (d + 1) hM (m := 1000) (by decide)
      have e11' : (pt σ 113 1 (drS (ω 1 5))) 112 11 = ω 1 4 := by rw [pt_q (by decide)]; exact e11
      have hbd := bound_e hW hgr
      have hif : ∀ (s : Int32), (if ω 24 (nx ω) = 1 then (Ex (d + 1) 145 0 [.ref 112, .int 1000, .int (2 * ω 1 4)] [] G0 (pt σ 113 1 (drS (ω 1 5)))).bind fun o => Ex (d + 1 + 1) 228 46 [.ref 112, .int (ω 24 (nx ω)), .null] (o.1.toList ++ [.int s]) o.2.1 o.2.2 else (Ex (d + 1) 145 0 [.ref 112, .int 1000, .int (ω 1 4)] [] G0 (pt σ 113 1 (drS (ω 1 5)))).bind fun o => Ex (d + 1 + 1) 228 46 [.ref 112, .int (ω 24 (nx ω)), .null] (o.1.toList ++ [.int s]) o.2.1 o.2.2) = Ex (d + 1 + 1) 228 46 [.ref 112, .int (ω 24 (nx ω)), .null] [.int (mn 1000 (ω 1 4 <<< (ω 24 (nx ω) &&& 31))), .int s] G0 (pt σ 113 1 (drS (ω 1 5))) := by
        intro s
        rw [← hbd]
        by_cases k : ω 24 (nx ω) = 1
        · simp only [k, i10, i01, eq_self, if_true, if_false, true_and, false_and, and_true, and_false, not_true, not_false_iff, true_or, or_true, false_or, or_false, ne_eq, not_true_eq_false, not_false_eq_true, m_lesser, Option.bind_some, Option.toList_some, Option.toList_none, List.cons_append, List.nil_append, i01a, i01b, if_true, if_false]
        · simp only [k, i10, i01, eq_self, if_true, if_false, true_and, false_and, and_true, and_false, not_true, not_false_iff, true_or, or_true, false_or, or_false, ne_eq, not_true_eq_false, not_false_eq_true, m_lesser, Option.bind_some, Option.toList_some, Option.toList_none, List.cons_append, List.nil_append, i01a, i01b, if_true, if_false]
      simp only [eq_false c, eq_false c', i10, i01, eq_self, if_true, if_false, true_and, false_and, and_true, and_false, not_true, not_false_iff, true_or, or_true, false_or, or_false, ne_eq, not_true_eq_false, not_false_eq_true, d1, Option.bind_some, Option.toList_some, Option.toList_none, List.cons_append, List.nil_append, i01a, i01b, if_true, if_false, b228_21, e11', hif, b228_46]
      unfold slS
      have f1 : Fr [113, 123] [] σ (pt σ 113 1 (drS (ω 1 5))) := Fr_p Fr_r (Or.inl (by simp))
      by_cases k : mn 1000 (ω 1 4 <<< (ω 24 (nx ω) &&& 31)) ≤ dvS (drS (ω 1 5)) 1000
      · have k' : ¬ dvS (drS (ω 1 5)) 1000 < mn 1000 (ω 1 4 <<< (ω 24 (nx ω) &&& 31)) := Int32.not_lt.mpr k
        simp only [eq_true k, eq_false k', i10, i01, eq_self, if_true, if_false, true_and, false_and, and_true, and_false, not_true, not_false_iff, true_or, or_true, false_or, or_false, ne_eq, not_true_eq_false, not_false_eq_true]
        exact ⟨_, 0, rfl, rfl, m1, f1, fun h => by cases h⟩
      · have k' : dvS (drS (ω 1 5)) 1000 < mn 1000 (ω 1 4 <<< (ω 24 (nx ω) &&& 31)) := Int32.not_le.mp k
        have hW1 : WI B T (pt ω 1 5 (drS (ω 1 5))) := WI_15 hW _
        have enp : np (pt ω 1 5 (drS (ω 1 5))) = np ω := by unfold np pr; rw [pt_q (by decide)]
        have epl := m_pl m1 hW1
        rw [enp] at epl
        have nz : ¬ nI (np ω) = 0 := by rw [nI_z (by omega)]; omega
        obtain ⟨d2, m2⟩ := m_draw (d + 1) m1 nz
        have e5 : (pt ω 1 5 (drS (ω 1 5))) 1 5 = drS (ω 1 5) := pt_e
        rw [e5] at d2 m2
        rw [pt_pt] at m2
        obtain ⟨p, hp1, ep⟩ := dv_n (drS (drS (ω 1 5))) (m := np ω) (by omega) (by omega)
        have hp8 : p < 8 := by omega
        have ep' : dvS (drS (drS (ω 1 5))) (2 * ω 8 0) = nI p := by rw [en]; exact ep
        have w9 : (pt ω 1 5 (drS (drS (ω 1 5)))) 9 p = ω 9 p := by rw [pt_q (by decide)]
        have hwho := fun d => m_who d m2 hp8
        simp only [w9] at hwho
        simp only [eq_false k, eq_true k', i10, i01, eq_self, if_true, if_false, true_and, false_and, and_true, and_false, not_true, not_false_iff, true_or, or_true, false_or, or_false, ne_eq, not_true_eq_false, not_false_eq_true, m_places, epl, Option.bind_some, Option.toList_some, Option.toList_none, List.cons_append, List.nil_append, i01a, i01b, if_true, if_false, b228_56, d2, ep, ep', b228_59, hwho, b228_65, c8 hp8]
        have f2 : Fr [113, 123] [] σ (pt (pt σ 113 1 (drS (ω 1 5))) 113 1 (drS (drS (ω 1 5)))) := Fr_p f1 (Or.inl (by simp))
        by_cases kk : ω 9 p = -1
        · simp only [eq_true kk, i10, i01, eq_self, if_true, if_false, true_and, false_and, and_true, and_false, not_true, not_false_iff, true_or, or_true, false_or, or_false, ne_eq, not_true_eq_false, not_false_eq_true, b228_80]
          exact ⟨_, _, rfl, rfl, m2, f2, fun h => by cases h⟩
        · have hW2 : WI B T (pt ω 1 5 (drS (drS (ω 1 5)))) := WI_15 hW _
          obtain ⟨σ3, e3, f3, m3, _⟩ := m_notes (d + 1) m2 hW2 false (by rw [f2 112 5 (by decide) (by simp)]; exact ht) 1 (nI p) (ω 9 p)
          simp only [eq_false kk, i10, i01, eq_self, if_true, if_false, true_and, false_and, and_true, and_false, not_true, not_false_iff, true_or, or_true, false_or, or_false, ne_eq, not_true_eq_false, not_false_eq_true, hwho, Option.bind_some, Option.toList_some, Option.toList_none, List.cons_append, List.nil_append, i01a, i01b, if_true, if_false, b228_77, e3, b228_80]
          exact ⟨σ3, _, rfl, rfl, m3, Fr_t f2 f3, fun h => by cases h⟩
theorem m_goesBy (d : Nat) {B T : LW} {th : Bool} {ω σ : Sig} (hM : MR B T ω σ) (hW : WI B T ω) (ht : σ 112 5 = bI (th = true)) (hp : hasP ω) :
    ∃ σ', Ex (d + 7) 229 0 [.ref 112, .null, .null, .null] [] G0 σ = some (none, G0, σ') ∧ Fr (123 :: SCS) [(112, 49)] σ σ' ∧ (th = true → Fr SCS [(112, 49)] σ σ') ∧ MR B T (goW B T th ω) σ' := by
  obtain ⟨p1, p2, p3⟩ := ps_ok (th := th) hW hp
  obtain ⟨σ1, e1, f1, g1, m1⟩ := m_doesLines (d + 2) hM hW ht
  have fr1 : Fr (123 :: SCS) [(112, 49)] σ σ1 := Fr_m f1 (by decide) (by simp)
  have ht1 : σ1 112 5 = bI (th = true) := by rw [f1 112 5 (by decide) (by simp)]; exact ht
  have gr1 : th = true → Fr SCS [(112, 49)] σ σ1 := fun h => Fr_m (g1 h) (by decide) (by simp)
  generalize hw : psS th ω = w at *
  have h25 : mr B T w σ1 25 := m1 25
  obtain ⟨w0, w1, w2, w3⟩ := h25 (nx w) p2
  have hn := WI_nx p1
  obtain ⟨hc1, hc2, hc3⟩ := pcd p1 p2 p3
  have nk23 : w 21 (nx w) ≠ 23 := fun e => by rcases p3 with k | k <;> rw [k] at e <;> exact absurd e (by decide)
  have l2 : ∀ d, Ex d 222 0 [.ref 112, .int 2] [] G0 σ1 = some (some (.int (w 23 (nx w))), G0, σ1) := fun d => by rw [← w2 nk23]; exact m_ofLine d m1 p1 p2 (k := 2) (by omega)
  have l3 : ∀ d, Ex d 222 0 [.ref 112, .int 3] [] G0 σ1 = some (some (.int (w 24 (nx w))), G0, σ1) := fun d => by rw [← w3 p3]; exact m_ofLine d m1 p1 p2 (k := 3) (by omega)
  obtain ⟨σ2, v, e2, hv, m2, f2, k2⟩ := m_slips (d + 4) m1 p1 ht1 p2 p3
  have ht2 : σ2 112 5 = bI (th = true) := by rw [f2 112 5 (by decide) (by simp)]; exact ht1
  have hWl : WI B T (lgS th w (nx w)).1 := WI_lg p1 _
  obtain ⟨σ3, e3, f3, m3, g3⟩ := m_steps d m2 hWl th ht2 hc2 (w 24 (nx w)) (lgS th w (nx w)).2
  have hWs : WI B T (stW B T th (lgS th w (nx w)).1 (w 23 (nx w)) (w 24 (nx w)) (lgS th w (nx w)).2) := WI_st hWl th _ _ _
  have fr3 : Fr (123 :: SCS) [(112, 49)] σ σ3 := Fr_t fr1 (Fr_t (Fr_m f2 (by decide) (by simp)) f3)
  have gr3 : th = true → Fr SCS [(112, 49)] σ σ3 := fun h => Fr_t (gr1 h) (by have := k2 h; subst this; exact g3 h)
  simp only [b229_0, e1, Option.bind_some, Option.toList_some, Option.toList_none, List.cons_append, List.nil_append, i01a, i01b, if_true, if_false, b229_4, l2, b229_9, l3, b229_15, (fun d => m_gateNow d m1 p1 p2 p3), b229_20, e2, b229_30, hv, e3, b229_34]
  generalize hA : stW B T th (lgS th w (nx w)).1 (w 23 (nx w)) (w 24 (nx w)) (lgS th w (nx w)).2 = A at *
  have a9 : A 1 9 = nI (nx w) := by rw [← hA, st_1 (by decide), lg_1 (by decide)]; exact hn.1
  have a10 : A 1 10 = w 1 10 := by rw [← hA, st_1 (by decide), lg_1 (by decide)]
  have awl : wl A = wl w := by unfold wl; rw [← hA, st_q (by decide), lg_q (by decide)]
  have anx : nx A = nx w := by unfold nx at *; rw [a9, nI_c (by omega)]
  have a22 : A 22 = w 22 := by rw [← hA, st_q (by decide), lg_q (by decide)]
  have s6 : σ3 113 6 = w 1 10 := by rw [show σ3 113 6 = A 1 10 from m3 13, a10]
  have s5 : σ3 113 5 = nI (nx w) := by rw [show σ3 113 5 = A 1 9 from m3 12, a9]
  have m4 : MR B T (pt A 1 10 (w 1 10 + 1)) (pt σ3 113 6 (w 1 10 + 1)) := MR_n6 m3 _
  have l1 : ∀ d, Ex d 222 0 [.ref 112, .int 1] [] G0 (pt σ3 113 6 (w 1 10 + 1)) = some (some (.int (w 22 (nx w))), G0, pt σ3 113 6 (w 1 10 + 1)) := fun d => by
    have e5 : (pt σ3 113 6 (w 1 10 + 1)) 113 5 = nI (nx w) := by rw [pt_k (by decide)]; exact s5
    have e41 : (4 : Int32) * nI (nx w) + 1 = nI (4 * nx w + 1) := by
      have : (4 : Int32) * nI (nx w) = nI (4 * nx w) := nI_mul' 4 _
      rw [this, nI_s]
    have h25' : mr B T (pt A 1 10 (w 1 10 + 1)) (pt σ3 113 6 (w 1 10 + 1)) 25 := m4 25
    have hwl : wl (pt A 1 10 (w 1 10 + 1)) = wl w := by unfold wl at *; rw [pt_q (by decide)]; exact awl
    have w1' := (h25' (nx w) (by rw [hwl]; exact p2)).2.1
    rw [b222_0]
    simp only [e5, e41, inb_n (show 4 * nx w + 1 < 320 by omega) (show 4 * nx w + 1 < 2 ^ 31 by omega), nI_c (show 4 * nx w + 1 < 2 ^ 31 by omega), i10, i01, eq_self, if_true, if_false, true_and, false_and, and_true, and_false, not_true, not_false_iff, true_or, or_true, false_or, or_false, ne_eq, not_true_eq_false, not_false_eq_true]
    rw [w1', pt_q (by decide), a22]
  simp only [s6, l1, Option.bind_some, Option.toList_some, Option.toList_none, List.cons_append, List.nil_append, i01a, i01b, if_true, if_false, b229_63, pt_e]
  have hpc : pcW B T th w = if w 1 10 + 1 < w 22 (nx w) then pt A 1 10 (w 1 10 + 1) else pt (pt A 1 9 (nI (nx w + 1))) 1 10 0 := by
    unfold pcW; dsimp only; rw [hA]
  unfold goW
  rw [hw]
  have hWpc := WI_pc (th := th) p1 p2 p3
  by_cases c : w 1 10 + 1 < w 22 (nx w)
  · have c' : ¬ w 22 (nx w) ≤ w 1 10 + 1 := Int32.not_le.mpr c
    rw [if_pos c] at hpc
    have yes : hasP (pcW B T th w) := by
      rw [hpc]
      refine ⟨nx w, ?_, ?_, ?_⟩
      · have : nx (pt A 1 10 (w 1 10 + 1)) = nx w := by unfold nx at *; rw [pt_k (by decide)]; exact anx
        omega
      · have : wl (pt A 1 10 (w 1 10 + 1)) = wl w := by unfold wl at *; rw [pt_q (by decide)]; exact awl
        omega
      · unfold paced at *
        rw [pt_q (by decide), ← hA, st_q (by decide), lg_q (by decide)]; exact p3
    rw [if_pos yes, hpc]
    simp only [eq_false c', i10, i01, eq_self, if_true, if_false, true_and, false_and, and_true, and_false, not_true, not_false_iff, true_or, or_true, false_or, or_false, ne_eq, not_true_eq_false, not_false_eq_true]
    exact ⟨_, rfl, Fr_p fr3 (Or.inl (by decide)), fun h => Fr_p (gr3 h) (Or.inl (by decide)), m4⟩
  · have c' : w 22 (nx w) ≤ w 1 10 + 1 := Int32.not_lt.mp c
    rw [if_neg c] at hpc
    have s5' : (pt σ3 113 6 (w 1 10 + 1)) 113 5 + 1 = nI (nx w + 1) := by rw [pt_k (by decide), s5, nI_s]
    have esq : pt (pt (pt σ3 113 6 (w 1 10 + 1)) 113 5 (nI (nx w + 1))) 113 6 0 = pt (pt σ3 113 5 (nI (nx w + 1))) 113 6 0 := by
      funext q k
      simp only [pt_ap]
      by_cases k6 : q = 113 ∧ k = 6
      · simp [k6]
      · simp [k6]
    have m5 : MR B T (pcW B T th w) (pt (pt σ3 113 5 (nI (nx w + 1))) 113 6 0) := by rw [hpc]; exact MR_n6 (MR_n5 m3 _) _
    have f5 : Fr (123 :: SCS) [(112, 49)] σ (pt (pt σ3 113 5 (nI (nx w + 1))) 113 6 0) := Fr_p (Fr_p fr3 (Or.inl (by decide))) (Or.inl (by decide))
    have g5 : th = true → Fr SCS [(112, 49)] σ (pt (pt σ3 113 5 (nI (nx w + 1))) 113 6 0) := fun h => Fr_p (Fr_p (gr3 h) (Or.inl (by decide))) (Or.inl (by decide))
    simp only [eq_true c', i10, i01, eq_self, if_true, if_false, true_and, false_and, and_true, and_false, not_true, not_false_iff, true_or, or_true, false_or, or_false, ne_eq, not_true_eq_false, not_false_eq_true, s5', esq, (fun d => m_hasPace d m5 hWpc), Option.bind_some, Option.toList_some, Option.toList_none, List.cons_append, List.nil_append, i01a, i01b, if_true, if_false, b229_93]
    by_cases k : hasP (pcW B T th w)
    · rw [@bI_T _ (Classical.propDecidable _) k, if_pos k]
      simp only [i10, i01, eq_self, if_true, if_false, true_and, false_and, and_true, and_false, not_true, not_false_iff, true_or, or_true, false_or, or_false, ne_eq, not_true_eq_false, not_false_eq_true, b229_100]
      exact ⟨_, rfl, f5, g5, m5⟩
    · obtain ⟨σ6, e6, f6, g6, m6⟩ := m_doesLines (d + 2) m5 hWpc (th := th) (by rw [f5 112 5 (by decide) (by simp)]; exact ht)
      rw [@bI_F _ (Classical.propDecidable _) k, if_neg k]
      simp only [i10, i01, eq_self, if_true, if_false, true_and, false_and, and_true, and_false, not_true, not_false_iff, true_or, or_true, false_or, or_false, ne_eq, not_true_eq_false, not_false_eq_true, e6, Option.bind_some, Option.toList_some, Option.toList_none, List.cons_append, List.nil_append, i01a, i01b, if_true, if_false, b229_100]
      exact ⟨σ6, rfl, Fr_t f5 (Fr_m f6 (by decide) (by simp)), fun h => Fr_t (g5 h) (Fr_m (g6 h) (by decide) (by simp)), m6⟩
