/-! L3: ORDER, DEAREST, FITS, the class's calls (2) -/
theorem c_findFits (d : Nat) {B T : LW} {σ : Sig} (hW : WI B T σ) :
    ∃ σ', Ex (d + 14) 62 0 [.ref 79] [] G0 σ = some (none, G0, σ') ∧ Wb σ σ' ∧ KF σ (2 ^ 30) (fiT B σ) σ' ∧ σ' 67 8 = 0 ∧ Fr SCR8 SLR8 σ σ' := by
  obtain ⟨_, n8', en⟩ := WI_np hW
  obtain ⟨e2, s8⟩ : wi B T σ 5 := hW 5
  obtain ⟨σ1, e1, f1, m1⟩ := c_take83 (d + 11) (pt (pt σ 79 5 0) 79 10 1)
  have e1' : Ex (d + 13) 28 0 [.ref 83, .ref 1] [] G0 (pt (pt σ 79 5 0) 79 10 1) = some (none, G0, σ1) := e1
  have q1 : ∀ q, q ∉ [79, 83, 84, 85, 86] → σ1 q = σ q := fun q hq => by
    rw [Fr_q f1 (by simp at hq ⊢; omega) (by simp), pt_q (by simp at hq; omega), pt_q (by simp at hq; omega)]
  have m1' : MM σ 83 σ1 := by
    have := m1
    unfold MM at this ⊢
    simpa (disch := decide) only [pt_q] using this
  have F1 : Fr SCR8 SLR8 σ σ1 := Fr_t (Fr_p (Fr_p Fr_r (Or.inr (by decide))) (Or.inr (by decide))) (Fr_m f1 (by decide) (by decide))
  have r2 : Ex (d + 13) 1 0 [.ref 67, .int 0] [] G0 σ1 = some (none, G0, pt (pt (fiS σ1 73 3008 (-1)) 67 8 1) 67 9 0) := c_recall (d + 12) σ1 0 (Or.inl rfl)
  have F2 : Fr SCR8 SLR8 σ (pt (pt (fiS σ1 73 3008 (-1)) 67 8 1) 67 9 0) := by
    refine Fr_p (Fr_p ?_ (Or.inr (by decide))) (Or.inr (by decide))
    exact fun q k h1 h2 => by rw [fiS_q (by intro e; subst e; exact h1 (by decide))]; exact F1 q k h1 h2
  have q2 : ∀ q, q ∉ [67, 73, 79, 83, 84, 85, 86] → pt (pt (fiS σ1 73 3008 (-1)) 67 8 1) 67 9 0 q = σ q := fun q hq => by
    rw [pt_q (by simp at hq; omega), pt_q (by simp at hq; omega), fiS_q (by simp at hq; omega), q1 q (by simp at hq ⊢; omega)]
  have i2 : FI B σ (fun _ => false) [] (pt (pt (fiS σ1 73 3008 (-1)) 67 8 1) 67 9 0) := FI_0 (fun q h1 h2 => q2 q (by simp; omega)) (by rw [pt_k (by decide), pt_e]) pt_e (fun i hi => by rw [pt_q (by decide), pt_q (by decide), fiS_k hi])
  have e79 : ∀ k, pt (pt (fiS σ1 73 3008 (-1)) 67 8 1) 67 9 0 79 k = pt (pt σ 79 5 0) 79 10 1 79 k := fun k => by
    rw [pt_q (by decide), pt_q (by decide), fiS_q (by decide), Fr_q f1 (by decide) (by simp)]
  have k2 : KF σ 0 (0, []) (pt (pt (fiS σ1 73 3008 (-1)) 67 8 1) 67 9 0) := ⟨by rw [e79, pt_k (by decide), pt_e]; rfl, Nat.le_refl _, fun x => absurd rfl x⟩
  have hle := ex_le (c := cnW σ (fun _ => false) (np σ)) s8 n8'
  obtain ⟨σ3, e3, i3, k3, f3⟩ := c_fill (J := jF B σ) (K := fun n st s => KF σ n st s) (z0 := 1) (S0 := SCG) (U0 := SLG) hW (fun _ _ h => by cases h) (by decide) M_0 (fun s s' f => f 79 10 (by decide) (by decide))
    (fun d pre n st s hl hv i k hn z => c_judgeF d hW hn hl hv i k z)
    (fun n st s k z0 => absurd z0 (by decide))
    (fun n m st s h k => ⟨k.1, Nat.le_trans k.2.1 h, k.2.2⟩) (fun n st s j v k => ⟨by rw [pt_q (by decide)]; exact k.1, k.2.1, by rw [pt_q (by decide)]; exact k.2.2⟩)
    (np σ) (d + (8 - np σ)) [] 0 (0, []) (pt (pt (fiS σ1 73 3008 (-1)) 67 8 1) 67 9 0) 0 (by simp) vld_0 i2 k2 (by rw [e79, pt_e]) (M_ext M_0 (fun q _ => by unfold usd; simp)) hle
  have e3' : Ex (d + 13) 63 0 [.ref 79, .int 0, .int 0, .int 0, .null] [] G0 (pt (pt (fiS σ1 73 3008 (-1)) 67 8 1) 67 9 0) = some (none, G0, σ3) := by
    rw [show d + 13 = d + (8 - np σ) + 5 + np σ by omega]; exact e3
  have m3 : MM σ 83 σ3 := by
    have q3 : ∀ q, q ∈ [83, 84, 85, 86] → σ3 q = σ1 q := fun q hq => by
      rw [Fr_q f3 (by unfold SCG; simp at hq ⊢; omega) (by unfold SLG; simp at hq ⊢; omega), pt_q (by simp at hq; omega), pt_q (by simp at hq; omega), fiS_q (by simp at hq; omega)]
    exact MM_fr m1' (q3 83 (by simp)) (q3 84 (by simp)) (q3 85 (by simp)) (q3 86 (by simp))
  obtain ⟨σ4, e4, f4, m4, g4⟩ := c_give83 (d + 11) (pt σ3 67 8 0)
  have e4' : Ex (d + 13) 29 0 [.ref 83, .ref 1] [] G0 (pt σ3 67 8 0) = some (none, G0, σ4) := e4
  have t3 : Th σ (pt σ3 67 8 0) := Th_fr (Th_FI n8' i3) (Fr_p Fr_r (Or.inr (by decide)) : Fr [] [(67, 8)] σ3 (pt σ3 67 8 0)) (by simp) (by simp)
  have m3' : MM σ 83 (pt σ3 67 8 0) := MM_fr m3 (pt_q (by decide)) (pt_q (by decide)) (pt_q (by decide)) (pt_q (by decide))
  have a4 : ∀ q, q ∉ [1, 7, 9, 10, 25, 67] → σ4 q = σ3 q := fun q hq => by
    rw [Fr_q f4 (by simp at hq ⊢; omega) (by simp at hq ⊢; omega), pt_q (by simp at hq; omega)]
  simp only [b62_0, e1', Option.bind_some, Option.toList_some, Option.toList_none, List.cons_append, List.nil_append, i01a, i01b, if_true, if_false, b62_21, r2, b62_29, e3', b62_36, b2_0, b62_43, e4', b62_54]
  refine ⟨σ4, rfl, Th_end t3 m3' f4 m4 g4, ⟨by rw [a4 79 (by decide)]; exact k3.1, Nat.le_trans k3.2.1 hle, by rw [a4 82 (by decide)]; exact k3.2.2⟩, ?_, Fr_t F2 (Fr_t (Fr_m f3 (by decide) (by decide)) (Fr_t (Fr_p Fr_r (Or.inr (by decide))) (Fr_m f4 (by decide) (by decide))))⟩
  rw [f4 67 8 (by decide) (by decide), pt_e]
theorem pa_ix {B T : LW} {ω : Sig} (hW : WI B T ω) {a : Int32} (h : 10 ≤ a ∧ a ≤ 9 + 2 * ω 8 0) : ∃ p, p < np ω ∧ p < 8 ∧ a - 10 = nI p := by
  obtain ⟨_, n8', en⟩ := WI_np hW
  obtain ⟨h1, h2⟩ := h
  have e9 : (9 : Int32) + nI (np ω) = nI (9 + np ω) := (Int32.ofNat_add 9 (np ω)).symm
  rw [en, e9, Int32.le_iff_toInt_le, nI_i (by omega)] at h2
  rw [Int32.le_iff_toInt_le] at h1
  have h10 : (10 : Int32).toInt = 10 := rfl
  have e := nI_of0 (x := a) (by omega)
  have ha : a.toNatClampNeg = a.toInt.toNat := rfl
  refine ⟨a.toNatClampNeg - 10, by rw [ha]; omega, by rw [ha]; omega, ?_⟩
  have : nI a.toNatClampNeg - nI 10 = nI (a.toNatClampNeg - 10) := nI_sub' (by rw [ha]; omega)
  rw [← this, ← e]; rfl
noncomputable def orderA (B : LW) (ω : Sig) (a : Int32) : Int32 := if a = 0 ∨ (10 ≤ a ∧ a ≤ 9 + 2 * ω 8 0) then (match orS B ω (kpt ω) with
  | none => -1
  | some x => if a = 0 then nI x.1 else nI (wv x.2 (a - 10).toNatClampNeg)) else -1
theorem c_order (d : Nat) {B T : LW} {σ : Sig} (a : Int32) (hW : WI B T σ) (h0 : σ 67 8 = 0) (hk : ¬ (σ 0 10 &&& 1 = 0) → KO σ (orS B σ (kpt σ)) σ) :
    ∃ σ', Ex (d + 15) 114 0 [.ref 0, .int a] [] G0 σ = some (some (.int (orderA B σ a)), G0, σ') ∧ Wb σ σ' ∧ Fr SCP8 ((0, 10) :: SLP8) σ σ' ∧ (σ' 0 10 = σ 0 10 ∨ (σ' 0 10 = σ 0 10 ||| 1 ∧ KO σ (orS B σ (kpt σ)) σ')) ∧ (¬ (σ 0 10 &&& 1 = 0) → KO σ (orS B σ (kpt σ)) σ') ∧ σ' 67 8 = 0 := by
  obtain ⟨_, n8', en⟩ := WI_np hW
  by_cases ca : a = 0 ∨ (10 ≤ a ∧ a ≤ 9 + 2 * σ 8 0)
  · have fin : ∀ d s, KO σ (orS B σ (kpt σ)) s → Ex d 114 51 [.ref 0, .int a] [] G0 s = some (some (.int (orderA B σ a)), G0, s) := by
      intro d s k
      obtain ⟨k1, k2⟩ := k
      rw [b114_51, k1]
      unfold orderA
      rw [if_pos ca]
      cases hs : orS B σ (kpt σ) with
      | none => rw [if_pos (show orA none = -1 from rfl)]
      | some x =>
        obtain ⟨b1, b2⟩ := k2 x hs
        have e : orA (some x) = nI x.1 := rfl
        rw [e, if_neg (by rw [nI_ne (by omega)]; exact fun h => h)]
        by_cases c0 : a = 0
        · simp only [eq_true c0, i10, i01, eq_self, if_true, if_false, true_and, false_and, and_true, and_false, not_true, not_false_iff, true_or, or_true, false_or, or_false, ne_eq, not_true_eq_false, not_false_eq_true]
        · obtain ⟨p, hp, p8, ep⟩ := pa_ix hW (ca.resolve_left c0)
          simp only [eq_false c0, i10, i01, eq_self, if_true, if_false, true_and, false_and, and_true, and_false, not_true, not_false_iff, true_or, or_true, false_or, or_false, ne_eq, not_true_eq_false, not_false_eq_true, ep, i8 p8, c8 p8, b2 p hp]
    by_cases kb : σ 0 10 &&& 1 = 0
    · obtain ⟨v, ev, iv⟩ := c_keptSet (d + 14) hW
      obtain ⟨σ1, e1, w1, k1, z1, f1⟩ := c_findOrder d hW kpt_w iv
      have k' : KO σ (orS B σ (kpt σ)) (pt σ1 0 10 (σ1 0 10 ||| 1)) := ⟨by rw [pt_q (by decide)]; exact k1.1, fun x hx => ⟨(k1.2 x hx).1, by rw [pt_q (by decide)]; exact (k1.2 x hx).2⟩⟩
      have e10 : σ1 0 10 = σ 0 10 := f1 0 10 (by decide) (by decide)
      have F := fin (d + 14 + 1) _ k'
      refine ⟨pt σ1 0 10 (σ1 0 10 ||| 1), ?_, ⟨fun q h1 h2 h3 h4 h5 => by rw [pt_q (by omega)]; exact w1.1 q h1 h2 h3 h4 h5, by rw [pt_q (by decide)]; exact w1.2⟩, Fr_p (Fr_m f1 (by decide) (by decide)) (Or.inr (by decide)), Or.inr ⟨by rw [pt_e, e10], k'⟩, fun h => absurd kb h, by rw [pt_q (by decide)]; exact z1⟩
      by_cases c0 : a = 0
      · simp only [b114_0, eq_true c0, kb, i10, i01, eq_self, if_true, if_false, true_and, false_and, and_true, and_false, not_true, not_false_iff, true_or, or_true, false_or, or_false, ne_eq, not_true_eq_false, not_false_eq_true, ev, Option.bind_some, Option.toList_some, Option.toList_none, List.cons_append, List.nil_append, i01a, i01b, if_true, if_false, b114_37, e1, b114_40, F]
      · simp only [b114_0, eq_false c0, kb, i10, i01, eq_self, if_true, if_false, true_and, false_and, and_true, and_false, not_true, not_false_iff, true_or, or_true, false_or, or_false, ne_eq, not_true_eq_false, not_false_eq_true, c_isPlaceAnswer, Option.bind_some, Option.toList_some, Option.toList_none, List.cons_append, List.nil_append, i01a, i01b, if_true, if_false, b114_9, bI_z, bI_o, bI_em, ite_not, eq_true (ca.resolve_left c0), ev, b114_37, e1, b114_40, F]
    · have k' := hk kb
      have F := fin (d + 14 + 1) _ k'
      refine ⟨σ, ?_, Wb_r, Fr_r, Or.inl rfl, fun _ => k', h0⟩
      by_cases c0 : a = 0
      · simp only [b114_0, eq_true c0, eq_false kb, i10, i01, eq_self, if_true, if_false, true_and, false_and, and_true, and_false, not_true, not_false_iff, true_or, or_true, false_or, or_false, ne_eq, not_true_eq_false, not_false_eq_true]
        rw [← F, c0]
      · simp only [b114_0, eq_false c0, eq_false kb, i10, i01, eq_self, if_true, if_false, true_and, false_and, and_true, and_false, not_true, not_false_iff, true_or, or_true, false_or, or_false, ne_eq, not_true_eq_false, not_false_eq_true, c_isPlaceAnswer, Option.bind_some, Option.toList_some, Option.toList_none, List.cons_append, List.nil_append, i01a, i01b, if_true, if_false, b114_9, bI_z, bI_o, bI_em, ite_not, eq_true (ca.resolve_left c0), F]
  · have c0 : ¬ a = 0 := fun e => ca (Or.inl e)
    have c1 : ¬ (10 ≤ a ∧ a ≤ 9 + 2 * σ 8 0) := fun e => ca (Or.inr e)
    refine ⟨σ, ?_, Wb_r, Fr_r, Or.inl rfl, hk, h0⟩
    unfold orderA
    rw [if_neg ca]
    simp only [b114_0, eq_false c0, i10, i01, eq_self, if_true, if_false, true_and, false_and, and_true, and_false, not_true, not_false_iff, true_or, or_true, false_or, or_false, ne_eq, not_true_eq_false, not_false_eq_true, c_isPlaceAnswer, Option.bind_some, Option.toList_some, Option.toList_none, List.cons_append, List.nil_append, i01a, i01b, if_true, if_false, b114_9, bI_z, bI_o, bI_em, ite_not, eq_false c1]
noncomputable def fitsA (B : LW) (ω : Sig) (a : Int32) : Int32 := if a = 0 ∨ (10 ≤ a ∧ a ≤ 9 + 2 * ω 8 0) then (if a = 0 then nI (fiT B ω).1 else if (fiT B ω).1 = 0 then -1 else nI (wv (fiT B ω).2 (a - 10).toNatClampNeg)) else -1
theorem c_fits (d : Nat) {B T : LW} {σ : Sig} (a : Int32) (hW : WI B T σ) (h0 : σ 67 8 = 0) (hk : ¬ (σ 0 10 &&& 4 = 0) → KF σ (2 ^ 30) (fiT B σ) σ) :
    ∃ σ', Ex (d + 15) 125 0 [.ref 0, .int a] [] G0 σ = some (some (.int (fitsA B σ a)), G0, σ') ∧ Wb σ σ' ∧ Fr SCR8 ((0, 10) :: SLR8) σ σ' ∧ (σ' 0 10 = σ 0 10 ∨ (σ' 0 10 = σ 0 10 ||| 4 ∧ KF σ (2 ^ 30) (fiT B σ) σ')) ∧ (¬ (σ 0 10 &&& 4 = 0) → KF σ (2 ^ 30) (fiT B σ) σ') ∧ σ' 67 8 = 0 := by
  obtain ⟨_, n8', en⟩ := WI_np hW
  by_cases ca : a = 0 ∨ (10 ≤ a ∧ a ≤ 9 + 2 * σ 8 0)
  · have fin : ∀ d s, KF σ (2 ^ 30) (fiT B σ) s → Ex d 125 40 [.ref 0, .int a] [] G0 s = some (some (.int (fitsA B σ a)), G0, s) := by
      intro d s k
      obtain ⟨k1, k2, k3⟩ := k
      rw [b125_40, k1]
      unfold fitsA
      rw [if_pos ca]
      by_cases c0 : a = 0
      · simp only [eq_true c0, i10, i01, eq_self, if_true, if_false, true_and, false_and, and_true, and_false, not_true, not_false_iff, true_or, or_true, false_or, or_false, ne_eq, not_true_eq_false, not_false_eq_true]
      · obtain ⟨p, hp, p8, ep⟩ := pa_ix hW (ca.resolve_left c0)
        simp only [eq_false c0, i10, i01, eq_self, if_true, if_false, true_and, false_and, and_true, and_false, not_true, not_false_iff, true_or, or_true, false_or, or_false, ne_eq, not_true_eq_false, not_false_eq_true, nI_z (show (fiT B σ).1 < 2 ^ 31 by omega)]
        by_cases cn : (fiT B σ).1 = 0
        · simp only [eq_true cn, i10, i01, eq_self, if_true, if_false, true_and, false_and, and_true, and_false, not_true, not_false_iff, true_or, or_true, false_or, or_false, ne_eq, not_true_eq_false, not_false_eq_true]
        · simp only [eq_false cn, i10, i01, eq_self, if_true, if_false, true_and, false_and, and_true, and_false, not_true, not_false_iff, true_or, or_true, false_or, or_false, ne_eq, not_true_eq_false, not_false_eq_true, ep, i8 p8, c8 p8, k3 cn p hp]
    by_cases kb : σ 0 10 &&& 4 = 0
    · obtain ⟨σ1, e1, w1, k1, z1, f1⟩ := c_findFits d hW
      have k' : KF σ (2 ^ 30) (fiT B σ) (pt σ1 0 10 (σ1 0 10 ||| 4)) := ⟨by rw [pt_q (by decide)]; exact k1.1, k1.2.1, by rw [pt_q (by decide)]; exact k1.2.2⟩
      have e10 : σ1 0 10 = σ 0 10 := f1 0 10 (by decide) (by decide)
      have F := fin (d + 14 + 1) _ k'
      refine ⟨pt σ1 0 10 (σ1 0 10 ||| 4), ?_, ⟨fun q h1 h2 h3 h4 h5 => by rw [pt_q (by omega)]; exact w1.1 q h1 h2 h3 h4 h5, by rw [pt_q (by decide)]; exact w1.2⟩, Fr_p (Fr_m f1 (by decide) (by decide)) (Or.inr (by decide)), Or.inr ⟨by rw [pt_e, e10], k'⟩, fun h => absurd kb h, by rw [pt_q (by decide)]; exact z1⟩
      by_cases c0 : a = 0
      · simp only [b125_0, eq_true c0, kb, i10, i01, eq_self, if_true, if_false, true_and, false_and, and_true, and_false, not_true, not_false_iff, true_or, or_true, false_or, or_false, ne_eq, not_true_eq_false, not_false_eq_true, e1, Option.bind_some, Option.toList_some, Option.toList_none, List.cons_append, List.nil_append, i01a, i01b, if_true, if_false, b125_30, F]
      · simp only [b125_0, eq_false c0, kb, i10, i01, eq_self, if_true, if_false, true_and, false_and, and_true, and_false, not_true, not_false_iff, true_or, or_true, false_or, or_false, ne_eq, not_true_eq_false, not_false_eq_true, c_isPlaceAnswer, Option.bind_some, Option.toList_some, Option.toList_none, List.cons_append, List.nil_append, i01a, i01b, if_true, if_false, b125_9, bI_z, bI_o, bI_em, ite_not, eq_true (ca.resolve_left c0), e1, b125_30, F]
    · have k' := hk kb
      have F := fin (d + 14 + 1) _ k'
      refine ⟨σ, ?_, Wb_r, Fr_r, Or.inl rfl, fun _ => k', h0⟩
      by_cases c0 : a = 0
      · simp only [b125_0, eq_true c0, eq_false kb, i10, i01, eq_self, if_true, if_false, true_and, false_and, and_true, and_false, not_true, not_false_iff, true_or, or_true, false_or, or_false, ne_eq, not_true_eq_false, not_false_eq_true]
        rw [← F, c0]
      · simp only [b125_0, eq_false c0, eq_false kb, i10, i01, eq_self, if_true, if_false, true_and, false_and, and_true, and_false, not_true, not_false_iff, true_or, or_true, false_or, or_false, ne_eq, not_true_eq_false, not_false_eq_true, c_isPlaceAnswer, Option.bind_some, Option.toList_some, Option.toList_none, List.cons_append, List.nil_append, i01a, i01b, if_true, if_false, b125_9, bI_z, bI_o, bI_em, ite_not, eq_true (ca.resolve_left c0), F]
  · have c0 : ¬ a = 0 := fun e => ca (Or.inl e)
    have c1 : ¬ (10 ≤ a ∧ a ≤ 9 + 2 * σ 8 0) := fun e => ca (Or.inr e)
    refine ⟨σ, ?_, Wb_r, Fr_r, Or.inl rfl, hk, h0⟩
    unfold fitsA
    rw [if_neg ca]
    simp only [b125_0, eq_false c0, i10, i01, eq_self, if_true, if_false, true_and, false_and, and_true, and_false, not_true, not_false_iff, true_or, or_true, false_or, or_false, ne_eq, not_true_eq_false, not_false_eq_true, c_isPlaceAnswer, Option.bind_some, Option.toList_some, Option.toList_none, List.cons_append, List.nil_append, i01a, i01b, if_true, if_false, b125_9, bI_z, bI_o, bI_em, ite_not, eq_false c1]
/-- ORDER is told by the world alone -/
theorem tw_B {ω σ : Sig} (h : Wb ω σ) (pre : List Nat) : Bq (tw ω pre) (tw σ pre) := by
  have e : ∀ q, 1 ≤ q → q ≤ 13 → q ≠ 9 → tw σ pre q = tw ω pre q := fun q h1 h2 h3 => by rw [tw_q h3, tw_q h3]; exact h.1 q h1 (by omega) (by omega) (by omega) (by omega)
  refine ⟨by rw [e 1 (by omega) (by omega) (by omega)], by rw [e 1 (by omega) (by omega) (by omega)], e 3 (by omega) (by omega) (by omega), e 4 (by omega) (by omega) (by omega), e 6 (by omega) (by omega) (by omega), e 7 (by omega) (by omega) (by omega), e 8 (by omega) (by omega) (by omega), ?_, e 10 (by omega) (by omega) (by omega)⟩
  have en : np σ = np ω := by unfold np pr; rw [h.1 8 (by omega) (by omega) (by omega) (by omega) (by omega)]
  funext k; unfold tw; rw [en, h.1 9 (by omega) (by omega) (by omega) (by omega) (by omega)]
theorem sp_jO {B : LW} {ω σ : Sig} (h : Wb ω σ) : jO B σ = jO B ω := by
  funext pre st
  have b := tw_B h pre
  have es : spN B (tw σ pre) = spN B (tw ω pre) := by unfold spN; rw [sp_spreadS b]
  unfold jO; rw [es, sp_bearS b, sp_askdS b]
theorem sp_cnW {ω σ : Sig} (h : Wb ω σ) : cnW σ = cnW ω := by
  funext g N pre b
  unfold cnW wN; rw [h.1 9 (by omega) (by omega) (by omega) (by omega) (by omega)]
theorem sp_orS {B : LW} {ω σ : Sig} (h : Wb ω σ) : orS B σ = orS B ω := by
  funext g
  have e1 : np σ = np ω := by unfold np pr; rw [h.1 8 (by omega) (by omega) (by omega) (by omega) (by omega)]
  have e2 : sz σ = sz ω := by unfold sz; rw [h.1 2 (by omega) (by omega) (by omega) (by omega) (by omega)]
  unfold orS; rw [sp_jO h, sp_cnW h, e1, e2]
theorem orS_b {B T : LW} {ω : Sig} (hW : WI B T ω) {h : Nat → Bool} (hh : ∀ o, o < 8 → h o = true → ω 9 o ≠ -1) (ha : ∃ a, isM a h) : ∀ x, orS B ω h = some x → x.1 ≤ 1000 := by
  obtain ⟨a, ha⟩ := ha
  obtain ⟨_, _, _, k, _, _⟩ := c_findOrder 0 hW hh ha
  exact fun x hx => (k.2 x hx).1
noncomputable def deF (B : LW) (ω : Sig) (a : Nat) (p : Nat) (st : Int32 × Nat) : Int32 × Nat := if kpt ω p = true then (match orS B ω (fun q => kpt ω q && !decide (q = p)) with
  | none => st
  | some x => if x.1 + st.2 < a then (nI p, a - x.1) else st) else st
noncomputable def deA (B : LW) (ω : Sig) : Int32 := match orS B ω (kpt ω) with
  | none => -1
  | some x => (fo (deF B ω x.1) 8 (-1, 0)).1
theorem deF_0 {B : LW} {ω : Sig} : ∀ n, fo (deF B ω 0) n (-1, 0) = (-1, 0) := by
  intro n
  induction n with
  | zero => rfl
  | succ n ih =>
    show deF B ω 0 n (fo (deF B ω 0) n (-1, 0)) = _
    rw [ih]; unfold deF
    split
    · split
      · rfl
      · rw [if_neg (by omega)]
    · rfl
theorem deF_b {B : LW} {ω : Sig} {a : Nat} : ∀ n, (fo (deF B ω a) n (-1, 0)).2 ≤ a := by
  intro n
  induction n with
  | zero => exact Nat.zero_le _
  | succ n ih =>
    show (deF B ω a n (fo (deF B ω a) n (-1, 0))).2 ≤ a
    unfold deF
    split
    · split
      · exact ih
      · split
        · exact Nat.sub_le _ _
        · exact ih
    · exact ih
theorem kpt_m {ω : Sig} {p : Nat} : ∀ o, o < 8 → (kpt ω o && !decide (o = p)) = true → ω 9 o ≠ -1 := fun o h k => kpt_w o h (Bool.and_eq_true_iff.mp k).1
theorem sp_kpt {ω σ : Sig} (h : Wb ω σ) : kpt σ = kpt ω := by
  have e1 : np σ = np ω := by unfold np pr; rw [h.1 8 (by omega) (by omega) (by omega) (by omega) (by omega)]
  funext p
  unfold kpt; rw [e1, h.1 9 (by omega) (by omega) (by omega) (by omega) (by omega), h.1 11 (by omega) (by omega) (by omega) (by omega) (by omega)]
theorem c_dearest (d : Nat) {B T : LW} {σ : Sig} (hW : WI B T σ) :
    ∃ σ', Ex (d + 15) 115 0 [.ref 0, .null, .null, .null, .null, .null, .null] [] G0 σ = some (some (.int (deA B σ)), G0, σ') ∧ Wb σ σ' ∧ Fr SCP8 ((0, 10) :: SLP8) σ σ' ∧ σ' 0 10 = σ 0 10 &&& (-2) ∧ σ' 67 8 = 0 := by
  obtain ⟨v, ev, iv⟩ := c_keptSet (d + 14) hW
  obtain ⟨σ1, e1, w1, k1, z1, f1⟩ := c_findOrder d hW kpt_w iv
  simp only [b115_0, ev, Option.bind_some, Option.toList_some, Option.toList_none, List.cons_append, List.nil_append, i01a, i01b, if_true, if_false, b115_10, e1, b115_19]
  have out : ∀ (s : Sig) (v2 r v4 v5 : Int32) (v6 : Value), Wb σ s → Fr SCP8 SLP8 σ s → s 67 8 = 0 → r = deA B σ → ∃ σ', Ex (d + 15) 115 109 [.ref 0, .int v, .int v2, .int r, .int v4, .int v5, v6] [] G0 (pt s 0 10 (s 0 10 &&& (-2))) = some (some (.int (deA B σ)), G0, σ') ∧ Wb σ σ' ∧ Fr SCP8 ((0, 10) :: SLP8) σ σ' ∧ σ' 0 10 = σ 0 10 &&& (-2) ∧ σ' 67 8 = 0 := by
    intro s v2 r v4 v5 v6 w f z er
    rw [b115_109, er]
    refine ⟨_, rfl, ⟨fun q h1 h2 h3 h4 h5 => by rw [pt_q (by omega)]; exact w.1 q h1 h2 h3 h4 h5, by rw [pt_q (by decide)]; exact w.2⟩, Fr_p (Fr_m f (by decide) (by decide)) (Or.inr (by decide)), by rw [pt_e, f 0 10 (by decide) (by decide)], by rw [pt_q (by decide)]; exact z⟩
  cases hs : orS B σ (kpt σ) with
  | none =>
    rw [b115_28]
    have q1 : ((8 : Int32) ≤ 0) = False := eq_false (by decide)
    have q2 : (orA none ≤ 0) = True := eq_true (by decide)
    simp only [q1, q2, i10, i01, eq_self, if_true, if_false, true_and, false_and, and_true, and_false, not_true, not_false_iff, true_or, or_true, false_or, or_false, ne_eq, not_true_eq_false, not_false_eq_true]
    exact out σ1 _ _ _ _ _ w1 f1 z1 (by unfold deA; rw [hs])
  | some x =>
    have hx := (k1.2 x hs).1
    have ex : orA (some x) = nI x.1 := rfl
    rw [ex]
    by_cases c0 : x.1 = 0
    · rw [b115_28]
      have q1 : ((8 : Int32) ≤ 0) = False := eq_false (by decide)
      have q2 : (nI x.1 ≤ 0) = True := by rw [nI_le0 (by omega)]; exact eq_true c0
      simp only [q1, q2, i10, i01, eq_self, if_true, if_false, true_and, false_and, and_true, and_false, not_true, not_false_iff, true_or, or_true, false_or, or_false, ne_eq, not_true_eq_false, not_false_eq_true]
      exact out σ1 _ _ _ _ _ w1 f1 z1 (by unfold deA; rw [hs]; show _ = (fo (deF B σ x.1) 8 (-1, 0)).1; rw [c0, deF_0])
    · have q2 : (nI x.1 ≤ 0) = False := by rw [nI_le0 (by omega)]; exact eq_false c0
      obtain ⟨⟨s, v6⟩, e, i⟩ := loop_ex (fun p (y : Sig × Value) => Ex (d + 15) 115 28 [.ref 0, .int v, .int (nI x.1), .int (fo (deF B σ x.1) p (-1, 0)).1, .int (nI (fo (deF B σ x.1) p (-1, 0)).2), .int (nI p), y.2] [] G0 (y.1)) (fun p y => Wb σ y.1 ∧ Fr SCP8 SLP8 σ y.1 ∧ y.1 67 8 = 0) 8 (σ1, .null) ⟨w1, f1, z1⟩ (by
        rintro p ⟨s, v6⟩ hp ⟨w, f, z⟩
        show ∃ y' : Sig × Value, Ex (d + 15) 115 28 [.ref 0, .int v, .int (nI x.1), .int (fo (deF B σ x.1) p (-1, 0)).1, .int (nI (fo (deF B σ x.1) p (-1, 0)).2), .int (nI p), v6] [] G0 s = _ ∧ _
        have eF : fo (deF B σ x.1) (p + 1) (-1, 0) = deF B σ x.1 p (fo (deF B σ x.1) p (-1, 0)) := rfl
        have hb := deF_b (B := B) (ω := σ) (a := x.1) p
        rw [eF]
        generalize fo (deF B σ x.1) p (-1, 0) = st at hb ⊢
        rw [b115_28]
        simp only [n8 hp, q2, i10, i01, eq_self, if_true, if_false, true_and, false_and, and_true, and_false, not_true, not_false_iff, true_or, or_true, false_or, or_false, ne_eq, not_true_eq_false, not_false_eq_true, M_t0 iv hp, b115_48, nI_s]
        by_cases k : kpt σ p = true
        · have k' : (kpt σ p = false) = False := eq_false (by rw [k]; decide)
          have hWs := WI_wb hW w
          obtain ⟨s1, e1, w1, k1, z1, f1⟩ := c_findOrder (B := B) (T := T) (h := fun q => kpt σ q && !decide (q = p)) d hWs (fun o ho ko => by rw [w.1 9 (by omega) (by omega) (by omega) (by omega) (by omega)]; exact kpt_m o ho ko) (M_dif iv (M_1 hp))
          rw [sp_orS w] at e1 k1
          simp only [k', i10, i01, eq_self, if_true, if_false, true_and, false_and, and_true, and_false, not_true, not_false_iff, true_or, or_true, false_or, or_false, ne_eq, not_true_eq_false, not_false_eq_true, b115_51, e1, Option.bind_some, Option.toList_some, Option.toList_none, List.cons_append, List.nil_append, i01a, i01b, if_true, if_false, b115_66, nI_s]
          unfold deF
          rw [if_pos k]
          cases ho : orS B σ (fun q => kpt σ q && !decide (q = p)) with
          | none =>
            have q3 : (orA none = -1) = True := eq_true rfl
            simp only [q3, i10, i01, eq_self, if_true, if_false, true_and, false_and, and_true, and_false, not_true, not_false_iff, true_or, or_true, false_or, or_false, ne_eq, not_true_eq_false, not_false_eq_true]
            exact ⟨(s1, _), rfl, Wb_t w w1, Fr_t f f1, z1⟩
          | some y =>
            have hy := (k1.2 y ho).1
            have ey : orA (some y) = nI y.1 := rfl
            simp only [ey, nI_ne (show y.1 < 2 ^ 31 by omega), i10, i01, eq_self, if_true, if_false, true_and, false_and, and_true, and_false, not_true, not_false_iff, true_or, or_true, false_or, or_false, ne_eq, not_true_eq_false, not_false_eq_true]
            have q4 : (nI x.1 - nI y.1 ≤ nI st.2) = (¬ y.1 + st.2 < x.1) := by
              by_cases c : y.1 ≤ x.1
              · rw [nI_sub' c, nJ_le (by omega) (by omega)]; exact propext ⟨fun h => by omega, fun h => by omega⟩
              · have e5 : nI x.1 - nI y.1 = -(nI (y.1 - x.1)) := by
                  rw [← nI_sub' (by omega)]; exact Int32.neg_sub.symm
                have l5 : (nI x.1 - nI y.1).toInt ≤ 0 := by
                  rw [e5, Int32.toInt_neg, nI_i (by omega)]
                  have := Int.bmod_eq_of_le (n := -((y.1 - x.1 : Nat) : Int)) (m := 2 ^ 32) (by omega) (by omega)
                  rw [this]; omega
                rw [Int32.le_iff_toInt_le, nI_i (by omega)]
                exact propext ⟨fun _ => by omega, fun _ => by omega⟩
            simp only [q4]
            by_cases c : y.1 + st.2 < x.1
            · simp only [eq_true c, i10, i01, eq_self, if_true, if_false, true_and, false_and, and_true, and_false, not_true, not_false_iff, true_or, or_true, false_or, or_false, ne_eq, not_true_eq_false, not_false_eq_true, nI_sub' (show y.1 ≤ x.1 by omega)]
              exact ⟨(s1, _), rfl, Wb_t w w1, Fr_t f f1, z1⟩
            · simp only [eq_false c, i10, i01, eq_self, if_true, if_false, true_and, false_and, and_true, and_false, not_true, not_false_iff, true_or, or_true, false_or, or_false, ne_eq, not_true_eq_false, not_false_eq_true]
              exact ⟨(s1, _), rfl, Wb_t w w1, Fr_t f f1, z1⟩
        · have k' : (kpt σ p = false) = True := eq_true (by simpa using k)
          simp only [k', i10, i01, eq_self, if_true, if_false, true_and, false_and, and_true, and_false, not_true, not_false_iff, true_or, or_true, false_or, or_false, ne_eq, not_true_eq_false, not_false_eq_true]
          unfold deF
          rw [if_neg k]
          exact ⟨(s, v6), rfl, w, f, z⟩)
      rw [show Ex (d + 15) 115 28 [.ref 0, .int v, .int (nI x.1), .int (-1), .int 0, .int 0, .null] [] G0 σ1 = _ from e]
      show ∃ σ', Ex (d + 15) 115 28 [.ref 0, .int v, .int (nI x.1), .int (fo (deF B σ x.1) 8 (-1, 0)).1, .int (nI (fo (deF B σ x.1) 8 (-1, 0)).2), .int (nI 8), v6] [] G0 s = _ ∧ _
      rw [b115_28]
      simp only [n88, i10, i01, eq_self, if_true, if_false, true_and, false_and, and_true, and_false, not_true, not_false_iff, true_or, or_true, false_or, or_false, ne_eq, not_true_eq_false, not_false_eq_true]
      exact out s _ _ _ _ _ i.1 i.2.1 i.2.2 (by unfold deA; rw [hs])
