/-! L3: helps, the call -/
def KH (B T : LW) (ω σ : Sig) : Prop := σ 74 0 = hpA (hpS B T ω) ∧ σ 74 1 = hpB (hpS B T ω) ∧ σ 74 2 = nI (hpS B T ω).2
theorem hpA_z {st : Nat × Nat} (h : st.1 ≤ 64) : (hpA st = -1) = (st.1 = 0) := by
  unfold hpA
  by_cases z : st.1 = 0
  · rw [if_pos z]; simp [z]
  · rw [if_neg z]
    refine propext ⟨fun e => ?_, fun e => absurd e z⟩
    have := congrArg Int32.toInt e
    rw [nI_i (by omega)] at this
    have h2 : (-1 : Int32).toInt = -1 := rfl
    omega
theorem c_helps (d : Nat) {B T : LW} {σ : Sig} (a : Int32) (hW : WI B T σ) (h0 : σ 67 8 = 0) (hk : ¬ (σ 0 10 &&& 8 = 0) → KH B T σ σ) :
    ∃ σ', Ex (d + 7) 127 0 [.ref 0, .int a] [] G0 σ = some (some (.int (helpA B T σ a)), G0, σ') ∧ Wb σ σ' ∧ Fr SCW ((0, 10) :: SLH) σ σ' ∧ (σ' 0 10 = σ 0 10 ∨ (σ' 0 10 = σ 0 10 ||| 8 ∧ KH B T σ σ')) ∧ (¬ (σ 0 10 &&& 8 = 0) → KH B T σ σ') := by
  obtain ⟨e2, s8⟩ : wi B T σ 5 := hW 5
  have hb := hp2_b (B := B) (T := T) s8 (np σ) (WI_np hW).2.1
  simp only [b127_0, c_within, Option.bind_some, Option.toList_some, Option.toList_none, List.cons_append, List.nil_append, i01a, i01b, if_true, if_false, b127_6, bI_z, bI_o, bI_em, ite_not]
  unfold helpA
  have fin : ∀ σ2 : Sig, KH B T σ σ2 → (if 0 ≤ a ∧ a ≤ 2 then (if (hpS B T σ).1 = 0 then -1 else if a = 0 then hpA (hpS B T σ) else if a = 1 then hpB (hpS B T σ) else nI (hpS B T σ).2) else -1) = (if 0 ≤ a ∧ a ≤ 2 then (if σ2 74 0 = -1 then σ2 74 0 else if a = 0 then σ2 74 0 else if a = 1 then σ2 74 1 else σ2 74 2) else -1) := by
    intro σ2 ⟨k0, k1, k2⟩
    have hz := hpA_z (st := hpS B T σ) hb.2
    rw [k0, k1, k2]
    by_cases z : (hpS B T σ).1 = 0
    · have : hpA (hpS B T σ) = -1 := by rw [hz]; exact z
      rw [this]; simp [z]
    · have : ¬ hpA (hpS B T σ) = -1 := by rw [hz]; exact z
      simp [z, this]
  by_cases h : 0 ≤ a ∧ a ≤ 2
  · simp only [h, i10, i01, eq_self, if_true, if_false, true_and, false_and, and_true, and_false, not_true, not_false_iff, true_or, or_true, false_or, or_false, ne_eq, not_true_eq_false, not_false_eq_true]
    by_cases kn : σ 0 10 &&& 8 = 0
    · obtain ⟨σ1, e1, w1, f1, k0, k1, k2⟩ := c_findHelp d hW h0
      simp only [eq_true kn, i10, i01, eq_self, if_true, if_false, true_and, false_and, and_true, and_false, not_true, not_false_iff, true_or, or_true, false_or, or_false, ne_eq, not_true_eq_false, not_false_eq_true, e1, Option.bind_some, Option.toList_some, Option.toList_none, List.cons_append, List.nil_append, i01a, i01b, if_true, if_false, b127_28, b127_39]
      have kh : KH B T σ (pt σ1 0 10 (σ1 0 10 ||| 8)) := ⟨by rw [pt_q (by decide)]; exact k0, by rw [pt_q (by decide)]; exact k1, by rw [pt_q (by decide)]; exact k2⟩
      have e10 : σ1 0 10 = σ 0 10 := f1 0 10 (by decide) (by decide)
      have ff := fin _ kh
      simp only [h, i10, i01, eq_self, if_true, if_false, true_and, false_and, and_true, and_false, not_true, not_false_iff, true_or, or_true, false_or, or_false, ne_eq, not_true_eq_false, not_false_eq_true] at ff
      refine ⟨pt σ1 0 10 (σ1 0 10 ||| 8), ?_, ?_, ?_, Or.inr ⟨by rw [pt_e, e10], kh⟩, fun _ => kh⟩
      · rw [ff]
        repeat' split
        all_goals rfl
      · exact ⟨fun q h1 h2 h3 h4 h5 => by rw [pt_q (by omega)]; exact w1.1 q h1 h2 h3 h4 h5, fun i hi => by rw [pt_q (by decide)]; exact w1.2 i hi⟩
      · exact Fr_p (Fr_m f1 (fun _ h => h) (fun x hx => Or.inl (List.mem_cons_of_mem _ hx))) (Or.inr (by simp))
    · simp only [eq_false kn, i10, i01, eq_self, if_true, if_false, true_and, false_and, and_true, and_false, not_true, not_false_iff, true_or, or_true, false_or, or_false, ne_eq, not_true_eq_false, not_false_eq_true, b127_39]
      have kh := hk kn
      have ff := fin _ kh
      simp only [h, i10, i01, eq_self, if_true, if_false, true_and, false_and, and_true, and_false, not_true, not_false_iff, true_or, or_true, false_or, or_false, ne_eq, not_true_eq_false, not_false_eq_true] at ff
      refine ⟨σ, ?_, Wb_r, Fr_r, Or.inl rfl, fun _ => kh⟩
      rw [ff]
      repeat' split
      all_goals rfl
  · simp only [h, i10, i01, eq_self, if_true, if_false, true_and, false_and, and_true, and_false, not_true, not_false_iff, true_or, or_true, false_or, or_false, ne_eq, not_true_eq_false, not_false_eq_true]
    exact ⟨σ, rfl, Wb_r, Fr_r, Or.inl rfl, hk⟩
theorem m_helpsFar (d : Nat) {B T : LW} {ω σ : Sig} (hM : MR B T ω σ) (hW : WI B T ω) (h5 : σ 112 5 = 0) {p b : Nat} (hp : p < np ω) (hb : b < sz ω) (hn : ∀ q, q < 8 → ω 9 q ≠ nI b) :
    ∃ σ', Ex (d + 8) 263 0 [.ref 112, .int (nI p), .int (nI b), .null, .null] [] G0 σ = some (some (.int (nI (hfN B T ω p b))), G0, σ') ∧ Fr SCF [(112, 49), (112, 5)] σ σ' ∧ (∀ k, k < 31 → σ' 113 k = σ 113 k) ∧ σ' 112 5 = 0 ∧ MR B T ω σ' := by
  have n8' := (WI_np hW).2.1
  have hp8 : p < 8 := by omega
  have s8 : wi B T ω 5 := hW 5
  have s8' := s8.2
  have e7 : (7 : Int32) + nI p = nI (7 + p) := nI_add 7 p
  have m1 : MR B T (pt ω 9 p (nI b)) (pt σ 113 (7 + p) (nI b + 1)) := MR_who hM hp8 (nI b)
  have hW1 : WI B T (pt ω 9 p (nI b)) := WI_put hW hp hb (fun q hq _ => hn q hq)
  obtain ⟨σ1, e1, f1, k1, t1, m1'⟩ := m_farOf d m1 hW1 (by rw [pt_q (by decide)]; exact h5) bw0
  have e1' : Ex (d + 7) 250 0 [.ref 112, .int 0, .null] [] G0 (pt σ 113 (7 + p) (nI b + 1)) = some (some (.int (nI (hfN B T ω p b))), G0, σ1) := e1
  simp only [b263_0, e7, inb_n (show 7 + p < 31 by omega) (show 7 + p < 2 ^ 31 by omega), nI_c (show 7 + p < 2 ^ 31 by omega), i10, i01, eq_self, if_true, if_false, true_and, false_and, and_true, and_false, not_true, not_false_iff, true_or, or_true, false_or, or_false, ne_eq, not_true_eq_false, not_false_eq_true, e1', Option.bind_some, Option.toList_some, Option.toList_none, List.cons_append, List.nil_append, i01a, i01b, if_true, if_false, b263_27]
  have h113 : ∀ k, k < 31 → pt σ1 113 (7 + p) (σ 113 (7 + p)) 113 k = σ 113 k := fun k hk => by
    by_cases e : k = 7 + p
    · subst e; rw [pt_e]
    · rw [pt_k e, k1 k hk, pt_k e]
  have f2 : Fr SCF [(112, 49), (112, 5)] σ (pt σ1 113 (7 + p) (σ 113 (7 + p))) := Fr_p (Fr_t (Fr_p Fr_r (Or.inl (by decide))) f1) (Or.inl (by decide))
  refine ⟨_, rfl, f2, h113, by rw [pt_q (by decide)]; exact t1, ?_⟩
  exact MR_back hM h113 (fun q hq => Fr_q f2 (by revert hq; unfold SCF; simp; omega) (by revert hq; simp; omega)) (fun k hk => f2 112 k (by decide) (by revert hk; simp; omega))
theorem m_helps (d : Nat) {B T : LW} {ω σ : Sig} (a : Int32) (hM : MR B T ω σ) (hW : WI B T ω) (h5 : σ 112 5 = 0) :
    ∃ σ', Ex (d + 9) 264 0 [.ref 112, .int a, .null, .null, .null, .null, .null] [] G0 σ = some (some (.int (helpA B T ω a)), G0, σ') ∧ Fr SCF [(112, 0), (112, 49), (112, 5)] σ σ' ∧ (∀ k, k < 31 → σ' 113 k = σ 113 k) ∧ σ' 112 5 = 0 ∧ MR B T ω σ' := by
  obtain ⟨_, n8', en⟩ := WI_np hW
  obtain ⟨e2, s8⟩ : wi B T ω 5 := hW 5
  have f0 : Fr SCF [(112, 0), (112, 49), (112, 5)] σ (pt σ 112 0 0) := Fr_p Fr_r (Or.inr (by simp))
  have hM0 : MR B T ω (pt σ 112 0 0) := MR_S hM (Fr_p Fr_r (Or.inr (by simp)) : Fr [] [(112, 0)] σ (pt σ 112 0 0)) (by decide) (by simp)
  have h50 : (pt σ 112 0 0) 112 5 = 0 := by rw [pt_k (by decide)]; exact h5
  simp only [b264_0, m_isIn, Option.bind_some, Option.toList_some, Option.toList_none, List.cons_append, List.nil_append, i01a, i01b, if_true, if_false, b264_12, bI_z, bI_o, bI_em, ite_not]
  unfold helpA
  by_cases h : 0 ≤ a ∧ a ≤ 2
  · obtain ⟨σ1, e1, f1, k1, t1, m1⟩ := m_farOf (d + 1) hM0 hW h50 bw0
    have q8 : ∀ p, p < np ω → (nI (np ω) ≤ nI p) = False := fun p hp => by rw [nJ_le (by omega) (by omega)]; exact eq_false (by omega)
    have q8' : (nI (np ω) ≤ nI (np ω)) = True := by rw [nJ_le (by omega) (by omega)]; exact eq_true (Nat.le_refl _)
    simp only [h, i10, i01, eq_self, if_true, if_false, true_and, false_and, and_true, and_false, not_true, not_false_iff, true_or, or_true, false_or, or_false, ne_eq, not_true_eq_false, not_false_eq_true, e1, Option.bind_some, Option.toList_some, Option.toList_none, List.cons_append, List.nil_append, i01a, i01b, if_true, if_false, b264_24]
    obtain ⟨⟨σ2, v5, v6⟩, e3, i1, i2, i3, i4⟩ := loop_ex (fun p (x : Sig × Value × Value) => Ex (d + 9) 264 28 [.ref 112, .int a, .int (hpM (hp2 B T ω p)), .int (nI (hp2 B T ω p).2), .int (nI p), x.2.1, x.2.2] [] G0 (x.1))
      (fun p x => MR B T ω x.1 ∧ Fr SCF [(112, 0), (112, 49), (112, 5)] σ x.1 ∧ (∀ k, k < 31 → x.1 113 k = σ 113 k) ∧ x.1 112 5 = 0) (np ω) (σ1, .null, .null)
      ⟨m1, Fr_t f0 (Fr_m f1 (fun _ h => h) (by simp)), fun k hk => by dsimp only; rw [k1 k hk, pt_q (by decide)], t1⟩ (by
      intro p ⟨σ2, v5, v6⟩ hp ⟨i1, i2, i3, i4⟩
      dsimp only at i1 i2 i3 i4
      have hp8 : p < 8 := by omega
      have hst := hp2_b (B := B) (T := T) s8 p (by omega)
      show ∃ a', Ex (d + 9) 264 28 [.ref 112, .int a, .int (hpM (hp2 B T ω p)), .int (nI (hp2 B T ω p).2), .int (nI p), v5, v6] [] G0 σ2 = _ ∧ _
      rw [b264_28]
      simp only [m_places, m_pl i1 hW, Option.bind_some, Option.toList_some, Option.toList_none, List.cons_append, List.nil_append, i01a, i01b, if_true, if_false, b264_34, q8 p hp, i10, i01, eq_self, if_true, if_false, true_and, false_and, and_true, and_false, not_true, not_false_iff, true_or, or_true, false_or, or_false, ne_eq, not_true_eq_false, not_false_eq_true]
      have hs2 : hp2 B T ω (p + 1) = hp1 B T ω p (sz ω) (hp2 B T ω p) := rfl
      rw [hs2]
      generalize hp2 B T ω p = st at *
      have e12 : ∀ x, MR B T ω x → x 112 12 = nI (sz ω) := fun x m => (m 6).trans e2
      by_cases own : ω 9 p = -1
      · rw [b264_40, hp1_n own]
        refine ⟨(σ2, .int 0, v6), ?_, i1, i2, i3, i4⟩
        simp only [e12 σ2 i1, (fun d => m_who d i1 hp8), own, Option.bind_some, Option.toList_some, Option.toList_none, List.cons_append, List.nil_append, i01a, i01b, if_true, if_false, b264_55, i10, i01, eq_self, if_true, if_false, true_and, false_and, and_true, and_false, not_true, not_false_iff, true_or, or_true, false_or, or_false, ne_eq, not_true_eq_false, not_false_eq_true, nI_s]
        split <;> rfl
      · obtain ⟨⟨σ3, w6⟩, e4, j1, j2, j3, j4⟩ := loop_ex (fun b (x : Sig × Value) => Ex (d + 9) 264 40 [.ref 112, .int a, .int (hpM (hp1 B T ω p b st)), .int (nI (hp1 B T ω p b st).2), .int (nI p), .int (nI b), x.2] [] G0 (x.1))
          (fun b x => MR B T ω x.1 ∧ Fr SCF [(112, 0), (112, 49), (112, 5)] σ x.1 ∧ (∀ k, k < 31 → x.1 113 k = σ 113 k) ∧ x.1 112 5 = 0) (sz ω) (σ2, v6) ⟨i1, i2, i3, i4⟩ (by
          intro b ⟨σ3, w6⟩ hb ⟨j1, j2, j3, j4⟩
          dsimp only at j1 j2 j3 j4
          have hb1 := hp1_b (B := B) (T := T) (ω := ω) hp8 hst b (by omega)
          have hs1 : hp1 B T ω p (b + 1) st = hp0 B T ω p b (hp1 B T ω p b st) := rfl
          rw [hs1]
          show ∃ a', Ex (d + 9) 264 40 [.ref 112, .int a, .int (hpM (hp1 B T ω p b st)), .int (nI (hp1 B T ω p b st).2), .int (nI p), .int (nI b), w6] [] G0 σ3 = _ ∧ _
          generalize hp1 B T ω p b st = tt at *
          rw [b264_40]
          have qs : (nI (sz ω) ≤ nI b) = False := by rw [nJ_le (by omega) (by omega)]; exact eq_false (by omega)
          simp only [e12 σ3 j1, qs, i10, i01, eq_self, if_true, if_false, true_and, false_and, and_true, and_false, not_true, not_false_iff, true_or, or_true, false_or, or_false, ne_eq, not_true_eq_false, not_false_eq_true, (fun d => m_who d j1 hp8), eq_false own, Option.bind_some, Option.toList_some, Option.toList_none, List.cons_append, List.nil_append, i01a, i01b, if_true, if_false, b264_55, (fun d => m_placeOf d j1 (nI b)), b264_65]
          by_cases pn : plS ω (nI b) = -1
          · obtain ⟨σ4, e4, f4, k4, t4, m4⟩ := m_helpsFar d j1 hW j4 hp hb (fun q hq => pl_none pn hq)
            have hle := hfN_le (B := B) (T := T) (ω := ω) (p := p) (b := b)
            have fr4 : Fr SCF [(112, 0), (112, 49), (112, 5)] σ σ4 := Fr_t j2 (Fr_m f4 (fun _ h => h) (by simp))
            have kk4 : ∀ k, k < 31 → σ4 113 k = σ 113 k := fun k hk => by rw [k4 k hk]; exact j3 k hk
            have mxe : mx (nI (hfN B T ω p b)) (nI tt.2) = nI (if tt.2 < hfN B T ω p b then hfN B T ω p b else tt.2) := by
              unfold mx
              have e := nJ_lt (show hfN B T ω p b < 2 ^ 31 by omega) (show tt.2 < 2 ^ 31 by omega)
              by_cases c : hfN B T ω p b < tt.2
              · rw [if_pos (by rw [e]; exact c), if_neg (by omega)]
              · rw [if_neg (by rw [e]; exact c)]
                by_cases c2 : tt.2 < hfN B T ω p b
                · rw [if_pos c2]
                · rw [if_neg c2, show hfN B T ω p b = tt.2 by omega]
            simp only [eq_true pn, i10, i01, eq_self, if_true, if_false, true_and, false_and, and_true, and_false, not_true, not_false_iff, true_or, or_true, false_or, or_false, ne_eq, not_true_eq_false, not_false_eq_true, e4, Option.bind_some, Option.toList_some, Option.toList_none, List.cons_append, List.nil_append, i01a, i01b, if_true, if_false, b264_77, b264_81, nJ_le (show hfN B T ω p b < 2 ^ 31 by omega) (show tt.2 < 2 ^ 31 by omega), m_greater, b264_109, mxe, nI_s]
            by_cases lt : tt.2 < hfN B T ω p b
            · have hh : hp0 B T ω p b tt = (8 * p + b + 1, hfN B T ω p b) := by unfold hp0; rw [if_pos ⟨own, pn, lt⟩]
              have nl : ¬ hfN B T ω p b ≤ tt.2 := by omega
              have hm : hpM (8 * p + b + 1, hfN B T ω p b) = 8 * nI p + nI b := by
                unfold hpM; dsimp only; rw [if_neg (by omega)]
                have : (8 : Int32) * nI p = nI (8 * p) := nI_mul' 8 p
                rw [this, nI_add]; rfl
              rw [hh]
              simp only [eq_false nl, eq_true lt, i10, i01, eq_self, if_true, if_false, true_and, false_and, and_true, and_false, not_true, not_false_iff, true_or, or_true, false_or, or_false, ne_eq, not_true_eq_false, not_false_eq_true, hm]
              exact ⟨(σ4, _), rfl, m4, fr4, kk4, t4⟩
            · have hh : hp0 B T ω p b tt = tt := by unfold hp0; rw [if_neg (fun e => lt e.2.2)]
              have nl : hfN B T ω p b ≤ tt.2 := by omega
              rw [hh]
              simp only [eq_true nl, eq_false lt, i10, i01, eq_self, if_true, if_false, true_and, false_and, and_true, and_false, not_true, not_false_iff, true_or, or_true, false_or, or_false, ne_eq, not_true_eq_false, not_false_eq_true]
              exact ⟨(σ4, _), rfl, m4, fr4, kk4, t4⟩
          · have hh : hp0 B T ω p b tt = tt := by unfold hp0; rw [if_neg (fun e => pn e.2.1)]
            rw [hh]
            have c1 : ((-1 : Int32) ≤ nI tt.2) = True := eq_true (by
              rw [Int32.le_iff_toInt_le, nI_i (by omega)]
              have h2 : (-1 : Int32).toInt = -1 := rfl
              omega)
            have c2 : mx (-1) (nI tt.2) = nI tt.2 := by
              unfold mx
              rw [if_pos]
              rw [Int32.lt_iff_toInt_lt, nI_i (by omega)]
              have h2 : (-1 : Int32).toInt = -1 := rfl
              omega
            simp only [eq_false pn, i10, i01, eq_self, if_true, if_false, true_and, false_and, and_true, and_false, not_true, not_false_iff, true_or, or_true, false_or, or_false, ne_eq, not_true_eq_false, not_false_eq_true, b264_81, c1, m_greater, Option.bind_some, Option.toList_some, Option.toList_none, List.cons_append, List.nil_append, i01a, i01b, if_true, if_false, b264_109, c2, nI_s]
            exact ⟨(σ3, _), rfl, j1, j2, j3, j4⟩)
        dsimp only at j1 j2 j3 j4
        refine ⟨(σ3, .int (nI (sz ω)), w6), ?_, j1, j2, j3, j4⟩
        refine (e4 : Ex (d + 9) 264 40 [.ref 112, .int a, .int (hpM st), .int (nI st.2), .int (nI p), .int 0, v6] [] G0 σ2 = _).trans ?_
        show Ex (d + 9) 264 40 [.ref 112, .int a, .int (hpM (hp1 B T ω p (sz ω) st)), .int (nI (hp1 B T ω p (sz ω) st).2), .int (nI p), .int (nI (sz ω)), w6] [] G0 σ3 = _
        rw [b264_40]
        have qs : (nI (sz ω) ≤ nI (sz ω)) = True := by rw [nJ_le (by omega) (by omega)]; exact eq_true (Nat.le_refl _)
        simp only [e12 σ3 j1, qs, i10, i01, eq_self, if_true, if_false, true_and, false_and, and_true, and_false, not_true, not_false_iff, true_or, or_true, false_or, or_false, ne_eq, not_true_eq_false, not_false_eq_true, nI_s])
    dsimp only at i1 i2 i3 i4
    have hb := hp2_b (B := B) (T := T) s8 (np ω) n8'
    rw [show Ex (d + 9) 264 28 [.ref 112, .int a, .int (-1), .int (nI (farN B T 0 2000 ω)), .int 0, .null, .null] [] G0 σ1 = _ from e3]
    show ∃ σ', Ex (d + 9) 264 28 [.ref 112, .int a, .int (hpM (hpS B T ω)), .int (nI (hpS B T ω).2), .int (nI (np ω)), v5, v6] [] G0 σ2 = _ ∧ _
    rw [b264_28]
    simp only [m_places, m_pl i1 hW, Option.bind_some, Option.toList_some, Option.toList_none, List.cons_append, List.nil_append, i01a, i01b, if_true, if_false, b264_34, q8', i10, i01, eq_self, if_true, if_false, true_and, false_and, and_true, and_false, not_true, not_false_iff, true_or, or_true, false_or, or_false, ne_eq, not_true_eq_false, not_false_eq_true]
    refine ⟨σ2, ?_, i2, i3, i4, i1⟩
    have hb' : (hpS B T ω).1 ≤ 64 := hb.2
    generalize hpS B T ω = st at hb'
    have d8 : nI (st.1 - 1) / 8 = nI ((st.1 - 1) / 8) := nI_div (b := 8) (by omega) (by omega)
    have r8 : nI (st.1 - 1) - nI (st.1 - 1) / 8 * 8 = nI ((st.1 - 1) % 8) := by
      have m8 : nI ((st.1 - 1) / 8) * 8 = nI ((st.1 - 1) / 8 * 8) := nI_mul' _ 8
      rw [d8, m8, nI_sub' (by omega)]; congr 1; omega
    have nm : ¬ nI (st.1 - 1) = -1 := by
      intro e
      have := congrArg Int32.toInt e
      rw [nI_i (by omega)] at this
      have h2 : (-1 : Int32).toInt = -1 := rfl
      omega
    unfold hpM hpA hpB
    by_cases y : st.1 = 0
    · simp only [eq_true y, i10, i01, eq_self, if_true, if_false, true_and, false_and, and_true, and_false, not_true, not_false_iff, true_or, or_true, false_or, or_false, ne_eq, not_true_eq_false, not_false_eq_true]
    · by_cases z : a = 0
      · simp only [eq_false y, eq_true z, nm, i10, i01, eq_self, if_true, if_false, true_and, false_and, and_true, and_false, not_true, not_false_iff, true_or, or_true, false_or, or_false, ne_eq, not_true_eq_false, not_false_eq_true, d8]
      · by_cases z1 : a = 1
        · simp only [eq_false y, eq_false z, eq_true z1, nm, i10, i01, eq_self, if_true, if_false, true_and, false_and, and_true, and_false, not_true, not_false_iff, true_or, or_true, false_or, or_false, ne_eq, not_true_eq_false, not_false_eq_true, r8]
        · simp only [eq_false y, eq_false z, eq_false z1, nm, i10, i01, eq_self, if_true, if_false, true_and, false_and, and_true, and_false, not_true, not_false_iff, true_or, or_true, false_or, or_false, ne_eq, not_true_eq_false, not_false_eq_true]
  · simp only [h, i10, i01, eq_self, if_true, if_false, true_and, false_and, and_true, and_false, not_true, not_false_iff, true_or, or_true, false_or, or_false, ne_eq, not_true_eq_false, not_false_eq_true]
    exact ⟨_, rfl, f0, fun k hk => by rw [pt_q (by decide)], h50, hM0⟩
