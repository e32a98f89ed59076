/-! L3: CLOTHS, the class (2) -/
theorem c_inVain (d : Nat) {ω σ : Sig} {st : Option (Nat × Nat × List Nat)} {n : Nat} (hn : n ≤ 100) (k : KZ ω st σ) : ∃ v, Ex d 68 0 [.ref 79, .int (nI n)] [] G0 σ = some (some (.int v), G0, σ) ∧ (v = 0 ∨ (v = 1 ∧ ∃ m b, st = some (0, m, b) ∧ m ≤ n)) := by
  rw [b68_0, k.1, k.2.1]
  cases st with
  | none =>
    have q : (coA none = 0) = False := eq_false (by decide)
    simp only [q, i10, i01, eq_self, if_true, if_false, true_and, false_and, and_true, and_false, not_true, not_false_iff, true_or, or_true, false_or, or_false, ne_eq, not_true_eq_false, not_false_eq_true, Option.bind_some, Option.toList_some, Option.toList_none, List.cons_append, List.nil_append, i01a, i01b, if_true, if_false]
    exact ⟨0, rfl, Or.inl rfl⟩
  | some x =>
    obtain ⟨hx, hx2, _⟩ := k.2.2 x rfl
    have e : coA (some x) = nI x.1 := rfl
    have e' : coI (some x) = nI x.2.1 := rfl
    simp only [e, e', nI_z (show x.1 < 2 ^ 31 by omega), nJ_lt (show n < 2 ^ 31 by omega) (show x.2.1 < 2 ^ 31 by omega), Option.bind_some, Option.toList_some, Option.toList_none, List.cons_append, List.nil_append, i01a, i01b, if_true, if_false]
    by_cases c : x.1 = 0
    · simp only [eq_true c, i10, i01, eq_self, if_true, if_false, true_and, false_and, and_true, and_false, not_true, not_false_iff, true_or, or_true, false_or, or_false, ne_eq, not_true_eq_false, not_false_eq_true]
      by_cases c2 : n < x.2.1
      · simp only [eq_true c2, i10, i01, eq_self, if_true, if_false, true_and, false_and, and_true, and_false, not_true, not_false_iff, true_or, or_true, false_or, or_false, ne_eq, not_true_eq_false, not_false_eq_true]
        exact ⟨0, rfl, Or.inl rfl⟩
      · simp only [eq_false c2, i10, i01, eq_self, if_true, if_false, true_and, false_and, and_true, and_false, not_true, not_false_iff, true_or, or_true, false_or, or_false, ne_eq, not_true_eq_false, not_false_eq_true]
        obtain ⟨x1, x2, x3⟩ := x
        have c' : x1 = 0 := c
        subst c'
        exact ⟨1, rfl, Or.inr ⟨rfl, x2, x3, rfl, by simp at c2; omega⟩⟩
    · simp only [eq_false c, i10, i01, eq_self, if_true, if_false, true_and, false_and, and_true, and_false, not_true, not_false_iff, true_or, or_true, false_or, or_false, ne_eq, not_true_eq_false, not_false_eq_true]
      exact ⟨0, rfl, Or.inl rfl⟩
theorem c_lay {B T : LW} {ω : Sig} (hW : WI B T ω) : ∀ k d pre st σ, pre.length + k = np ω → vC ω pre → FY B ω pre σ → KZ ω st σ →
    ∃ σ', Ex (d + 5 + k) 67 0 [.ref 79, .int (nI pre.length), .int (nI (inS pre)), .null, .null] [] G0 σ = some (none, G0, σ') ∧ FY B ω pre σ' ∧ KZ ω (fdl (jC B ω) (exL (cC ω) 4 k pre) st) σ' ∧ Fr SCZ SLZ σ σ' := by
  obtain ⟨_, n8', en⟩ := WI_np hW
  intro k
  induction k with
  | zero =>
    intro d pre st σ hl hv i kk
    have e8 : σ 8 = ω 8 := i.1 8 (by omega) (by omega) (by omega) (by omega) (by omega)
    have q : (0 ≤ nI pre.length ∧ nI pre.length < 2 * ω 8 0) = False := by rw [fl_has hW (by omega)]; exact eq_false (by omega)
    rw [exL]
    obtain ⟨σ1, e1, i1, k1, f1⟩ := c_judgeC d hW (by omega) hv i kk
    rw [show d + 5 + 0 = (d + 4) + 1 from rfl, b67_0, c_placesHas]
    simp only [Option.bind_some, Option.toList_some, Option.toList_none, List.cons_append, List.nil_append, i01a, i01b, if_true, if_false, b67_11, e8, bI_z, bI_o, bI_em, ite_not, q, i10, i01, eq_self, if_true, if_false, true_and, false_and, and_true, and_false, not_true, not_false_iff, true_or, or_true, false_or, or_false, ne_eq, not_true_eq_false, not_false_eq_true, e1, b67_19]
    exact ⟨σ1, rfl, i1, k1, f1⟩
  | succ k ih =>
    intro d pre st σ hl hv i kk
    have e8 : σ 8 = ω 8 := i.1 8 (by omega) (by omega) (by omega) (by omega) (by omega)
    have e9 : σ 9 = ω 9 := i.1 9 (by omega) (by omega) (by omega) (by omega) (by omega)
    have q : (0 ≤ nI pre.length ∧ nI pre.length < 2 * ω 8 0) = True := by rw [fl_has hW (by omega)]; exact eq_true (by omega)
    have p8 : pre.length < 8 := by omega
    have hin : inS pre ≤ 24 := by have := inS_b hv; omega
    rw [show d + 5 + (k + 1) = (d + 4 + k + 1) + 1 by omega, b67_0, c_placesHas]
    simp only [Option.bind_some, Option.toList_some, Option.toList_none, List.cons_append, List.nil_append, i01a, i01b, if_true, if_false, b67_11, e8, bI_z, bI_o, bI_em, ite_not, q, i10, i01, eq_self, if_true, if_false, true_and, false_and, and_true, and_false, not_true, not_false_iff, true_or, or_true, false_or, or_false, ne_eq, not_true_eq_false, not_false_eq_true, i8 p8, c8 p8, e9]
    have main : ∀ M, M ≤ 3 → (∀ b, b ≤ 3 → cC ω pre b = decide (b ≤ M)) → ∀ m b st σ2, b + m = 4 → b ≤ M + 1 → FY B ω pre σ2 → KZ ω st σ2 → ∃ σ', Ex (d + 4 + k + 1 + 1) 67 45 [.ref 79, .int (nI pre.length), .int (nI (inS pre)), .int (nI M), .int (nI b)] [] G0 σ2 = some (none, G0, σ') ∧ FY B ω pre σ' ∧ KZ ω (fdl (jC B ω) (exB (cC ω) 4 (exL (cC ω) 4 k) pre m) st) σ' ∧ Fr SCZ SLZ σ2 σ' := by
      intro M hM hc m
      induction m with
      | zero =>
        intro b st σ2 hb hbM i kk
        have q2 : (nI M < nI b) = True := by rw [nJ_lt (by omega) (by omega)]; exact eq_true (by omega)
        rw [b67_45]
        simp only [q2, i10, i01, eq_self, if_true, if_false, true_and, false_and, and_true, and_false, not_true, not_false_iff, true_or, or_true, false_or, or_false, ne_eq, not_true_eq_false, not_false_eq_true]
        exact ⟨σ2, rfl, i, kk, Fr_r⟩
      | succ m ihm =>
        intro b st σ2 hb hbM i kk
        rw [b67_45]
        by_cases cb : M < b
        · have q2 : (nI M < nI b) = True := by rw [nJ_lt (by omega) (by omega)]; exact eq_true cb
          simp only [q2, i10, i01, eq_self, if_true, if_false, true_and, false_and, and_true, and_false, not_true, not_false_iff, true_or, or_true, false_or, or_false, ne_eq, not_true_eq_false, not_false_eq_true]
          have : exB (cC ω) 4 (exL (cC ω) 4 k) pre (m + 1) = [] := exB_0 (m + 1) (by omega) (fun b' h1 h2 => by rw [hc b' (by omega)]; exact decide_eq_false (by omega))
          rw [this]
          exact ⟨σ2, rfl, i, kk, Fr_r⟩
        · have q2 : (nI M < nI b) = False := by rw [nJ_lt (by omega) (by omega)]; exact eq_false cb
          have ea : nI (inS pre) + nI b = nI (inS pre + b) := (Int32.ofNat_add _ _).symm
          obtain ⟨v, ev, hv2⟩ := c_inVain (d + 4 + k + 1) (n := inS pre + b) (by omega) kk
          simp only [q2, i10, i01, eq_self, if_true, if_false, true_and, false_and, and_true, and_false, not_true, not_false_iff, true_or, or_true, false_or, or_false, ne_eq, not_true_eq_false, not_false_eq_true, ea, ev, Option.bind_some, Option.toList_some, Option.toList_none, List.cons_append, List.nil_append, i01a, i01b, if_true, if_false, b67_59, i8 p8, c8 p8]
          rcases hv2 with v0 | ⟨v1, n, w, est, hn⟩
          · have hcc : cC ω pre b = true := by rw [hc b (by omega)]; exact decide_eq_true (by omega)
            rw [exB_s (show 4 - (m + 1) = b by omega), if_pos hcc, fdl_a]
            obtain ⟨σ3, e3, i3, k3, f3⟩ := ih d (b :: pre) st (pt σ2 10 pre.length (nI b)) (by simp; omega) (vC_s hv (by omega) hcc) (FY_s (by omega) i) ⟨by rw [pt_q (by decide)]; exact kk.1, by rw [pt_q (by decide)]; exact kk.2.1, fun x hx => ⟨(kk.2.2 x hx).1, (kk.2.2 x hx).2.1, by rw [pt_q (by decide)]; exact (kk.2.2 x hx).2.2⟩⟩
            rw [List.length_cons, show d + 5 + k = d + 4 + k + 1 by omega] at e3
            have e3' : Ex (d + 4 + k + 1) 67 0 [.ref 79, .int (nI (pre.length + 1)), .int (nI (inS pre + b)), .null, .null] [] G0 (pt σ2 10 pre.length (nI b)) = some (none, G0, σ3) := e3
            have F3 : Fr SCZ SLZ σ2 σ3 := Fr_t (Fr_p Fr_r (Or.inl (by decide))) f3
            obtain ⟨σ4, e4, i4, k4, f4⟩ := ihm (b + 1) _ σ3 (by omega) (by omega) (FY_d i3) k3
            simp only [v0, i10, i01, eq_self, if_true, if_false, true_and, false_and, and_true, and_false, not_true, not_false_iff, true_or, or_true, false_or, or_false, ne_eq, not_true_eq_false, not_false_eq_true, nI_s, e3', Option.bind_some, Option.toList_some, Option.toList_none, List.cons_append, List.nil_append, i01a, i01b, if_true, if_false, b67_87, e4]
            exact ⟨σ4, rfl, i4, k4, Fr_t F3 f4⟩
          · simp only [v1, i10, i01, eq_self, if_true, if_false, true_and, false_and, and_true, and_false, not_true, not_false_iff, true_or, or_true, false_or, or_false, ne_eq, not_true_eq_false, not_false_eq_true]
            have : fdl (jC B ω) (exB (cC ω) 4 (exL (cC ω) 4 k) pre (m + 1)) st = st := by
              rw [est]
              exact fdl_in _ (exB_in (n := n) (fun b w hw => exL_in k (b :: pre) w hw) (m + 1) (by omega) (by omega))
            rw [this]
            exact ⟨σ2, rfl, i, kk, Fr_r⟩
    rw [exL]
    by_cases c : ω 9 pre.length = -1
    · simp only [c, i10, i01, eq_self, if_true, if_false, true_and, false_and, and_true, and_false, not_true, not_false_iff, true_or, or_true, false_or, or_false, ne_eq, not_true_eq_false, not_false_eq_true]
      exact main 0 (by omega) (fun b hb => by unfold cC; rw [if_pos c]; exact decide_eq_decide.mpr (by omega)) 4 0 st σ (by omega) (by omega) i kk
    · simp only [c, i10, i01, eq_self, if_true, if_false, true_and, false_and, and_true, and_false, not_true, not_false_iff, true_or, or_true, false_or, or_false, ne_eq, not_true_eq_false, not_false_eq_true]
      exact main 3 (by omega) (fun b hb => by unfold cC; rw [if_neg c]; exact (decide_eq_true hb).symm) 4 0 st σ (by omega) (by omega) i kk
theorem Th_FY {B : LW} {ω : Sig} {pre : List Nat} {σ : Sig} (n8 : np ω ≤ 8) (i : FY B ω pre σ) : Th ω σ := by
  obtain ⟨w, _, _, b⟩ := i
  refine ⟨fun q h1 h2 h3 => w q h1 h2 (by simp at h3; omega) (by simp at h3; omega) (by simp at h3; omega), fun k _ => ?_, fun k hk => ⟨?_, ?_, b k (by omega)⟩, fun k _ => ?_, fun k _ => ?_⟩
  · rw [w 1 (by omega) (by omega) (by omega) (by omega) (by omega)]
  · rw [w 7 (by omega) (by omega) (by omega) (by omega) (by omega)]
  · rw [w 9 (by omega) (by omega) (by omega) (by omega) (by omega)]
  · rw [w 25 (by omega) (by omega) (by omega) (by omega) (by omega)]
  · rw [w 26 (by omega) (by omega) (by omega) (by omega) (by omega)]
theorem FY_0 {B : LW} {ω σ : Sig} (e : ∀ q, 1 ≤ q → q ≤ 26 → σ q = ω q) (m8 : σ 67 8 = 1) (m9 : σ 67 9 = 1) (m : ∀ i, i < 3008 → σ 73 i = -1) : FY B ω [] σ := by
  refine ⟨fun q h1 h2 _ _ _ => e q h1 h2, ⟨m8, m9, fun p x j hp hx hj => Or.inl (m _ (by omega))⟩, fun p hp => by simp at hp, fun p _ => by rw [e 10 (by omega) (by omega)]⟩
def SCT : List Nat := [1, 2, 3, 4, 5, 6, 7, 8, 9, 10, 11, 12, 13, 14, 15, 16, 17, 18, 19, 20, 21, 22, 23, 24, 25, 26, 68, 69, 70, 71, 72, 73, 81, 83, 84, 85, 86]
def SLT : List (Nat × Nat) := [(67, 2), (67, 3), (67, 8), (67, 9), (79, 2), (79, 3)]
theorem c_findCloths (d : Nat) {B T : LW} {σ : Sig} (hW : WI B T σ) :
    ∃ σ', Ex (d + 14) 66 0 [.ref 79] [] G0 σ = some (none, G0, σ') ∧ Wb σ σ' ∧ KZ σ (coS B σ) σ' ∧ σ' 67 8 = 0 ∧ Fr SCT SLT σ σ' := by
  obtain ⟨_, n8', en⟩ := WI_np hW
  obtain ⟨σ1, e1, f1, m1⟩ := c_take83 (d + 11) (pt (pt σ 79 2 (-1)) 79 3 0)
  have e1' : Ex (d + 13) 28 0 [.ref 83, .ref 1] [] G0 (pt (pt σ 79 2 (-1)) 79 3 0) = some (none, G0, σ1) := e1
  have q1 : ∀ q, q ∉ [79, 83, 84, 85, 86] → σ1 q = σ q := fun q hq => by
    rw [Fr_q f1 (by simp at hq ⊢; omega) (by simp), pt_q (by simp at hq; omega), pt_q (by simp at hq; omega)]
  have m1' : MM σ 83 σ1 := by
    have := m1
    unfold MM at this ⊢
    simpa (disch := decide) only [pt_q] using this
  have F1 : Fr SCT SLT σ σ1 := Fr_t (Fr_p (Fr_p Fr_r (Or.inr (by decide))) (Or.inr (by decide))) (Fr_m f1 (by decide) (by decide))
  have r2 : Ex (d + 13) 1 0 [.ref 67, .int 1] [] G0 σ1 = some (none, G0, pt (pt (fiS σ1 73 3008 (-1)) 67 8 1) 67 9 1) := c_recall (d + 12) σ1 1 (Or.inr rfl)
  have F2 : Fr SCT SLT σ (pt (pt (fiS σ1 73 3008 (-1)) 67 8 1) 67 9 1) := by
    refine Fr_p (Fr_p ?_ (Or.inr (by decide))) (Or.inr (by decide))
    exact fun q k h1 h2 => by rw [fiS_q (by intro e; subst e; exact h1 (by decide))]; exact F1 q k h1 h2
  have q2 : ∀ q, q ∉ [67, 73, 79, 83, 84, 85, 86] → pt (pt (fiS σ1 73 3008 (-1)) 67 8 1) 67 9 1 q = σ q := fun q hq => by
    rw [pt_q (by simp at hq; omega), pt_q (by simp at hq; omega), fiS_q (by simp at hq; omega), q1 q (by simp at hq ⊢; omega)]
  have i2 : FY B σ [] (pt (pt (fiS σ1 73 3008 (-1)) 67 8 1) 67 9 1) := FY_0 (fun q h1 h2 => q2 q (by simp; omega)) (by rw [pt_k (by decide), pt_e]) pt_e (fun i hi => by rw [pt_q (by decide), pt_q (by decide), fiS_k hi])
  have e79 : ∀ k, pt (pt (fiS σ1 73 3008 (-1)) 67 8 1) 67 9 1 79 k = pt (pt σ 79 2 (-1)) 79 3 0 79 k := fun k => by
    rw [pt_q (by decide), pt_q (by decide), fiS_q (by decide), Fr_q f1 (by decide) (by simp)]
  have k2 : KZ σ none (pt (pt (fiS σ1 73 3008 (-1)) 67 8 1) 67 9 1) := ⟨by rw [e79, pt_k (by decide), pt_e]; rfl, by rw [e79, pt_e]; rfl, fun x hx => by cases hx⟩
  obtain ⟨σ3, e3, i3, k3, f3⟩ := c_lay hW (np σ) (d + (8 - np σ)) [] none (pt (pt (fiS σ1 73 3008 (-1)) 67 8 1) 67 9 1) (by simp) vC_0 i2 k2
  have e3' : Ex (d + 13) 67 0 [.ref 79, .int 0, .int 0, .null, .null] [] G0 (pt (pt (fiS σ1 73 3008 (-1)) 67 8 1) 67 9 1) = some (none, G0, σ3) := by
    rw [show d + 13 = d + (8 - np σ) + 5 + np σ by omega]; exact e3
  have m3 : MM σ 83 σ3 := by
    have q3 : ∀ q, q ∈ [83, 84, 85, 86] → σ3 q = σ1 q := fun q hq => by
      rw [Fr_q f3 (by unfold SCZ; simp at hq ⊢; omega) (by unfold SLZ; simp at hq ⊢; omega), pt_q (by simp at hq; omega), pt_q (by simp at hq; omega), fiS_q (by simp at hq; omega)]
    exact MM_fr m1' (q3 83 (by simp)) (q3 84 (by simp)) (q3 85 (by simp)) (q3 86 (by simp))
  obtain ⟨σ4, e4, f4, m4, g4⟩ := c_give83 (d + 11) (pt σ3 67 8 0)
  have e4' : Ex (d + 13) 29 0 [.ref 83, .ref 1] [] G0 (pt σ3 67 8 0) = some (none, G0, σ4) := e4
  have t3 : Th σ (pt σ3 67 8 0) := Th_fr (Th_FY n8' i3) (Fr_p Fr_r (Or.inr (by decide)) : Fr [] [(67, 8)] σ3 (pt σ3 67 8 0)) (by simp) (by simp)
  have m3' : MM σ 83 (pt σ3 67 8 0) := MM_fr m3 (pt_q (by decide)) (pt_q (by decide)) (pt_q (by decide)) (pt_q (by decide))
  have a4 : ∀ q, q ∉ [1, 7, 9, 10, 25, 67] → σ4 q = σ3 q := fun q hq => by
    rw [Fr_q f4 (by simp at hq ⊢; omega) (by simp at hq ⊢; omega), pt_q (by simp at hq; omega)]
  simp only [b66_0, e1', Option.bind_some, Option.toList_some, Option.toList_none, List.cons_append, List.nil_append, i01a, i01b, if_true, if_false, b66_21, r2, b66_29, e3', b66_35, b2_0, b66_42, e4', b66_53]
  refine ⟨σ4, rfl, Th_end t3 m3' f4 m4 g4, ⟨by rw [a4 79 (by decide)]; exact k3.1, by rw [a4 79 (by decide)]; exact k3.2.1, fun x hx => ⟨(k3.2.2 x hx).1, (k3.2.2 x hx).2.1, by rw [a4 81 (by decide)]; exact (k3.2.2 x hx).2.2⟩⟩, ?_, Fr_t F2 (Fr_t (Fr_m f3 (by decide) (by decide)) (Fr_t (Fr_p Fr_r (Or.inr (by decide))) (Fr_m f4 (by decide) (by decide))))⟩
  rw [f4 67 8 (by decide) (by decide), pt_e]
noncomputable def clothsA (B : LW) (ω : Sig) (a : Int32) : Int32 := if (0 ≤ a ∧ a ≤ 1) ∨ (10 ≤ a ∧ a ≤ 9 + 2 * ω 8 0) then (match coS B ω with
  | none => -1
  | some x => if a = 0 then nI x.1 else if a = 1 then nI x.2.1 else nI (wv x.2.2 (a - 10).toNatClampNeg)) else -1
theorem z01c {a : Int32} (h : 0 ≤ a ∧ a ≤ 1) : a = 0 ∨ a = 1 := by
  obtain ⟨h1, h2⟩ := h
  rw [Int32.le_iff_toInt_le] at h1 h2
  have e0 : (0 : Int32).toInt = 0 := rfl
  have e1 : (1 : Int32).toInt = 1 := rfl
  by_cases c : a.toInt = 0
  · exact Or.inl (Int32.toInt_inj.mp (by omega))
  · exact Or.inr (Int32.toInt_inj.mp (by omega))
theorem c_cloths (d : Nat) {B T : LW} {σ : Sig} (a : Int32) (hW : WI B T σ) (h0 : σ 67 8 = 0) (hk : ¬ (σ 0 10 &&& 2 = 0) → KZ σ (coS B σ) σ) :
    ∃ σ', Ex (d + 15) 116 0 [.ref 0, .int a] [] G0 σ = some (some (.int (clothsA B σ a)), G0, σ') ∧ Wb σ σ' ∧ Fr SCT ((0, 10) :: SLT) σ σ' ∧ (σ' 0 10 = σ 0 10 ∨ (σ' 0 10 = σ 0 10 ||| 2 ∧ KZ σ (coS B σ) σ')) ∧ (¬ (σ 0 10 &&& 2 = 0) → KZ σ (coS B σ) σ') ∧ σ' 67 8 = 0 := by
  obtain ⟨_, n8', en⟩ := WI_np hW
  by_cases ca : (0 ≤ a ∧ a ≤ 1) ∨ (10 ≤ a ∧ a ≤ 9 + 2 * σ 8 0)
  · have fin : ∀ d s, KZ σ (coS B σ) s → Ex d 116 45 [.ref 0, .int a] [] G0 s = some (some (.int (clothsA B σ a)), G0, s) := by
      intro d s k
      obtain ⟨k1, k2, k3⟩ := k
      rw [b116_45, k1, k2]
      unfold clothsA
      rw [if_pos ca]
      cases hs : coS B σ with
      | none => rw [if_pos (show coA none = -1 from rfl)]
      | some x =>
        obtain ⟨b1, b2, b3⟩ := k3 x hs
        have e : coA (some x) = nI x.1 := rfl
        have e' : coI (some x) = nI x.2.1 := rfl
        rw [e, e', if_neg (by rw [nI_ne (by omega)]; exact fun h => h)]
        by_cases c0 : a = 0
        · simp only [eq_true c0, i10, i01, eq_self, if_true, if_false, true_and, false_and, and_true, and_false, not_true, not_false_iff, true_or, or_true, false_or, or_false, ne_eq, not_true_eq_false, not_false_eq_true]
        · by_cases c1 : a = 1
          · simp only [eq_false c0, eq_true c1, i10, i01, eq_self, if_true, if_false, true_and, false_and, and_true, and_false, not_true, not_false_iff, true_or, or_true, false_or, or_false, ne_eq, not_true_eq_false, not_false_eq_true]
          · obtain ⟨p, hp, p8, ep⟩ := pa_ix hW (ca.resolve_left (fun h => (z01c h).elim c0 c1))
            simp only [eq_false c0, eq_false c1, i10, i01, eq_self, if_true, if_false, true_and, false_and, and_true, and_false, not_true, not_false_iff, true_or, or_true, false_or, or_false, ne_eq, not_true_eq_false, not_false_eq_true, ep, i8 p8, c8 p8, b3 p hp]
    by_cases kb : σ 0 10 &&& 2 = 0
    · obtain ⟨σ1, e1, w1, k1, z1, f1⟩ := c_findCloths d hW
      have k' : KZ σ (coS B σ) (pt σ1 0 10 (σ1 0 10 ||| 2)) := ⟨by rw [pt_q (by decide)]; exact k1.1, by rw [pt_q (by decide)]; exact k1.2.1, fun x hx => ⟨(k1.2.2 x hx).1, (k1.2.2 x hx).2.1, by rw [pt_q (by decide)]; exact (k1.2.2 x hx).2.2⟩⟩
      have e10 : σ1 0 10 = σ 0 10 := f1 0 10 (by decide) (by decide)
      have F := fin (d + 14 + 1) _ k'
      refine ⟨pt σ1 0 10 (σ1 0 10 ||| 2), ?_, ⟨fun q h1 h2 h3 h4 h5 => by rw [pt_q (by omega)]; exact w1.1 q h1 h2 h3 h4 h5, by rw [pt_q (by decide)]; exact w1.2⟩, Fr_p (Fr_m f1 (by decide) (by decide)) (Or.inr (by decide)), Or.inr ⟨by rw [pt_e, e10], k'⟩, fun h => absurd kb h, by rw [pt_q (by decide)]; exact z1⟩
      by_cases c0 : 0 ≤ a ∧ a ≤ 1
      · simp only [b116_0, c_within, Option.bind_some, Option.toList_some, Option.toList_none, List.cons_append, List.nil_append, i01a, i01b, if_true, if_false, b116_6, bI_z, bI_o, bI_em, ite_not, eq_true c0, kb, i10, i01, eq_self, if_true, if_false, true_and, false_and, and_true, and_false, not_true, not_false_iff, true_or, or_true, false_or, or_false, ne_eq, not_true_eq_false, not_false_eq_true, e1, b116_35, F]
      · simp only [b116_0, c_within, Option.bind_some, Option.toList_some, Option.toList_none, List.cons_append, List.nil_append, i01a, i01b, if_true, if_false, b116_6, bI_z, bI_o, bI_em, ite_not, eq_false c0, kb, i10, i01, eq_self, if_true, if_false, true_and, false_and, and_true, and_false, not_true, not_false_iff, true_or, or_true, false_or, or_false, ne_eq, not_true_eq_false, not_false_eq_true, c_isPlaceAnswer, b116_14, eq_true (ca.resolve_left c0), e1, b116_35, F]
    · have k' := hk kb
      have F := fin (d + 14 + 1) _ k'
      refine ⟨σ, ?_, Wb_r, Fr_r, Or.inl rfl, fun _ => k', h0⟩
      by_cases c0 : 0 ≤ a ∧ a ≤ 1
      · simp only [b116_0, c_within, Option.bind_some, Option.toList_some, Option.toList_none, List.cons_append, List.nil_append, i01a, i01b, if_true, if_false, b116_6, bI_z, bI_o, bI_em, ite_not, eq_true c0, eq_false kb, i10, i01, eq_self, if_true, if_false, true_and, false_and, and_true, and_false, not_true, not_false_iff, true_or, or_true, false_or, or_false, ne_eq, not_true_eq_false, not_false_eq_true, F]
      · simp only [b116_0, c_within, Option.bind_some, Option.toList_some, Option.toList_none, List.cons_append, List.nil_append, i01a, i01b, if_true, if_false, b116_6, bI_z, bI_o, bI_em, ite_not, eq_false c0, eq_false kb, i10, i01, eq_self, if_true, if_false, true_and, false_and, and_true, and_false, not_true, not_false_iff, true_or, or_true, false_or, or_false, ne_eq, not_true_eq_false, not_false_eq_true, c_isPlaceAnswer, b116_14, eq_true (ca.resolve_left c0), F]
  · have c0 : ¬ (0 ≤ a ∧ a ≤ 1) := fun e => ca (Or.inl e)
    have c1 : ¬ (10 ≤ a ∧ a ≤ 9 + 2 * σ 8 0) := fun e => ca (Or.inr e)
    refine ⟨σ, ?_, Wb_r, Fr_r, Or.inl rfl, hk, h0⟩
    unfold clothsA
    rw [if_neg ca]
    simp only [b116_0, c_within, Option.bind_some, Option.toList_some, Option.toList_none, List.cons_append, List.nil_append, i01a, i01b, if_true, if_false, b116_6, bI_z, bI_o, bI_em, ite_not, eq_false c0, i10, i01, eq_self, if_true, if_false, true_and, false_and, and_true, and_false, not_true, not_false_iff, true_or, or_true, false_or, or_false, ne_eq, not_true_eq_false, not_false_eq_true, c_isPlaceAnswer, b116_14, eq_false c1]
