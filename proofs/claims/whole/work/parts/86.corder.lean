/-! L3: ORDER and FITS, the class -/
theorem shareX_e {B : LW} {ω σ : Sig} (e1 : σ 1 = ω 1) (e3 : σ 3 = ω 3) (e4 : σ 4 = ω 4) (e6 : σ 6 = ω 6) (e7 : σ 7 = ω 7) (e8 : σ 8 = ω 8) : shareX B σ = shareX B ω := by
  have ht : topX σ = topX ω := by funext s p b c; unfold topX; rw [e3, e8]
  have hf : fxX σ = fxX ω := by funext s p b c k; unfold fxX; rw [e1, e3, e4, e6, e7]
  funext s p b c l; unfold shareX; rw [ht, hf, e1]
def Wx (ω σ : Sig) : Prop := ∀ q, 1 ≤ q → q ≤ 26 → q ≠ 9 → q ≠ 16 → q ≠ 19 → σ q = ω q
theorem Wx_s {B : LW} {ω σ : Sig} (h : Wx ω σ) : shareX B σ = shareX B ω :=
  shareX_e (h 1 (by omega) (by omega) (by omega) (by omega) (by omega)) (h 3 (by omega) (by omega) (by omega) (by omega) (by omega)) (h 4 (by omega) (by omega) (by omega) (by omega) (by omega)) (h 6 (by omega) (by omega) (by omega) (by omega) (by omega)) (h 7 (by omega) (by omega) (by omega) (by omega) (by omega)) (h 8 (by omega) (by omega) (by omega) (by omega) (by omega))
def MO (B : LW) (ω σ : Sig) : Prop := σ 67 8 = 1 ∧ σ 67 9 = 0 ∧ ∀ p x j, p < 8 → x < 8 → j < 47 → σ 73 ((p * 8 + x) * 47 + j) = -1 ∨ σ 73 ((p * 8 + x) * 47 + j) = shareX B ω 0 p x (ω 10 p) (nI (40 + j))
theorem MO_MEM {B : LW} {ω σ : Sig} (h : Wx ω σ) (m : MO B ω σ) : MEM B σ := by
  obtain ⟨m8, m9, mm⟩ := m
  refine Or.inr ⟨m8, Or.inl m9, fun p x j hp hx hj => ?_⟩
  rw [if_pos m9, if_pos m9, Wx_s h, h 10 (by omega) (by omega) (by omega) (by omega) (by omega)]
  exact mm p x j hp hx hj
theorem MEM_MO {B : LW} {ω σ : Sig} (h : Wx ω σ) (m : MEM B σ) (m8 : σ 67 8 = 1) (m9 : σ 67 9 = 0) : MO B ω σ := by
  rcases m with m | ⟨_, _, mm⟩
  · rw [m8] at m; exact absurd m (by decide)
  · refine ⟨m8, m9, fun p x j hp hx hj => ?_⟩
    have := mm p x j hp hx hj
    rwa [if_pos m9, if_pos m9, Wx_s h, h 10 (by omega) (by omega) (by omega) (by omega) (by omega)] at this
def FI (B : LW) (ω : Sig) (h : Nat → Bool) (pre : List Nat) (σ : Sig) : Prop := Wx ω σ ∧ MO B ω σ ∧ (∀ p, p < pre.length → σ 9 p = nI (wv pre p)) ∧ (∀ p, np ω ≤ p → σ 9 p = ω 9 p) ∧ (∀ p, p < np ω → h p = true → σ 9 p = ω 9 p)
theorem FI_q {B : LW} {ω : Sig} {h : Nat → Bool} {pre : List Nat} {σ : Sig} (i : FI B ω h pre σ) (hl : pre.length = np ω) : Wq (tw ω pre) σ := by
  obtain ⟨w, _, a, b, _⟩ := i
  intro q h1 h2 h3 h4
  by_cases e : q = 9
  · subst e
    funext k
    by_cases c : k < np ω
    · rw [tw_k c]; exact a k (by omega)
    · rw [tw_o (by omega)]; exact b k (by omega)
  · rw [tw_q e]; exact w q h1 h2 e h3 h4
theorem FI_fr {B : LW} {ω : Sig} {h : Nat → Bool} {pre : List Nat} {σ σ' : Sig} (i : FI B ω h pre σ) (f : ∀ q, 1 ≤ q → q ≤ 26 → q ≠ 16 → q ≠ 19 → σ' q = σ q) (m : MEM B σ') (e8 : σ' 67 8 = σ 67 8) (e9 : σ' 67 9 = σ 67 9) : FI B ω h pre σ' := by
  obtain ⟨w, o, a, b, c⟩ := i
  have w' : Wx ω σ' := fun q h1 h2 h3 h4 h5 => (f q h1 h2 h4 h5).trans (w q h1 h2 h3 h4 h5)
  have f9 := f 9 (by omega) (by omega) (by omega) (by omega)
  refine ⟨w', MEM_MO w' m (e8.trans o.1) (e9.trans o.2.1), ?_, ?_, ?_⟩ <;> rw [f9]
  · exact a
  · exact b
  · exact c
def SCO : List Nat := [9, 16, 68, 69, 70, 71, 72, 73, 80]
def SLO : List (Nat × Nat) := [(67, 2), (67, 3), (79, 0)]
def SCG : List Nat := [9, 16, 68, 69, 70, 71, 72, 73, 82]
def SLG : List (Nat × Nat) := [(67, 2), (67, 3), (79, 5)]
def orA (st : Option (Nat × List Nat)) : Int32 := match st with
  | none => -1
  | some x => nI x.1
def KO (ω : Sig) (st : Option (Nat × List Nat)) (σ : Sig) : Prop := σ 79 0 = orA st ∧ ∀ x, st = some x → x.1 ≤ 1000 ∧ ∀ p, p < np ω → σ 80 p = nI (wv x.2 p)
theorem nI_ne {n : Nat} (h : n < 2 ^ 31) : (nI n = -1) = False := by
  refine eq_false (fun e => ?_)
  have := congrArg Int32.toInt e
  rw [nI_i h] at this
  have h2 : (-1 : Int32).toInt = -1 := rfl
  omega
theorem c_judgeO (d : Nat) {B T : LW} {ω : Sig} (hW : WI B T ω) {h : Nat → Bool} {pre : List Nat} {st : Option (Nat × List Nat)} {σ : Sig} (hl : pre.length = np ω) (hv : vld ω h (np ω) pre) (i : FI B ω h pre σ) (k : KO ω st σ) (z : σ 79 10 = 0) :
    ∃ σ', Ex (d + 4) 64 0 [.ref 79, .null] [] G0 σ = some (none, G0, σ') ∧ FI B ω h pre σ' ∧ KO ω (jO B ω pre st) σ' ∧ Fr SCO SLO σ σ' := by
  have n8' := (WI_np hW).2.1
  have hWt := WI_tw hW hl hv
  obtain ⟨σ1, e1, f1, m1, q1, b1⟩ := c_bearsW d 0 (FI_q i hl) hWt bw0 (MO_MEM i.1 i.2.1) (fun _ => rfl)
  have fq : ∀ q, 1 ≤ q → q ≤ 26 → q ≠ 16 → q ≠ 19 → σ1 q = σ q := fun q h1 h2 h3 h4 => Fr_q f1 (by unfold SCB; simp; omega) (by simp; omega)
  have i1 : FI B ω h pre σ1 := FI_fr i fq m1 (f1 67 8 (by decide) (by simp)) (f1 67 9 (by decide) (by simp))
  have F1 : Fr SCO SLO σ σ1 := Fr_m f1 (by decide) (by decide)
  have z1 : σ1 79 10 = 0 := by rw [f1 79 10 (by decide) (by simp)]; exact z
  have a1 : σ1 79 0 = orA st := by rw [f1 79 0 (by decide) (by simp)]; exact k.1
  have k1 : KO ω st σ1 := ⟨a1, fun x hx => ⟨(k.2 x hx).1, fun p hp => by rw [f1 80 p (by decide) (by simp)]; exact (k.2 x hx).2 p hp⟩⟩
  simp only [b64_0, e1, Option.bind_some, Option.toList_some, Option.toList_none, List.cons_append, List.nil_append, i01a, i01b, if_true, if_false, b64_13, bI_z, bI_o, bI_em, ite_not, z1, i10, i01, eq_self, if_true, if_false, true_and, false_and, and_true, and_false, not_true, not_false_iff, true_or, or_true, false_or, or_false, ne_eq, not_true_eq_false, not_false_eq_true]
  by_cases hb : bearS B (tw ω pre) 0 0
  · obtain ⟨es, hs⟩ := spread_n hWt hb
    simp only [eq_true hb, i10, i01, eq_self, if_true, if_false, true_and, false_and, and_true, and_false, not_true, not_false_iff, true_or, or_true, false_or, or_false, ne_eq, not_true_eq_false, not_false_eq_true, (fun d => c_spread d hWt b1 hb), Option.bind_some, Option.toList_some, Option.toList_none, List.cons_append, List.nil_append, i01a, i01b, if_true, if_false, b64_74, b1.2.1]
    have cp : ∀ d σ, Ex (d + 1) 140 0 [.ref 9, .ref 80] [] G0 σ = some (none, G0, cpS σ 9 80 8) := fun d σ => c_copy d σ 9 80 8 rfl rfl (by decide)
    have take : (∀ x, st = some x → spN B (tw ω pre) < x.1) → ¬ askdS B (tw ω pre) 0 0 → ∃ σ', some (none, G0, cpS (pt σ1 79 0 (spreadS B (tw ω pre) 0 0)) 9 80 8) = some ((none : Option Value), G0, σ') ∧ FI B ω h pre σ' ∧ KO ω (jO B ω pre st) σ' ∧ Fr SCO SLO σ σ' := by
      intro hx ha
      rw [jO_y ⟨hb, ha, hx⟩]
      refine ⟨_, rfl, ?_, ⟨?_, fun x hx => ?_⟩, ?_⟩
      · refine FI_fr i1 (fun q h1 h2 h3 h4 => by rw [cpS_q (by omega), pt_q (by omega)]) ?_ (by rw [cpS_q (by decide), pt_q (by decide)]) (by rw [cpS_q (by decide), pt_q (by decide)])
        exact MEM_fr m1 (fun q hq => by rw [cpS_q (by simp at hq; omega), pt_q (by simp at hq; omega)]) (by rw [cpS_q (by decide), pt_q (by decide)]) (by rw [cpS_q (by decide), pt_q (by decide)])
      · rw [cpS_q (by decide), pt_e, es]; rfl
      · cases hx
        refine ⟨hs, fun p hp => ?_⟩
        rw [cpS_k (by omega), pt_q (by decide)]
        exact i1.2.2.1 p (by omega)
      · refine Fr_t F1 (Fr_c (Fr_p Fr_r (Or.inr (by decide))) (by decide))
    by_cases ha : askdS B (tw ω pre) 0 0
    · rw [bI_T ha]
      simp only [i10, i01, eq_self, if_true, if_false, true_and, false_and, and_true, and_false, not_true, not_false_iff, true_or, or_true, false_or, or_false, ne_eq, not_true_eq_false, not_false_eq_true, b64_123]
      refine ⟨σ1, rfl, i1, ?_, F1⟩
      rw [jO_n (fun e => e.2.1 ha)]; exact k1
    · rw [bI_F ha]
      simp only [i10, i01, eq_self, if_true, if_false, true_and, false_and, and_true, and_false, not_true, not_false_iff, true_or, or_true, false_or, or_false, ne_eq, not_true_eq_false, not_false_eq_true, a1]
      cases st with
      | none =>
        have : (orA none = -1) = True := eq_true rfl
        simp only [this, i10, i01, eq_self, if_true, if_false, true_and, false_and, and_true, and_false, not_true, not_false_iff, true_or, or_true, false_or, or_false, ne_eq, not_true_eq_false, not_false_eq_true, cp, Option.bind_some, Option.toList_some, Option.toList_none, List.cons_append, List.nil_append, i01a, i01b, if_true, if_false, b64_123]
        exact take (fun x hx => by cases hx) ha
      | some x =>
        have hx := (k.2 x rfl).1
        have e : orA (some x) = nI x.1 := rfl
        rw [e, es]
        simp only [nI_ne (show x.1 < 2 ^ 31 by omega), nJ_le (show x.1 < 2 ^ 31 by omega) (show spN B (tw ω pre) < 2 ^ 31 by omega), i10, i01, eq_self, if_true, if_false, true_and, false_and, and_true, and_false, not_true, not_false_iff, true_or, or_true, false_or, or_false, ne_eq, not_true_eq_false, not_false_eq_true]
        by_cases c : x.1 ≤ spN B (tw ω pre)
        · simp only [eq_true c, i10, i01, eq_self, if_true, if_false, true_and, false_and, and_true, and_false, not_true, not_false_iff, true_or, or_true, false_or, or_false, ne_eq, not_true_eq_false, not_false_eq_true, b64_123]
          refine ⟨σ1, rfl, i1, ?_, F1⟩
          rw [jO_n (fun e => by have := e.2.2 x rfl; omega)]; exact k1
        · have t := take (fun y hy => by cases hy; omega) ha
          rw [es] at t
          simp only [eq_false c, i10, i01, eq_self, if_true, if_false, true_and, false_and, and_true, and_false, not_true, not_false_iff, true_or, or_true, false_or, or_false, ne_eq, not_true_eq_false, not_false_eq_true, cp, Option.bind_some, Option.toList_some, Option.toList_none, List.cons_append, List.nil_append, i01a, i01b, if_true, if_false, b64_123]
          exact t
  · simp only [eq_false hb, i10, i01, eq_self, if_true, if_false, true_and, false_and, and_true, and_false, not_true, not_false_iff, true_or, or_true, false_or, or_false, ne_eq, not_true_eq_false, not_false_eq_true]
    refine ⟨σ1, rfl, i1, ?_, F1⟩
    rw [jO_n (fun e => hb e.1)]; exact k1
theorem c_isAsSeen (d : Nat) {B T : LW} {ω w σ : Sig} (hW : WI B T ω) (e8 : σ 8 = ω 8) (e13 : σ 13 = ω 13) (hl : ∀ p, p < np ω → σ 68 p = nI (loadS B w 0 0 p)) : ∃ v, Ex (d + 1) 65 0 [.ref 79, .null] [] G0 σ = some (some (.int v), G0, σ) ∧ (seenS B ω w → v = 1) ∧ (¬ seenS B ω w → v = 0) := by
  obtain ⟨_, n8', en⟩ := WI_np hW
  rw [b65_0]
  have main : ∀ m p, p + m = np ω → (∀ q, q < p → ω 13 q ≠ -1 → ω 13 q = nI (loadS B w 0 0 q)) → ∃ v, Ex (d + 1) 65 2 [.ref 79, .int (nI p)] [] G0 σ = some (some (.int v), G0, σ) ∧ (seenS B ω w → v = 1) ∧ (¬ seenS B ω w → v = 0) := by
    intro m
    induction m with
    | zero =>
      intro p hp h
      rw [b65_2]
      have q : (nI (np ω) ≤ nI p) = True := by rw [nJ_le (by omega) (by omega)]; exact eq_true (by omega)
      simp only [c_count, e8, en, Option.bind_some, Option.toList_some, Option.toList_none, List.cons_append, List.nil_append, i01a, i01b, if_true, if_false, b65_13, q, i10, i01, eq_self, if_true, if_false, true_and, false_and, and_true, and_false, not_true, not_false_iff, true_or, or_true, false_or, or_false, ne_eq, not_true_eq_false, not_false_eq_true]
      exact ⟨1, rfl, fun _ => rfl, fun k => absurd (fun q hq => h q (by omega)) k⟩
    | succ m ih =>
      intro p hp h
      rw [b65_2]
      have q : (nI (np ω) ≤ nI p) = False := by rw [nJ_le (by omega) (by omega)]; exact eq_false (by omega)
      have hp8 : p < 8 := by omega
      simp only [c_count, e8, en, Option.bind_some, Option.toList_some, Option.toList_none, List.cons_append, List.nil_append, i01a, i01b, if_true, if_false, b65_13, q, i10, i01, eq_self, if_true, if_false, true_and, false_and, and_true, and_false, not_true, not_false_iff, true_or, or_true, false_or, or_false, ne_eq, not_true_eq_false, not_false_eq_true, i8 hp8, c8 hp8, e13, hl p (by omega), nI_s]
      have nx : (ω 13 p ≠ -1 → ω 13 p = nI (loadS B w 0 0 p)) → ∃ v, Ex (d + 1) 65 2 [.ref 79, .int (nI (p + 1))] [] G0 σ = some (some (.int v), G0, σ) ∧ (seenS B ω w → v = 1) ∧ (¬ seenS B ω w → v = 0) := fun k => ih (p + 1) (by omega) (fun q hq => by
        by_cases e : q = p
        · subst e; exact k
        · exact h q (by omega))
      by_cases c1 : ω 13 p = -1
      · simp only [c1, i10, i01, eq_self, if_true, if_false, true_and, false_and, and_true, and_false, not_true, not_false_iff, true_or, or_true, false_or, or_false, ne_eq, not_true_eq_false, not_false_eq_true]
        exact nx (fun k => absurd c1 k)
      · simp only [c1, i10, i01, eq_self, if_true, if_false, true_and, false_and, and_true, and_false, not_true, not_false_iff, true_or, or_true, false_or, or_false, ne_eq, not_true_eq_false, not_false_eq_true]
        by_cases c2 : ω 13 p = nI (loadS B w 0 0 p)
        · simp only [c2, i10, i01, eq_self, if_true, if_false, true_and, false_and, and_true, and_false, not_true, not_false_iff, true_or, or_true, false_or, or_false, ne_eq, not_true_eq_false, not_false_eq_true]
          exact nx (fun _ => c2)
        · simp only [c2, i10, i01, eq_self, if_true, if_false, true_and, false_and, and_true, and_false, not_true, not_false_iff, true_or, or_true, false_or, or_false, ne_eq, not_true_eq_false, not_false_eq_true]
          exact ⟨0, rfl, fun k => absurd (k p (by omega) c1) c2, fun _ => rfl⟩
  exact main (np ω) 0 (by omega) (fun q hq => by omega)
def KF (ω : Sig) (M : Nat) (st : Nat × List Nat) (σ : Sig) : Prop := σ 79 5 = nI st.1 ∧ st.1 ≤ M ∧ (st.1 ≠ 0 → ∀ p, p < np ω → σ 82 p = nI (wv st.2 p))
theorem c_judgeF (d : Nat) {B T : LW} {ω : Sig} (hW : WI B T ω) {h : Nat → Bool} {pre : List Nat} {st : Nat × List Nat} {σ : Sig} {M : Nat} (hM : M < 2 ^ 30) (hl : pre.length = np ω) (hv : vld ω h (np ω) pre) (i : FI B ω h pre σ) (k : KF ω M st σ) (z : σ 79 10 = 1) :
    ∃ σ', Ex (d + 4) 64 0 [.ref 79, .null] [] G0 σ = some (none, G0, σ') ∧ FI B ω h pre σ' ∧ KF ω (M + 1) (jF B ω pre st) σ' ∧ Fr SCG SLG σ σ' := by
  obtain ⟨_, n8', en⟩ := WI_np hW
  have hWt := WI_tw hW hl hv
  obtain ⟨σ1, e1, f1, m1, q1, b1⟩ := c_bearsW d 0 (FI_q i hl) hWt bw0 (MO_MEM i.1 i.2.1) (fun _ => rfl)
  have fq : ∀ q, 1 ≤ q → q ≤ 26 → q ≠ 16 → q ≠ 19 → σ1 q = σ q := fun q h1 h2 h3 h4 => Fr_q f1 (by unfold SCB; simp; omega) (by simp; omega)
  have i1 : FI B ω h pre σ1 := FI_fr i fq m1 (f1 67 8 (by decide) (by simp)) (f1 67 9 (by decide) (by simp))
  have F1 : Fr SCG SLG σ σ1 := Fr_m f1 (by decide) (by decide)
  have z1 : σ1 79 10 = 1 := by rw [f1 79 10 (by decide) (by simp)]; exact z
  have a1 : σ1 79 5 = nI st.1 := by rw [f1 79 5 (by decide) (by simp)]; exact k.1
  have k1 : KF ω (M + 1) st σ1 := ⟨a1, by have := k.2.1; omega, fun c p hp => by rw [f1 82 p (by decide) (by simp)]; exact k.2.2 c p hp⟩
  simp only [b64_0, e1, Option.bind_some, Option.toList_some, Option.toList_none, List.cons_append, List.nil_append, i01a, i01b, if_true, if_false, b64_13, bI_z, bI_o, bI_em, ite_not, z1, i10, i01, eq_self, if_true, if_false, true_and, false_and, and_true, and_false, not_true, not_false_iff, true_or, or_true, false_or, or_false, ne_eq, not_true_eq_false, not_false_eq_true]
  by_cases hb : bearS B (tw ω pre) 0 0
  · have np' : np (tw ω pre) = np ω := by unfold np pr; rw [tw_q (by decide)]
    obtain ⟨v, ev, s1, s0⟩ := c_isAsSeen (d + 2) (w := tw ω pre) (σ := σ1) hW (i1.1 8 (by omega) (by omega) (by omega) (by omega) (by omega)) (i1.1 13 (by omega) (by omega) (by omega) (by omega) (by omega)) (fun p hp => b1.2.2.1 p (by omega))
    simp only [eq_true hb, i10, i01, eq_self, if_true, if_false, true_and, false_and, and_true, and_false, not_true, not_false_iff, true_or, or_true, false_or, or_false, ne_eq, not_true_eq_false, not_false_eq_true, ev, Option.bind_some, Option.toList_some, Option.toList_none, List.cons_append, List.nil_append, i01a, i01b, if_true, if_false, b64_28]
    by_cases c : seenS B ω (tw ω pre)
    · rw [s1 c, jF_y ⟨hb, c⟩]
      have hx : pt σ1 79 5 (σ1 79 5 + 1) 79 5 = nI (st.1 + 1) := by rw [pt_e, a1, nI_s]
      have q : (nI (st.1 + 1) = 1) = (st.1 = 0) := by
        have h1 : (nI (st.1 + 1) = 1) = (st.1 + 1 = 1) := nJ_e (b := 1) (by have := k.2.1; omega) (by omega)
        rw [h1]; exact propext ⟨fun h => by omega, fun h => by omega⟩
      have cp : ∀ d σ, Ex (d + 1) 140 0 [.ref 9, .ref 82] [] G0 σ = some (none, G0, cpS σ 9 82 8) := fun d σ => c_copy d σ 9 82 8 rfl rfl (by decide)
      simp only [i10, i01, eq_self, if_true, if_false, true_and, false_and, and_true, and_false, not_true, not_false_iff, true_or, or_true, false_or, or_false, ne_eq, not_true_eq_false, not_false_eq_true, hx, q]
      by_cases y : st.1 = 0
      · simp only [eq_true y, i10, i01, eq_self, if_true, if_false, true_and, false_and, and_true, and_false, not_true, not_false_iff, true_or, or_true, false_or, or_false, ne_eq, not_true_eq_false, not_false_eq_true, cp, Option.bind_some, Option.toList_some, Option.toList_none, List.cons_append, List.nil_append, i01a, i01b, if_true, if_false, b64_66]
        refine ⟨_, rfl, ?_, ⟨?_, by have := k.2.1; dsimp only; omega, fun _ p hp => ?_⟩, ?_⟩
        · refine FI_fr i1 (fun q h1 h2 h3 h4 => by rw [cpS_q (by omega), pt_q (by omega)]) ?_ (by rw [cpS_q (by decide), pt_q (by decide)]) (by rw [cpS_q (by decide), pt_q (by decide)])
          exact MEM_fr m1 (fun q hq => by rw [cpS_q (by simp at hq; omega), pt_q (by simp at hq; omega)]) (by rw [cpS_q (by decide), pt_q (by decide)]) (by rw [cpS_q (by decide), pt_q (by decide)])
        · rw [cpS_q (by decide), hx]
        · rw [cpS_k (by omega), pt_q (by decide)]
          exact i1.2.2.1 p (by omega)
        · refine Fr_t F1 (Fr_c (Fr_p Fr_r (Or.inr (by decide))) (by decide))
      · simp only [eq_false y, i10, i01, eq_self, if_true, if_false, true_and, false_and, and_true, and_false, not_true, not_false_iff, true_or, or_true, false_or, or_false, ne_eq, not_true_eq_false, not_false_eq_true, b64_66]
        refine ⟨_, rfl, ?_, ⟨?_, by have := k.2.1; dsimp only; omega, fun _ p hp => ?_⟩, ?_⟩
        · refine FI_fr i1 (fun q h1 h2 h3 h4 => by rw [pt_q (by omega)]) ?_ (by rw [pt_q (by decide)]) (by rw [pt_q (by decide)])
          exact MEM_fr m1 (fun q hq => by rw [pt_q (by simp at hq; omega)]) (by rw [pt_q (by decide)]) (by rw [pt_q (by decide)])
        · rw [hx]
        · rw [pt_q (by decide)]; exact k1.2.2 y p hp
        · exact Fr_p F1 (Or.inr (by decide))
    · rw [s0 c]
      simp only [i10, i01, eq_self, if_true, if_false, true_and, false_and, and_true, and_false, not_true, not_false_iff, true_or, or_true, false_or, or_false, ne_eq, not_true_eq_false, not_false_eq_true, b64_66]
      refine ⟨σ1, rfl, i1, ?_, F1⟩
      rw [jF_n (fun e => c e.2)]; exact k1
  · simp only [eq_false hb, i10, i01, eq_self, if_true, if_false, true_and, false_and, and_true, and_false, not_true, not_false_iff, true_or, or_true, false_or, or_false, ne_eq, not_true_eq_false, not_false_eq_true]
    refine ⟨σ1, rfl, i1, ?_, F1⟩
    rw [jF_n (fun e => hb e.1)]; exact k1
