/-! L3: ORDER, DEAREST, FITS, the class's calls -/
def kpt (ω : Sig) (p : Nat) : Bool := decide (p < np ω ∧ ω 9 p ≠ -1 ∧ ω 11 p = 1)
theorem kpt_w {ω : Sig} : ∀ o, o < 8 → kpt ω o = true → ω 9 o ≠ -1 := fun _ _ h => (of_decide_eq_true h).2.1
theorem M_shz : ∀ p, p < 8 → (0 : Int32) <<< (nI p &&& 31) = 0 := by decide
theorem kpt_st {ω : Sig} {p : Nat} (hp : p < np ω) (q : Nat) : (decide (q < p + 1) && kpt ω q) = ((decide (q < p) && kpt ω q) || (decide (q = p) && kpt ω p)) := by
  by_cases e : q = p
  · subst e; simp
  · have : (q < p + 1) = (q < p) := propext (by omega)
    simp [this, e]
theorem c_keptSet (d : Nat) {B T : LW} {σ : Sig} (hW : WI B T σ) : ∃ v, Ex d 37 0 [.ref 8, .null, .null] [] G0 σ = some (some (.int v), G0, σ) ∧ isM v (kpt σ) := by
  obtain ⟨_, n8', en⟩ := WI_np hW
  have h9 : wi B T σ 9 := hW 9
  rw [b37_0]
  obtain ⟨v, e, i⟩ := loop_ex (fun p (x : Int32) => Ex d 37 4 [.ref 8, .int x, .int (nI p)] [] G0 σ) (fun p x => isM x (fun q => decide (q < p) && kpt σ q)) (np σ) 0 (M_ext M_0 (fun q _ => by simp)) (by
    intro p x hp i
    have hp8 : p < 8 := by omega
    show ∃ x', Ex d 37 4 [.ref 8, .int x, .int (nI p)] [] G0 σ = _ ∧ _
    rw [b37_4]
    have q : (nI (np σ) ≤ nI p) = False := by rw [nJ_le (by omega) (by omega)]; exact eq_false (by omega)
    simp only [en, q, i10, i01, eq_self, if_true, if_false, true_and, false_and, and_true, and_false, not_true, not_false_iff, true_or, or_true, false_or, or_false, ne_eq, not_true_eq_false, not_false_eq_true, b37_14, i8 hp8, c8 hp8, nI_s]
    by_cases k : σ 9 p = -1
    · simp only [k, i10, i01, eq_self, if_true, if_false, true_and, false_and, and_true, and_false, not_true, not_false_iff, true_or, or_true, false_or, or_false, ne_eq, not_true_eq_false, not_false_eq_true, M_or0]
      refine ⟨_, rfl, M_ext i (fun q _ => ?_)⟩
      have : kpt σ p = false := decide_eq_false (fun e => e.2.1 k)
      rw [kpt_st hp, this, Bool.and_false, Bool.or_false]
    · simp only [k, i10, i01, eq_self, if_true, if_false, true_and, false_and, and_true, and_false, not_true, not_false_iff, true_or, or_true, false_or, or_false, ne_eq, not_true_eq_false, not_false_eq_true]
      rcases h9 p hp8 with c | c
      · rw [c, M_shz p hp8, M_or0]
        refine ⟨_, rfl, M_ext i (fun q _ => ?_)⟩
        have : kpt σ p = false := decide_eq_false (fun e => by rw [c] at e; exact absurd e.2.2 (by decide))
        rw [kpt_st hp, this, Bool.and_false, Bool.or_false]
      · rw [c]
        refine ⟨_, rfl, M_ext (M_add i hp8) (fun q _ => ?_)⟩
        have : kpt σ p = true := decide_eq_true ⟨hp, k, c⟩
        rw [kpt_st hp, this, Bool.and_true])
  rw [show Ex d 37 4 [.ref 8, .int 0, .int 0] [] G0 σ = _ from e]
  show ∃ v', Ex d 37 4 [.ref 8, .int v, .int (nI (np σ))] [] G0 σ = _ ∧ _
  rw [b37_4]
  have q8 : (nI (np σ) ≤ nI (np σ)) = True := by rw [nJ_le (by omega) (by omega)]; exact eq_true (Nat.le_refl _)
  simp only [en, q8, i10, i01, eq_self, if_true, if_false, true_and, false_and, and_true, and_false, not_true, not_false_iff, true_or, or_true, false_or, or_false, ne_eq, not_true_eq_false, not_false_eq_true, b37_45]
  refine ⟨v, rfl, M_ext i (fun q hq => ?_)⟩
  by_cases k : q < np σ
  · simp [k]
  · have : kpt σ q = false := decide_eq_false (fun h => k h.1)
    rw [this, Bool.and_false]
theorem c_recall (d : Nat) (σ : Sig) (a : Int32) (ha : a = 0 ∨ a = 1) : Ex (d + 1) 1 0 [.ref 67, .int a] [] G0 σ = some (none, G0, pt (pt (fiS σ 73 3008 (-1)) 67 8 1) 67 9 a) := by
  simp only [b1_0, c_fill73, Option.bind_some, Option.toList_some, Option.toList_none, List.cons_append, List.nil_append, i01a, i01b, if_true, if_false, b1_8, eq_true ha]
theorem Th_FI {B : LW} {ω : Sig} {h : Nat → Bool} {pre : List Nat} {σ : Sig} (n8 : np ω ≤ 8) (i : FI B ω h pre σ) : Th ω σ := by
  obtain ⟨w, _, _, b, _⟩ := i
  refine ⟨fun q h1 h2 h3 => w q h1 h2 (by simp at h3; omega) (by simp at h3; omega) (by simp at h3; omega), fun k _ => ?_, fun k hk => ⟨?_, b k (by omega), ?_⟩, fun k _ => ?_, fun k _ => ?_⟩
  · rw [w 1 (by omega) (by omega) (by omega) (by omega) (by omega)]
  · rw [w 7 (by omega) (by omega) (by omega) (by omega) (by omega)]
  · rw [w 10 (by omega) (by omega) (by omega) (by omega) (by omega)]
  · rw [w 25 (by omega) (by omega) (by omega) (by omega) (by omega)]
  · rw [w 26 (by omega) (by omega) (by omega) (by omega) (by omega)]
theorem ex_le {c : List Nat → Nat → Bool} {S N : Nat} (hS : S ≤ 8) (hN : N ≤ 8) : 0 + (exL c S N []).length ≤ 2 ^ 30 := by
  have h1 := exL_len (c := c) (S := S) N []
  have h2 : S ^ N ≤ 8 ^ N := Nat.pow_le_pow_left hS N
  have h3 : 8 ^ N ≤ 8 ^ 8 := Nat.pow_le_pow_right (by decide) hN
  have h4 : (8 : Nat) ^ 8 ≤ 2 ^ 30 := by decide
  omega
def SCP8 : List Nat := [1, 2, 3, 4, 5, 6, 7, 8, 9, 10, 11, 12, 13, 14, 15, 16, 17, 18, 19, 20, 21, 22, 23, 24, 25, 26, 68, 69, 70, 71, 72, 73, 80, 83, 84, 85, 86]
def SLP8 : List (Nat × Nat) := [(67, 2), (67, 3), (67, 8), (67, 9), (79, 0), (79, 10)]
def SCR8 : List Nat := [1, 2, 3, 4, 5, 6, 7, 8, 9, 10, 11, 12, 13, 14, 15, 16, 17, 18, 19, 20, 21, 22, 23, 24, 25, 26, 68, 69, 70, 71, 72, 73, 82, 83, 84, 85, 86]
def SLR8 : List (Nat × Nat) := [(67, 2), (67, 3), (67, 8), (67, 9), (79, 5), (79, 10)]
theorem FI_0 {B : LW} {ω σ : Sig} {h : Nat → Bool} (e : ∀ q, 1 ≤ q → q ≤ 26 → σ q = ω q) (m8 : σ 67 8 = 1) (m9 : σ 67 9 = 0) (m : ∀ i, i < 3008 → σ 73 i = -1) : FI B ω h [] σ := by
  refine ⟨fun q h1 h2 _ _ _ => e q h1 h2, ⟨m8, m9, fun p x j hp hx hj => Or.inl (m _ (by omega))⟩, fun p hp => by simp at hp, fun p _ => by rw [e 9 (by omega) (by omega)], fun p _ _ => by rw [e 9 (by omega) (by omega)]⟩
theorem usd_0 {ω : Sig} {h : Nat → Bool} {N q : Nat} : (!decide (∀ o, o < N → ¬ (h o = true ∧ wN ω o = q))) = usd ω h N [] q := by
  unfold usd; simp
theorem usd_st {ω : Sig} {h : Nat → Bool} {p q : Nat} : (!decide (∀ o, o < p + 1 → ¬ (h o = true ∧ wN ω o = q))) = ((!decide (∀ o, o < p → ¬ (h o = true ∧ wN ω o = q))) || (h p && decide (q = wN ω p))) := by
  by_cases c : ∀ o, o < p → ¬ (h o = true ∧ wN ω o = q)
  · rw [decide_eq_true c]
    by_cases k : h p = true
    · by_cases e : q = wN ω p
      · rw [decide_eq_false (fun f => f p (by omega) ⟨k, e.symm⟩), k, decide_eq_true e]; rfl
      · rw [decide_eq_true (fun o ho => by
          by_cases eo : o = p
          · subst eo; exact fun f => e f.2.symm
          · exact c o (by omega)), decide_eq_false e]; simp
    · rw [decide_eq_true (fun o ho => by
          by_cases eo : o = p
          · subst eo; exact fun f => k f.1
          · exact c o (by omega))]; simp at k; rw [k]; rfl
  · rw [decide_eq_false c, decide_eq_false (fun f => c (fun o ho => f o (by omega)))]; rfl
theorem c_findOrder (d : Nat) {B T : LW} {σ : Sig} {h : Nat → Bool} {a : Int32} (hW : WI B T σ) (hh : ∀ o, o < 8 → h o = true → σ 9 o ≠ -1) (ha : isM a h) :
    ∃ σ', Ex (d + 14) 61 0 [.ref 79, .int a, .null, .null] [] G0 σ = some (some (.int (orA (orS B σ h))), G0, σ') ∧ Wb σ σ' ∧ KO σ (orS B σ h) σ' ∧ σ' 67 8 = 0 ∧ Fr SCP8 SLP8 σ σ' := by
  obtain ⟨_, n8', en⟩ := WI_np hW
  obtain ⟨e2, s8⟩ : wi B T σ 5 := hW 5
  rw [b61_0]
  obtain ⟨u, e, iu⟩ := loop_ex (fun p (x : Int32) => Ex (d + 14) 61 14 [.ref 79, .int a, .int x, .int (nI p)] [] G0 (pt (pt σ 79 0 (-1)) 79 10 0)) (fun p x => isM x (fun q => !decide (∀ o, o < p → ¬ (h o = true ∧ wN σ o = q)))) (np σ) 0 (M_ext M_0 (fun q _ => by simp)) (by
    intro p x hp i
    have hp8 : p < 8 := by omega
    show ∃ x', Ex (d + 14) 61 14 [.ref 79, .int a, .int x, .int (nI p)] [] G0 (pt (pt σ 79 0 (-1)) 79 10 0) = _ ∧ _
    rw [b61_14, c_count]
    have q : (nI (np σ) ≤ nI p) = False := by rw [nJ_le (by omega) (by omega)]; exact eq_false (by omega)
    have e8 : pt (pt σ 79 0 (-1)) 79 10 0 8 = σ 8 := by rw [pt_q (by decide), pt_q (by decide)]
    have e9 : pt (pt σ 79 0 (-1)) 79 10 0 9 = σ 9 := by rw [pt_q (by decide), pt_q (by decide)]
    simp only [Option.bind_some, Option.toList_some, Option.toList_none, List.cons_append, List.nil_append, i01a, i01b, if_true, if_false, b61_25, e8, en, q, i10, i01, eq_self, if_true, if_false, true_and, false_and, and_true, and_false, not_true, not_false_iff, true_or, or_true, false_or, or_false, ne_eq, not_true_eq_false, not_false_eq_true, M_t1 ha hp8, i8 hp8, c8 hp8, e9, nI_s]
    by_cases k : h p = true
    · obtain ⟨_, w2, w3, w4⟩ := WI_who hW hp8 (hh p hp8 k)
      simp only [eq_true k, i10, i01, eq_self, if_true, if_false, true_and, false_and, and_true, and_false, not_true, not_false_iff, true_or, or_true, false_or, or_false, ne_eq, not_true_eq_false, not_false_eq_true]
      refine ⟨_, rfl, ?_⟩
      rw [w4]
      refine M_ext (M_add i w3) (fun q _ => ?_)
      rw [usd_st, k, Bool.true_and]
    · simp only [eq_false k, i10, i01, eq_self, if_true, if_false, true_and, false_and, and_true, and_false, not_true, not_false_iff, true_or, or_true, false_or, or_false, ne_eq, not_true_eq_false, not_false_eq_true]
      refine ⟨_, rfl, M_ext i (fun q _ => ?_)⟩
      simp at k
      rw [usd_st, k, Bool.false_and, Bool.or_false])
  rw [show Ex (d + 14) 61 14 [.ref 79, .int a, .int 0, .int 0] [] G0 (pt (pt σ 79 0 (-1)) 79 10 0) = _ from e]
  show ∃ σ', Ex (d + 14) 61 14 [.ref 79, .int a, .int u, .int (nI (np σ))] [] G0 (pt (pt σ 79 0 (-1)) 79 10 0) = _ ∧ _
  have q8 : (nI (np σ) ≤ nI (np σ)) = True := by rw [nJ_le (by omega) (by omega)]; exact eq_true (Nat.le_refl _)
  have e8 : pt (pt σ 79 0 (-1)) 79 10 0 8 = σ 8 := by rw [pt_q (by decide), pt_q (by decide)]
  obtain ⟨σ1, e1, f1, m1⟩ := c_take83 (d + 11) (pt (pt σ 79 0 (-1)) 79 10 0)
  have e1' : Ex (d + 13) 28 0 [.ref 83, .ref 1] [] G0 (pt (pt σ 79 0 (-1)) 79 10 0) = some (none, G0, σ1) := e1
  have q1 : ∀ q, q ∉ [79, 83, 84, 85, 86] → σ1 q = σ q := fun q hq => by
    rw [Fr_q f1 (by simp at hq ⊢; omega) (by simp), pt_q (by simp at hq; omega), pt_q (by simp at hq; omega)]
  have m1' : MM σ 83 σ1 := by
    have := m1
    unfold MM at this ⊢
    simpa (disch := decide) only [pt_q] using this
  have F1 : Fr SCP8 SLP8 σ σ1 := Fr_t (Fr_p (Fr_p Fr_r (Or.inr (by decide))) (Or.inr (by decide))) (Fr_m f1 (by decide) (by decide))
  have r2 : Ex (d + 13) 1 0 [.ref 67, .int 0] [] G0 σ1 = some (none, G0, pt (pt (fiS σ1 73 3008 (-1)) 67 8 1) 67 9 0) := c_recall (d + 12) σ1 0 (Or.inl rfl)
  have F2 : Fr SCP8 SLP8 σ (pt (pt (fiS σ1 73 3008 (-1)) 67 8 1) 67 9 0) := by
    refine Fr_p (Fr_p ?_ (Or.inr (by decide))) (Or.inr (by decide))
    exact fun q k h1 h2 => by rw [fiS_q (by intro e; subst e; exact h1 (by decide))]; exact F1 q k h1 h2
  have q2 : ∀ q, q ∉ [67, 73, 79, 83, 84, 85, 86] → pt (pt (fiS σ1 73 3008 (-1)) 67 8 1) 67 9 0 q = σ q := fun q hq => by
    rw [pt_q (by simp at hq; omega), pt_q (by simp at hq; omega), fiS_q (by simp at hq; omega), q1 q (by simp at hq ⊢; omega)]
  have i2 : FI B σ h [] (pt (pt (fiS σ1 73 3008 (-1)) 67 8 1) 67 9 0) := FI_0 (fun q h1 h2 => q2 q (by simp; omega)) (by rw [pt_k (by decide), pt_e]) pt_e (fun i hi => by rw [pt_q (by decide), pt_q (by decide), fiS_k hi])
  have e79 : ∀ k, pt (pt (fiS σ1 73 3008 (-1)) 67 8 1) 67 9 0 79 k = pt (pt σ 79 0 (-1)) 79 10 0 79 k := fun k => by
    rw [pt_q (by decide), pt_q (by decide), fiS_q (by decide), Fr_q f1 (by decide) (by simp)]
  have k2 : KO σ none (pt (pt (fiS σ1 73 3008 (-1)) 67 8 1) 67 9 0) := ⟨by rw [e79, pt_k (by decide), pt_e]; rfl, fun x hx => by cases hx⟩
  obtain ⟨σ3, e3, i3, k3, f3⟩ := c_fill (J := jO B σ) (K := fun _ st s => KO σ st s) (z0 := 0) (S0 := SCO) (U0 := SLO) hW hh (by decide) ha (fun s s' f => f 79 10 (by decide) (by decide))
    (fun d pre n st s hl hv i k _ z => c_judgeO d hW hl hv i k z)
    (fun n st s k _ z w => by
      cases st with
      | none => rw [k.1] at z; exact absurd z (by decide)
      | some x =>
        have hx := (k.2 x rfl).1
        have e0 : nI x.1 = 0 := by rw [← z, k.1]; rfl
        rw [nI_z (by omega)] at e0
        exact jO_n (fun c => by have := c.2.2 x rfl; omega))
    (fun _ _ _ _ _ k => k) (fun n st s j v k => ⟨by rw [pt_q (by decide)]; exact k.1, fun x hx => ⟨(k.2 x hx).1, by rw [pt_q (by decide)]; exact (k.2 x hx).2⟩⟩)
    (np σ) (d + (8 - np σ)) [] 0 none (pt (pt (fiS σ1 73 3008 (-1)) 67 8 1) 67 9 0) u (by simp) vld_0 i2 k2 (by rw [e79, pt_e]) (M_ext iu (fun q _ => usd_0)) (ex_le s8 n8')
  have e3' : Ex (d + 13) 63 0 [.ref 79, .int 0, .int a, .int u, .null] [] G0 (pt (pt (fiS σ1 73 3008 (-1)) 67 8 1) 67 9 0) = some (none, G0, σ3) := by
    rw [show d + 13 = d + (8 - np σ) + 5 + np σ by omega]; exact e3
  have m3 : MM σ 83 σ3 := by
    have q3 : ∀ q, q ∈ [83, 84, 85, 86] → σ3 q = σ1 q := fun q hq => by
      rw [Fr_q f3 (by unfold SCO; simp at hq ⊢; omega) (by unfold SLO; simp at hq ⊢; omega), pt_q (by simp at hq; omega), pt_q (by simp at hq; omega), fiS_q (by simp at hq; omega)]
    exact MM_fr m1' (q3 83 (by simp)) (q3 84 (by simp)) (q3 85 (by simp)) (q3 86 (by simp))
  obtain ⟨σ4, e4, f4, m4, g4⟩ := c_give83 (d + 11) (pt σ3 67 8 0)
  have e4' : Ex (d + 13) 29 0 [.ref 83, .ref 1] [] G0 (pt σ3 67 8 0) = some (none, G0, σ4) := e4
  have t3 : Th σ (pt σ3 67 8 0) := Th_fr (Th_FI n8' i3) (Fr_p Fr_r (Or.inr (by decide)) : Fr [] [(67, 8)] σ3 (pt σ3 67 8 0)) (by simp) (by simp)
  have m3' : MM σ 83 (pt σ3 67 8 0) := MM_fr m3 (pt_q (by decide)) (pt_q (by decide)) (pt_q (by decide)) (pt_q (by decide))
  have a4 : ∀ q, q ∉ [1, 7, 9, 10, 25, 67] → σ4 q = σ3 q := fun q hq => by
    rw [Fr_q f4 (by simp at hq ⊢; omega) (by simp at hq ⊢; omega), pt_q (by simp at hq; omega)]
  rw [b61_14, c_count]
  simp only [Option.bind_some, Option.toList_some, Option.toList_none, List.cons_append, List.nil_append, i01a, i01b, if_true, if_false, b61_25, e8, en, q8, i10, i01, eq_self, if_true, if_false, true_and, false_and, and_true, and_false, not_true, not_false_iff, true_or, or_true, false_or, or_false, ne_eq, not_true_eq_false, not_false_eq_true, e1', b61_71, r2, b61_79, e3', b61_86, b2_0, b61_93, e4', b61_104]
  have kE : KO σ (orS B σ h) σ4 := ⟨by rw [a4 79 (by decide)]; exact k3.1, fun x hx => ⟨(k3.2 x hx).1, by rw [a4 80 (by decide)]; exact (k3.2 x hx).2⟩⟩
  refine ⟨σ4, by rw [kE.1], Th_end t3 m3' f4 m4 g4, kE, ?_, Fr_t F2 (Fr_t (Fr_m f3 (by decide) (by decide)) (Fr_t (Fr_p Fr_r (Or.inr (by decide))) (Fr_m f4 (by decide) (by decide))))⟩
  rw [f4 67 8 (by decide) (by decide), pt_e]
