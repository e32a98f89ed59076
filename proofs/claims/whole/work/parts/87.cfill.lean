/-! L3: all ways are tried, the class -/
def usd (ω : Sig) (h : Nat → Bool) (N : Nat) (pre : List Nat) (b : Nat) : Bool := !(decide (∀ o, o < N → ¬ (h o = true ∧ wN ω o = b)) && decide (b ∉ pre))
theorem cnW_u {ω : Sig} {h : Nat → Bool} {N : Nat} {pre : List Nat} {b : Nat} (k : h pre.length = false) : cnW ω h N pre b = !usd ω h N pre b := by
  unfold cnW usd; rw [if_neg (by rw [k]; decide), Bool.not_not]
theorem usd_s {ω : Sig} {h : Nat → Bool} {N : Nat} {pre : List Nat} {b q : Nat} : usd ω h N (b :: pre) q = (usd ω h N pre q || decide (q = b)) := by
  unfold usd
  by_cases e : q = b
  · subst e
    rw [decide_eq_false (show ¬ q ∉ q :: pre from fun h => h (by simp)), decide_eq_true (rfl : q = q)]; simp
  · have : (decide (q ∉ b :: pre)) = decide (q ∉ pre) := decide_eq_decide.mpr (by simp [e])
    rw [this, decide_eq_false e]; simp
theorem usd_k {ω : Sig} {h : Nat → Bool} {N : Nat} {pre : List Nat} {p q : Nat} (hk : h p = true) (hp : p < N) : usd ω h N (wN ω p :: pre) q = usd ω h N pre q := by
  rw [usd_s]
  by_cases e : q = wN ω p
  · have : usd ω h N pre q = true := by
      unfold usd; rw [decide_eq_false (fun k => k p hp ⟨hk, e.symm⟩)]; rfl
    rw [this]; rfl
  · rw [decide_eq_false e, Bool.or_false]
theorem exB_1 {c : List Nat → Nat → Bool} {S : Nat} {g : List Nat → List (List Nat)} {pre : List Nat} {w : Nat} (hw : w < S) (hc : ∀ b, c pre b = decide (b = w)) : ∀ m, m ≤ S → exB c S g pre m = if S - m ≤ w then g (w :: pre) else [] := by
  intro m
  induction m with
  | zero => intro _; rw [exB, if_neg (by omega)]
  | succ m ih =>
    intro hm
    rw [exB, ih (by omega), hc]
    by_cases e : S - (m + 1) = w
    · rw [if_pos (decide_eq_true e), if_neg (by omega), if_pos (by omega), e, List.append_nil]
    · rw [if_neg (by rw [decide_eq_false e]; decide)]
      by_cases k : S - m ≤ w
      · rw [if_pos k, if_pos (by omega)]; rfl
      · rw [if_neg k, if_neg (by omega)]; rfl
theorem FI_d {B : LW} {ω : Sig} {h : Nat → Bool} {pre : List Nat} {b : Nat} {σ : Sig} (i : FI B ω h (b :: pre) σ) : FI B ω h pre σ := by
  obtain ⟨w, o, a, e, c⟩ := i
  refine ⟨w, o, fun p hp => ?_, e, c⟩
  rw [a p (by simp; omega), wv_o hp]
theorem FI_k {B T : LW} {ω : Sig} {h : Nat → Bool} {pre : List Nat} {σ : Sig} (hW : WI B T ω) (hl : pre.length < np ω) (hk : h pre.length = true) (hn : ω 9 pre.length ≠ -1) (i : FI B ω h pre σ) : FI B ω h (wN ω pre.length :: pre) σ := by
  have n8' := (WI_np hW).2.1
  obtain ⟨w, o, a, e, c⟩ := i
  refine ⟨w, o, fun p hp => ?_, e, c⟩
  by_cases k : p = pre.length
  · subst k; rw [wv_n, c _ hl hk]; exact (WI_who hW (by omega) hn).2.2.2
  · have : p < pre.length := by simp at hp; omega
    rw [a p this, wv_o this]
theorem FI_s {B : LW} {ω : Sig} {h : Nat → Bool} {pre : List Nat} {b : Nat} {σ : Sig} (hl : pre.length < np ω) (hk : h pre.length = false) (i : FI B ω h pre σ) : FI B ω h (b :: pre) (pt σ 9 pre.length (nI b)) := by
  obtain ⟨w, o, a, e, c⟩ := i
  refine ⟨fun q h1 h2 h3 h4 h5 => by rw [pt_q h3]; exact w q h1 h2 h3 h4 h5, ⟨by rw [pt_q (by decide)]; exact o.1, by rw [pt_q (by decide)]; exact o.2.1, by rw [pt_q (by decide)]; exact o.2.2⟩, fun p hp => ?_, fun p hp => ?_, fun p hp k => ?_⟩
  · by_cases k : p = pre.length
    · subst k; rw [wv_n, pt_e]
    · have : p < pre.length := by simp at hp; omega
      rw [pt_k k, wv_o this, a p this]
  · rw [pt_k (by omega)]; exact e p hp
  · rw [pt_k (by intro e; subst e; rw [hk] at k; cases k)]; exact c p hp k
theorem fl_has {B T : LW} {ω : Sig} (hW : WI B T ω) {p : Nat} (hp : p ≤ np ω) : (0 ≤ nI p ∧ nI p < 2 * ω 8 0) = (p < np ω) := by
  obtain ⟨_, n8', en⟩ := WI_np hW
  have h0 : (0 ≤ nI p) = True := by
    have : ((0 : Int32) ≤ nI p) = (0 ≤ p) := nJ_le (a := 0) (by omega) (by omega)
    rw [this]; exact eq_true (by omega)
  rw [h0, en, nJ_lt (by omega) (by omega), true_and]
theorem c_fill {A : Type} {J : List Nat → A → A} {K : Nat → A → Sig → Prop} {z0 : Int32} {S0 : List Nat} {U0 : List (Nat × Nat)} {B T : LW} {ω : Sig} {h : Nat → Bool} {a2 : Int32} (hW : WI B T ω) (hh : ∀ o, o < 8 → h o = true → ω 9 o ≠ -1) (h9 : 9 ∈ S0) (ha : isM a2 h)
    (hz : ∀ σ σ', Fr S0 U0 σ σ' → σ' 79 10 = σ 79 10)
    (kj : ∀ d pre n st σ, pre.length = np ω → vld ω h (np ω) pre → FI B ω h pre σ → K n st σ → n < 2 ^ 30 → σ 79 10 = z0 → ∃ σ', Ex (d + 4) 64 0 [.ref 79, .null] [] G0 σ = some (none, G0, σ') ∧ FI B ω h pre σ' ∧ K (n + 1) (J pre st) σ' ∧ Fr S0 U0 σ σ')
    (ks : ∀ n st σ, K n st σ → z0 = 0 → σ 79 0 = 0 → ∀ w, J w st = st) (km : ∀ n m st σ, n ≤ m → K n st σ → K m st σ) (kp : ∀ n st σ k v, K n st σ → K n st (pt σ 9 k v)) :
    ∀ k d pre n st σ u, pre.length + k = np ω → vld ω h (np ω) pre → FI B ω h pre σ → K n st σ → σ 79 10 = z0 → isM u (usd ω h (np ω) pre) → n + (exL (cnW ω h (np ω)) (sz ω) k pre).length ≤ 2 ^ 30 →
    ∃ σ', Ex (d + 5 + k) 63 0 [.ref 79, .int (nI pre.length), .int a2, .int u, .null] [] G0 σ = some (none, G0, σ') ∧ FI B ω h pre σ' ∧ K (n + (exL (cnW ω h (np ω)) (sz ω) k pre).length) (fdl J (exL (cnW ω h (np ω)) (sz ω) k pre) st) σ' ∧ Fr S0 U0 σ σ' := by
  obtain ⟨_, n8', en⟩ := WI_np hW
  obtain ⟨e2, s8⟩ : wi B T ω 5 := hW 5
  intro k
  induction k with
  | zero =>
    intro d pre n st σ u hl hv i kk z hu hn
    have e8 : σ 8 = ω 8 := i.1 8 (by omega) (by omega) (by omega) (by omega) (by omega)
    have q : (0 ≤ nI pre.length ∧ nI pre.length < 2 * ω 8 0) = False := by rw [fl_has hW (by omega)]; exact eq_false (by omega)
    rw [exL] at hn ⊢
    obtain ⟨σ1, e1, i1, k1, f1⟩ := kj d pre n st σ (by omega) hv i kk (by simp at hn; omega) z
    rw [show d + 5 + 0 = (d + 4) + 1 from rfl, b63_0, c_placesHas]
    simp only [Option.bind_some, Option.toList_some, Option.toList_none, List.cons_append, List.nil_append, i01a, i01b, if_true, if_false, b63_11, e8, bI_z, bI_o, bI_em, ite_not, q, i10, i01, eq_self, if_true, if_false, true_and, false_and, and_true, and_false, not_true, not_false_iff, true_or, or_true, false_or, or_false, ne_eq, not_true_eq_false, not_false_eq_true, e1, b63_18]
    exact ⟨σ1, rfl, i1, k1, f1⟩
  | succ k ih =>
    intro d pre n st σ u hl hv i kk z hu hn
    have e8 : σ 8 = ω 8 := i.1 8 (by omega) (by omega) (by omega) (by omega) (by omega)
    have q : (0 ≤ nI pre.length ∧ nI pre.length < 2 * ω 8 0) = True := by rw [fl_has hW (by omega)]; exact eq_true (by omega)
    have p8 : pre.length < 8 := by omega
    rw [show d + 5 + (k + 1) = (d + 4 + k + 1) + 1 by omega, b63_0, c_placesHas]
    simp only [Option.bind_some, Option.toList_some, Option.toList_none, List.cons_append, List.nil_append, i01a, i01b, if_true, if_false, b63_11, e8, bI_z, bI_o, bI_em, ite_not, q, i10, i01, eq_self, if_true, if_false, true_and, false_and, and_true, and_false, not_true, not_false_iff, true_or, or_true, false_or, or_false, ne_eq, not_true_eq_false, not_false_eq_true, M_t1 ha p8, nI_s]
    by_cases hk : h pre.length = true
    · have hno := hh _ p8 hk
      have hwo := WI_who hW p8 hno
      have hcn : ∀ b, cnW ω h (np ω) pre b = decide (b = wN ω pre.length) := fun b => by unfold cnW; rw [if_pos hk]
      have eL : exL (cnW ω h (np ω)) (sz ω) (k + 1) pre = exL (cnW ω h (np ω)) (sz ω) k (wN ω pre.length :: pre) := by
        rw [exL, exB_1 hwo.2.1 hcn _ (Nat.le_refl _), if_pos (by omega)]
      rw [eL] at hn ⊢
      have hv' := vld_s (b := wN ω pre.length) hW n8' hh hv (by omega) hwo.2.1 (by rw [hcn]; exact decide_eq_true rfl)
      obtain ⟨σ1, e1, i1, k1, f1⟩ := ih d (wN ω pre.length :: pre) n st σ u (by simp; omega) hv' (FI_k hW (by omega) hk hno i) kk z (M_ext hu (fun q _ => (usd_k hk (by omega)).symm)) hn
      rw [List.length_cons, show d + 5 + k = d + 4 + k + 1 by omega] at e1
      simp only [eq_true hk, i10, i01, eq_self, if_true, if_false, true_and, false_and, and_true, and_false, not_true, not_false_iff, true_or, or_true, false_or, or_false, ne_eq, not_true_eq_false, not_false_eq_true, e1, Option.bind_some, Option.toList_some, Option.toList_none, List.cons_append, List.nil_append, i01a, i01b, if_true, if_false, b63_37]
      exact ⟨σ1, rfl, FI_d i1, k1, f1⟩
    · have hk' : h pre.length = false := by simpa using hk
      simp only [hk', Bool.false_eq_true, i10, i01, eq_self, if_true, if_false, true_and, false_and, and_true, and_false, not_true, not_false_iff, true_or, or_true, false_or, or_false, ne_eq, not_true_eq_false, not_false_eq_true]
      rw [exL] at hn ⊢
      have main : ∀ m b n st σ2, b + m = sz ω → FI B ω h pre σ2 → K n st σ2 → σ2 79 10 = z0 → n + (exB (cnW ω h (np ω)) (sz ω) (exL (cnW ω h (np ω)) (sz ω) k) pre m).length ≤ 2 ^ 30 → ∃ σ', Ex (d + 4 + k + 1 + 1) 63 41 [.ref 79, .int (nI pre.length), .int a2, .int u, .int (nI b)] [] G0 σ2 = some (none, G0, σ') ∧ FI B ω h pre σ' ∧ K (n + (exB (cnW ω h (np ω)) (sz ω) (exL (cnW ω h (np ω)) (sz ω) k) pre m).length) (fdl J (exB (cnW ω h (np ω)) (sz ω) (exL (cnW ω h (np ω)) (sz ω) k) pre m) st) σ' ∧ Fr S0 U0 σ2 σ' := by
        intro m
        induction m with
        | zero =>
          intro b n st σ2 hb i kk z hn
          have q2 : (nI (sz ω) ≤ nI b) = True := by rw [nJ_le (by omega) (by omega)]; exact eq_true (by omega)
          have e20 : σ2 2 = ω 2 := i.1 2 (by omega) (by omega) (by omega) (by omega) (by omega)
          rw [b63_41]
          simp only [e20, e2, q2, i10, i01, eq_self, if_true, if_false, true_and, false_and, and_true, and_false, not_true, not_false_iff, true_or, or_true, false_or, or_false, ne_eq, not_true_eq_false, not_false_eq_true]
          exact ⟨σ2, rfl, i, kk, Fr_r⟩
        | succ m ihm =>
          intro b n st σ2 hb i kk z hn
          have q2 : (nI (sz ω) ≤ nI b) = False := by rw [nJ_le (by omega) (by omega)]; exact eq_false (by omega)
          have e20 : σ2 2 = ω 2 := i.1 2 (by omega) (by omega) (by omega) (by omega) (by omega)
          have b8 : b < 8 := by omega
          rw [b63_41]
          simp only [e20, e2, q2, i10, i01, eq_self, if_true, if_false, true_and, false_and, and_true, and_false, not_true, not_false_iff, true_or, or_true, false_or, or_false, ne_eq, not_true_eq_false, not_false_eq_true]
          by_cases stop : σ2 79 10 = 0 ∧ σ2 79 0 = 0
          · simp only [stop.1, stop.2, i10, i01, eq_self, if_true, if_false, true_and, false_and, and_true, and_false, not_true, not_false_iff, true_or, or_true, false_or, or_false, ne_eq, not_true_eq_false, not_false_eq_true]
            have zz := ks n st σ2 kk (by rw [← z]; exact stop.1) stop.2
            rw [fdl_z zz]
            exact ⟨σ2, rfl, i, km _ _ _ _ (Nat.le_add_right _ _) kk, Fr_r⟩
          · have go : (if σ2 79 10 = 0 then if σ2 79 0 = 0 then some ((none : Option Value), G0, σ2) else Ex (d + 4 + k + 1 + 1) 63 70 [.ref 79, .int (nI pre.length), .int a2, .int u, .int (nI b)] [] G0 σ2 else Ex (d + 4 + k + 1 + 1) 63 70 [.ref 79, .int (nI pre.length), .int a2, .int u, .int (nI b)] [] G0 σ2) = Ex (d + 4 + k + 1 + 1) 63 70 [.ref 79, .int (nI pre.length), .int a2, .int u, .int (nI b)] [] G0 σ2 := by
              by_cases a : σ2 79 10 = 0
              · rw [if_pos a, if_neg (fun e => stop ⟨a, e⟩)]
              · rw [if_neg a]
            rw [go]
            simp only [b63_70, M_t0 hu b8, i8 p8, c8 p8, nI_s, b63_107, i10, i01, eq_self, if_true, if_false, true_and, false_and, and_true, and_false, not_true, not_false_iff, true_or, or_true, false_or, or_false, ne_eq, not_true_eq_false, not_false_eq_true]
            have ec := cnW_u (ω := ω) (N := np ω) (b := b) hk'
            rw [exB_s (show sz ω - (m + 1) = b by omega)] at hn ⊢
            by_cases hc : usd ω h (np ω) pre b = false
            · have hcc : cnW ω h (np ω) pre b = true := by rw [ec, hc]; rfl
              rw [if_pos hcc] at hn ⊢
              rw [List.length_append] at hn
              have hv' := vld_s hW n8' hh hv (by omega) (show b < sz ω by omega) hcc
              have hu' : isM (u ||| (1 <<< (nI b &&& 31))) (usd ω h (np ω) (b :: pre)) := M_ext (M_add hu b8) (fun q _ => usd_s.symm)
              obtain ⟨σ3, e3, i3, k3, f3⟩ := ih d (b :: pre) n st (pt σ2 9 pre.length (nI b)) (u ||| (1 <<< (nI b &&& 31))) (by simp; omega) hv' (FI_s (by omega) hk' i) (kp _ _ _ _ _ kk) (by rw [pt_q (by decide)]; exact z) hu' (by omega)
              rw [List.length_cons, show d + 5 + k = d + 4 + k + 1 by omega] at e3
              have F3 : Fr S0 U0 σ2 σ3 := Fr_t (Fr_p Fr_r (Or.inl h9)) f3
              obtain ⟨σ4, e4, i4, k4, f4⟩ := ihm (b + 1) _ _ σ3 (by omega) (FI_d i3) k3 (by rw [hz _ _ F3]; exact z) (by omega)
              simp only [eq_true hc, i10, i01, eq_self, if_true, if_false, true_and, false_and, and_true, and_false, not_true, not_false_iff, true_or, or_true, false_or, or_false, ne_eq, not_true_eq_false, not_false_eq_true, e3, Option.bind_some, Option.toList_some, Option.toList_none, List.cons_append, List.nil_append, i01a, i01b, if_true, if_false, b63_107, nI_s, e4]
              refine ⟨σ4, rfl, i4, ?_, Fr_t F3 f4⟩
              rw [fdl_a, List.length_append, ← Nat.add_assoc]; exact k4
            · have hcc : ¬ cnW ω h (np ω) pre b = true := by
                rw [ec]; simp at hc; rw [hc]; decide
              rw [if_neg hcc, List.nil_append] at hn ⊢
              obtain ⟨σ4, e4, i4, k4, f4⟩ := ihm (b + 1) n st σ2 (by omega) i kk z hn
              simp only [eq_false hc, i10, i01, eq_self, if_true, if_false, true_and, false_and, and_true, and_false, not_true, not_false_iff, true_or, or_true, false_or, or_false, ne_eq, not_true_eq_false, not_false_eq_true, e4]
              exact ⟨σ4, rfl, i4, k4, f4⟩
      exact main (sz ω) 0 n st σ (by omega) i kk z hn
