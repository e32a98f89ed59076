/-! L3: all ways, the model -/
def TS (ω : Sig) (h : Nat → Bool) (pre : List Nat) (j : Nat) (σ : Sig) : Prop := σ 112 7 = ω 8 0 - 3 ∧ σ 112 12 = ω 2 0 ∧ (∀ p, p < 8 → σ 139 p = if h p = true then ω 9 p else -1) ∧ (∀ p, p < pre.length → σ 140 p = nI (wv pre p)) ∧ (∀ p, j ≤ p → p < 8 → σ 140 p = -1)
theorem TS_fr {ω : Sig} {h : Nat → Bool} {pre : List Nat} {j : Nat} {σ σ' : Sig} {S : List Nat} {U : List (Nat × Nat)} (t : TS ω h pre j σ) (f : Fr S U σ σ') (h1 : 112 ∉ S ∧ 139 ∉ S ∧ 140 ∉ S) (h2 : (112, 7) ∉ U ∧ (112, 12) ∉ U ∧ ∀ x ∈ U, x.1 ≠ 139 ∧ x.1 ≠ 140) : TS ω h pre j σ' := by
  obtain ⟨a, b, c, e, g⟩ := t
  have e139 : σ' 139 = σ 139 := Fr_q f h1.2.1 (fun x hx => (h2.2.2 x hx).1)
  have e140 : σ' 140 = σ 140 := Fr_q f h1.2.2 (fun x hx => (h2.2.2 x hx).2)
  refine ⟨by rw [f 112 7 h1.1 h2.1]; exact a, by rw [f 112 12 h1.1 h2.2.1]; exact b, by rw [e139]; exact c, by rw [e140]; exact e, by rw [e140]; exact g⟩
theorem TS_d {ω : Sig} {h : Nat → Bool} {pre : List Nat} {b j : Nat} {σ : Sig} (t : TS ω h (b :: pre) j σ) : TS ω h pre j σ := by
  obtain ⟨a, b, c, e, g⟩ := t
  refine ⟨a, b, c, fun p hp => ?_, g⟩
  rw [e p (by simp; omega), wv_o hp]
theorem TS_pl {B T : LW} {ω : Sig} {h : Nat → Bool} {pre : List Nat} {j : Nat} {σ : Sig} (hW : WI B T ω) (t : TS ω h pre j σ) : 2 * (σ 112 7 + 3) = nI (np ω) := by
  rw [t.1, s3a]; exact (WI_np hW).2.2
theorem vld_d {ω : Sig} {h : Nat → Bool} {N b : Nat} {pre : List Nat} (v : vld ω h N (b :: pre)) : vld ω h N pre ∧ b < sz ω := by
  obtain ⟨v1, v2, v3, v4⟩ := v
  refine ⟨⟨fun p hp => ?_, fun p q hp hq e => ?_, fun p hp k => ?_, fun p o hp ho k j => ?_⟩, ?_⟩
  · have := v1 p (by simp; omega); rwa [wv_o hp] at this
  · exact v2 p q (by simp; omega) (by simp; omega) (by rw [wv_o hp, wv_o hq]; exact e)
  · have := v3 p (by simp; omega) k; rwa [wv_o hp] at this
  · have := v4 p o (by simp; omega) ho k j; rwa [wv_o hp] at this
  · have := v1 pre.length (by simp); rwa [wv_n] at this
theorem cnW_n {ω : Sig} {h : Nat → Bool} {N : Nat} {pre : List Nat} {b : Nat} (k : ¬ h pre.length = true) : cnW ω h N pre b = true ↔ (∀ o, o < N → ¬ (h o = true ∧ wN ω o = b)) ∧ b ∉ pre := by
  unfold cnW
  rw [if_neg k, Bool.and_eq_true_iff, decide_eq_true_iff, decide_eq_true_iff]
theorem m_isFree (d : Nat) {B T : LW} {ω σ : Sig} {h : Nat → Bool} {pre : List Nat} {b j : Nat} (hW : WI B T ω) (hh : ∀ o, o < 8 → h o = true → ω 9 o ≠ -1) (hl : pre.length < np ω) (hb : b < 8) (hv : ∀ p, p < pre.length → wv pre p < 8) (t : TS ω h pre j σ) :
    Ex (d + 2) 238 0 [.ref 112, .int (nI b), .int (nI pre.length), .null] [] G0 σ = some (some (.int (bI (cnW ω h (np ω) pre b = true))), G0, σ) := by
  obtain ⟨_, n8', en⟩ := WI_np hW
  have p8 : pre.length < 8 := by omega
  have hf := t.2.2.1
  have ef : ∀ o, o < 8 → (σ 139 o = -1) = (h o = false) := fun o ho => by
    rw [hf o ho]
    by_cases k : h o = true
    · rw [if_pos k]; exact propext ⟨fun e => absurd e (hh o ho k), fun e => by rw [k] at e; cases e⟩
    · rw [if_neg k]; exact propext ⟨fun _ => by simpa using k, fun _ => rfl⟩
  have eb : ∀ o, o < 8 → (σ 139 o = nI b) = (h o = true ∧ wN ω o = b) := fun o ho => by
    rw [hf o ho]
    by_cases k : h o = true
    · have w := WI_who hW ho (hh o ho k)
      rw [if_pos k, w.2.2.2, nJ_e (by omega) (by omega)]
      exact propext ⟨fun e => ⟨k, e⟩, fun e => e.2⟩
    · rw [if_neg k]
      exact propext ⟨fun e => absurd e.symm (by rw [nI_ne (by omega)]; exact fun h => h), fun e => absurd e.1 k⟩
  rw [b238_0, i8 p8, c8 p8]
  simp only [ef _ p8, i10, i01, eq_self, if_true, if_false, true_and, false_and, and_true, and_false, not_true, not_false_iff, true_or, or_true, false_or, or_false, ne_eq, not_true_eq_false, not_false_eq_true]
  by_cases k : h pre.length = true
  · have w := WI_who hW p8 (hh _ p8 k)
    have k' : (h pre.length = false) = False := eq_false (by rw [k]; decide)
    have e3 : (nI b = σ 139 pre.length) = (b = wN ω pre.length) := by
      rw [hf _ p8, if_pos k, w.2.2.2, nJ_e (by omega) (by omega)]
    simp only [k', i10, i01, eq_self, if_true, if_false, true_and, false_and, and_true, and_false, not_true, not_false_iff, true_or, or_true, false_or, or_false, ne_eq, not_true_eq_false, not_false_eq_true, e3, Option.bind_some, Option.toList_some, Option.toList_none, List.cons_append, List.nil_append, i01a, i01b, if_true, if_false]
    unfold cnW
    rw [if_pos k]
    by_cases c : b = wN ω pre.length
    · rw [bI_T (decide_eq_true c)]; simp only [eq_true c, i10, i01, eq_self, if_true, if_false, true_and, false_and, and_true, and_false, not_true, not_false_iff, true_or, or_true, false_or, or_false, ne_eq, not_true_eq_false, not_false_eq_true]
    · rw [bI_F (by rw [decide_eq_false c]; decide)]; simp only [eq_false c, i10, i01, eq_self, if_true, if_false, true_and, false_and, and_true, and_false, not_true, not_false_iff, true_or, or_true, false_or, or_false, ne_eq, not_true_eq_false, not_false_eq_true]
  · have k' : (h pre.length = false) = True := eq_true (by simpa using k)
    simp only [k', i10, i01, eq_self, if_true, if_false, true_and, false_and, and_true, and_false, not_true, not_false_iff, true_or, or_true, false_or, or_false, ne_eq, not_true_eq_false, not_false_eq_true]
    have key : ∀ m o, o + m = np ω → (∀ q, q < o → ¬ (h q = true ∧ wN ω q = b) ∧ (q < pre.length → wv pre q ≠ b)) → Ex (d + 2) 238 28 [.ref 112, .int (nI b), .int (nI pre.length), .int (nI o)] [] G0 σ = some (some (.int (bI (cnW ω h (np ω) pre b = true))), G0, σ) := by
      intro m
      induction m with
      | zero =>
        intro o ho hq
        rw [b238_28, m_places, TS_pl hW t]
        have q : (nI (np ω) ≤ nI o) = True := by rw [nJ_le (by omega) (by omega)]; exact eq_true (by omega)
        simp only [Option.bind_some, Option.toList_some, Option.toList_none, List.cons_append, List.nil_append, i01a, i01b, if_true, if_false, b238_33, q, i10, i01, eq_self, if_true, if_false, true_and, false_and, and_true, and_false, not_true, not_false_iff, true_or, or_true, false_or, or_false, ne_eq, not_true_eq_false, not_false_eq_true]
        have : cnW ω h (np ω) pre b = true := (cnW_n k).mpr ⟨fun o ho => (hq o (by omega)).1, fun hm => by
            obtain ⟨p, hp, e⟩ := wv_m hm
            exact (hq p (by omega)).2 hp e⟩
        rw [bI_T this]
      | succ m ih =>
        intro o ho hq
        have o8 : o < 8 := by omega
        rw [b238_28, m_places, TS_pl hW t]
        have q : (nI (np ω) ≤ nI o) = False := by rw [nJ_le (by omega) (by omega)]; exact eq_false (by omega)
        simp only [Option.bind_some, Option.toList_some, Option.toList_none, List.cons_append, List.nil_append, i01a, i01b, if_true, if_false, b238_33, q, i10, i01, eq_self, if_true, if_false, true_and, false_and, and_true, and_false, not_true, not_false_iff, true_or, or_true, false_or, or_false, ne_eq, not_true_eq_false, not_false_eq_true, i8 o8, c8 o8, eb o o8, nI_s, nJ_le (show pre.length < 2 ^ 31 by omega) (show o < 2 ^ 31 by omega)]
        by_cases c1 : h o = true ∧ wN ω o = b
        · have : ¬ cnW ω h (np ω) pre b = true := fun e => ((cnW_n k).mp e).1 o (by omega) c1
          rw [bI_F this]
          simp only [eq_true c1, i10, i01, eq_self, if_true, if_false, true_and, false_and, and_true, and_false, not_true, not_false_iff, true_or, or_true, false_or, or_false, ne_eq, not_true_eq_false, not_false_eq_true]
        · simp only [eq_false c1, i10, i01, eq_self, if_true, if_false, true_and, false_and, and_true, and_false, not_true, not_false_iff, true_or, or_true, false_or, or_false, ne_eq, not_true_eq_false, not_false_eq_true]
          by_cases c2 : pre.length ≤ o
          · simp only [eq_true c2, i10, i01, eq_self, if_true, if_false, true_and, false_and, and_true, and_false, not_true, not_false_iff, true_or, or_true, false_or, or_false, ne_eq, not_true_eq_false, not_false_eq_true]
            refine ih (o + 1) (by omega) (fun q hq' => ?_)
            by_cases e : q = o
            · subst e; exact ⟨c1, fun l => by omega⟩
            · exact hq q (by omega)
          · have e4 : (σ 140 o = nI b) = (wv pre o = b) := by
              have := hv o (by omega)
              rw [t.2.2.2.1 o (by omega), nJ_e (by omega) (by omega)]
            simp only [eq_false c2, i10, i01, eq_self, if_true, if_false, true_and, false_and, and_true, and_false, not_true, not_false_iff, true_or, or_true, false_or, or_false, ne_eq, not_true_eq_false, not_false_eq_true, e4]
            by_cases c3 : wv pre o = b
            · have : ¬ cnW ω h (np ω) pre b = true := fun e => ((cnW_n k).mp e).2 (by rw [← c3]; exact wv_i (by omega))
              rw [bI_F this]
              simp only [eq_true c3, i10, i01, eq_self, if_true, if_false, true_and, false_and, and_true, and_false, not_true, not_false_iff, true_or, or_true, false_or, or_false, ne_eq, not_true_eq_false, not_false_eq_true]
            · simp only [eq_false c3, i10, i01, eq_self, if_true, if_false, true_and, false_and, and_true, and_false, not_true, not_false_iff, true_or, or_true, false_or, or_false, ne_eq, not_true_eq_false, not_false_eq_true]
              refine ih (o + 1) (by omega) (fun q hq' => ?_)
              by_cases e : q = o
              · subst e; exact ⟨c1, fun _ => c3⟩
              · exact hq q (by omega)
    exact key (np ω) 0 (by omega) (fun q hq => by omega)
theorem m_outer (d : Nat) {B T : LW} {ω σ : Sig} {h : Nat → Bool} {pre : List Nat} {i j : Nat} {a1 : Value} (hW : WI B T ω) (hi : i < np ω) (t : TS ω h pre j σ) (e : σ 112 53 = nI i) : Ex (d + 3) 239 21 [.ref 112, a1] [] G0 σ = Ex (d + 3) 239 51 [.ref 112, .int (σ 140 i + 1)] [] G0 σ := by
  obtain ⟨_, n8', en⟩ := WI_np hW
  have i8' : i < 8 := by omega
  have q0 : (nI i < 0) = False := by
    have : (nI i < 0) = (i < 0) := nJ_lt (b := 0) (by omega) (by omega)
    rw [this]; exact eq_false (by omega)
  have q : (nI (np ω) ≤ nI i) = False := by rw [nJ_le (by omega) (by omega)]; exact eq_false (by omega)
  rw [b239_21, m_places, TS_pl hW t]
  simp only [e, q0, i10, i01, eq_self, if_true, if_false, true_and, false_and, and_true, and_false, not_true, not_false_iff, true_or, or_true, false_or, or_false, ne_eq, not_true_eq_false, not_false_eq_true, Option.bind_some, Option.toList_some, Option.toList_none, List.cons_append, List.nil_append, i01a, i01b, if_true, if_false, b239_36, q, i8 i8', c8 i8']
def SCY : List Nat := [140]
def SLY : List (Nat × Nat) := [(112, 53)]
theorem TS_w {ω : Sig} {h : Nat → Bool} {pre : List Nat} {j : Nat} {σ : Sig} {b : Nat} {x : Int32} (t : TS ω h pre (pre.length + 1) σ) (hj : j = pre.length + 1) (e : x = nI b) : TS ω h (b :: pre) j (pt (pt σ 140 pre.length x) 112 53 (nI (pre.length + 1))) := by
  obtain ⟨a, b', c, e1, g⟩ := t
  subst hj; subst e
  refine ⟨by rw [pt_k (by decide), pt_q (by decide)]; exact a, by rw [pt_k (by decide), pt_q (by decide)]; exact b', by rw [pt_q (by decide), pt_q (by decide)]; exact c, fun p hp => ?_, fun p hp h8 => ?_⟩
  · rw [pt_q (by decide)]
    by_cases k : p = pre.length
    · subst k; rw [pt_e, wv_n]
    · have : p < pre.length := by simp at hp; omega
      rw [pt_k k, wv_o this]; exact e1 p this
  · rw [pt_q (by decide), pt_k (by omega)]; exact g p hp h8
theorem TS_z {ω : Sig} {h : Nat → Bool} {pre : List Nat} {σ : Sig} {y : Int32} (t : TS ω h pre (pre.length + 1) σ) : TS ω h pre pre.length (pt (pt σ 140 pre.length (-1)) 112 53 y) := by
  obtain ⟨a, b', c, e1, g⟩ := t
  refine ⟨by rw [pt_k (by decide), pt_q (by decide)]; exact a, by rw [pt_k (by decide), pt_q (by decide)]; exact b', by rw [pt_q (by decide), pt_q (by decide)]; exact c, fun p hp => ?_, fun p hp h8 => ?_⟩
  · rw [pt_q (by decide), pt_k (by omega)]; exact e1 p hp
  · rw [pt_q (by decide)]
    by_cases k : p = pre.length
    · subst k; rw [pt_e]
    · rw [pt_k k]; exact g p (by omega) h8
theorem m_down {B T : LW} {ω : Sig} {h : Nat → Bool} (hW : WI B T ω) (hh : ∀ o, o < 8 → h o = true → ω 9 o ≠ -1) : ∀ k m d pre b σ, pre.length + k + 1 = np ω → b + m = sz ω → vld ω h (np ω) pre → TS ω h pre (pre.length + 1) σ → σ 112 53 = nI pre.length →
    (exB (cnW ω h (np ω)) (sz ω) (exL (cnW ω h (np ω)) (sz ω) k) pre m = [] → ∃ σ', Ex (d + 3) 239 51 [.ref 112, .int (nI b)] [] G0 σ = Ex (d + 3) 239 21 [.ref 112, .int (nI (sz ω))] [] G0 (σ') ∧ TS ω h pre pre.length σ' ∧ σ' 112 53 = nI pre.length - 1 ∧ Fr SCY SLY σ σ') ∧
    (∀ w L, exB (cnW ω h (np ω)) (sz ω) (exL (cnW ω h (np ω)) (sz ω) k) pre m = w :: L → ∃ σ', Ex (d + 3) 239 51 [.ref 112, .int (nI b)] [] G0 σ = some (some (.int 1), G0, σ') ∧ w.length = np ω ∧ vld ω h (np ω) w ∧ TS ω h w (np ω) σ' ∧ σ' 112 53 = nI (np ω) ∧ upR (cnW ω h (np ω)) (sz ω) 0 w = L ++ upR (cnW ω h (np ω)) (sz ω) (k + 1) pre ∧ Fr SCY SLY σ σ') := by
  obtain ⟨_, n8', en⟩ := WI_np hW
  obtain ⟨e2, s8⟩ : wi B T ω 5 := hW 5
  intro k
  induction k with
  | zero =>
    intro m
    induction m with
    | zero =>
      intro d pre b σ hl hb hv t hd
      have p8 : pre.length < 8 := by omega
      have q : (nI (sz ω) ≤ nI b) = True := by rw [nJ_le (by omega) (by omega)]; exact eq_true (by omega)
      have eb : b = sz ω := by omega
      refine ⟨fun _ => ?_, fun w L e => (by cases e)⟩
      rw [b239_51, t.2.1, e2]
      have e12 : pt σ 140 pre.length (-1) 112 12 = nI (sz ω) := by rw [pt_q (by decide), t.2.1, e2]
      have e53 : pt σ 140 pre.length (-1) 112 53 = nI pre.length := by rw [pt_q (by decide), hd]
      simp only [q, i10, i01, eq_self, if_true, if_false, true_and, false_and, and_true, and_false, not_true, not_false_iff, true_or, or_true, false_or, or_false, ne_eq, not_true_eq_false, not_false_eq_true, b239_99, hd, i8 p8, c8 p8, e12, e53]
      exact ⟨_, by rw [eb], TS_z t, pt_e, Fr_p (Fr_p Fr_r (Or.inl (by decide))) (Or.inr (by decide))⟩
    | succ m ih =>
      intro d pre b σ hl hb hv t hd
      have p8 : pre.length < 8 := by omega
      have b8 : b < 8 := by omega
      have q : (nI (sz ω) ≤ nI b) = False := by rw [nJ_le (by omega) (by omega)]; exact eq_false (by omega)
      have fr := m_isFree d hW hh (show pre.length < np ω by omega) b8 (fun p hp => by have := hv.1 p hp; omega) t
      rw [exB_s (show sz ω - (m + 1) = b by omega), b239_51, t.2.1, e2]
      simp only [q, i10, i01, eq_self, if_true, if_false, true_and, false_and, and_true, and_false, not_true, not_false_iff, true_or, or_true, false_or, or_false, ne_eq, not_true_eq_false, not_false_eq_true, hd, fr, Option.bind_some, Option.toList_some, Option.toList_none, List.cons_append, List.nil_append, i01a, i01b, if_true, if_false, b239_68, bI_z, bI_o, bI_em, ite_not, nI_s, t.2.1, e2]
      by_cases c : cnW ω h (np ω) pre b = true
      · rw [if_pos c]
        refine ⟨fun e => (by cases e), fun w L e => ?_⟩
        rw [exL, List.cons_append, List.nil_append] at e
        obtain ⟨ew, eL⟩ := List.cons.inj e
        subst ew; subst eL
        have e12 : pt σ 140 pre.length (nI b) 112 12 = nI (sz ω) := by rw [pt_q (by decide), t.2.1, e2]
        have e53 : pt σ 140 pre.length (nI b) 112 53 = nI pre.length := by rw [pt_q (by decide), hd]
        have tw' := TS_w (x := nI b) t (show np ω = pre.length + 1 by omega) rfl
        have q0 : (nI (np ω) < 0) = False := by
          have : (nI (np ω) < 0) = (np ω < 0) := nJ_lt (b := 0) (by omega) (by omega)
          rw [this]; exact eq_false (by omega)
        have q3 : (nI (np ω) ≤ nI (np ω)) = True := by rw [nJ_le (by omega) (by omega)]; exact eq_true (by omega)
        have e54 : pt (pt σ 140 pre.length (nI b)) 112 53 (nI (pre.length + 1)) 112 53 = nI (np ω) := by rw [pt_e]; rw [show pre.length + 1 = np ω by omega]
        simp only [eq_true c, i10, i01, eq_self, if_true, if_false, true_and, false_and, and_true, and_false, not_true, not_false_iff, true_or, or_true, false_or, or_false, ne_eq, not_true_eq_false, not_false_eq_true, b239_99, hd, i8 p8, c8 p8, e12, e53, q, nI_s]
        rw [b239_21, m_places, TS_pl hW tw']
        simp only [e54, q0, i10, i01, eq_self, if_true, if_false, true_and, false_and, and_true, and_false, not_true, not_false_iff, true_or, or_true, false_or, or_false, ne_eq, not_true_eq_false, not_false_eq_true, Option.bind_some, Option.toList_some, Option.toList_none, List.cons_append, List.nil_append, i01a, i01b, if_true, if_false, b239_36, q3]
        refine ⟨_, rfl, by simp; omega, vld_s hW n8' hh hv (by omega) (by omega) c, tw', e54, ?_, Fr_p (Fr_p Fr_r (Or.inl (by decide))) (Or.inr (by decide))⟩
        rw [upR, show sz ω - (b + 1) = m by omega]
      · rw [if_neg c, List.nil_append]
        simp only [eq_false c, i10, i01, eq_self, if_true, if_false, true_and, false_and, and_true, and_false, not_true, not_false_iff, true_or, or_true, false_or, or_false, ne_eq, not_true_eq_false, not_false_eq_true]
        exact ih d pre (b + 1) σ hl (by omega) hv t hd
  | succ k ihk =>
    intro m
    induction m with
    | zero =>
      intro d pre b σ hl hb hv t hd
      have p8 : pre.length < 8 := by omega
      have q : (nI (sz ω) ≤ nI b) = True := by rw [nJ_le (by omega) (by omega)]; exact eq_true (by omega)
      have eb : b = sz ω := by omega
      refine ⟨fun _ => ?_, fun w L e => (by cases e)⟩
      rw [b239_51, t.2.1, e2]
      have e12 : pt σ 140 pre.length (-1) 112 12 = nI (sz ω) := by rw [pt_q (by decide), t.2.1, e2]
      have e53 : pt σ 140 pre.length (-1) 112 53 = nI pre.length := by rw [pt_q (by decide), hd]
      simp only [q, i10, i01, eq_self, if_true, if_false, true_and, false_and, and_true, and_false, not_true, not_false_iff, true_or, or_true, false_or, or_false, ne_eq, not_true_eq_false, not_false_eq_true, b239_99, hd, i8 p8, c8 p8, e12, e53]
      exact ⟨_, by rw [eb], TS_z t, pt_e, Fr_p (Fr_p Fr_r (Or.inl (by decide))) (Or.inr (by decide))⟩
    | succ m ih =>
      intro d pre b σ hl hb hv t hd
      have p8 : pre.length < 8 := by omega
      have b8 : b < 8 := by omega
      have q : (nI (sz ω) ≤ nI b) = False := by rw [nJ_le (by omega) (by omega)]; exact eq_false (by omega)
      have fr := m_isFree d hW hh (show pre.length < np ω by omega) b8 (fun p hp => by have := hv.1 p hp; omega) t
      rw [exB_s (show sz ω - (m + 1) = b by omega), b239_51, t.2.1, e2]
      simp only [q, i10, i01, eq_self, if_true, if_false, true_and, false_and, and_true, and_false, not_true, not_false_iff, true_or, or_true, false_or, or_false, ne_eq, not_true_eq_false, not_false_eq_true, hd, fr, Option.bind_some, Option.toList_some, Option.toList_none, List.cons_append, List.nil_append, i01a, i01b, if_true, if_false, b239_68, bI_z, bI_o, bI_em, ite_not, nI_s, t.2.1, e2]
      by_cases c : cnW ω h (np ω) pre b = true
      · rw [if_pos c]
        have e12 : pt σ 140 pre.length (nI b) 112 12 = nI (sz ω) := by rw [pt_q (by decide), t.2.1, e2]
        have e53 : pt σ 140 pre.length (nI b) 112 53 = nI pre.length := by rw [pt_q (by decide), hd]
        have tw' := TS_w (x := nI b) t rfl rfl
        have hv' := vld_s hW n8' hh hv (by omega) (show b < sz ω by omega) c
        have e54 : pt (pt σ 140 pre.length (nI b)) 112 53 (nI (pre.length + 1)) 112 53 = nI (pre.length + 1) := pt_e
        have ez : pt (pt σ 140 pre.length (nI b)) 112 53 (nI (pre.length + 1)) 140 (pre.length + 1) + 1 = nI 0 := by
          rw [tw'.2.2.2.2 (pre.length + 1) (Nat.le_refl _) (by omega)]; rfl
        have go : ∀ d a1, Ex (d + 3) 239 21 [.ref 112, a1] [] G0 (pt (pt σ 140 pre.length (nI b)) 112 53 (nI (pre.length + 1))) = Ex (d + 3) 239 51 [.ref 112, .int (nI 0)] [] G0 (pt (pt σ 140 pre.length (nI b)) 112 53 (nI (pre.length + 1))) := fun d a1 => by
          rw [m_outer d hW (show pre.length + 1 < np ω by omega) tw' e54, ez]
        have F1 : Fr SCY SLY σ (pt (pt σ 140 pre.length (nI b)) 112 53 (nI (pre.length + 1))) := Fr_p (Fr_p Fr_r (Or.inl (by decide))) (Or.inr (by decide))
        simp only [eq_true c, i10, i01, eq_self, if_true, if_false, true_and, false_and, and_true, and_false, not_true, not_false_iff, true_or, or_true, false_or, or_false, ne_eq, not_true_eq_false, not_false_eq_true, b239_99, hd, i8 p8, c8 p8, e12, e53, q, nI_s, go]
        have t1 : TS ω h (b :: pre) ((b :: pre).length + 1) (pt (pt σ 140 pre.length (nI b)) 112 53 (nI (pre.length + 1))) := ⟨tw'.1, tw'.2.1, tw'.2.2.1, tw'.2.2.2.1, fun p hp h8 => tw'.2.2.2.2 p (by simp at hp; omega) h8⟩
        obtain ⟨r1, r2⟩ := ihk (sz ω) d (b :: pre) 0 _ (by simp; omega) (by omega) hv' t1 e54
        have eX : exL (cnW ω h (np ω)) (sz ω) (k + 1) (b :: pre) = exB (cnW ω h (np ω)) (sz ω) (exL (cnW ω h (np ω)) (sz ω) k) (b :: pre) (sz ω) := by rw [exL]
        cases hx : exB (cnW ω h (np ω)) (sz ω) (exL (cnW ω h (np ω)) (sz ω) k) (b :: pre) (sz ω) with
        | nil =>
          obtain ⟨σ1, e1, t2, d2, f2⟩ := r1 hx
          rw [eX, hx, List.nil_append, e1]
          have d3 : σ1 112 53 = nI pre.length := by rw [d2, List.length_cons]; exact nI_p1 (by omega)
          have ev : σ1 140 pre.length + 1 = nI (b + 1) := by rw [t2.2.2.2.1 pre.length (by simp), wv_n, nI_s]
          have t3 : TS ω h pre (pre.length + 1) σ1 := TS_d t2
          rw [m_outer d hW (show pre.length < np ω by omega) t3 d3, ev]
          obtain ⟨u1, u2⟩ := ih d pre (b + 1) σ1 hl (by omega) hv t3 d3
          refine ⟨fun e => ?_, fun w L e => ?_⟩
          · obtain ⟨σ2, g1, g2, g3, g4⟩ := u1 e
            exact ⟨σ2, g1, g2, g3, Fr_t F1 (Fr_t f2 g4)⟩
          · obtain ⟨σ2, g1, g2, g3, g4, g5, g6, g7⟩ := u2 w L e
            exact ⟨σ2, g1, g2, g3, g4, g5, g6, Fr_t F1 (Fr_t f2 g7)⟩
        | cons w0 L0 =>
          obtain ⟨σ2, g1, g2, g3, g4, g5, g6, g7⟩ := r2 w0 L0 hx
          rw [eX, hx]
          refine ⟨fun e => (by cases e), fun w L e => ?_⟩
          rw [List.cons_append] at e
          obtain ⟨ew, eL⟩ := List.cons.inj e
          subst ew; subst eL
          refine ⟨σ2, g1, g2, g3, g4, g5, ?_, Fr_t F1 g7⟩
          rw [g6, upR, show sz ω - (b + 1) = m by omega, List.append_assoc]
      · rw [if_neg c, List.nil_append]
        simp only [eq_false c, i10, i01, eq_self, if_true, if_false, true_and, false_and, and_true, and_false, not_true, not_false_iff, true_or, or_true, false_or, or_false, ne_eq, not_true_eq_false, not_false_eq_true]
        exact ih d pre (b + 1) σ hl (by omega) hv t hd
theorem m_up {B T : LW} {ω : Sig} {h : Nat → Bool} (hW : WI B T ω) (hh : ∀ o, o < 8 → h o = true → ω 9 o ≠ -1) : ∀ pre k d σ a1, pre.length + k = np ω → vld ω h (np ω) pre → TS ω h pre pre.length σ → σ 112 53 = nI pre.length - 1 →
    (upR (cnW ω h (np ω)) (sz ω) k pre = [] → ∃ σ', Ex (d + 3) 239 21 [.ref 112, a1] [] G0 σ = some (some (.int 0), G0, σ') ∧ Fr SCY SLY σ σ') ∧
    (∀ w L, upR (cnW ω h (np ω)) (sz ω) k pre = w :: L → ∃ σ', Ex (d + 3) 239 21 [.ref 112, a1] [] G0 σ = some (some (.int 1), G0, σ') ∧ w.length = np ω ∧ vld ω h (np ω) w ∧ TS ω h w (np ω) σ' ∧ σ' 112 53 = nI (np ω) ∧ upR (cnW ω h (np ω)) (sz ω) 0 w = L ∧ Fr SCY SLY σ σ') := by
  obtain ⟨_, n8', en⟩ := WI_np hW
  intro pre
  induction pre with
  | nil =>
    intro k d σ a1 hl hv t hd
    refine ⟨fun _ => ?_, fun w L e => (by cases e)⟩
    have e53 : σ 112 53 = -1 := hd
    have q : ((-1 : Int32) < 0) = True := eq_true (by decide)
    rw [b239_21, e53]
    simp only [q, i10, i01, eq_self, if_true, if_false, true_and, false_and, and_true, and_false, not_true, not_false_iff, true_or, or_true, false_or, or_false, ne_eq, not_true_eq_false, not_false_eq_true, Option.bind_some, Option.toList_some, Option.toList_none, List.cons_append, List.nil_append, i01a, i01b, if_true, if_false]
    exact ⟨σ, rfl, Fr_r⟩
  | cons x pre ih =>
    intro k d σ a1 hl hv t hd
    rw [List.length_cons] at hl hd
    obtain ⟨hv', hx⟩ := vld_d hv
    have d3 : σ 112 53 = nI pre.length := by rw [hd]; exact nI_p1 (by omega)
    have ev : σ 140 pre.length + 1 = nI (x + 1) := by rw [t.2.2.2.1 pre.length (by simp), wv_n, nI_s]
    have t3 : TS ω h pre (pre.length + 1) σ := TS_d t
    rw [m_outer d hW (show pre.length < np ω by omega) t3 d3, ev, upR]
    obtain ⟨r1, r2⟩ := m_down hW hh k (sz ω - (x + 1)) d pre (x + 1) σ (by omega) (by omega) hv' t3 d3
    cases hx : exB (cnW ω h (np ω)) (sz ω) (exL (cnW ω h (np ω)) (sz ω) k) pre (sz ω - (x + 1)) with
    | nil =>
      obtain ⟨σ1, e1, t2, d2, f2⟩ := r1 hx
      rw [e1, List.nil_append]
      obtain ⟨u1, u2⟩ := ih (k + 1) d σ1 (.int (nI (sz ω))) (by omega) hv' t2 d2
      refine ⟨fun e => ?_, fun w L e => ?_⟩
      · obtain ⟨σ2, g1, g2⟩ := u1 e
        exact ⟨σ2, g1, Fr_t f2 g2⟩
      · obtain ⟨σ2, g1, g2, g3, g4, g5, g6, g7⟩ := u2 w L e
        exact ⟨σ2, g1, g2, g3, g4, g5, g6, Fr_t f2 g7⟩
    | cons w0 L0 =>
      obtain ⟨σ2, g1, g2, g3, g4, g5, g6, g7⟩ := r2 w0 L0 hx
      refine ⟨fun e => (by cases e), fun w L e => ?_⟩
      rw [List.cons_append] at e
      obtain ⟨ew, eL⟩ := List.cons.inj e
      subst ew; subst eL
      exact ⟨σ2, g1, g2, g3, g4, g5, g6, g7⟩
def RemS (ω : Sig) (h : Nat → Bool) (L : List (List Nat)) (σ : Sig) : Prop := (TS ω h [] 0 σ ∧ σ 112 53 = 0 ∧ L = exL (cnW ω h (np ω)) (sz ω) (np ω) []) ∨ (∃ w, w.length = np ω ∧ vld ω h (np ω) w ∧ TS ω h w (np ω) σ ∧ σ 112 53 = nI (np ω) ∧ L = upR (cnW ω h (np ω)) (sz ω) 0 w)
theorem m_nextWay (d : Nat) {B T : LW} {ω σ : Sig} {h : Nat → Bool} {L : List (List Nat)} (hW : WI B T ω) (hh : ∀ o, o < 8 → h o = true → ω 9 o ≠ -1) (r : RemS ω h L σ) :
    (L = [] → ∃ σ', Ex (d + 3) 239 0 [.ref 112, .null] [] G0 σ = some (some (.int 0), G0, σ') ∧ Fr SCY SLY σ σ') ∧
    (∀ w L', L = w :: L' → ∃ σ', Ex (d + 3) 239 0 [.ref 112, .null] [] G0 σ = some (some (.int 1), G0, σ') ∧ w.length = np ω ∧ vld ω h (np ω) w ∧ TS ω h w (np ω) σ' ∧ RemS ω h L' σ' ∧ Fr SCY SLY σ σ') := by
  obtain ⟨n4, n8', en⟩ := WI_np hW
  rcases r with ⟨t, d0, eL⟩ | ⟨w, hw, hv, t, d0, eL⟩
  · have q : ((0 : Int32) = nI (np ω)) = False := by
      have : ((0 : Int32) = nI (np ω)) = (0 = np ω) := nJ_e (a := 0) (by omega) (by omega)
      rw [this]; exact eq_false (by omega)
    have t1 : TS ω h [] (([] : List Nat).length + 1) σ := ⟨t.1, t.2.1, t.2.2.1, t.2.2.2.1, fun p _ h8 => t.2.2.2.2 p (by omega) h8⟩
    have ez : σ 140 0 + 1 = nI 0 := by rw [t.2.2.2.2 0 (by omega) (by omega)]; rfl
    rw [b239_0, m_places, TS_pl hW t]
    simp only [Option.bind_some, Option.toList_some, Option.toList_none, List.cons_append, List.nil_append, i01a, i01b, if_true, if_false, b239_8, d0, q, i10, i01, eq_self, if_true, if_false, true_and, false_and, and_true, and_false, not_true, not_false_iff, true_or, or_true, false_or, or_false, ne_eq, not_true_eq_false, not_false_eq_true]
    rw [m_outer d hW (show 0 < np ω by omega) t d0, ez]
    have ek : np ω = (np ω - 1) + 1 := by omega
    obtain ⟨r1, r2⟩ := m_down hW hh (np ω - 1) (sz ω) d [] 0 σ (by simp; omega) (by omega) vld_0 t1 d0
    have eX : L = exB (cnW ω h (np ω)) (sz ω) (exL (cnW ω h (np ω)) (sz ω) (np ω - 1)) [] (sz ω) := by
      rw [eL]
      have : exL (cnW ω h (np ω)) (sz ω) ((np ω - 1) + 1) [] = exB (cnW ω h (np ω)) (sz ω) (exL (cnW ω h (np ω)) (sz ω) (np ω - 1)) [] (sz ω) := by rw [exL]
      rw [← this, ← ek]
    refine ⟨fun e => ?_, fun w L' e => ?_⟩
    · obtain ⟨σ1, e1, t2, d2, f2⟩ := r1 (by rw [← eX]; exact e)
      rw [e1]
      obtain ⟨σ2, g1, g2⟩ := (m_up hW hh [] (np ω) d σ1 (.int (nI (sz ω))) (by simp) vld_0 t2 d2).1 rfl
      exact ⟨σ2, g1, Fr_t f2 g2⟩
    · obtain ⟨σ2, g1, g2, g3, g4, g5, g6, g7⟩ := r2 w L' (by rw [← eX]; exact e)
      refine ⟨σ2, g1, g2, g3, g4, Or.inr ⟨w, g2, g3, g4, g5, ?_⟩, g7⟩
      rw [g6, upR, List.append_nil]
  · have q : (nI (np ω) = nI (np ω)) = True := eq_true rfl
    rw [b239_0, m_places, TS_pl hW t]
    simp only [Option.bind_some, Option.toList_some, Option.toList_none, List.cons_append, List.nil_append, i01a, i01b, if_true, if_false, b239_8, d0, i10, i01, eq_self, if_true, if_false, true_and, false_and, and_true, and_false, not_true, not_false_iff, true_or, or_true, false_or, or_false, ne_eq, not_true_eq_false, not_false_eq_true]
    have t1 : TS ω h w w.length (pt σ 112 53 (nI (np ω) - 1)) := by
      rw [hw]
      exact ⟨by rw [pt_k (by decide)]; exact t.1, by rw [pt_k (by decide)]; exact t.2.1, by rw [pt_q (by decide)]; exact t.2.2.1, by rw [pt_q (by decide)]; exact t.2.2.2.1, by rw [pt_q (by decide)]; exact t.2.2.2.2⟩
    have F0 : Fr SCY SLY σ (pt σ 112 53 (nI (np ω) - 1)) := Fr_p Fr_r (Or.inr (by decide))
    obtain ⟨u1, u2⟩ := m_up hW hh w 0 d (pt σ 112 53 (nI (np ω) - 1)) .null (by omega) hv t1 (by rw [pt_e, hw])
    refine ⟨fun e => ?_, fun w' L' e => ?_⟩
    · obtain ⟨σ2, g1, g2⟩ := u1 (by rw [← eL]; exact e)
      exact ⟨σ2, g1, Fr_t F0 g2⟩
    · obtain ⟨σ2, g1, g2, g3, g4, g5, g6, g7⟩ := u2 w' L' (by rw [← eL]; exact e)
      exact ⟨σ2, g1, g2, g3, g4, Or.inr ⟨w', g2, g3, g4, g5, g6.symm⟩, Fr_t F0 g7⟩
