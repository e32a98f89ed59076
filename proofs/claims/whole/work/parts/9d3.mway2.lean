/-! L3: the grammar: a WAY; the model: all lines -/
section
variable {b : Nat → Nat} {n N : Nat} {F E : Nat → Nat}
def YA (o : Nat) (ls : List WLn) (σ : Sig) : Prop := ∀ l, l < ls.length → YL (o + 4 * l) (ls.getD l dW) σ
theorem YL_k {a : Nat} {l : WLn} {σ σ' : Sig} (h : YL a l σ) (e : ∀ k, a ≤ k → k < a + 4 → σ' 133 k = σ 133 k) : YL a l σ' := by
  unfold YL
  rw [e a (by omega) (by omega), e (a + 1) (by omega) (by omega), e (a + 2) (by omega) (by omega), e (a + 3) (by omega) (by omega)]; exact h
def RYy (n N : Nat) (F : Nat → Nat) (ls : List WLn) (r : Sum (Nat × Nat) (List WLn)) (v : Int32) (σ' : Sig) : Prop := match r with
  | .inl (k, x) => v = -1 ∧ σ' 112 39 = nI k ∧ σ' 112 40 = nI (fN n N F x)
  | .inr r => v = nI (ls ++ r).length ∧ YA 160 (ls ++ r) σ'
theorem Dy_l {a q k : Nat} (ha : 160 ≤ a) (h : Dy a q k) : Dl q k := by simp only [Dy, Dn, Dl, Da, Ds] at h ⊢; omega
theorem Dn_l {q k : Nat} (h : Dn q k) : Dl q k := by simp only [Dn, Dl, Da, Ds] at h ⊢; omega
theorem m_wayL (d : Nat) {P Bn : Nat} (tk : TOK (fun i => sr (b i)) n N F E) : ∀ m ls i σ, ls.length + m = 40 → MY b n N F E i σ → 2 * (σ 112 7 + 3) = nI P → σ 112 12 = nI Bn → YA 160 ls σ →
    ∃ σ' v, Ex (d + 6) 198 2 [.ref 112, .int (nI ls.length)] [] G0 σ = some (some (.int v), G0, σ') ∧ RYy n N F ls (pWy (kd b N F E) (vN b F E) P Bn m i) v σ' ∧ FX Dl σ σ' := by
  have pre : ∀ i σ, MY b n N F E i σ → kd b N F E i < 100 ∧ (nI (tkM (kd b N F E i)) = 2) = (kd b N F E i < 27) ∧ (nI (tkM (kd b N F E i)) = 0) = (kd b N F E i = 32) ∧ (kd b N F E i < 27 → (nI (pmW (kd b N F E i)) = 10) = (kd b N F E i = 4) ∧ ((21 : Int32) ≤ nI (pmW (kd b N F E i)) ∧ nI (pmW (kd b N F E i)) ≤ 24) = (21 ≤ kd b N F E i ∧ kd b N F E i ≤ 24)) := by
    intro i σ h
    have hr := kd_r b N F E i
    have h100 : kd b N F E i < 100 := by omega
    refine ⟨h100, tk_2 h100, tk_0 h100, fun h27 => ?_⟩
    have a1 : ∀ k, k < 27 → ((nI (pmW k) = 10 ↔ k = 4) ∧ ((21 : Int32) ≤ nI (pmW k) ∧ nI (pmW k) ≤ 24 ↔ 21 ≤ k ∧ k ≤ 24)) := by decide
    exact ⟨propext (a1 _ h27).1, propext (a1 _ h27).2⟩
  have stop : ∀ (ls : List WLn) i σ, MY b n N F E i σ → YA 160 ls σ → ¬ wk (kd b N F E i) → ∃ σ' v, Ex (d + 6) 198 2 [.ref 112, .int (nI ls.length)] [] G0 σ = some (some (.int v), G0, σ') ∧ RYy n N F ls (if kd b N F E i = 32 then .inr [] else .inl (1, i)) v σ' ∧ FX Dl σ σ' := by
    intro ls i σ h hY hw
    obtain ⟨h100, t2, t0, t27⟩ := pre i σ h
    have fin : ∃ σ' v, (if kd b N F E i = 32 then Ex (d + 5 + 1) 198 86 [.ref 112, .int (nI ls.length)] [.int (nI ls.length)] G0 σ else (Ex (d + 5) 179 0 [.ref 112, .int 1] [] G0 σ).bind fun o => Ex (d + 5 + 1) 198 86 [.ref 112, .int (nI ls.length)] (o.1.toList ++ []) o.2.1 o.2.2) = some (some (.int v), G0, σ') ∧ RYy n N F ls (if kd b N F E i = 32 then .inr [] else .inl (1, i)) v σ' ∧ FX Dl σ σ' := by
      by_cases c : kd b N F E i = 32
      · rw [if_pos c, if_pos c, b198_86]
        refine ⟨σ, _, rfl, ?_, FX_r⟩
        show _ ∧ YA 160 (ls ++ []) σ
        rw [List.append_nil]; exact ⟨rfl, hY⟩
      · obtain ⟨s, e, r1, r2, f⟩ := y_f (d + 5) 1 h
        have e' : Ex (d + 5) 179 0 [.ref 112, .int 1] [] G0 σ = some (some (.int (-1)), G0, s) := e
        rw [if_neg c, if_neg c, e']
        simp only [Option.bind_some, Option.toList_some, Option.toList_none, List.cons_append, List.nil_append, i01a, i01b, if_true, if_false, b198_86]
        exact ⟨s, _, rfl, ⟨rfl, r1, r2⟩, FX_m f (fun q k hq => Dn_l hq)⟩
    rw [b198_2, h.2.1.1]
    simp only [t2, t0]
    by_cases c27 : kd b N F E i < 27
    · have c4 : ¬ kd b N F E i = 4 := fun e => hw (Or.inr e)
      have c2 : ¬ (21 ≤ kd b N F E i ∧ kd b N F E i ≤ 24) := fun e => hw (Or.inl e)
      simp only [eq_true c27, h.2.1.2.1 c27, (t27 c27).1, (t27 c27).2, eq_false c4, i10, i01, eq_self, if_true, if_false, true_and, false_and, and_true, and_false, not_true, not_false_iff, true_or, or_true, false_or, or_false, ne_eq, not_true_eq_false, not_false_eq_true, m_isIn, Option.bind_some, Option.toList_some, Option.toList_none, List.cons_append, List.nil_append, i01a, i01b, if_true, if_false, b198_31, bI_z, bI_o, bI_em, ite_not, eq_false c2, h.2.1.1, t0]
      exact fin
    · simp only [eq_false c27, i10, i01, eq_self, if_true, if_false, true_and, false_and, and_true, and_false, not_true, not_false_iff, true_or, or_true, false_or, or_false, ne_eq, not_true_eq_false, not_false_eq_true]
      exact fin
  -- to the line
  have head : ∀ (ls : List WLn) i σ, MY b n N F E i σ → wk (kd b N F E i) → Ex (d + 6) 198 2 [.ref 112, .int (nI ls.length)] [] G0 σ = if nI ls.length = 40 then (Ex (d + 5) 179 0 [.ref 112, .int 3] [] G0 σ).bind fun o => Ex (d + 5 + 1) 198 45 [.ref 112, .int (nI ls.length)] (o.1.toList ++ []) o.2.1 o.2.2 else (Ex (d + 5) 197 0 [.ref 112, .int (160 + 4 * nI ls.length), .null] [] G0 σ).bind fun o => Ex (d + 5 + 1) 198 57 [.ref 112, .int (nI ls.length)] (o.1.toList ++ []) o.2.1 o.2.2 := by
    intro ls i σ h hw
    obtain ⟨h100, t2, t0, t27⟩ := pre i σ h
    have c27 : kd b N F E i < 27 := by unfold wk at hw; omega
    rw [b198_2, h.2.1.1]
    simp only [t2, eq_true c27, h.2.1.2.1 c27, (t27 c27).1, (t27 c27).2, i10, i01, eq_self, if_true, if_false, true_and, false_and, and_true, and_false, not_true, not_false_iff, true_or, or_true, false_or, or_false, ne_eq, not_true_eq_false, not_false_eq_true, m_isIn, Option.bind_some, Option.toList_some, Option.toList_none, List.cons_append, List.nil_append, i01a, i01b, if_true, if_false, b198_31, bI_z, bI_o, bI_em, ite_not]
    by_cases c4 : kd b N F E i = 4
    · simp only [eq_true c4, i10, i01, eq_self, if_true, if_false, true_and, false_and, and_true, and_false, not_true, not_false_iff, true_or, or_true, false_or, or_false, ne_eq, not_true_eq_false, not_false_eq_true]
    · have c2 : 21 ≤ kd b N F E i ∧ kd b N F E i ≤ 24 := by unfold wk at hw; omega
      simp only [eq_false c4, eq_true c2, i10, i01, eq_self, if_true, if_false, true_and, false_and, and_true, and_false, not_true, not_false_iff, true_or, or_true, false_or, or_false, ne_eq, not_true_eq_false, not_false_eq_true]
  intro m
  induction m with
  | zero =>
    intro ls i σ hm h hP hB hY
    rw [pWy]
    by_cases hw : wk (kd b N F E i)
    · have n32 : ¬ kd b N F E i = 32 := by unfold wk at hw; omega
      have q : nI ls.length = 40 := by rw [show ls.length = 40 by omega]; rfl
      obtain ⟨s, e, r1, r2, f⟩ := y_f (d + 5) 3 h
      have e' : Ex (d + 5) 179 0 [.ref 112, .int 3] [] G0 σ = some (some (.int (-1)), G0, s) := e
      rw [head ls i σ h hw, if_neg n32, if_pos hw, if_pos q, e']
      simp only [Option.bind_some, Option.toList_some, Option.toList_none, List.cons_append, List.nil_append, i01a, i01b, if_true, if_false, b198_45]
      exact ⟨s, _, rfl, ⟨rfl, r1, r2⟩, FX_m f (fun q k hq => Dn_l hq)⟩
    · rw [if_neg hw]
      exact stop ls i σ h hY hw
  | succ m ih =>
    intro ls i σ hm h hP hB hY
    rw [pWy]
    by_cases hw : wk (kd b N F E i)
    · have n32 : ¬ kd b N F E i = 32 := by unfold wk at hw; omega
      have q : ¬ nI ls.length = 40 := by
        have : (nI ls.length = 40) = (ls.length = 40) := nJ_e (b := 40) (by omega) (by omega)
        rw [this]; omega
      have ea : (160 : Int32) + 4 * nI ls.length = nI (160 + 4 * ls.length) := by
        rw [show (4 : Int32) * nI ls.length = nI (4 * ls.length) from nI_mul' 4 ls.length]; exact nI_add 160 _
      have n0 : ((0 : Int32) = -1) = False := eq_false (by decide)
      obtain ⟨s1, v, e1, r1, f1⟩ := y_line d (a := 160 + 4 * ls.length) tk ⟨by omega, by omega⟩ hw hP hB h
      have F1 : FX Dl σ s1 := FX_m f1 (fun q k hq => Dy_l (by omega) hq)
      rw [head ls i σ h hw, if_neg n32, if_pos hw, if_neg q, ea, e1]
      simp only [Option.bind_some, Option.toList_some, Option.toList_none, List.cons_append, List.nil_append, i01a, i01b, if_true, if_false, b198_57]
      cases hu : pWl (kd b N F E) (vN b F E) P Bn (kd b N F E i) (i + 1) with
      | inl x =>
        rw [hu] at r1
        obtain ⟨x1, x2⟩ := x
        simp only [r1.1, i10, i01, eq_self, if_true, if_false, true_and, false_and, and_true, and_false, not_true, not_false_iff, true_or, or_true, false_or, or_false, ne_eq, not_true_eq_false, not_false_eq_true]
        exact ⟨s1, _, rfl, ⟨rfl, r1.2.1, r1.2.2⟩, F1⟩
      | inr x =>
        obtain ⟨l, j⟩ := x
        rw [hu] at r1
        have r1' : if kd b N F E j = 59 then v = 0 ∧ MY b n N F E (j + 1) s1 ∧ YL (160 + 4 * ls.length) l s1 else v = -1 ∧ s1 112 39 = nI 1 ∧ s1 112 40 = nI (fN n N F j) := r1
        by_cases c59 : kd b N F E j = 59
        · rw [if_pos c59] at r1'
          obtain ⟨v0, m1, y1⟩ := r1'
          have el : (ls ++ [l]).length = ls.length + 1 := by rw [List.length_append]; rfl
          have Y1 : YA 160 (ls ++ [l]) s1 := by
            intro k hk
            by_cases c : k < ls.length
            · rw [gw_l c]
              exact YL_k (hY k c) (fun x h1 h2 => f1 133 x (by simp only [Dy, Dn]; omega))
            · rw [show k = ls.length by omega, gw_r]; exact y1
          obtain ⟨s2, w, e2, r2, f2⟩ := ih (ls ++ [l]) (j + 1) s1 (by omega) m1 (by rw [f1 112 7 (by simp only [Dy, Dn]; omega)]; exact hP) (by rw [f1 112 12 (by simp only [Dy, Dn]; omega)]; exact hB) Y1
          rw [el] at e2
          simp only [v0, n0, i10, i01, eq_self, if_true, if_false, true_and, false_and, and_true, and_false, not_true, not_false_iff, true_or, or_true, false_or, or_false, ne_eq, not_true_eq_false, not_false_eq_true, nI_s, e2, eq_true c59]
          refine ⟨s2, w, rfl, ?_, FX_t F1 f2⟩
          cases hv : pWy (kd b N F E) (vN b F E) P Bn m (j + 1) with
          | inl y => rw [hv] at r2; exact r2
          | inr r =>
            rw [hv] at r2
            have ea : ls ++ [l] ++ r = ls ++ l :: r := by rw [List.append_assoc]; rfl
            obtain ⟨a1, a2⟩ := r2
            rw [ea] at a1 a2
            exact ⟨a1, a2⟩
        · rw [if_neg c59] at r1'
          simp only [r1'.1, i10, i01, eq_self, if_true, if_false, true_and, false_and, and_true, and_false, not_true, not_false_iff, true_or, or_true, false_or, or_false, ne_eq, not_true_eq_false, not_false_eq_true, eq_false c59]
          exact ⟨s1, _, rfl, ⟨rfl, r1'.2.1, r1'.2.2⟩, F1⟩
    · rw [if_neg hw]
      exact stop ls i σ h hY hw
theorem m_readWay (d : Nat) {P Bn : Nat} {σ : Sig} (tk : TOK (fun i => sr (b i)) n N F E) (h : MY b n N F E 0 σ) (hP : 2 * (σ 112 7 + 3) = nI P) (hB : σ 112 12 = nI Bn) :
    ∃ σ' v, Ex (d + 6) 198 0 [.ref 112, .null] [] G0 σ = some (some (.int v), G0, σ') ∧ RYy n N F [] (pWy (kd b N F E) (vN b F E) P Bn 40 0) v σ' ∧ FX Dl σ σ' := by
  obtain ⟨s, v, e, r, f⟩ := m_wayL d tk 40 [] 0 σ rfl h hP hB (fun l hl => absurd hl (Nat.not_lt_zero l))
  rw [b198_0]
  exact ⟨s, v, e, r, f⟩
end
theorem m_takesWay (d : Nat) {ls : List WLn} {σ : Sig} (hY : YA 160 ls σ) (h4 : ls.length ≤ 40) :
    ∃ σ', Ex d 199 0 [.ref 112, .int (nI ls.length), .null] [] G0 σ = some (none, G0, σ') ∧ YA 0 ls σ' ∧ σ' 112 43 = nI ls.length ∧ σ' 113 5 = 0 ∧ σ' 113 6 = 0 ∧ σ' 112 3 = 0 ∧ FX (fun q k => (q = 133 ∧ k < 160) ∨ (q = 112 ∧ (k = 43 ∨ k = 3)) ∨ (q = 113 ∧ (k = 5 ∨ k = 6))) σ σ' := by
  rw [b199_0]
  have e4 : (4 : Int32) * nI ls.length = nI (4 * ls.length) := nI_mul' 4 ls.length
  obtain ⟨s1, e1, f1, a1⟩ := loop_ex (fun k (s : Sig) => Ex d 199 2 [.ref 112, .int (nI ls.length), .int (nI k)] [] G0 s) (fun k s => FX (fun q i => q = 133 ∧ i < 160) σ s ∧ ∀ i, i < k → s 133 i = σ 133 (160 + i)) (4 * ls.length) σ ⟨FX_r, fun i hi => absurd hi (Nat.not_lt_zero i)⟩ (by
    rintro k s hk ⟨f, a⟩
    show ∃ s', Ex d 199 2 [.ref 112, .int (nI ls.length), .int (nI k)] [] G0 s = _ ∧ _
    have q : (nI (4 * ls.length) ≤ nI k) = False := by rw [nJ_le (by omega) (by omega)]; exact eq_false (by omega)
    have e16 : (160 : Int32) + nI k = nI (160 + k) := nI_add 160 k
    rw [b199_2]
    simp only [e4, q, i10, i01, eq_self, if_true, if_false, true_and, false_and, and_true, and_false, not_true, not_false_iff, true_or, or_true, false_or, or_false, ne_eq, not_true_eq_false, not_false_eq_true, e16, inb_n (show 160 + k < 320 by omega) (show 160 + k < 2 ^ 31 by omega), inb_n (show k < 320 by omega) (show k < 2 ^ 31 by omega), nI_c (show 160 + k < 2 ^ 31 by omega), nI_c (show k < 2 ^ 31 by omega), b199_25, nI_s]
    refine ⟨_, rfl, FX_p f ⟨rfl, by omega⟩, fun i hi => ?_⟩
    by_cases e : i = k
    · subst e; rw [pt_e]; exact f 133 _ (by omega)
    · rw [pt_k e]; exact a i (by omega))
  rw [show Ex d 199 2 [.ref 112, .int (nI ls.length), .int 0] [] G0 σ = _ from e1]
  show ∃ σ', Ex d 199 2 [.ref 112, .int (nI ls.length), .int (nI (4 * ls.length))] [] G0 s1 = _ ∧ _
  have q : (nI (4 * ls.length) ≤ nI (4 * ls.length)) = True := by rw [nJ_le (by omega) (by omega)]; exact eq_true (by omega)
  rw [b199_2]
  simp only [e4, q, i10, i01, eq_self, if_true, if_false, true_and, false_and, and_true, and_false, not_true, not_false_iff, true_or, or_true, false_or, or_false, ne_eq, not_true_eq_false, not_false_eq_true, b199_36]
  refine ⟨_, rfl, fun l hl => ?_, ?_, ?_, ?_, pt_e, FX_p (FX_p (FX_p (FX_p (FX_m f1 (fun q k hq => Or.inl hq)) (Or.inr (Or.inl ⟨rfl, Or.inl rfl⟩))) (Or.inr (Or.inr ⟨rfl, Or.inl rfl⟩))) (Or.inr (Or.inr ⟨rfl, Or.inr rfl⟩))) (Or.inr (Or.inl ⟨rfl, Or.inr rfl⟩))⟩
  · have h0 := hY l hl
    unfold YL at h0 ⊢
    rw [pt_q (by decide), pt_q (by decide), pt_q (by decide), pt_q (by decide)]
    rw [show 0 + 4 * l = 4 * l by omega, a1 _ (by omega), a1 _ (by omega), a1 _ (by omega), a1 _ (by omega)]
    exact h0
  · rw [pt_k (by decide), pt_q (by decide), pt_q (by decide), pt_e]
  · rw [pt_q (by decide), pt_k (by decide), pt_e]
  · rw [pt_q (by decide), pt_e]
