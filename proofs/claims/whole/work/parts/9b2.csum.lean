/-! L3: the grammar, the class: unit, sum -/
/-- the table of tokens as the parser sees it -/
def TKb (K V f : Nat → Nat) (N : Nat) (σ : Sig) : Prop := N ≤ 400 ∧ endK K N ∧ (∀ t, t < N → K t ≠ 32) ∧ (∀ t, t ≤ N → K t < 100 ∧ σ 63 t = nI (K t) ∧ σ 65 t = nI (f t)) ∧ (∀ t, t ≤ N → K t = 30 → V t ≤ 9999 ∧ σ 64 t = nI (V t))
def CO (C : List Int32) (σ : Sig) : Prop := σ 54 1 = nI C.length ∧ ∀ i, i < C.length → σ 55 i = C.getD i 0
def SCD : List Nat := [55]
def SLE : List (Nat × Nat) := [(53, 1), (53, 2), (53, 11), (53, 12), (53, 13), (54, 1)]
theorem TKb_fr {K V f : Nat → Nat} {N : Nat} {σ σ' : Sig} (h : TKb K V f N σ) (g : Fr SCD SLE σ σ') : TKb K V f N σ' := by
  obtain ⟨a, b, c, d, e⟩ := h
  have e63 : σ' 63 = σ 63 := Fr_q g (by decide) (by decide)
  have e64 : σ' 64 = σ 64 := Fr_q g (by decide) (by decide)
  have e65 : σ' 65 = σ 65 := Fr_q g (by decide) (by decide)
  refine ⟨a, b, c, ?_, ?_⟩
  · rw [e63, e65]; exact d
  · rw [e64]; exact e
theorem CO_n {C : List Int32} {σ : Sig} {v : Int32} (h : CO C σ) : CO (C ++ [v]) (pt (pt σ 55 C.length v) 54 1 (nI (C.length + 1))) := by
  obtain ⟨h1, h2⟩ := h
  refine ⟨by rw [pt_e, List.length_append]; rfl, fun i hi => ?_⟩
  rw [pt_q (by decide)]
  by_cases e : i = C.length
  · subst e; rw [pt_e, gd_r (Nat.le_refl _), Nat.sub_self]; rfl
  · have : i < C.length := by rw [List.length_append] at hi; simp at hi; omega
    rw [pt_k e, gd_l this]; exact h2 i this
theorem CO_k {C : List Int32} {σ σ' : Sig} (h : CO C σ) (e1 : σ' 54 1 = σ 54 1) (e2 : σ' 55 = σ 55) : CO C σ' := ⟨e1.trans h.1, by rw [e2]; exact h.2⟩
theorem c_lput (d : Nat) {C : List Int32} {σ : Sig} (v : Int32) (h : CO C σ) (hl : C.length < 400) : ∃ σ', Ex d 23 0 [.ref 54, .int v] [] G0 σ = some (some (.int 1), G0, σ') ∧ CO (C ++ [v]) σ' ∧ Fr [55] [(54, 1)] σ σ' := by
  have q : ((400 : Int32) ≤ nI C.length) = False := by
    have : ((400 : Int32) ≤ nI C.length) = (400 ≤ C.length) := nJ_le (a := 400) (by omega) (by omega)
    rw [this]; exact eq_false (by omega)
  have p1 : pt σ 55 C.length v 54 1 = nI C.length := by rw [pt_q (by decide)]; exact h.1
  rw [b23_0, h.1]
  simp only [q, i10, i01, eq_self, if_true, if_false, true_and, false_and, and_true, and_false, not_true, not_false_iff, true_or, or_true, false_or, or_false, ne_eq, not_true_eq_false, not_false_eq_true, inb_n hl (show C.length < 2 ^ 31 by omega), nI_c (show C.length < 2 ^ 31 by omega), p1, nI_s]
  exact ⟨_, rfl, CO_n h, Fr_p (Fr_p Fr_r (Or.inl (by simp))) (Or.inr (by simp))⟩
theorem c_fail (d : Nat) {K V f : Nat → Nat} {N i : Nat} {σ : Sig} (v : Int32) (h : TKb K V f N σ) (e11 : σ 53 11 = nI i) (hi : i ≤ N) : ∃ σ', Ex d 59 0 [.ref 53, .int v] [] G0 σ = some (some (.int 0), G0, σ') ∧ σ' 53 1 = v ∧ σ' 53 2 = nI (f i) ∧ Fr [] [(53, 1), (53, 2)] σ σ' := by
  obtain ⟨a, b, c, d', e⟩ := h
  have p1 : pt σ 53 1 v 53 11 = nI i := by rw [pt_k (by decide)]; exact e11
  have p2 : pt σ 53 1 v 65 i = nI (f i) := by rw [pt_q (by decide)]; exact (d' i hi).2.2
  rw [b59_0]
  simp only [p1, inb_n (show i < 401 by omega) (show i < 2 ^ 31 by omega), nI_c (show i < 2 ^ 31 by omega), p2, i10, i01, eq_self, if_true, if_false, true_and, false_and, and_true, and_false, not_true, not_false_iff, true_or, or_true, false_or, or_false, ne_eq, not_true_eq_false, not_false_eq_true]
  exact ⟨_, rfl, by rw [pt_k (by decide), pt_e], pt_e, Fr_p (Fr_p Fr_r (Or.inr (by simp))) (Or.inr (by simp))⟩
/-- what a piece of the parser leaves -/
def RC (f : Nat → Nat) (C : List Int32) (σ : Sig) (r : PR) (v : Int32) (σ' : Sig) : Prop := match r with
  | .inl (k, x) => v = 0 ∧ σ' 53 1 = nI k ∧ σ' 53 2 = nI (f x) ∧ ∃ C' : List Int32, CO C' σ' ∧ C'.length ≤ 400
  | .inr (c, j) => v = 1 ∧ σ' 53 11 = nI j ∧ CO (C ++ c) σ' ∧ σ' 53 1 = σ 53 1 ∧ σ' 53 2 = σ 53 2
theorem c_unit (d : Nat) {K V f : Nat → Nat} {N i g : Nat} {C : List Int32} {σ : Sig} (h : TKb K V f N σ) (hg : g = 15 ∨ g = 16) (e11 : σ 53 11 = nI i) (hi : i ≤ N) (hC : CO C σ) (hl : C.length ≤ i) :
    ∃ σ' v, Ex (d + 1) 53 0 [.ref 53, .int (nI g), .null] [] G0 σ = some (some (.int v), G0, σ') ∧ RC f C σ (pU K V g i) v σ' ∧ Fr SCD [(53, 1), (53, 2), (53, 11), (54, 1)] σ σ' := by
  have hN := h.1
  obtain ⟨k100, e63, e65⟩ := h.2.2.2.1 i hi
  have ti : inb (nI i) 401 = true := inb_n (by omega) (by omega)
  have tc' : (nI i).toNatClampNeg = i := nI_c (by omega)
  have q30 : (nI (K i) = 30) = (K i = 30) := nJ_e (b := 30) (by omega) (by omega)
  have q10 : (nI (K i) < 10) = (K i < 10) := nJ_lt (b := 10) (by omega) (by omega)
  have qe10 : (nI (K i) = 10) = (K i = 10) := nJ_e (b := 10) (by omega) (by omega)
  have q11 : ((11 : Int32) ≤ nI (K i) ∧ nI (K i) ≤ 14) = (11 ≤ K i ∧ K i ≤ 14) := in_le (a := 11) (b := 14) (by omega) (by omega) (by omega)
  have qg15 : (nI g = 15) = (g = 15) := nJ_e (b := 15) (by omega) (by omega)
  have qg16 : (nI g = 16) = (g = 16) := nJ_e (b := 16) (by omega) (by omega)
  rw [b53_0, e11]
  simp only [ti, tc', e63, q30, q10, qe10, qg15, i10, i01, eq_self, if_true, if_false, true_and, false_and, and_true, and_false, not_true, not_false_iff, true_or, or_true, false_or, or_false, ne_eq, not_true_eq_false, not_false_eq_true, c_within, Option.bind_some, Option.toList_some, Option.toList_none, List.cons_append, List.nil_append, i01a, i01b, if_true, if_false, b53_62, bI_z, bI_o, bI_em, ite_not, q11, qg16]
  have good : ∀ (v : Int32) (s' : Sig), CO (C ++ [v]) s' → Fr [55] [(54, 1)] σ s' → RC f C σ (.inr ([v], i + 1)) 1 (pt s' 53 11 (s' 53 11 + 1)) ∧ Fr SCD [(53, 1), (53, 2), (53, 11), (54, 1)] σ (pt s' 53 11 (s' 53 11 + 1)) := by
    intro v s' hc fr
    have e : s' 53 11 = nI i := by rw [fr 53 11 (by simp) (by simp)]; exact e11
    refine ⟨⟨rfl, by rw [pt_e, e, nI_s], CO_k hc (by rw [pt_q (by decide)]) (by rw [pt_q (by decide)]), by rw [pt_k (by decide), fr 53 1 (by simp) (by simp)], by rw [pt_k (by decide), fr 53 2 (by simp) (by simp)]⟩, Fr_p (Fr_m fr (by decide) (by decide)) (Or.inr (by simp))⟩
  have bad : ∀ d, ∃ σ' v, (Ex d 59 0 [.ref 53, .int 1] [] G0 σ).bind (fun o => Ex (d + 1) 53 90 [.ref 53, .int (nI g), .int (nI (K i))] (o.1.toList ++ []) o.2.1 o.2.2) = some (some (.int v), G0, σ') ∧ RC f C σ (.inl (1, i)) v σ' ∧ Fr SCD [(53, 1), (53, 2), (53, 11), (54, 1)] σ σ' := by
    intro d
    obtain ⟨s', e1, e2, e3, fr⟩ := c_fail d 1 h e11 hi
    rw [e1]
    simp only [Option.bind_some, Option.toList_some, Option.toList_none, List.cons_append, List.nil_append, i01a, i01b, if_true, if_false, b53_90]
    exact ⟨s', 0, rfl, ⟨rfl, e2, e3, C, CO_k hC (fr 54 1 (by simp) (by simp)) (Fr_q fr (by simp) (by simp)), by omega⟩, Fr_m fr (by simp) (by simp)⟩
  unfold pU
  by_cases c30 : K i = 30
  · have lt := kLt h.2.1 hi (by rw [c30]; decide)
    obtain ⟨s', e1, e2, fr⟩ := c_lput d (nI (V i)) hC (show C.length < 400 by omega)
    rw [if_pos c30]
    simp only [eq_true c30, i10, i01, eq_self, if_true, if_false, true_and, false_and, and_true, and_false, not_true, not_false_iff, true_or, or_true, false_or, or_false, ne_eq, not_true_eq_false, not_false_eq_true, (h.2.2.2.2 i hi c30).2, e1, Option.bind_some, Option.toList_some, Option.toList_none, List.cons_append, List.nil_append, i01a, i01b, if_true, if_false, b53_32]
    exact ⟨_, 1, rfl, (good _ s' e2 fr).1, (good _ s' e2 fr).2⟩
  · rw [if_neg c30]
    by_cases ca : askP g (K i)
    · have lt := kLt h.2.1 hi (fun e => askP_32 (e ▸ ca))
      obtain ⟨s', e1, e2, fr⟩ := c_lput d (-1 - nI (K i)) hC (show C.length < 400 by omega)
      have fin := good _ s' e2 fr
      rw [if_pos ca]
      rcases ca with c | ⟨c, cg⟩ | ⟨c, cg⟩
      · simp only [eq_false c30, eq_true c, i10, i01, eq_self, if_true, if_false, true_and, false_and, and_true, and_false, not_true, not_false_iff, true_or, or_true, false_or, or_false, ne_eq, not_true_eq_false, not_false_eq_true, e1, Option.bind_some, Option.toList_some, Option.toList_none, List.cons_append, List.nil_append, i01a, i01b, if_true, if_false, b53_81]
        exact ⟨_, 1, rfl, fin.1, fin.2⟩
      · have c' : ¬ K i < 10 := by omega
        simp only [eq_false c30, eq_false c', eq_true c, eq_true cg, i10, i01, eq_self, if_true, if_false, true_and, false_and, and_true, and_false, not_true, not_false_iff, true_or, or_true, false_or, or_false, ne_eq, not_true_eq_false, not_false_eq_true, e1, Option.bind_some, Option.toList_some, Option.toList_none, List.cons_append, List.nil_append, i01a, i01b, if_true, if_false, b53_81]
        exact ⟨_, 1, rfl, fin.1, fin.2⟩
      · have c' : ¬ K i < 10 := by omega
        have c2 : ¬ K i = 10 := by omega
        simp only [eq_false c30, eq_false c', eq_false c2, eq_true c, eq_true cg, i10, i01, eq_self, if_true, if_false, true_and, false_and, and_true, and_false, not_true, not_false_iff, true_or, or_true, false_or, or_false, ne_eq, not_true_eq_false, not_false_eq_true, e1, Option.bind_some, Option.toList_some, Option.toList_none, List.cons_append, List.nil_append, i01a, i01b, if_true, if_false, b53_81]
        exact ⟨_, 1, rfl, fin.1, fin.2⟩
    · rw [if_neg ca]
      have n1 : ¬ K i < 10 := fun e => ca (Or.inl e)
      by_cases c2 : K i = 10
      · have ng : ¬ g = 15 := fun e => ca (Or.inr (Or.inl ⟨c2, e⟩))
        have n3 : ¬ (11 ≤ K i ∧ K i ≤ 14) := by omega
        simp only [eq_false c30, eq_false n1, eq_true c2, eq_false ng, eq_false n3, i10, i01, eq_self, if_true, if_false, true_and, false_and, and_true, and_false, not_true, not_false_iff, true_or, or_true, false_or, or_false, ne_eq, not_true_eq_false, not_false_eq_true]
        exact bad d
      · by_cases c3 : 11 ≤ K i ∧ K i ≤ 14
        · have ng : ¬ g = 16 := fun e => ca (Or.inr (Or.inr ⟨c3, e⟩))
          simp only [eq_false c30, eq_false n1, eq_false c2, eq_true c3, eq_false ng, i10, i01, eq_self, if_true, if_false, true_and, false_and, and_true, and_false, not_true, not_false_iff, true_or, or_true, false_or, or_false, ne_eq, not_true_eq_false, not_false_eq_true]
          exact bad d
        · simp only [eq_false c30, eq_false n1, eq_false c2, eq_false c3, i10, i01, eq_self, if_true, if_false, true_and, false_and, and_true, and_false, not_true, not_false_iff, true_or, or_true, false_or, or_false, ne_eq, not_true_eq_false, not_false_eq_true]
          exact bad d
