/-! L3: the grammar, the class: a condition -/
theorem RC_q {f : Nat → Nat} {C : List Int32} {σ σ' : Sig} {r : PR} {v x : Int32} (h : RC f C σ r v σ') : RC f C σ r v (pt σ' 53 12 x) := by
  cases r with
  | inl y =>
    obtain ⟨k, z⟩ := y
    obtain ⟨a1, a2, a3, C', a4, a5⟩ := h
    exact ⟨a1, by rw [pt_k (by decide)]; exact a2, by rw [pt_k (by decide)]; exact a3, C', CO_k a4 (by rw [pt_q (by decide)]) (by rw [pt_q (by decide)]), a5⟩
  | inr y =>
    obtain ⟨c, j⟩ := y
    obtain ⟨a1, a2, a3, a4, a5⟩ := h
    exact ⟨a1, by rw [pt_k (by decide)]; exact a2, CO_k a3 (by rw [pt_q (by decide)]) (by rw [pt_q (by decide)]), by rw [pt_k (by decide)]; exact a4, by rw [pt_k (by decide)]; exact a5⟩
theorem RC_s {f : Nat → Nat} {C : List Int32} {σ σ1 σ' : Sig} {r : PR} {v : Int32} (h : RC f C σ1 r v σ') (e1 : σ1 53 1 = σ 53 1) (e2 : σ1 53 2 = σ 53 2) : RC f C σ r v σ' := by
  have : RC f (C ++ []) σ1 r v σ' := by rw [List.append_nil]; exact h
  have := RC_p this e1 e2
  rwa [pre_n] at this
theorem c_need (d : Nat) {K V f : Nat → Nat} {N i k : Nat} {C : List Int32} {σ : Sig} (hk : k < 100) (h32 : k ≠ 32) (h : TKb K V f N σ) (e11 : σ 53 11 = nI i) (hi : i ≤ N) (hC : CO C σ) (hl : C.length ≤ 400) :
    ∃ σ' v, Ex (d + 1) 58 0 [.ref 53, .int (nI k)] [] G0 σ = some (some (.int v), G0, σ') ∧ RC f C σ (if K i = k then .inr ([], i + 1) else .inl (1, i)) v σ' ∧ Fr [] [(53, 1), (53, 2), (53, 11)] σ σ' := by
  have hN := h.1
  obtain ⟨k100, e63, e65⟩ := h.2.2.2.1 i hi
  have ti : inb (nI i) 401 = true := inb_n (by omega) (by omega)
  have tc' : (nI i).toNatClampNeg = i := nI_c (by omega)
  have q : (nI (K i) = nI k) = (K i = k) := nJ_e (by omega) (by omega)
  rw [b58_0, b57_0, e11]
  simp only [ti, tc', e63, q, i10, i01, eq_self, if_true, if_false, true_and, false_and, and_true, and_false, not_true, not_false_iff, true_or, or_true, false_or, or_false, ne_eq, not_true_eq_false, not_false_eq_true, nI_s]
  by_cases c : K i = k
  · rw [if_pos c]
    simp only [eq_true c, i10, i01, eq_self, if_true, if_false, true_and, false_and, and_true, and_false, not_true, not_false_iff, true_or, or_true, false_or, or_false, ne_eq, not_true_eq_false, not_false_eq_true, Option.bind_some, Option.toList_some, Option.toList_none, List.cons_append, List.nil_append, i01a, i01b, if_true, if_false, b58_5]
    refine ⟨_, 1, rfl, ⟨rfl, pt_e, ?_, pt_k (by decide), pt_k (by decide)⟩, Fr_p Fr_r (Or.inr (by simp))⟩
    rw [List.append_nil]; exact CO_k hC (by rw [pt_q (by decide)]) (by rw [pt_q (by decide)])
  · rw [if_neg c]
    obtain ⟨s, e1, e2, e3, fr⟩ := c_fail d 1 h e11 hi
    simp only [eq_false c, i10, i01, eq_self, if_true, if_false, true_and, false_and, and_true, and_false, not_true, not_false_iff, true_or, or_true, false_or, or_false, ne_eq, not_true_eq_false, not_false_eq_true, Option.bind_some, Option.toList_some, Option.toList_none, List.cons_append, List.nil_append, i01a, i01b, if_true, if_false, b58_5, e1, b58_13]
    exact ⟨s, 0, rfl, ⟨rfl, e2, e3, C, CO_k hC (fr 54 1 (by simp) (by simp)) (Fr_q fr (by simp) (by simp)), hl⟩, Fr_m fr (by simp) (by simp)⟩
theorem c_con (D : Nat) {K V f : Nat → Nat} {N g q i : Nat} {C : List Int32} {σ : Sig} (hS : SGc K V f N g D q) (hT : TKb K V f N σ) (e11 : σ 53 11 = nI i) (e12 : σ 53 12 = nI (8 - q)) (hi : i ≤ N) (hC : CO C σ) (hl : C.length ≤ i) :
    ∃ σ' v, Ex (D + 1) 49 0 [.ref 53, .int (nI g), .null, .null, .null, .null] [] G0 σ = some (some (.int v), G0, σ') ∧ RC f C σ (pB K (pN K V g q) i) v σ' ∧ σ' 53 12 = σ 53 12 ∧ Fr SCD SLE σ σ' := by
  have hN := hT.1
  obtain ⟨s1, v, e1, r1, h12, f1⟩ := hS i C σ hT e11 e12 hi hC hl
  have T1 := TKb_fr hT f1
  have pok := pN_ok (V := V) (g := g) hT.2.1 q i hi
  rw [b49_0, e1]
  simp only [Option.bind_some, Option.toList_some, Option.toList_none, List.cons_append, List.nil_append, i01a, i01b, if_true, if_false, b49_7]
  unfold pB
  cases hu : pN K V g q i with
  | inl x =>
    rw [hu] at r1
    obtain ⟨x1, x2⟩ := x
    have v0 : v = 0 := r1.1
    obtain ⟨s3, e3, r3, f3⟩ := con_f D (nI g) 0 (w := false) .null r1
    rw [v0]
    exact ⟨s3, 0, e3, r3, by rw [f3 53 12 (by simp) (by simp), h12], Fr_t f1 (Fr_m f3 (by decide) (by decide))⟩
  | inr x =>
    obtain ⟨c, j⟩ := x
    rw [hu] at r1 pok
    obtain ⟨pj, pN'⟩ := pok c j rfl
    obtain ⟨v1', g11, gC, g1, g2⟩ := r1
    obtain ⟨s3, v3, e3, r3, h3, f3⟩ := c_conL D hS N j 0 (C ++ c) s1 false .null 401 (by omega) (by omega) (by omega) T1 g11 (by rw [h12]; exact e12) pN' gC (by rw [List.length_append]; show C.length + c.length + 0 ≤ j; omega)
    rw [v1']
    exact ⟨s3, v3, e3, RC_p r3 g1 g2, by rw [h3, h12], Fr_t f1 f3⟩
theorem c_single {K V f : Nat → Nat} {N g : Nat} (hg : g = 15 ∨ g = 16) : ∀ q d, q ≤ 8 → SGc K V f N g (d + 4 + 2 * q) q := by
  have toE : ∀ s s', Fr SCD SLS s s' → Fr SCD SLE s s' := fun s s' h => Fr_m h (fun _ x => x) (by decide)
  intro q
  induction q with
  | zero =>
    intro d _ i C σ hT e11 e12 hi hC hl
    have hN := hT.1
    obtain ⟨k100, e63, e65⟩ := hT.2.2.2.1 i hi
    have ti : inb (nI i) 401 = true := inb_n (by omega) (by omega)
    have tc' : (nI i).toNatClampNeg = i := nI_c (by omega)
    have v1 : (nI (K i) = 20) = (K i = 20) := nJ_e (b := 20) (by omega) (by omega)
    have v2 : (nI (K i) = 40) = (K i = 40) := nJ_e (b := 40) (by omega) (by omega)
    have e8 : σ 53 12 = 8 := e12
    have q8 : ((8 : Int32) < 8) = False := eq_false (by decide)
    show ∃ σ' v, Ex (d + 3 + 1) 50 0 [.ref 53, .int (nI g), .null, .null] [] G0 σ = _ ∧ _
    rw [b50_0, e11, pN]
    simp only [ti, tc', e63, v1, v2, i10, i01, eq_self, if_true, if_false, true_and, false_and, and_true, and_false, not_true, not_false_iff, true_or, or_true, false_or, or_false, ne_eq, not_true_eq_false, not_false_eq_true]
    by_cases c : K i = 20 ∨ K i = 40
    · rw [if_pos c]
      obtain ⟨s, e1, e2, e3, fr⟩ := c_fail (d + 3) 3 hT e11 hi
      have go : ∀ X : Option Out, (if K i = 20 then Ex (d + 3 + 1) 50 28 [.ref 53, .int (nI g), .int (nI (K i)), .null] [] G0 σ else if K i = 40 then Ex (d + 3 + 1) 50 28 [.ref 53, .int (nI g), .int (nI (K i)), .null] [] G0 σ else X) = Ex (d + 3 + 1) 50 28 [.ref 53, .int (nI g), .int (nI (K i)), .null] [] G0 σ := fun X => by
        rcases c with k | k
        · rw [if_pos k]
        · rw [if_neg (by omega), if_pos k]
      rw [go, b50_28]
      simp only [e8, q8, i10, i01, eq_self, if_true, if_false, true_and, false_and, and_true, and_false, not_true, not_false_iff, true_or, or_true, false_or, or_false, ne_eq, not_true_eq_false, not_false_eq_true, e1, Option.bind_some, Option.toList_some, Option.toList_none, List.cons_append, List.nil_append, i01a, i01b, if_true, if_false, b50_42]
      exact ⟨s, 0, rfl, ⟨rfl, e2, e3, C, CO_k hC (fr 54 1 (by simp) (by simp)) (Fr_q fr (by simp) (by simp)), by omega⟩, (fr 53 12 (by simp) (by simp)).trans e8, Fr_m fr (by decide) (by decide)⟩
    · rw [if_neg c]
      have n1 : ¬ K i = 20 := fun k => c (Or.inl k)
      have n2 : ¬ K i = 40 := fun k => c (Or.inr k)
      obtain ⟨s, v, e1, r1, f1⟩ := c_cmp d hT hg e11 hi hC hl
      have v01 : v = 0 ∨ v = 1 := by
        cases hu : pC K V g i with
        | inl x => rw [hu] at r1; obtain ⟨k, y⟩ := x; exact Or.inl r1.1
        | inr x => rw [hu] at r1; obtain ⟨k, y⟩ := x; exact Or.inr r1.1
      simp only [eq_false n1, eq_false n2, i10, i01, eq_self, if_true, if_false, true_and, false_and, and_true, and_false, not_true, not_false_iff, true_or, or_true, false_or, or_false, ne_eq, not_true_eq_false, not_false_eq_true, e1, Option.bind_some, Option.toList_some, Option.toList_none, List.cons_append, List.nil_append, i01a, i01b, if_true, if_false, b50_27, eq_true v01]
      exact ⟨s, v, rfl, r1, f1 53 12 (by decide) (by decide), toE _ _ f1⟩
  | succ q ih =>
    intro d hq i C σ hT e11 e12 hi hC hl
    have hN := hT.1
    obtain ⟨k100, e63, e65⟩ := hT.2.2.2.1 i hi
    have ti : inb (nI i) 401 = true := inb_n (by omega) (by omega)
    have tc' : (nI i).toNatClampNeg = i := nI_c (by omega)
    have v1 : (nI (K i) = 20) = (K i = 20) := nJ_e (b := 20) (by omega) (by omega)
    have v2 : (nI (K i) = 40) = (K i = 40) := nJ_e (b := 40) (by omega) (by omega)
    have q8 : (nI (8 - (q + 1)) < 8) = True := by
      have : (nI (8 - (q + 1)) < 8) = (8 - (q + 1) < 8) := nJ_lt (b := 8) (by omega) (by omega)
      rw [this]; exact eq_true (by omega)
    have e8 : nI (8 - (q + 1) + 1) = nI (8 - q) := by congr 1; omega
    have e9 : nI (8 - q) - 1 = nI (8 - (q + 1)) := by rw [nI_p1 (by omega)]; congr 1
    have F1 : Fr SCD SLE σ (pt (pt σ 53 12 (nI (8 - q))) 53 11 (nI (i + 1))) := Fr_p (Fr_p Fr_r (Or.inr (by decide))) (Or.inr (by decide))
    have T1 := TKb_fr hT F1
    have C1 : CO C (pt (pt σ 53 12 (nI (8 - q))) 53 11 (nI (i + 1))) := CO_k hC (by rw [pt_q (by decide), pt_q (by decide)]) (by rw [pt_q (by decide), pt_q (by decide)])
    have n11 : pt σ 53 12 (nI (8 - q)) 53 11 = nI i := by rw [pt_k (by decide)]; exact e11
    have n12 : pt (pt σ 53 12 (nI (8 - q))) 53 11 (nI (i + 1)) 53 12 = nI (8 - q) := by rw [pt_k (by decide), pt_e]
    have n1 : pt (pt σ 53 12 (nI (8 - q))) 53 11 (nI (i + 1)) 53 1 = σ 53 1 := by rw [pt_k (by decide), pt_k (by decide)]
    have n2 : pt (pt σ 53 12 (nI (8 - q))) 53 11 (nI (i + 1)) 53 2 = σ 53 2 := by rw [pt_k (by decide), pt_k (by decide)]
    rw [show d + 4 + 2 * (q + 1) = (d + 4 + 2 * q + 1) + 1 by omega, b50_0, e11, pN]
    simp only [ti, tc', e63, v1, v2, i10, i01, eq_self, if_true, if_false, true_and, false_and, and_true, and_false, not_true, not_false_iff, true_or, or_true, false_or, or_false, ne_eq, not_true_eq_false, not_false_eq_true]
    by_cases c20 : K i = 20
    · rw [if_pos c20]
      have lt := kLt hT.2.1 hi (by rw [c20]; decide)
      obtain ⟨s1, v, e1, r1, h12, f1⟩ := ih (d + 1) (by omega) (i + 1) C _ T1 pt_e n12 (by omega) C1 (by omega)
      rw [show d + 1 + 4 + 2 * q = d + 4 + 2 * q + 1 by omega] at e1
      have T2 := TKb_fr T1 f1
      have s12 : s1 53 12 - 1 = nI (8 - (q + 1)) := by rw [h12, n12, e9]
      have pok := pN_ok (V := V) (g := g) hT.2.1 q (i + 1) (by omega)
      simp only [eq_true c20, i10, i01, eq_self, if_true, if_false, true_and, false_and, and_true, and_false, not_true, not_false_iff, true_or, or_true, false_or, or_false, ne_eq, not_true_eq_false, not_false_eq_true, b50_28, e12, q8, v1, nI_s, e8, n11, e1, Option.bind_some, Option.toList_some, Option.toList_none, List.cons_append, List.nil_append, i01a, i01b, if_true, if_false, b50_74]
      cases hu : pN K V g q (i + 1) with
      | inl x =>
        rw [hu] at r1
        have r1' : RC f C σ (.inl x) v s1 := RC_s r1 n1 n2
        obtain ⟨x1, x2⟩ := x
        have v0 : v = 0 := r1.1
        simp only [v0, i10, i01, eq_self, if_true, if_false, true_and, false_and, and_true, and_false, not_true, not_false_iff, true_or, or_true, false_or, or_false, ne_eq, not_true_eq_false, not_false_eq_true]
        rw [v0] at r1'
        exact ⟨_, 0, rfl, RC_q r1', by rw [pt_e, s12], Fr_p (Fr_t F1 f1) (Or.inr (by decide))⟩
      | inr x =>
        obtain ⟨c, j⟩ := x
        rw [hu] at r1 pok
        obtain ⟨pj, pN'⟩ := pok c j rfl
        obtain ⟨v1', g11, gC, g1, g2⟩ := r1
        obtain ⟨s2, e2, hC2, f2⟩ := c_lput (d + 4 + 2 * q + 1) (-21) gC (by rw [List.length_append]; omega)
        have t12 : s2 53 12 - 1 = nI (8 - (q + 1)) := by rw [f2 53 12 (by simp) (by simp), s12]
        simp only [v1', i10, i01, eq_self, if_true, if_false, true_and, false_and, and_true, and_false, not_true, not_false_iff, true_or, or_true, false_or, or_false, ne_eq, not_true_eq_false, not_false_eq_true, e2, Option.bind_some, Option.toList_some, Option.toList_none, List.cons_append, List.nil_append, i01a, i01b, if_true, if_false, b50_86]
        refine ⟨_, 1, rfl, RC_q ⟨rfl, by rw [f2 53 11 (by simp) (by simp)]; exact g11, ?_, by rw [f2 53 1 (by simp) (by simp), g1, n1], by rw [f2 53 2 (by simp) (by simp), g2, n2]⟩, by rw [pt_e, t12], Fr_p (Fr_t F1 (Fr_t f1 (Fr_m f2 (by decide) (by decide)))) (Or.inr (by decide))⟩
        rw [← List.append_assoc]; exact hC2
    · rw [if_neg c20]
      by_cases c40 : K i = 40
      · rw [if_pos c40]
        have lt := kLt hT.2.1 hi (by rw [c40]; decide)
        obtain ⟨s1, v, e1, r1, h12, f1⟩ := c_con (d + 4 + 2 * q) (ih d (by omega)) T1 pt_e n12 (show i + 1 ≤ N by omega) C1 (show C.length ≤ i + 1 by omega)
        have T2 := TKb_fr T1 f1
        have s12 : s1 53 12 - 1 = nI (8 - (q + 1)) := by rw [h12, n12, e9]
        have pok := pB_ok (S := pN K V g q) hT.2.1 (pN_ok (V := V) (g := g) hT.2.1 q) (show i + 1 ≤ N by omega)
        simp only [eq_false c20, eq_true c40, i10, i01, eq_self, if_true, if_false, true_and, false_and, and_true, and_false, not_true, not_false_iff, true_or, or_true, false_or, or_false, ne_eq, not_true_eq_false, not_false_eq_true, b50_28, e12, q8, v1, nI_s, e8, n11, e1, Option.bind_some, Option.toList_some, Option.toList_none, List.cons_append, List.nil_append, i01a, i01b, if_true, if_false, b50_102]
        cases hu : pB K (pN K V g q) (i + 1) with
        | inl x =>
          rw [hu] at r1
          have r1' : RC f C σ (.inl x) v s1 := RC_s r1 n1 n2
          obtain ⟨x1, x2⟩ := x
          have v0 : v = 0 := r1.1
          simp only [v0, i10, i01, eq_self, if_true, if_false, true_and, false_and, and_true, and_false, not_true, not_false_iff, true_or, or_true, false_or, or_false, ne_eq, not_true_eq_false, not_false_eq_true]
          rw [v0] at r1'
          exact ⟨_, 0, rfl, RC_q r1', by rw [pt_e, s12], Fr_p (Fr_t F1 f1) (Or.inr (by decide))⟩
        | inr x =>
          obtain ⟨c, j⟩ := x
          rw [hu] at r1 pok
          obtain ⟨pj, pN'⟩ := pok c j rfl
          obtain ⟨v1', g11, gC, g1, g2⟩ := r1
          obtain ⟨s2, w, e2, r2, f2⟩ := c_need (d + 4 + 2 * q) (k := 41) (by decide) (by decide) T2 g11 pN' gC (by rw [List.length_append]; omega)
          have e2' : Ex (d + 4 + 2 * q + 1) 58 0 [.ref 53, .int 41] [] G0 s1 = some (some (.int w), G0, s2) := e2
          have t12 : s2 53 12 - 1 = nI (8 - (q + 1)) := by rw [f2 53 12 (by simp) (by simp), s12]
          have F2 : Fr SCD SLE σ s2 := Fr_t F1 (Fr_t f1 (Fr_m f2 (by decide) (by decide)))
          simp only [v1', i10, i01, eq_self, if_true, if_false, true_and, false_and, and_true, and_false, not_true, not_false_iff, true_or, or_true, false_or, or_false, ne_eq, not_true_eq_false, not_false_eq_true, e2', Option.bind_some, Option.toList_some, Option.toList_none, List.cons_append, List.nil_append, i01a, i01b, if_true, if_false, b50_111]
          show ∃ σ' v, _ ∧ RC f C σ (if K j = 41 then .inr (c, j + 1) else .inl (1, j)) v σ' ∧ _
          by_cases c41 : K j = 41
          · rw [if_pos c41] at r2 ⊢
            obtain ⟨w1, h11, hC2, h1, h2⟩ := r2
            rw [List.append_nil] at hC2
            simp only [w1, i10, i01, eq_self, if_true, if_false, true_and, false_and, and_true, and_false, not_true, not_false_iff, true_or, or_true, false_or, or_false, ne_eq, not_true_eq_false, not_false_eq_true]
            exact ⟨_, 1, rfl, RC_q ⟨rfl, h11, hC2, by rw [h1, g1, n1], by rw [h2, g2, n2]⟩, by rw [pt_e, t12], Fr_p F2 (Or.inr (by decide))⟩
          · rw [if_neg c41] at r2 ⊢
            have r2' : RC f C σ (.inl (1, j)) w s2 := r2
            have w0 : w = 0 := r2.1
            simp only [w0, i10, i01, eq_self, if_true, if_false, true_and, false_and, and_true, and_false, not_true, not_false_iff, true_or, or_true, false_or, or_false, ne_eq, not_true_eq_false, not_false_eq_true]
            rw [w0] at r2'
            exact ⟨_, 0, rfl, RC_q r2', by rw [pt_e, t12], Fr_p F2 (Or.inr (by decide))⟩
      · rw [if_neg c40]
        obtain ⟨s, v, e1, r1, f1⟩ := c_cmp (d + 2 + 2 * q) hT hg e11 hi hC hl
        rw [show d + 2 + 2 * q + 3 = d + 4 + 2 * q + 1 by omega] at e1
        have v01 : v = 0 ∨ v = 1 := by
          cases hu : pC K V g i with
          | inl x => rw [hu] at r1; obtain ⟨k, y⟩ := x; exact Or.inl r1.1
          | inr x => rw [hu] at r1; obtain ⟨k, y⟩ := x; exact Or.inr r1.1
        simp only [eq_false c20, eq_false c40, i10, i01, eq_self, if_true, if_false, true_and, false_and, and_true, and_false, not_true, not_false_iff, true_or, or_true, false_or, or_false, ne_eq, not_true_eq_false, not_false_eq_true, e1, Option.bind_some, Option.toList_some, Option.toList_none, List.cons_append, List.nil_append, i01a, i01b, if_true, if_false, b50_27, eq_true v01]
        exact ⟨s, v, rfl, r1, f1 53 12 (by decide) (by decide), toE _ _ f1⟩
