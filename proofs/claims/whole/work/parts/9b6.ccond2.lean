/-! L3: the grammar, the class: and, or -/
def SGc (K V f : Nat → Nat) (N g D q : Nat) : Prop := ∀ i C σ, TKb K V f N σ → σ 53 11 = nI i → σ 53 12 = nI (8 - q) → i ≤ N → CO C σ → C.length ≤ i → ∃ σ' v, Ex D 50 0 [.ref 53, .int (nI g), .null, .null] [] G0 σ = some (some (.int v), G0, σ') ∧ RC f C σ (pN K V g q i) v σ' ∧ σ' 53 12 = σ 53 12 ∧ Fr SCD SLE σ σ'
theorem RC_put (d : Nat) {f : Nat → Nat} {C : List Int32} {σ σ1 : Sig} {x : Nat × Nat} {v : Int32} (u : Int32) (h : RC f C σ (.inl x) v σ1) : ∃ σ', Ex d 23 0 [.ref 54, .int u] [] G0 σ1 = some (some (.int 1), G0, σ') ∧ RC f C σ (.inl x) v σ' ∧ Fr [55] [(54, 1)] σ1 σ' := by
  obtain ⟨k, y⟩ := x
  obtain ⟨h0, h1, h2, C', hC, hl⟩ := h
  obtain ⟨s, C2, e, hC2, hl2, fr⟩ := c_lput' d u hC hl
  exact ⟨s, e, ⟨h0, by rw [fr 53 1 (by simp) (by simp)]; exact h1, by rw [fr 53 2 (by simp) (by simp)]; exact h2, C2, hC2, hl2⟩, fr⟩
theorem c_conL (D : Nat) {K V f : Nat → Nat} {N g q : Nat} (hS : SGc K V f N g D q) : ∀ m i turn C σ w a5 fu, N - i ≤ m → turn + (N - i) ≤ 400 → N - i < fu → TKb K V f N σ → σ 53 11 = nI i → σ 53 12 = nI (8 - q) → i ≤ N → CO C σ → C.length + (bC w).length ≤ i →
    ∃ σ' v, Ex (D + 1) 49 11 [.ref 53, .int (nI g), .int (bV w), .int 1, .int (nI turn), a5] [] G0 σ = some (some (.int v), G0, σ') ∧ RC f C σ (pBl K (pN K V g q) fu w i) v σ' ∧ σ' 53 12 = σ 53 12 ∧ Fr SCD SLE σ σ' := by
  intro m
  induction m with
  | zero =>
    intro i turn C σ w a5 fu hm ht hfu hT e11 e12 hi hC hl
    have eN : i = N := by omega
    have k32 : K i = 32 := by rw [eN]; exact hT.2.1
    obtain ⟨fu, rfl⟩ : ∃ x, fu = x + 1 := ⟨fu - 1, by omega⟩
    have hN := hT.1
    obtain ⟨k100, e63, e65⟩ := hT.2.2.2.1 i hi
    have ti : inb (nI i) 401 = true := inb_n (by omega) (by omega)
    have tc' : (nI i).toNatClampNeg = i := nI_c (by omega)
    have v1 : (nI (K i) = 19) = False := eq_false (by rw [k32]; decide)
    have v2 : (nI (K i) = 18) = False := eq_false (by rw [k32]; decide)
    have eP : pBl K (pN K V g q) (fu + 1) w i = .inr (bC w, i) := by rw [pBl, if_neg (by omega), if_neg (by omega)]; rfl
    rw [eP, b49_11]
    simp only [i10, i10, i01, eq_self, if_true, if_false, true_and, false_and, and_true, and_false, not_true, not_false_iff, true_or, or_true, false_or, or_false, ne_eq, not_true_eq_false, not_false_eq_true, e11, ti, tc', e63, v1, v2, bV_0, Option.bind_some, Option.toList_some, Option.toList_none, List.cons_append, List.nil_append, i01a, i01b, if_true, if_false, ite_self]
    obtain ⟨s, e, r, fr⟩ := con_e D (f := f) e11 hC hl (by omega) (nI g) (nI turn) a5
    exact ⟨s, 1, e, r, fr 53 12 (by simp) (by simp), Fr_m fr (by decide) (by decide)⟩
  | succ m ih =>
    intro i turn C σ w a5 fu hm ht hfu hT e11 e12 hi hC hl
    by_cases dn : N - i ≤ m
    · exact ih i turn C σ w a5 fu dn ht hfu hT e11 e12 hi hC hl
    have lt : i < N := by omega
    obtain ⟨fu, rfl⟩ : ∃ x, fu = x + 1 := ⟨fu - 1, by omega⟩
    have hN := hT.1
    obtain ⟨k100, e63, e65⟩ := hT.2.2.2.1 i hi
    have ti : inb (nI i) 401 = true := inb_n (by omega) (by omega)
    have tc' : (nI i).toNatClampNeg = i := nI_c (by omega)
    have q4 : ((400 : Int32) ≤ nI turn) = False := by
      have : ((400 : Int32) ≤ nI turn) = (400 ≤ turn) := nJ_le (a := 400) (by omega) (by omega)
      rw [this]; exact eq_false (by omega)
    have v1 : (nI (K i) = 19) = (K i = 19) := nJ_e (b := 19) (by omega) (by omega)
    have v2 : (nI (K i) = 18) = (K i = 18) := nJ_e (b := 18) (by omega) (by omega)
    have F1 : Fr SCD SLE σ (pt σ 53 11 (nI (i + 1))) := Fr_p Fr_r (Or.inr (by decide))
    have T1 : TKb K V f N (pt σ 53 11 (nI (i + 1))) := TKb_fr hT F1
    have C1 : CO C (pt σ 53 11 (nI (i + 1))) := CO_k hC (by rw [pt_q (by decide)]) (by rw [pt_q (by decide)])
    have n11 : pt σ 53 11 (nI (i + 1)) 53 11 = nI (i + 1) := pt_e
    have n12 : pt σ 53 11 (nI (i + 1)) 53 12 = nI (8 - q) := by rw [pt_k (by decide)]; exact e12
    have n1 : pt σ 53 11 (nI (i + 1)) 53 1 = σ 53 1 := pt_k (by decide)
    have n2 : pt σ 53 11 (nI (i + 1)) 53 2 = σ 53 2 := pt_k (by decide)
    have pok := pN_ok (V := V) (g := g) hT.2.1 q (i + 1) (by omega)
    rw [b49_11]
    simp only [i10, i10, i01, eq_self, if_true, if_false, true_and, false_and, and_true, and_false, not_true, not_false_iff, true_or, or_true, false_or, or_false, ne_eq, not_true_eq_false, not_false_eq_true, q4, e11, ti, tc', e63, v1, v2, bV_0, Option.bind_some, Option.toList_some, Option.toList_none, List.cons_append, List.nil_append, i01a, i01b, if_true, if_false]
    by_cases k19 : K i = 19
    · have eP : pBl K (pN K V g q) (fu + 1) w i = bnd (pN K V g q (i + 1)) (fun c j => pre (c ++ [-20]) (pBl K (pN K V g q) fu w j)) := by rw [pBl, if_pos k19]
      rw [eP]
      obtain ⟨s1, v, e1, r1, h12, f1⟩ := hS (i + 1) C _ T1 n11 n12 (by omega) C1 (by omega)
      have T2 := TKb_fr T1 f1
      have same : ∀ (a5 : Value), Ex (D + 1) 49 101 [.ref 53, .int (nI g), .int (bV w), .int 1, .int (nI turn), .int 1] [] G0 (pt σ 53 11 (nI (i + 1))) = Ex (D + 1) 49 121 [.ref 53, .int (nI g), .int (bV w), .int 1, .int (nI turn), .int 1] [.int v] G0 s1 := by
        intro _
        rw [b49_101, e1]
        cases w
        · simp only [show bV false = 0 from rfl, i10, i10, i01, eq_self, if_true, if_false, true_and, false_and, and_true, and_false, not_true, not_false_iff, true_or, or_true, false_or, or_false, ne_eq, not_true_eq_false, not_false_eq_true, Option.bind_some, Option.toList_some, Option.toList_none, List.cons_append, List.nil_append, i01a, i01b, if_true, if_false]
        · simp only [show bV true = 1 from rfl, i10, i10, i01, eq_self, if_true, if_false, true_and, false_and, and_true, and_false, not_true, not_false_iff, true_or, or_true, false_or, or_false, ne_eq, not_true_eq_false, not_false_eq_true, Option.bind_some, Option.toList_some, Option.toList_none, List.cons_append, List.nil_append, i01a, i01b, if_true, if_false]
      simp only [eq_true k19, i10, i01, eq_self, if_true, if_false, true_and, false_and, and_true, and_false, not_true, not_false_iff, true_or, or_true, false_or, or_false, ne_eq, not_true_eq_false, not_false_eq_true, b49_65, b49_70, i10, e11, nI_s, same .null, b49_121]
      cases hu : pN K V g q (i + 1) with
      | inl x =>
        rw [hu] at r1
        obtain ⟨x1, x2⟩ := x
        have v0 : v = 0 := r1.1
        have rr : RC f C σ (.inl (x1, x2)) v s1 := r1
        obtain ⟨s2, e2, r2, f2⟩ := RC_put D (-20) rr
        obtain ⟨s3, e3, r3, f3⟩ := con_f D (nI g) (nI (turn + 1)) (w := w) (.int 1) r2
        simp only [e2, Option.bind_some, Option.toList_some, Option.toList_none, List.cons_append, List.nil_append, i01a, i01b, if_true, if_false, b49_136, v0, nI_s, e3]
        exact ⟨s3, 0, rfl, r3, by rw [f3 53 12 (by simp) (by simp), f2 53 12 (by simp) (by simp), h12, n12, e12], Fr_t F1 (Fr_t f1 (Fr_t (Fr_m f2 (by decide) (by decide)) (Fr_m f3 (by decide) (by decide))))⟩
      | inr x =>
        obtain ⟨c, j⟩ := x
        rw [hu] at r1 pok
        obtain ⟨pj, pN'⟩ := pok c j rfl
        obtain ⟨v1', g11, gC, g1, g2⟩ := r1
        obtain ⟨s2, e2, hC2, f2⟩ := c_lput D (-20) gC (by rw [List.length_append]; omega)
        have f2' : Fr SCD SLE s1 s2 := Fr_m f2 (by decide) (by decide)
        obtain ⟨s3, v3, e3, r3, h3, f3⟩ := ih j (turn + 1) (C ++ c ++ [-20]) s2 w (.int 1) fu (by omega) (by omega) (by omega) (TKb_fr T2 f2') (by rw [f2 53 11 (by simp) (by simp)]; exact g11) (by rw [f2 53 12 (by simp) (by simp), h12]; exact n12) pN' hC2 (by rw [List.length_append, List.length_append]; simp; omega)
        simp only [e2, Option.bind_some, Option.toList_some, Option.toList_none, List.cons_append, List.nil_append, i01a, i01b, if_true, if_false, b49_136, v1', nI_s, e3]
        refine ⟨s3, v3, rfl, ?_, by rw [h3, f2 53 12 (by simp) (by simp), h12, n12, e12], Fr_t F1 (Fr_t f1 (Fr_t f2' f3))⟩
        rw [List.append_assoc] at r3
        exact RC_p r3 (by rw [f2 53 1 (by simp) (by simp), g1, n1]) (by rw [f2 53 2 (by simp) (by simp), g2, n2])
    · by_cases k18 : K i = 18
      · have eP : pBl K (pN K V g q) (fu + 1) w i = pre (bC w) (bnd (pN K V g q (i + 1)) (fun c j => pre c (pBl K (pN K V g q) fu true j))) := by rw [pBl, if_neg k19, if_pos k18]; rfl
        rw [eP]
        have main : ∀ (C0 : List Int32) (s0 : Sig), CO C0 s0 → TKb K V f N s0 → s0 53 11 = nI (i + 1) → s0 53 12 = nI (8 - q) → C0.length ≤ i → s0 53 1 = σ 53 1 → s0 53 2 = σ 53 2 → Fr SCD SLE σ s0 → C0 = C ++ bC w → ∃ σ' v, Ex (D + 1) 49 101 [.ref 53, .int (nI g), .int (bV w), .int 1, .int (nI turn), .int 0] [] G0 s0 = some (some (.int v), G0, σ') ∧ RC f C σ (pre (bC w) (bnd (pN K V g q (i + 1)) (fun c j => pre c (pBl K (pN K V g q) fu true j)))) v σ' ∧ σ' 53 12 = σ 53 12 ∧ Fr SCD SLE σ σ' := by
          intro C0 s0 hC0 hT0 e0 e012 hl0 h01 h02 hF0 eC
          obtain ⟨s1, v, e1, r1, h12, f1⟩ := hS (i + 1) C0 s0 hT0 e0 e012 (by omega) hC0 (by omega)
          have T2 := TKb_fr hT0 f1
          have same : Ex (D + 1) 49 101 [.ref 53, .int (nI g), .int (bV w), .int 1, .int (nI turn), .int 0] [] G0 s0 = Ex (D + 1) 49 11 [.ref 53, .int (nI g), .int (bV true), .int v, .int (nI (turn + 1)), .int 0] [] G0 s1 := by
            rw [b49_101, e1]
            cases w
            · simp only [show bV false = 0 from rfl, show bV true = 1 from rfl, i10, i01, eq_self, if_true, if_false, true_and, false_and, and_true, and_false, not_true, not_false_iff, true_or, or_true, false_or, or_false, ne_eq, not_true_eq_false, not_false_eq_true, Option.bind_some, Option.toList_some, Option.toList_none, List.cons_append, List.nil_append, i01a, i01b, if_true, if_false, b49_121, nI_s]
            · simp only [show bV true = 1 from rfl, i10, i10, i01, eq_self, if_true, if_false, true_and, false_and, and_true, and_false, not_true, not_false_iff, true_or, or_true, false_or, or_false, ne_eq, not_true_eq_false, not_false_eq_true, Option.bind_some, Option.toList_some, Option.toList_none, List.cons_append, List.nil_append, i01a, i01b, if_true, if_false, b49_121, nI_s]
          rw [same]
          cases hu : pN K V g q (i + 1) with
          | inl x =>
            rw [hu] at r1
            obtain ⟨x1, x2⟩ := x
            have v0 : v = 0 := r1.1
            have rr : RC f C σ (.inl (x1, x2)) v s1 := r1
            obtain ⟨s3, e3, r3, f3⟩ := con_f D (nI g) (nI (turn + 1)) (w := true) (.int 0) rr
            rw [v0]
            exact ⟨s3, 0, e3, r3, by rw [f3 53 12 (by simp) (by simp), h12, e012, e12], Fr_t hF0 (Fr_t f1 (Fr_m f3 (by decide) (by decide)))⟩
          | inr x =>
            obtain ⟨c, j⟩ := x
            rw [hu] at r1 pok
            obtain ⟨pj, pN'⟩ := pok c j rfl
            obtain ⟨v1', g11, gC, g1, g2⟩ := r1
            obtain ⟨s3, v3, e3, r3, h3, f3⟩ := ih j (turn + 1) (C0 ++ c) s1 true (.int 0) fu (by omega) (by omega) (by omega) T2 g11 (by rw [h12]; exact e012) pN' gC (by rw [List.length_append]; show C0.length + c.length + 1 ≤ j; omega)
            rw [v1']
            refine ⟨s3, v3, e3, ?_, by rw [h3, h12, e012, e12], Fr_t hF0 (Fr_t f1 f3)⟩
            rw [eC, List.append_assoc] at r3
            have := RC_p r3 (g1.trans h01) (g2.trans h02)
            rw [← pre_p] at this
            exact this
        simp only [eq_false k19, eq_true k18, i10, i01, eq_self, if_true, if_false, true_and, false_and, and_true, and_false, not_true, not_false_iff, true_or, or_true, false_or, or_false, ne_eq, not_true_eq_false, not_false_eq_true, b49_69, b49_70, e11, nI_s, bV_0]
        cases w with
        | false =>
          simp only [i10, i01, eq_self, if_true, if_false, true_and, false_and, and_true, and_false, not_true, not_false_iff, true_or, or_true, false_or, or_false, ne_eq, not_true_eq_false, not_false_eq_true]
          exact main C _ C1 T1 n11 n12 (by omega) n1 n2 F1 (List.append_nil C).symm
        | true =>
          have hl' : C.length + 1 ≤ i := hl
          obtain ⟨s2, e2, hC2, f2⟩ := c_lput D (-19) C1 (show C.length < 400 by omega)
          have f2' : Fr SCD SLE _ s2 := Fr_m f2 (by decide) (by decide)
          have tf : (true = false) = False := eq_false (by decide)
          simp only [tf, i10, i01, eq_self, if_true, if_false, true_and, false_and, and_true, and_false, not_true, not_false_iff, true_or, or_true, false_or, or_false, ne_eq, not_true_eq_false, not_false_eq_true, e2, Option.bind_some, Option.toList_some, Option.toList_none, List.cons_append, List.nil_append, i01a, i01b, if_true, if_false, b49_100]
          exact main _ s2 hC2 (TKb_fr T1 f2') (by rw [f2 53 11 (by simp) (by simp)]; exact n11) (by rw [f2 53 12 (by simp) (by simp)]; exact n12) (by rw [List.length_append]; simp; omega) (by rw [f2 53 1 (by simp) (by simp)]; exact n1) (by rw [f2 53 2 (by simp) (by simp)]; exact n2) (Fr_t F1 f2') rfl
      · have eP : pBl K (pN K V g q) (fu + 1) w i = .inr (bC w, i) := by rw [pBl, if_neg k19, if_neg k18]; rfl
        rw [eP]
        simp only [eq_false k19, eq_false k18, i10, i01, eq_self, if_true, if_false, true_and, false_and, and_true, and_false, not_true, not_false_iff, true_or, or_true, false_or, or_false, ne_eq, not_true_eq_false, not_false_eq_true]
        obtain ⟨s, e, r, fr⟩ := con_e D (f := f) e11 hC hl (by omega) (nI g) (nI turn) a5
        exact ⟨s, 1, e, r, fr 53 12 (by simp) (by simp), Fr_m fr (by decide) (by decide)⟩
