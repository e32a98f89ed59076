/-! L3: the grammar, the class: sum -/
def SLS : List (Nat × Nat) := [(53, 1), (53, 2), (53, 11), (53, 13), (54, 1)]
theorem so_w {w : Option Nat} (h : ¬ w = none) : ∃ s, w = some s := by
  cases w with
  | none => exact absurd rfl h
  | some s => exact ⟨s, rfl⟩
theorem sg_m1 {w : Option Nat} (hw : w = none ∨ w = some 43 ∨ w = some 45) : (sgV w = -1) = (w = none) := by
  rcases hw with e | e | e <;> subst e
  · exact propext ⟨fun _ => rfl, fun _ => rfl⟩
  · exact propext ⟨fun h => absurd h (by decide), fun h => by cases h⟩
  · exact propext ⟨fun h => absurd h (by decide), fun h => by cases h⟩
/-- it failed: what waits is put, and that is all -/
theorem sum_f (d : Nat) {f : Nat → Nat} {C : List Int32} {σ σ1 : Sig} {x : Nat × Nat} {v0 : Int32} (g turn : Int32) {w : Option Nat} (a5 : Value) (hw : w = none ∨ w = some 43 ∨ w = some 45) (h : RC f C σ (.inl x) v0 σ1) : ∃ σ', Ex (d + 2) 52 11 [.ref 53, .int g, .int (sgV w), .int 0, .int turn, a5] [] G0 σ1 = some (some (.int 0), G0, σ') ∧ RC f C σ (.inl x) 0 σ' ∧ Fr [55] [(54, 1)] σ1 σ' := by
  obtain ⟨k, y⟩ := x
  obtain ⟨_, h1, h2, C', hC, hl⟩ := h
  rw [b52_11]
  simp only [i10, i01, eq_self, if_true, if_false, true_and, false_and, and_true, and_false, not_true, not_false_iff, true_or, or_true, false_or, or_false, ne_eq, not_true_eq_false, not_false_eq_true, sg_m1 hw]
  by_cases c : w = none
  · simp only [eq_true c, i10, i01, eq_self, if_true, if_false, true_and, false_and, and_true, and_false, not_true, not_false_iff, true_or, or_true, false_or, or_false, ne_eq, not_true_eq_false, not_false_eq_true, b52_211, Option.bind_some, Option.toList_some, Option.toList_none, List.cons_append, List.nil_append, i01a, i01b, if_true, if_false]
    exact ⟨σ1, rfl, ⟨rfl, h1, h2, C', hC, hl⟩, Fr_r⟩
  · obtain ⟨s, C2, e, hC2, hl2, fr⟩ := c_lput' (d + 1) (-1 - sgV w) hC hl
    have e' : Ex (d + 1) 23 0 [.ref 54, .int (-1 - sgV w)] [] G0 σ1 = some (some (.int 1), G0, s) := e
    simp only [eq_false c, i10, i01, eq_self, if_true, if_false, true_and, false_and, and_true, and_false, not_true, not_false_iff, true_or, or_true, false_or, or_false, ne_eq, not_true_eq_false, not_false_eq_true, b52_200, e', Option.bind_some, Option.toList_some, Option.toList_none, List.cons_append, List.nil_append, i01a, i01b, if_true, if_false, b52_210, b52_211]
    exact ⟨s, rfl, ⟨rfl, by rw [fr 53 1 (by simp) (by simp)]; exact h1, by rw [fr 53 2 (by simp) (by simp)]; exact h2, C2, hC2, hl2⟩, fr⟩
theorem c_sumL (d : Nat) {K V f : Nat → Nat} {N g : Nat} (hg : g = 15 ∨ g = 16) : ∀ m i turn C σ w a5 fp fs, N - i ≤ m → turn + (N - i) ≤ 400 → N - i < fp → N - i < fs → fp ≤ 401 → TKb K V f N σ → σ 53 11 = nI i → i ≤ N → CO C σ → C.length + (wcd w).length ≤ i → (w = none ∨ w = some 43 ∨ w = some 45) →
    ∃ σ' v, Ex (d + 2) 52 11 [.ref 53, .int (nI g), .int (sgV w), .int 1, .int (nI turn), a5] [] G0 σ = some (some (.int v), G0, σ') ∧ RC f C σ (tlS K V g fp fs w i) v σ' ∧ Fr SCD SLS σ σ' := by
  intro m
  induction m with
  | zero =>
    intro i turn C σ w a5 fp fs hm ht hfp hfs _ hT e11 hi hC hl hw
    have eN : i = N := by omega
    have k32 : K i = 32 := by rw [eN]; exact hT.2.1
    obtain ⟨fp, rfl⟩ : ∃ x, fp = x + 1 := ⟨fp - 1, by omega⟩
    obtain ⟨fs, rfl⟩ : ∃ x, fs = x + 1 := ⟨fs - 1, by omega⟩
    rw [tl_e (by omega)]
    have hN := hT.1
    obtain ⟨k100, e63, e65⟩ := hT.2.2.2.1 i hi
    have ti : inb (nI i) 401 = true := inb_n (by omega) (by omega)
    have tc' : (nI i).toNatClampNeg = i := nI_c (by omega)
    have v1 : (nI (K i) = 43) = False := eq_false (by rw [k32]; decide)
    have v2 : (nI (K i) = 45) = False := eq_false (by rw [k32]; decide)
    have v3 : (nI (K i) = 42) = False := eq_false (by rw [k32]; decide)
    have v4 : (nI (K i) = 47) = False := eq_false (by rw [k32]; decide)
    rw [b52_11]
    simp only [i10, i10, i01, eq_self, if_true, if_false, true_and, false_and, and_true, and_false, not_true, not_false_iff, true_or, or_true, false_or, or_false, ne_eq, not_true_eq_false, not_false_eq_true, e11, ti, tc', e63, v1, v2, v3, v4, sg_m1 hw, ite_self]
    by_cases c : w = none
    · subst c
      simp only [i10, i01, eq_self, if_true, if_false, true_and, false_and, and_true, and_false, not_true, not_false_iff, true_or, or_true, false_or, or_false, ne_eq, not_true_eq_false, not_false_eq_true, b52_211, Option.bind_some, Option.toList_some, Option.toList_none, List.cons_append, List.nil_append, i01a, i01b, if_true, if_false, ite_self]
      exact ⟨σ, 1, rfl, ⟨rfl, e11, by show CO (C ++ []) σ; rw [List.append_nil]; exact hC, rfl, rfl⟩, Fr_r⟩
    · obtain ⟨s, ew⟩ := so_w (by assumption : ¬ w = none)
      subst ew
      have hl' : C.length + 1 ≤ i := hl
      obtain ⟨s2, e, hC2, fr⟩ := c_lput (d + 1) (-1 - sgV (some s)) hC (show C.length < 400 by omega)
      have e' : Ex (d + 1) 23 0 [.ref 54, .int (-1 - sgV (some s))] [] G0 σ = some (some (.int 1), G0, s2) := e
      simp only [eq_false c, i10, i01, eq_self, if_true, if_false, true_and, false_and, and_true, and_false, not_true, not_false_iff, true_or, or_true, false_or, or_false, ne_eq, not_true_eq_false, not_false_eq_true, b52_200, e', Option.bind_some, Option.toList_some, Option.toList_none, List.cons_append, List.nil_append, i01a, i01b, if_true, if_false, b52_210, b52_211, ite_self]
      exact ⟨s2, 1, rfl, ⟨rfl, by rw [fr 53 11 (by simp) (by simp)]; exact e11, hC2, fr 53 1 (by simp) (by simp), fr 53 2 (by simp) (by simp)⟩, Fr_m fr (by decide) (by decide)⟩
  | succ m ih =>
    intro i turn C σ w a5 fp fs hm ht hfp hfs hf1 hT e11 hi hC hl hw
    by_cases dn : N - i ≤ m
    · exact ih i turn C σ w a5 fp fs dn ht hfp hfs hf1 hT e11 hi hC hl hw
    have lt : i < N := by omega
    obtain ⟨fp, rfl⟩ : ∃ x, fp = x + 1 := ⟨fp - 1, by omega⟩
    obtain ⟨fs, rfl⟩ : ∃ x, fs = x + 1 := ⟨fs - 1, by omega⟩
    have hN := hT.1
    obtain ⟨k100, e63, e65⟩ := hT.2.2.2.1 i hi
    have ti : inb (nI i) 401 = true := inb_n (by omega) (by omega)
    have tc' : (nI i).toNatClampNeg = i := nI_c (by omega)
    have q4 : ((400 : Int32) ≤ nI turn) = False := by
      have : ((400 : Int32) ≤ nI turn) = (400 ≤ turn) := nJ_le (a := 400) (by omega) (by omega)
      rw [this]; exact eq_false (by omega)
    have v1 : (nI (K i) = 43) = (K i = 43) := nJ_e (b := 43) (by omega) (by omega)
    have v2 : (nI (K i) = 45) = (K i = 45) := nJ_e (b := 45) (by omega) (by omega)
    have v3 : (nI (K i) = 42) = (K i = 42) := nJ_e (b := 42) (by omega) (by omega)
    have v4 : (nI (K i) = 47) = (K i = 47) := nJ_e (b := 47) (by omega) (by omega)
    have F1 : Fr SCD SLS σ (pt σ 53 11 (nI (i + 1))) := Fr_p Fr_r (Or.inr (by decide))
    have T1 : TKb K V f N (pt σ 53 11 (nI (i + 1))) := TKb_fr hT (Fr_p Fr_r (Or.inr (by decide)))
    have C1 : CO C (pt σ 53 11 (nI (i + 1))) := CO_k hC (by rw [pt_q (by decide)]) (by rw [pt_q (by decide)])
    have n11 : pt σ 53 11 (nI (i + 1)) 53 11 = nI (i + 1) := pt_e
    have n1 : pt σ 53 11 (nI (i + 1)) 53 1 = σ 53 1 := pt_k (by decide)
    have n2 : pt σ 53 11 (nI (i + 1)) 53 2 = σ 53 2 := pt_k (by decide)
    have toE : ∀ s s', Fr SCD SLS s s' → Fr SCD SLE s s' := fun s s' h => Fr_m h (fun _ x => x) (by decide)
    rw [b52_11]
    simp only [i10, i10, i01, eq_self, if_true, if_false, true_and, false_and, and_true, and_false, not_true, not_false_iff, true_or, or_true, false_or, or_false, ne_eq, not_true_eq_false, not_false_eq_true, q4, e11, ti, tc', e63, v1, v2, v3, v4, sg_m1 hw]
    by_cases k42 : K i = 42
    · have a1 : ¬ K i = 43 := by omega
      have a2 : ¬ K i = 45 := by omega
      rw [tl_m k42]
      obtain ⟨s1, v, e1, r1, f1⟩ := c_unit d T1 hg n11 (by omega) C1 (show C.length ≤ i + 1 by omega)
      have f1' : Fr SCD SLS _ s1 := Fr_m f1 (fun _ x => x) (by decide)
      have T2 := TKb_fr T1 (toE _ _ f1')
      simp only [eq_false a1, eq_false a2, eq_true k42, i10, i01, eq_self, if_true, if_false, true_and, false_and, and_true, and_false, not_true, not_false_iff, true_or, or_true, false_or, or_false, ne_eq, not_true_eq_false, not_false_eq_true, b52_65, e11, nI_s, e1, Option.bind_some, Option.toList_some, Option.toList_none, List.cons_append, List.nil_append, i01a, i01b, if_true, if_false, b52_87, v3]
      have pok := pU_ok (V := V) (g := g) hT.2.1 (show i + 1 ≤ N by omega)
      cases hu : pU K V g (i + 1) with
      | inl x =>
        rw [hu] at r1
        have r1' := r1
        obtain ⟨x1, x2⟩ := x
        obtain ⟨v0, _⟩ := r1
        have rr : RC f C σ (.inl (x1, x2)) v s1 := r1'
        obtain ⟨s2, e2, r2, f2⟩ := sum_f d (nI g) (nI (turn + 1)) (.int (nI (K i))) hw rr
        simp only [v0, i10, i01, eq_self, if_true, if_false, true_and, false_and, and_true, and_false, not_true, not_false_iff, true_or, or_true, false_or, or_false, ne_eq, not_true_eq_false, not_false_eq_true, e2]
        exact ⟨s2, 0, rfl, r2, Fr_t F1 (Fr_t f1' (Fr_m f2 (by decide) (by decide)))⟩
      | inr x =>
        obtain ⟨c, j⟩ := x
        rw [hu] at r1 pok
        obtain ⟨pj, pN'⟩ := pok c j rfl
        obtain ⟨v1', g11, gC, g1, g2⟩ := r1
        have hc1 : (C ++ c).length + (wcd w).length + 1 ≤ j := by rw [List.length_append]; omega
        obtain ⟨s2, e2, hC2, f2⟩ := c_lput (d + 1) (-43) gC (show (C ++ c).length < 400 by omega)
        have e2' : Ex (d + 1) 23 0 [.ref 54, .int (-43)] [] G0 s1 = some (some (.int 1), G0, s2) := e2
        have f2' : Fr SCD SLS s1 s2 := Fr_m f2 (by decide) (by decide)
        obtain ⟨s3, v3', e3, r3, f3⟩ := ih j (turn + 1) (C ++ c ++ [-43]) s2 w (.int (nI (K i))) fp (fs + 1) (by omega) (by omega) (by omega) (by omega) (by omega) (TKb_fr T2 (toE _ _ f2')) (by rw [f2 53 11 (by simp) (by simp)]; exact g11) pN' hC2 (by rw [List.length_append]; simp; omega) hw
        simp only [v1', i10, i10, i01, eq_self, if_true, if_false, true_and, false_and, and_true, and_false, not_true, not_false_iff, true_or, or_true, false_or, or_false, ne_eq, not_true_eq_false, not_false_eq_true, e2', Option.bind_some, Option.toList_some, Option.toList_none, List.cons_append, List.nil_append, i01a, i01b, if_true, if_false, b52_99, nI_s, e3]
        refine ⟨s3, v3', rfl, ?_, Fr_t F1 (Fr_t f1' (Fr_t f2' f3))⟩
        rw [List.append_assoc] at r3
        exact RC_p r3 (by rw [f2 53 1 (by simp) (by simp), g1, n1]) (by rw [f2 53 2 (by simp) (by simp), g2, n2])
    · by_cases k47 : K i = 47
      · have a1 : ¬ K i = 43 := by omega
        have a2 : ¬ K i = 45 := by omega
        rw [tl_d k47 (fun k => (hT.2.2.2.2 (i + 1) (by omega) k).1)]
        obtain ⟨s1, v, e1, r1, w13, f1⟩ := c_want d 1 9999 T1 n11 (by omega) C1 (show C.length ≤ 400 by omega)
        have f1' : Fr SCD SLS _ s1 := Fr_m f1 (by decide) (by decide)
        have T2 := TKb_fr T1 (toE _ _ f1')
        simp only [eq_false a1, eq_false a2, eq_false k42, eq_true k47, i10, i01, eq_self, if_true, if_false, true_and, false_and, and_true, and_false, not_true, not_false_iff, true_or, or_true, false_or, or_false, ne_eq, not_true_eq_false, not_false_eq_true, b52_65, e11, nI_s, e1, Option.bind_some, Option.toList_some, Option.toList_none, List.cons_append, List.nil_append, i01a, i01b, if_true, if_false, b52_126, v3, v4]
        cases hu : pW K V 1 9999 (i + 1) with
        | inl x =>
          rw [hu] at r1
          have r1' := r1
          obtain ⟨x1, x2⟩ := x
          obtain ⟨v0, _⟩ := r1
          have rr : RC f C σ (.inl (x1, x2)) v s1 := r1'
          obtain ⟨s2, e2, r2, f2⟩ := sum_f d (nI g) (nI (turn + 1)) (.int (nI (K i))) hw rr
          simp only [v0, i10, i01, eq_self, if_true, if_false, true_and, false_and, and_true, and_false, not_true, not_false_iff, true_or, or_true, false_or, or_false, ne_eq, not_true_eq_false, not_false_eq_true, e2]
          exact ⟨s2, 0, rfl, r2, Fr_t F1 (Fr_t f1' (Fr_m f2 (by decide) (by decide)))⟩
        | inr x =>
          obtain ⟨c, j⟩ := x
          rw [hu] at r1
          have hc : c = [] ∧ j = i + 2 ∧ K (i + 1) = 30 := by
            unfold pW at hu
            split at hu
            · rename_i k30
              split at hu
              · cases hu; exact ⟨rfl, rfl, k30⟩
              · cases hu
            · cases hu
          obtain ⟨c0, ej, k30⟩ := hc
          subst c0; subst ej
          obtain ⟨v1', g11, gC, g1, g2⟩ := r1
          rw [List.append_nil] at gC
          have i2N : i + 1 < N := kLt hT.2.1 (by omega) (by rw [k30]; decide)
          obtain ⟨s2, e2, hC2, f2⟩ := c_lput (d + 1) (s1 53 13) gC (show C.length < 400 by omega)
          have e2' : Ex (d + 1) 23 0 [.ref 54, .int (s1 53 13)] [] G0 s1 = some (some (.int 1), G0, s2) := e2
          rw [w13 v1'] at hC2
          obtain ⟨s3, e3, hC3, f3⟩ := c_lput (d + 1) (-48) hC2 (by rw [List.length_append]; simp; omega)
          have e3' : Ex (d + 1) 23 0 [.ref 54, .int (-48)] [] G0 s2 = some (some (.int 1), G0, s3) := e3
          have f2' : Fr SCD SLS s1 s2 := Fr_m f2 (by decide) (by decide)
          have f3' : Fr SCD SLS s2 s3 := Fr_m f3 (by decide) (by decide)
          obtain ⟨s4, v4', e4, r4, f4⟩ := ih (i + 2) (turn + 1) (C ++ [nI (V (i + 1))] ++ [-48]) s3 w (.int (nI (K i))) fp (fs + 1) (by omega) (by omega) (by omega) (by omega) (by omega) (TKb_fr (TKb_fr T2 (toE _ _ f2')) (toE _ _ f3')) (by rw [f3 53 11 (by simp) (by simp), f2 53 11 (by simp) (by simp)]; exact g11) (by omega) hC3 (by rw [List.length_append, List.length_append]; simp; omega) hw
          simp only [v1', i10, i10, i01, eq_self, if_true, if_false, true_and, false_and, and_true, and_false, not_true, not_false_iff, true_or, or_true, false_or, or_false, ne_eq, not_true_eq_false, not_false_eq_true, e2', Option.bind_some, Option.toList_some, Option.toList_none, List.cons_append, List.nil_append, i01a, i01b, if_true, if_false, b52_140, e3', b52_152, nI_s, e4]
          refine ⟨s4, v4', rfl, ?_, Fr_t F1 (Fr_t f1' (Fr_t f2' (Fr_t f3' f4)))⟩
          rw [List.append_assoc] at r4
          exact RC_p r4 (by rw [f3 53 1 (by simp) (by simp), f2 53 1 (by simp) (by simp), g1, n1]) (by rw [f3 53 2 (by simp) (by simp), f2 53 2 (by simp) (by simp), g2, n2])
      · by_cases ka : K i = 43 ∨ K i = 45
        · rw [tl_a (K := K) (i := i) rfl ka]
          have both : (if K i = 43 then Ex (d + 2) 52 65 [.ref 53, .int (nI g), .int (sgV w), .int 1, .int (nI turn), .int (nI (K i))] [] G0 σ else if K i = 45 then Ex (d + 2) 52 65 [.ref 53, .int (nI g), .int (sgV w), .int 1, .int (nI turn), .int (nI (K i))] [] G0 σ else none) = Ex (d + 2) 52 65 [.ref 53, .int (nI g), .int (sgV w), .int 1, .int (nI turn), .int (nI (K i))] [] G0 σ := by
            rcases ka with k | k
            · rw [if_pos k]
            · rw [if_neg (by omega), if_pos k]
          have hw' : some (K i) = none ∨ some (K i) = some 43 ∨ some (K i) = some 45 := by rcases ka with k | k <;> rw [k] <;> simp
          have eS : sgV (some (K i)) = nI (K i) := rfl
          have main : ∀ (C0 : List Int32) (s0 : Sig), CO C0 s0 → TKb K V f N s0 → s0 53 11 = nI (i + 1) → C0.length ≤ i → s0 53 1 = σ 53 1 → s0 53 2 = σ 53 2 → Fr SCD SLS σ s0 → C0 = C ++ wcd w → ∃ σ' v, (Ex (d + 1) 53 0 [.ref 53, .int (nI g), .null] [] G0 s0).bind (fun o => Ex (d + 1 + 1) 52 188 [.ref 53, .int (nI g), .int (nI (K i)), .int 1, .int (nI turn), .int (nI (K i))] (o.1.toList ++ []) o.2.1 o.2.2) = some (some (.int v), G0, σ') ∧ RC f C σ (pre (wcd w) (bnd (pU K V g (i + 1)) (fun c j => pre c (tlS K V g 401 fs (some (K i)) j)))) v σ' ∧ Fr SCD SLS σ σ' := by
            intro C0 s0 hC0 hT0 e0 hl0 h01 h02 hF0 eC
            obtain ⟨s1, v, e1, r1, f1⟩ := c_unit d hT0 hg e0 (by omega) hC0 (by omega)
            have f1' : Fr SCD SLS s0 s1 := Fr_m f1 (fun _ x => x) (by decide)
            have T2 := TKb_fr hT0 (toE _ _ f1')
            have pok := pU_ok (V := V) (g := g) hT.2.1 (show i + 1 ≤ N by omega)
            rw [e1]
            simp only [Option.bind_some, Option.toList_some, Option.toList_none, List.cons_append, List.nil_append, i01a, i01b, if_true, if_false, b52_188, nI_s]
            cases hu : pU K V g (i + 1) with
            | inl x =>
              rw [hu] at r1
              obtain ⟨x1, x2⟩ := x
              have r1' := r1
              obtain ⟨v0, _⟩ := r1
              have rr : RC f C σ (.inl (x1, x2)) v s1 := r1'
              obtain ⟨s2, e2, r2, f2⟩ := sum_f d (nI g) (nI (turn + 1)) (.int (nI (K i))) hw' rr
              rw [v0]
              exact ⟨s2, 0, e2, r2, Fr_t hF0 (Fr_t f1' (Fr_m f2 (by decide) (by decide)))⟩
            | inr x =>
              obtain ⟨c, j⟩ := x
              rw [hu] at r1 pok
              obtain ⟨pj, pN'⟩ := pok c j rfl
              obtain ⟨v1', g11, gC, g1, g2⟩ := r1
              obtain ⟨s3, v3', e3, r3, f3⟩ := ih j (turn + 1) (C0 ++ c) s1 (some (K i)) (.int (nI (K i))) 401 fs (by omega) (by omega) (by omega) (by omega) (by omega) T2 g11 pN' gC (by rw [List.length_append]; show C0.length + c.length + 1 ≤ j; omega) hw'
              rw [v1']
              refine ⟨s3, v3', e3, ?_, Fr_t hF0 (Fr_t f1' f3)⟩
              rw [eC, List.append_assoc] at r3
              have := RC_p r3 (g1.trans h01) (g2.trans h02)
              rw [← pre_p] at this
              exact this
          have k42' : (K i = 42) = False := eq_false k42
          have k47' : (K i = 47) = False := eq_false k47
          have to65 : ∀ X : Option Out, (if K i = 43 then Ex (d + 2) 52 65 [.ref 53, .int (nI g), .int (sgV w), .int 1, .int (nI turn), .int (nI (K i))] [] G0 σ else if K i = 45 then Ex (d + 2) 52 65 [.ref 53, .int (nI g), .int (sgV w), .int 1, .int (nI turn), .int (nI (K i))] [] G0 σ else X) = Ex (d + 2) 52 65 [.ref 53, .int (nI g), .int (sgV w), .int 1, .int (nI turn), .int (nI (K i))] [] G0 σ := fun X => by
            rcases ka with k | k
            · rw [if_pos k]
            · rw [if_neg (by omega), if_pos k]
          rw [to65, b52_65]
          simp only [v3, v4, k42', k47', i10, i01, eq_self, if_true, if_false, true_and, false_and, and_true, and_false, not_true, not_false_iff, true_or, or_true, false_or, or_false, ne_eq, not_true_eq_false, not_false_eq_true, sg_m1 hw, e11, nI_s]
          by_cases cw0 : w = none
          · subst cw0
            simp only [i10, i01, eq_self, if_true, if_false, true_and, false_and, and_true, and_false, not_true, not_false_iff, true_or, or_true, false_or, or_false, ne_eq, not_true_eq_false, not_false_eq_true]
            exact main C _ C1 T1 n11 (by omega) n1 n2 F1 (List.append_nil C).symm
          · obtain ⟨s, ew⟩ := so_w (by assumption : ¬ w = none)
            subst ew
            have hl' : C.length + 1 ≤ i := hl
            obtain ⟨s2, e, hC2, fr⟩ := c_lput (d + 1) (-1 - sgV (some s)) C1 (show C.length < 400 by omega)
            have e' : Ex (d + 1) 23 0 [.ref 54, .int (-1 - sgV (some s))] [] G0 (pt σ 53 11 (nI (i + 1))) = some (some (.int 1), G0, s2) := e
            have fr' : Fr SCD SLS (pt σ 53 11 (nI (i + 1))) s2 := Fr_m fr (by decide) (by decide)
            simp only [eq_false cw0, i10, i01, eq_self, if_true, if_false, true_and, false_and, and_true, and_false, not_true, not_false_iff, true_or, or_true, false_or, or_false, ne_eq, not_true_eq_false, not_false_eq_true, e', Option.bind_some, Option.toList_some, Option.toList_none, List.cons_append, List.nil_append, i01a, i01b, if_true, if_false, b52_179]
            exact main _ s2 hC2 (TKb_fr T1 (toE _ _ fr')) (by rw [fr 53 11 (by simp) (by simp)]; exact n11) (by rw [List.length_append]; simp; omega) (by rw [fr 53 1 (by simp) (by simp)]; exact n1) (by rw [fr 53 2 (by simp) (by simp)]; exact n2) (Fr_t F1 fr') rfl
        · rw [tl_e (by omega)]
          have a1 : ¬ K i = 43 := by omega
          have a2 : ¬ K i = 45 := by omega
          simp only [eq_false a1, eq_false a2, eq_false k42, eq_false k47, i10, i01, eq_self, if_true, if_false, true_and, false_and, and_true, and_false, not_true, not_false_iff, true_or, or_true, false_or, or_false, ne_eq, not_true_eq_false, not_false_eq_true]
          by_cases c : w = none
          · subst c
            simp only [i10, i01, eq_self, if_true, if_false, true_and, false_and, and_true, and_false, not_true, not_false_iff, true_or, or_true, false_or, or_false, ne_eq, not_true_eq_false, not_false_eq_true, b52_211, Option.bind_some, Option.toList_some, Option.toList_none, List.cons_append, List.nil_append, i01a, i01b, if_true, if_false]
            exact ⟨σ, 1, rfl, ⟨rfl, e11, by show CO (C ++ []) σ; rw [List.append_nil]; exact hC, rfl, rfl⟩, Fr_r⟩
          · obtain ⟨s, ew⟩ := so_w (by assumption : ¬ w = none)
            subst ew
            have hl' : C.length + 1 ≤ i := hl
            obtain ⟨s2, e, hC2, fr⟩ := c_lput (d + 1) (-1 - sgV (some s)) hC (show C.length < 400 by omega)
            have e' : Ex (d + 1) 23 0 [.ref 54, .int (-1 - sgV (some s))] [] G0 σ = some (some (.int 1), G0, s2) := e
            simp only [eq_false c, i10, i01, eq_self, if_true, if_false, true_and, false_and, and_true, and_false, not_true, not_false_iff, true_or, or_true, false_or, or_false, ne_eq, not_true_eq_false, not_false_eq_true, b52_200, e', Option.bind_some, Option.toList_some, Option.toList_none, List.cons_append, List.nil_append, i01a, i01b, if_true, if_false, b52_210, b52_211]
            exact ⟨s2, 1, rfl, ⟨rfl, by rw [fr 53 11 (by simp) (by simp)]; exact e11, hC2, fr 53 1 (by simp) (by simp), fr 53 2 (by simp) (by simp)⟩, Fr_m fr (by decide) (by decide)⟩
theorem c_sum (d : Nat) {K V f : Nat → Nat} {N i g : Nat} {C : List Int32} {σ : Sig} (h : TKb K V f N σ) (hg : g = 15 ∨ g = 16) (e11 : σ 53 11 = nI i) (hi : i ≤ N) (hC : CO C σ) (hl : C.length ≤ i) :
    ∃ σ' v, Ex (d + 2) 52 0 [.ref 53, .int (nI g), .null, .null, .null, .null] [] G0 σ = some (some (.int v), G0, σ') ∧ RC f C σ (pS K V g i) v σ' ∧ Fr SCD SLS σ σ' := by
  obtain ⟨s1, v, e1, r1, f1⟩ := c_unit d h hg e11 hi hC hl
  have f1' : Fr SCD SLS σ s1 := Fr_m f1 (fun _ x => x) (by decide)
  have T1 := TKb_fr h (Fr_m f1' (fun _ x => x) (by decide))
  have pok := pU_ok (V := V) (g := g) h.2.1 hi
  have hN := h.1
  rw [b52_0, e1]
  simp only [Option.bind_some, Option.toList_some, Option.toList_none, List.cons_append, List.nil_append, i01a, i01b, if_true, if_false, b52_7]
  have eS : pS K V g i = bnd (pU K V g i) (fun c j => pre c (tlS K V g 401 401 none j)) := by
    unfold pS pP
    cases pU K V g i with
    | inl x => rfl
    | inr x =>
      obtain ⟨c, j⟩ := x
      show bnd (pre c (pPl K V g 401 j)) (fun c j => pre c (pSl K V g 401 j)) = pre c (bnd (pPl K V g 401 j) (fun c j => pre (c ++ []) (pSl K V g 401 j)))
      rw [← bnd_p]
      simp only [List.append_nil]
  rw [eS]
  cases hu : pU K V g i with
  | inl x =>
    rw [hu] at r1
    obtain ⟨x1, x2⟩ := x
    have r1' := r1
    obtain ⟨v0, _⟩ := r1
    obtain ⟨s2, e2, r2, f2⟩ := sum_f d (nI g) 0 (w := none) .null (Or.inl rfl) r1'
    rw [v0]
    exact ⟨s2, 0, e2, r2, Fr_t f1' (Fr_m f2 (by decide) (by decide))⟩
  | inr x =>
    obtain ⟨c, j⟩ := x
    rw [hu] at r1 pok
    obtain ⟨pj, pN'⟩ := pok c j rfl
    obtain ⟨v1', g11, gC, g1, g2⟩ := r1
    obtain ⟨s3, v3', e3, r3, f3⟩ := c_sumL d hg N j 0 (C ++ c) s1 none .null 401 401 (by omega) (by omega) (by omega) (by omega) (by omega) T1 g11 pN' gC (by rw [List.length_append]; show C.length + c.length + 0 ≤ j; omega) (Or.inl rfl)
    rw [v1']
    exact ⟨s3, v3', e3, RC_p r3 g1 g2, Fr_t f1' f3⟩
