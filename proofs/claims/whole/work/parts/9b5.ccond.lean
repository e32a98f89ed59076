/-! L3: the grammar, the class: comparison, and, or, not -/
theorem c_cmp (d : Nat) {K V f : Nat → Nat} {N i g : Nat} {C : List Int32} {σ : Sig} (h : TKb K V f N σ) (hg : g = 15 ∨ g = 16) (e11 : σ 53 11 = nI i) (hi : i ≤ N) (hC : CO C σ) (hl : C.length ≤ i) :
    ∃ σ' v, Ex (d + 3) 51 0 [.ref 53, .int (nI g), .null] [] G0 σ = some (some (.int v), G0, σ') ∧ RC f C σ (pC K V g i) v σ' ∧ Fr SCD SLS σ σ' := by
  have hN := h.1
  have toE : ∀ s s', Fr SCD SLS s s' → Fr SCD SLE s s' := fun s s' h => Fr_m h (fun _ x => x) (by decide)
  obtain ⟨s1, v, e1, r1, f1⟩ := c_sum d h hg e11 hi hC hl
  have T1 := TKb_fr h (toE _ _ f1)
  have pok := pS_ok (V := V) (g := g) h.2.1 hi
  rw [b51_0, e1]
  simp only [Option.bind_some, Option.toList_some, Option.toList_none, List.cons_append, List.nil_append, i01a, i01b, if_true, if_false, b51_5]
  unfold pC
  cases hu : pS K V g i with
  | inl x =>
    rw [hu] at r1
    obtain ⟨x1, x2⟩ := x
    have r1' := r1
    obtain ⟨v0, _⟩ := r1
    simp only [v0, i10, i01, eq_self, if_true, if_false, true_and, false_and, and_true, and_false, not_true, not_false_iff, true_or, or_true, false_or, or_false, ne_eq, not_true_eq_false, not_false_eq_true]
    rw [v0] at r1'
    exact ⟨s1, 0, rfl, r1', f1⟩
  | inr x =>
    obtain ⟨c, j⟩ := x
    rw [hu] at r1 pok
    obtain ⟨pj, pN'⟩ := pok c j rfl
    obtain ⟨v1', g11, gC, g1, g2⟩ := r1
    obtain ⟨k100, e63, e65⟩ := T1.2.2.2.1 j pN'
    have ti : inb (nI j) 401 = true := inb_n (by omega) (by omega)
    have tc' : (nI j).toNatClampNeg = j := nI_c (by omega)
    have q1 : (nI (K j) = 60) = (K j = 60) := nJ_e (b := 60) (by omega) (by omega)
    have q2 : (nI (K j) = 61) = (K j = 61) := nJ_e (b := 61) (by omega) (by omega)
    have q3 : (nI (K j) = 62) = (K j = 62) := nJ_e (b := 62) (by omega) (by omega)
    simp only [v1', i10, i01, eq_self, if_true, if_false, true_and, false_and, and_true, and_false, not_true, not_false_iff, true_or, or_true, false_or, or_false, ne_eq, not_true_eq_false, not_false_eq_true, g11, ti, tc', e63, q1, q2, q3, nI_s]
    show ∃ σ' v, _ ∧ RC f C σ (if K j = 60 ∨ K j = 61 ∨ K j = 62 then bnd (pS K V g (j + 1)) (fun e k => .inr (c ++ e ++ [-1 - nI (K j)], k)) else .inl (1, j)) v σ' ∧ _
    by_cases cs : K j = 60 ∨ K j = 61 ∨ K j = 62
    · have lt := kLt h.2.1 pN' (by omega)
      have T2 : TKb K V f N (pt s1 53 11 (nI (j + 1))) := TKb_fr T1 (Fr_p Fr_r (Or.inr (by decide)))
      have C2 : CO (C ++ c) (pt s1 53 11 (nI (j + 1))) := CO_k gC (by rw [pt_q (by decide)]) (by rw [pt_q (by decide)])
      have F2 : Fr SCD SLS s1 (pt s1 53 11 (nI (j + 1))) := Fr_p Fr_r (Or.inr (by decide))
      obtain ⟨s3, v3, e3, r3, f3⟩ := c_sum d T2 hg pt_e (show j + 1 ≤ N by omega) C2 (by rw [List.length_append]; omega)
      have pok2 := pS_ok (V := V) (g := g) h.2.1 (show j + 1 ≤ N by omega)
      have go : ∀ X : Option Out, (if K j = 60 then (Ex (d + 2) 52 0 [.ref 53, .int (nI g), .null, .null, .null, .null] [] G0 (pt s1 53 11 (nI (j + 1)))).bind (fun o => Ex (d + 2 + 1) 51 59 [.ref 53, .int (nI g), .int (nI (K j))] (o.1.toList ++ []) o.2.1 o.2.2) else if K j = 61 then (Ex (d + 2) 52 0 [.ref 53, .int (nI g), .null, .null, .null, .null] [] G0 (pt s1 53 11 (nI (j + 1)))).bind (fun o => Ex (d + 2 + 1) 51 59 [.ref 53, .int (nI g), .int (nI (K j))] (o.1.toList ++ []) o.2.1 o.2.2) else if K j = 62 then (Ex (d + 2) 52 0 [.ref 53, .int (nI g), .null, .null, .null, .null] [] G0 (pt s1 53 11 (nI (j + 1)))).bind (fun o => Ex (d + 2 + 1) 51 59 [.ref 53, .int (nI g), .int (nI (K j))] (o.1.toList ++ []) o.2.1 o.2.2) else X) = (Ex (d + 2) 52 0 [.ref 53, .int (nI g), .null, .null, .null, .null] [] G0 (pt s1 53 11 (nI (j + 1)))).bind (fun o => Ex (d + 2 + 1) 51 59 [.ref 53, .int (nI g), .int (nI (K j))] (o.1.toList ++ []) o.2.1 o.2.2) := fun X => by
        rcases cs with k | k | k
        · rw [if_pos k]
        · rw [if_neg (by omega), if_pos k]
        · rw [if_neg (by omega), if_neg (by omega), if_pos k]
      rw [if_pos cs, go, e3]
      simp only [Option.bind_some, Option.toList_some, Option.toList_none, List.cons_append, List.nil_append, i01a, i01b, if_true, if_false, b51_59]
      cases hu2 : pS K V g (j + 1) with
      | inl x =>
        rw [hu2] at r3
        obtain ⟨x1, x2⟩ := x
        have r3' := r3
        obtain ⟨v0, _⟩ := r3
        simp only [v0, i10, i01, eq_self, if_true, if_false, true_and, false_and, and_true, and_false, not_true, not_false_iff, true_or, or_true, false_or, or_false, ne_eq, not_true_eq_false, not_false_eq_true]
        rw [v0] at r3'
        exact ⟨s3, 0, rfl, r3', Fr_t f1 (Fr_t F2 f3)⟩
      | inr x =>
        obtain ⟨e, k⟩ := x
        rw [hu2] at r3 pok2
        obtain ⟨pk, pN2⟩ := pok2 e k rfl
        obtain ⟨v2', h11, hC3, h1, h2⟩ := r3
        obtain ⟨s4, e4, hC4, f4⟩ := c_lput (d + 2) (-1 - nI (K j)) hC3 (by rw [List.length_append, List.length_append]; omega)
        have e4' : Ex (d + 2) 23 0 [.ref 54, .int (-1 - nI (K j))] [] G0 s3 = some (some (.int 1), G0, s4) := e4
        simp only [v2', i10, i01, eq_self, if_true, if_false, true_and, false_and, and_true, and_false, not_true, not_false_iff, true_or, or_true, false_or, or_false, ne_eq, not_true_eq_false, not_false_eq_true, e4', Option.bind_some, Option.toList_some, Option.toList_none, List.cons_append, List.nil_append, i01a, i01b, if_true, if_false, b51_72]
        refine ⟨s4, 1, rfl, ⟨rfl, by rw [f4 53 11 (by simp) (by simp)]; exact h11, ?_, ?_, ?_⟩, Fr_t f1 (Fr_t F2 (Fr_t f3 (Fr_m f4 (by decide) (by decide))))⟩
        · rw [show C ++ (c ++ e ++ [-1 - nI (K j)]) = C ++ c ++ e ++ [-1 - nI (K j)] by simp]; exact hC4
        · rw [f4 53 1 (by simp) (by simp), h1, pt_k (by decide), g1]
        · rw [f4 53 2 (by simp) (by simp), h2, pt_k (by decide), g2]
    · rw [if_neg cs]
      have n1 : ¬ K j = 60 := fun k => cs (Or.inl k)
      have n2 : ¬ K j = 61 := fun k => cs (Or.inr (Or.inl k))
      have n3 : ¬ K j = 62 := fun k => cs (Or.inr (Or.inr k))
      obtain ⟨s2, e2, a1, a2, fr⟩ := c_fail (d + 2) 1 T1 g11 pN'
      have e2' : Ex (d + 2) 59 0 [.ref 53, .int 1] [] G0 s1 = some (some (.int 0), G0, s2) := e2
      simp only [eq_false n1, eq_false n2, eq_false n3, i10, i01, eq_self, if_true, if_false, true_and, false_and, and_true, and_false, not_true, not_false_iff, true_or, or_true, false_or, or_false, ne_eq, not_true_eq_false, not_false_eq_true, e2', Option.bind_some, Option.toList_some, Option.toList_none, List.cons_append, List.nil_append, i01a, i01b, if_true, if_false, b51_43]
      exact ⟨s2, 0, rfl, ⟨rfl, a1, a2, C ++ c, CO_k gC (fr 54 1 (by simp) (by simp)) (Fr_q fr (by simp) (by simp)), by rw [List.length_append]; omega⟩, Fr_t f1 (Fr_m fr (by decide) (by decide))⟩
def bV (w : Bool) : Int32 := if w = true then 1 else 0
def bC (w : Bool) : List Int32 := if w = true then [-19] else []
theorem bV_0 {w : Bool} : (bV w = 0) = (w = false) := by
  cases w
  · exact propext ⟨fun _ => rfl, fun _ => rfl⟩
  · exact propext ⟨fun h => absurd h (by decide), fun h => by cases h⟩
/-- it failed -/
theorem con_f (D : Nat) {f : Nat → Nat} {C : List Int32} {σ σ1 : Sig} {x : Nat × Nat} {v0 : Int32} (g turn : Int32) {w : Bool} (a5 : Value) (h : RC f C σ (.inl x) v0 σ1) : ∃ σ', Ex (D + 1) 49 11 [.ref 53, .int g, .int (bV w), .int 0, .int turn, a5] [] G0 σ1 = some (some (.int 0), G0, σ') ∧ RC f C σ (.inl x) 0 σ' ∧ Fr [55] [(54, 1)] σ1 σ' := by
  obtain ⟨k, y⟩ := x
  obtain ⟨_, h1, h2, C', hC, hl⟩ := h
  rw [b49_11]
  simp only [i10, i01, eq_self, if_true, if_false, true_and, false_and, and_true, and_false, not_true, not_false_iff, true_or, or_true, false_or, or_false, ne_eq, not_true_eq_false, not_false_eq_true, bV_0]
  by_cases c : w = false
  · simp only [eq_true c, i10, i01, eq_self, if_true, if_false, true_and, false_and, and_true, and_false, not_true, not_false_iff, true_or, or_true, false_or, or_false, ne_eq, not_true_eq_false, not_false_eq_true, Option.bind_some, Option.toList_some, Option.toList_none, List.cons_append, List.nil_append, i01a, i01b, if_true, if_false]
    exact ⟨σ1, rfl, ⟨rfl, h1, h2, C', hC, hl⟩, Fr_r⟩
  · obtain ⟨s, C2, e, hC2, hl2, fr⟩ := c_lput' D (-19) hC hl
    simp only [eq_false c, i10, i01, eq_self, if_true, if_false, true_and, false_and, and_true, and_false, not_true, not_false_iff, true_or, or_true, false_or, or_false, ne_eq, not_true_eq_false, not_false_eq_true, e, Option.bind_some, Option.toList_some, Option.toList_none, List.cons_append, List.nil_append, i01a, i01b, if_true, if_false, b49_156]
    exact ⟨s, rfl, ⟨rfl, by rw [fr 53 1 (by simp) (by simp)]; exact h1, by rw [fr 53 2 (by simp) (by simp)]; exact h2, C2, hC2, hl2⟩, fr⟩
theorem con_e (D : Nat) {f : Nat → Nat} {C : List Int32} {σ : Sig} {i : Nat} {w : Bool} (e11 : σ 53 11 = nI i) (hC : CO C σ) (hl : C.length + (bC w).length ≤ i) (h4 : i ≤ 400) (g turn : Int32) (a5 : Value) : ∃ σ', (if w = false then some (some (Value.int 1), G0, σ) else (Ex D 23 0 [.ref 54, .int (-19)] [] G0 σ).bind (fun o => Ex (D + 1) 49 156 [.ref 53, .int g, .int (bV w), .int 1, .int turn, a5] (o.1.toList ++ []) o.2.1 o.2.2)) = some (some (.int 1), G0, σ') ∧ RC f C σ (.inr (bC w, i)) 1 σ' ∧ Fr [55] [(54, 1)] σ σ' := by
  cases w with
  | false =>
    rw [if_pos rfl]
    exact ⟨σ, rfl, ⟨rfl, e11, by show CO (C ++ []) σ; rw [List.append_nil]; exact hC, rfl, rfl⟩, Fr_r⟩
  | true =>
    have hl' : C.length + 1 ≤ i := hl
    obtain ⟨s, e, hC2, fr⟩ := c_lput D (-19) hC (show C.length < 400 by omega)
    rw [if_neg (by decide), e]
    simp only [Option.bind_some, Option.toList_some, Option.toList_none, List.cons_append, List.nil_append, i01a, i01b, if_true, if_false, b49_156]
    exact ⟨s, rfl, ⟨rfl, by rw [fr 53 11 (by simp) (by simp)]; exact e11, hC2, fr 53 1 (by simp) (by simp), fr 53 2 (by simp) (by simp)⟩, fr⟩
