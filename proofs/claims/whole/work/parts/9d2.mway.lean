/-! L3: the grammar: a WAY; the model -/
abbrev Dn (q k : Nat) : Prop := q = 112 ∧ (k = 23 ∨ k = 24 ∨ k = 25 ∨ k = 26 ∨ k = 39 ∨ k = 40)
abbrev Dz (a q k : Nat) : Prop := Dn q k ∨ (q = 133 ∧ a < k ∧ k < a + 4)
abbrev Dy (a q k : Nat) : Prop := Dn q k ∨ (q = 133 ∧ a ≤ k ∧ k < a + 4)
theorem m1mul {x : Int32} : (-1 : Int32) * x = -x := by rw [Int32.neg_mul, Int32.one_mul]
section
variable {b : Nat → Nat} {n N : Nat} {F E : Nat → Nat}
def MY (b : Nat → Nat) (n N : Nat) (F E : Nat → Nat) (j : Nat) (σ : Sig) : Prop := TPm b n σ ∧ RT b n N F E j σ ∧ j ≤ N
theorem MY_p {j k : Nat} {v : Int32} {σ : Sig} (h : MY b n N F E j σ) (hk : 160 ≤ k) : MY b n N F E j (pt σ 133 k v) := by
  have f : FX (fun q i => q = 133 ∧ 160 ≤ i) σ (pt σ 133 k v) := FX_p FX_r ⟨rfl, hk⟩
  exact ⟨TPm_x h.1 (FX_m f (fun q k hq => by simp only [Dl, Da, Ds]; omega)), RT_x h.2.1 f (by decide), h.2.2⟩
theorem y_next (d : Nat) {j : Nat} {σ : Sig} (tk : TOK (fun i => sr (b i)) n N F E) (h : MY b n N F E j σ) (hj : j < N) : ∃ σ', Ex (d + 2) 178 0 [.ref 112, .null] [] G0 σ = some (none, G0, σ') ∧ MY b n N F E (j + 1) σ' ∧ FX Dn σ σ' := by
  obtain ⟨h1, h2, h3⟩ := h
  obtain ⟨s, e, r, f⟩ := m_reads d h1 tk (show j + 1 ≤ N by omega) (h2.2.2.2.2.2 hj)
  exact ⟨s, e, ⟨TPm_d h1 f, r, by omega⟩, FX_f f (by simp) (by decide)⟩
theorem y_f (d : Nat) {j : Nat} {σ : Sig} (k : Nat) (h : MY b n N F E j σ) : ∃ σ', Ex d 179 0 [.ref 112, .int (nI k)] [] G0 σ = some (some (.int (-1)), G0, σ') ∧ σ' 112 39 = nI k ∧ σ' 112 40 = nI (fN n N F j) ∧ FX Dn σ σ' := by
  refine ⟨_, m_errs d σ _, by rw [pt_k (by decide), pt_e], ?_, FX_p (FX_p FX_r (by decide)) (by decide)⟩
  rw [pt_e, h.2.1.2.2.2.2.1]; rfl
def RN (b : Nat → Nat) (n N : Nat) (F E : Nat → Nat) (i : Nat) (r : PR) (v : Int32) (σ' : Sig) : Prop := match r with
  | .inl (k, x) => v = -1 ∧ σ' 112 39 = nI k ∧ σ' 112 40 = nI (fN n N F x)
  | .inr (_, j) => v = nI (vN b F E i) ∧ MY b n N F E j σ'
theorem y_num (d : Nat) {i : Nat} {σ : Sig} (lo hi : Int32) (tk : TOK (fun i => sr (b i)) n N F E) (h : MY b n N F E i σ) :
    ∃ σ' v, Ex (d + 3) 194 0 [.ref 112, .int lo, .int hi, .null] [] G0 σ = some (some (.int v), G0, σ') ∧ RN b n N F E i (pW (kd b N F E) (vN b F E) lo hi i) v σ' ∧ FX Dn σ σ' := by
  have hr := kd_r b N F E i
  have h100 : kd b N F E i < 100 := by omega
  rw [b194_0, h.2.1.1]
  unfold pW
  simp only [tk_3 h100]
  by_cases c : kd b N F E i = 30
  · have hv := kd_30 tk c
    have e26 : σ 112 26 = nI (vN b F E i) := h.2.1.2.2.1 c
    rw [if_pos c]
    simp only [eq_true c, i10, i01, eq_self, if_true, if_false, true_and, false_and, and_true, and_false, not_true, not_false_iff, true_or, or_true, false_or, or_false, ne_eq, not_true_eq_false, not_false_eq_true, e26, m_isIn, Option.bind_some, Option.toList_some, Option.toList_none, List.cons_append, List.nil_append, i01a, i01b, if_true, if_false, b194_24, bI_z, bI_o, bI_em, ite_not]
    by_cases cb : lo ≤ nI (vN b F E i) ∧ nI (vN b F E i) ≤ hi
    · obtain ⟨s, e, m, f⟩ := y_next d tk h hv.1
      rw [if_pos cb]
      simp only [eq_true cb, i10, i01, eq_self, if_true, if_false, true_and, false_and, and_true, and_false, not_true, not_false_iff, true_or, or_true, false_or, or_false, ne_eq, not_true_eq_false, not_false_eq_true, e, Option.bind_some, Option.toList_some, Option.toList_none, List.cons_append, List.nil_append, i01a, i01b, if_true, if_false, b194_42]
      exact ⟨s, _, rfl, ⟨rfl, m⟩, f⟩
    · obtain ⟨s, e, r1, r2, f⟩ := y_f (d + 2) 2 h
      have e' : Ex (d + 2) 179 0 [.ref 112, .int 2] [] G0 σ = some (some (.int (-1)), G0, s) := e
      rw [if_neg cb]
      simp only [eq_false cb, i10, i01, eq_self, if_true, if_false, true_and, false_and, and_true, and_false, not_true, not_false_iff, true_or, or_true, false_or, or_false, ne_eq, not_true_eq_false, not_false_eq_true, e', Option.bind_some, Option.toList_some, Option.toList_none, List.cons_append, List.nil_append, i01a, i01b, if_true, if_false, b194_32]
      exact ⟨s, _, rfl, ⟨rfl, r1, r2⟩, f⟩
  · obtain ⟨s, e, r1, r2, f⟩ := y_f (d + 2) 1 h
    have e' : Ex (d + 2) 179 0 [.ref 112, .int 1] [] G0 σ = some (some (.int (-1)), G0, s) := e
    rw [if_neg c]
    simp only [eq_false c, i10, i01, eq_self, if_true, if_false, true_and, false_and, and_true, and_false, not_true, not_false_iff, true_or, or_true, false_or, or_false, ne_eq, not_true_eq_false, not_false_eq_true, e', Option.bind_some, Option.toList_some, Option.toList_none, List.cons_append, List.nil_append, i01a, i01b, if_true, if_false, b194_13]
    exact ⟨s, _, rfl, ⟨rfl, r1, r2⟩, f⟩
/-- a line's slots behind its kind -/
def RY (b : Nat → Nat) (n N : Nat) (F E : Nat → Nat) (a : Nat) (r : Sum (Nat × Nat) (WLn × Nat)) (v : Int32) (σ' : Sig) : Prop := match r with
  | .inl (k, x) => v = -1 ∧ σ' 112 39 = nI k ∧ σ' 112 40 = nI (fN n N F x)
  | .inr (l, j) => (v = -1) = False ∧ MY b n N F E j σ' ∧ σ' 133 (a + 1) = l.2.1 ∧ (l.1 ≠ 23 → σ' 133 (a + 2) = l.2.2.1) ∧ (pkW l → σ' 133 (a + 3) = l.2.2.2)
theorem ix (a : Nat) (h : 160 ≤ a ∧ a + 3 < 320) : inb (nI a) 320 = true ∧ inb (nI (a + 1)) 320 = true ∧ inb (nI (a + 2)) 320 = true ∧ inb (nI (a + 3)) 320 = true ∧ (nI a).toNatClampNeg = a ∧ (nI (a + 1)).toNatClampNeg = a + 1 ∧ (nI (a + 2)).toNatClampNeg = a + 2 ∧ (nI (a + 3)).toNatClampNeg = a + 3 ∧ nI a + 2 = nI (a + 2) ∧ nI a + 3 = nI (a + 3) :=
  ⟨inb_n (by omega) (by omega), inb_n (by omega) (by omega), inb_n (by omega) (by omega), inb_n (by omega) (by omega), nI_c (by omega), nI_c (by omega), nI_c (by omega), nI_c (by omega), (Int32.ofNat_add a 2).symm, (Int32.ofNat_add a 3).symm⟩
theorem DnDz {a q k : Nat} (h : Dn q k) : Dz a q k := Or.inl h
theorem y_walk (d : Nat) {a i P Bn : Nat} {σ : Sig} (tk : TOK (fun i => sr (b i)) n N F E) (ha : 160 ≤ a ∧ a + 3 < 320) (h : MY b n N F E i σ) :
    ∃ σ' v, Ex (d + 4) 195 0 [.ref 112, .int (nI a), .null, .null] [] G0 σ = some (some (.int v), G0, σ') ∧ RY b n N F E a (pWl (kd b N F E) (vN b F E) P Bn 21 i) v σ' ∧ FX (Dz a) σ σ' := by
  obtain ⟨x0, x1, x2, x3, y0, y1, y2, y3, z2, z3⟩ := ix a ha
  obtain ⟨s1, v, e1, r1, f1⟩ := y_num d 1 200 tk h
  have ep : pWl (kd b N F E) (vN b F E) P Bn 21 i = (match pW (kd b N F E) (vN b F E) 1 200 i with | .inl x => .inl x | .inr _ => match pUp (kd b N F E) (vN b F E) (i + 1) with
      | .inl x => .inl x
      | .inr (s, l) => if kd b N F E l = 13 then .inr ((21, nI (vN b F E i), s, 1), l + 1) else .inr ((21, nI (vN b F E i), s, 0), l)) := rfl
  have pv : pt (pt (pt s1 133 (a + 1) v) 133 (a + 2) 0) 133 (a + 3) 0 133 (a + 1) = v := by rw [pt_k (by omega), pt_k (by omega), pt_e]
  have p2 : pt (pt (pt s1 133 (a + 1) v) 133 (a + 2) 0) 133 (a + 3) 0 133 (a + 2) = 0 := by rw [pt_k (by omega), pt_e]
  have p3 : pt (pt (pt s1 133 (a + 1) v) 133 (a + 2) 0) 133 (a + 3) 0 133 (a + 3) = 0 := pt_e
  have pq : ∀ k, pt (pt (pt s1 133 (a + 1) v) 133 (a + 2) 0) 133 (a + 3) 0 112 k = s1 112 k := fun k => by rw [pt_q (by decide), pt_q (by decide), pt_q (by decide)]
  have pM : ∀ j, MY b n N F E j s1 → MY b n N F E j (pt (pt (pt s1 133 (a + 1) v) 133 (a + 2) 0) 133 (a + 3) 0) := fun j hj => MY_p (MY_p (MY_p hj (by omega)) (by omega)) (by omega)
  have FT : FX (Dz a) σ (pt (pt (pt s1 133 (a + 1) v) 133 (a + 2) 0) 133 (a + 3) 0) := FX_p (FX_p (FX_p (FX_m f1 (fun q k hq => DnDz hq)) (Or.inr ⟨rfl, by omega, by omega⟩)) (Or.inr ⟨rfl, by omega, by omega⟩)) (Or.inr ⟨rfl, by omega, by omega⟩)
  rw [ep, b195_0, e1]
  simp only [Option.bind_some, Option.toList_some, Option.toList_none, List.cons_append, List.nil_append, i01a, i01b, if_true, if_false, nI_s, b195_15, x1, x2, x3, y1, y2, y3, z2, z3, pv, i10, i01, eq_self, if_true, if_false, true_and, false_and, and_true, and_false, not_true, not_false_iff, true_or, or_true, false_or, or_false, ne_eq, not_true_eq_false, not_false_eq_true]
  generalize pt (pt (pt s1 133 (a + 1) v) 133 (a + 2) 0) 133 (a + 3) 0 = t at pv p2 p3 pq pM FT
  cases hu : pW (kd b N F E) (vN b F E) 1 200 i with
  | inl x =>
    rw [hu] at r1
    obtain ⟨x1, x2⟩ := x
    simp only [r1.1, i10, i01, eq_self, if_true, if_false, true_and, false_and, and_true, and_false, not_true, not_false_iff, true_or, or_true, false_or, or_false, ne_eq, not_true_eq_false, not_false_eq_true]
    exact ⟨t, _, rfl, ⟨rfl, by rw [pq]; exact r1.2.1, by rw [pq]; exact r1.2.2⟩, FT⟩
  | inr x =>
    obtain ⟨c, j⟩ := x
    obtain ⟨_, ej, k30, _⟩ := pW_i hu
    subst ej
    have hv := kd_30 tk k30
    rw [hu] at r1
    obtain ⟨ev, m1⟩ := r1
    have M := pM _ m1
    have nv1 : (v = -1) = False := by rw [ev]; exact nI_ne (by omega)
    rw [ev] at pv
    -- gravel
    have fin : ∀ (s : Sig) (l : Nat) (sv : Int32) (a2 a3 : Value), MY b n N F E l s → s 133 (a + 1) = nI (vN b F E i) → s 133 (a + 2) = sv → s 133 (a + 3) = 0 → FX (Dz a) σ s →
        ∃ σ' v, (Ex (d + 3) 180 0 [.ref 112, .int 19] [] G0 s).bind (fun o => Ex (d + 3 + 1) 195 117 [.ref 112, .int (nI a), a2, a3] (o.1.toList ++ []) o.2.1 o.2.2) = some (some (.int v), G0, σ') ∧ RY b n N F E a (if kd b N F E l = 13 then .inr ((21, nI (vN b F E i), sv, 1), l + 1) else .inr ((21, nI (vN b F E i), sv, 0), l)) v σ' ∧ FX (Dz a) σ σ' := by
      intro s l sv a2 a3 hs h1 h2 h3 hF
      have iw : Ex (d + 3) 180 0 [.ref 112, .int 19] [] G0 s = _ := m_isWord (d + 3) hs.2.1 (k0 := 13) (by decide)
      have n0 : ((0 : Int32) = -1) = False := eq_false (by decide)
      rw [iw]
      simp only [Option.bind_some, Option.toList_some, Option.toList_none, List.cons_append, List.nil_append, i01a, i01b, if_true, if_false, b195_117, bI_z, bI_o, bI_em, ite_not]
      by_cases c13 : kd b N F E l = 13
      · have lt := kLt kd_e hs.2.2 (show kd b N F E l ≠ 32 by omega)
        obtain ⟨s2, e2, m2, f2⟩ := y_next (d + 1) tk (MY_p (v := 1) hs (show 160 ≤ a + 3 by omega)) lt
        have e2' : Ex (d + 3) 178 0 [.ref 112, .null] [] G0 (pt s 133 (a + 3) 1) = some (none, G0, s2) := e2
        rw [if_pos c13]
        simp only [eq_true c13, i10, i01, eq_self, if_true, if_false, true_and, false_and, and_true, and_false, not_true, not_false_iff, true_or, or_true, false_or, or_false, ne_eq, not_true_eq_false, not_false_eq_true, z3, x3, y3, e2', Option.bind_some, Option.toList_some, Option.toList_none, List.cons_append, List.nil_append, i01a, i01b, if_true, if_false, b195_133]
        refine ⟨s2, 0, rfl, ⟨n0, m2, ?_, fun _ => ?_, fun _ => ?_⟩, FX_t (FX_p hF (Or.inr ⟨rfl, by omega, by omega⟩)) (FX_m f2 (fun q k hq => DnDz hq))⟩
        · rw [f2 133 _ (by omega), pt_k (by omega)]; exact h1
        · rw [f2 133 _ (by omega), pt_k (by omega)]; exact h2
        · rw [f2 133 _ (by omega), pt_e]
      · rw [if_neg c13]
        simp only [eq_false c13, i10, i01, eq_self, if_true, if_false, true_and, false_and, and_true, and_false, not_true, not_false_iff, true_or, or_true, false_or, or_false, ne_eq, not_true_eq_false, not_false_eq_true, b195_133]
        exact ⟨s, 0, rfl, ⟨n0, hs, h1, fun _ => h2, fun _ => h3⟩, hF⟩
    have i7 : Ex (d + 3) 180 0 [.ref 112, .int 13] [] G0 t = _ := m_isWord (d + 3) M.2.1 (k0 := 7) (by decide)
    have i8 : Ex (d + 3) 180 0 [.ref 112, .int 14] [] G0 t = _ := m_isWord (d + 3) M.2.1 (k0 := 8) (by decide)
    simp only [nv1, i10, i01, eq_self, if_true, if_false, true_and, false_and, and_true, and_false, not_true, not_false_iff, true_or, or_true, false_or, or_false, ne_eq, not_true_eq_false, not_false_eq_true, i7, Option.bind_some, Option.toList_some, Option.toList_none, List.cons_append, List.nil_append, i01a, i01b, if_true, if_false, b195_54, bI_z, bI_o, bI_em, ite_not, i8, b195_63]
    by_cases kud : kd b N F E (i + 1) = 7 ∨ kd b N F E (i + 1) = 8
    · have lt := kLt kd_e M.2.2 (show kd b N F E (i + 1) ≠ 32 by omega)
      obtain ⟨s2, e2, m2, f2⟩ := y_next (d + 1) tk M lt
      have e2' : Ex (d + 3) 178 0 [.ref 112, .null] [] G0 t = some (none, G0, s2) := e2
      obtain ⟨s3, w, e3, r3, f3⟩ := y_num d 1 9 tk m2
      have F3 : FX (Dz a) σ s3 := FX_t FT (FX_t (FX_m f2 (fun q k hq => DnDz hq)) (FX_m f3 (fun q k hq => DnDz hq)))
      have k133 : ∀ k, s3 133 k = t 133 k := fun k => by rw [f3 133 _ (by omega), f2 133 _ (by omega)]
      have eP : pUp (kd b N F E) (vN b F E) (i + 1) = (match pW (kd b N F E) (vN b F E) 1 9 (i + 1 + 1) with
          | .inl x => .inl x
          | .inr _ => .inr (if kd b N F E (i + 1) = 8 then -(nI (vN b F E (i + 1 + 1))) else nI (vN b F E (i + 1 + 1)), i + 1 + 2)) := by unfold pUp; rw [if_pos kud]; cases pW (kd b N F E) (vN b F E) 1 9 (i + 1 + 1) <;> rfl
      rw [eP]
      have go : ∀ sg : Int32, (∀ x : Int32, sg * x = if kd b N F E (i + 1) = 8 then -x else x) → ∃ σ' v, (Ex (d + 3) 178 0 [.ref 112, .null] [] G0 t).bind (fun o => Ex (d + 3 + 1) 195 85 [.ref 112, .int (nI a), .int sg, .null] (o.1.toList ++ []) o.2.1 o.2.2) = some (some (.int v), G0, σ') ∧ RY b n N F E a (match (match pW (kd b N F E) (vN b F E) 1 9 (i + 1 + 1) with
          | .inl x => .inl x
          | .inr _ => .inr (if kd b N F E (i + 1) = 8 then -(nI (vN b F E (i + 1 + 1))) else nI (vN b F E (i + 1 + 1)), i + 1 + 2) : Sum (Nat × Nat) (Int32 × Nat)) with
        | .inl x => .inl x
        | .inr (s, l) => if kd b N F E l = 13 then .inr ((21, nI (vN b F E i), s, 1), l + 1) else .inr ((21, nI (vN b F E i), s, 0), l)) v σ' ∧ FX (Dz a) σ σ' := by
        intro sg hsg
        rw [e2']
        simp only [Option.bind_some, Option.toList_some, Option.toList_none, List.cons_append, List.nil_append, i01a, i01b, if_true, if_false, b195_85, e3, b195_92]
        cases hw : pW (kd b N F E) (vN b F E) 1 9 (i + 1 + 1) with
        | inl y =>
          rw [hw] at r3
          obtain ⟨y1, y2⟩ := y
          simp only [r3.1, i10, i01, eq_self, if_true, if_false, true_and, false_and, and_true, and_false, not_true, not_false_iff, true_or, or_true, false_or, or_false, ne_eq, not_true_eq_false, not_false_eq_true]
          exact ⟨s3, _, rfl, ⟨rfl, r3.2.1, r3.2.2⟩, F3⟩
        | inr y =>
          obtain ⟨c', j'⟩ := y
          obtain ⟨_, ej, k30', _⟩ := pW_i hw
          subst ej
          have hv' := kd_30 tk k30'
          rw [hw] at r3
          obtain ⟨ew, m3⟩ := r3
          have nw : (nI (vN b F E (i + 1 + 1)) = -1) = False := nI_ne (by omega)
          simp only [ew, nw, i10, i01, eq_self, if_true, if_false, true_and, false_and, and_true, and_false, not_true, not_false_iff, true_or, or_true, false_or, or_false, ne_eq, not_true_eq_false, not_false_eq_true, z2, x2, y2]
          exact fin _ (i + 1 + 1 + 1) _ _ _ (MY_p m3 (by omega)) (by rw [pt_k (by omega), k133]; exact pv) (by rw [pt_e]; exact hsg _) (by rw [pt_k (by omega), k133]; exact p3) (FX_p F3 (Or.inr ⟨rfl, by omega, by omega⟩))
      by_cases c8 : kd b N F E (i + 1) = 8
      · have n7 : ¬ kd b N F E (i + 1) = 7 := by omega
        have e26 : t 112 26 = 14 := by rw [M.2.1.2.1 (by omega), c8]; rfl
        have q : ((14 : Int32) = 13) = False := eq_false (by decide)
        have G := go (-1) (fun x => by rw [if_pos c8]; exact m1mul)
        simp only [eq_false n7, eq_true c8, i10, i01, eq_self, if_true, if_false, true_and, false_and, and_true, and_false, not_true, not_false_iff, true_or, or_true, false_or, or_false, ne_eq, not_true_eq_false, not_false_eq_true, e26, q] at G ⊢
        exact G
      · have c7 : kd b N F E (i + 1) = 7 := by omega
        have e26 : t 112 26 = 13 := by rw [M.2.1.2.1 (by omega), c7]; rfl
        have G := go 1 (fun x => by rw [if_neg c8]; exact Int32.one_mul x)
        simp only [eq_false c8, eq_true c7, i10, i01, eq_self, if_true, if_false, true_and, false_and, and_true, and_false, not_true, not_false_iff, true_or, or_true, false_or, or_false, ne_eq, not_true_eq_false, not_false_eq_true, e26] at G ⊢
        exact G
    · have c7 : ¬ kd b N F E (i + 1) = 7 := fun e => kud (Or.inl e)
      have c8 : ¬ kd b N F E (i + 1) = 8 := fun e => kud (Or.inr e)
      have eP : pUp (kd b N F E) (vN b F E) (i + 1) = .inr (0, i + 1) := by unfold pUp; rw [if_neg kud]
      rw [eP]
      simp only [eq_false c7, eq_false c8, i10, i01, eq_self, if_true, if_false, true_and, false_and, and_true, and_false, not_true, not_false_iff, true_or, or_true, false_or, or_false, ne_eq, not_true_eq_false, not_false_eq_true]
      exact fin t (i + 1) 0 .null .null M pv p2 p3 FT
theorem y_of (d : Nat) {a i P w : Nat} {kk mo : Int32} {σ : Sig} (tk : TOK (fun i => sr (b i)) n N F E) (ha : 160 ≤ a ∧ a + 3 < 320) (hw : w < 27) (hk : ¬ (kk = 21 ∨ kk = 22)) (hP : 2 * (σ 112 7 + 3) = nI P) (h : MY b n N F E i σ) :
    ∃ σ' v, Ex (d + 4) 196 0 [.ref 112, .int (nI a), .int (nI (pmW w)), .int mo] [] G0 σ = some (some (.int v), G0, σ') ∧ RY b n N F E a (match pW (kd b N F E) (vN b F E) 0 (nI P - 1) i with | .inl x => .inl x | .inr _ => if kd b N F E (i + 1) = w then (match pW (kd b N F E) (vN b F E) 0 mo (i + 2) with | .inl x => .inl x | .inr _ => .inr ((kk, nI (vN b F E i), nI (vN b F E (i + 2)), 0), i + 3)) else .inl (1, i + 1)) v σ' ∧ FX (Dz a) σ σ' := by
  obtain ⟨x0, x1, x2, x3, y0, y1, y2, y3, z2, z3⟩ := ix a ha
  obtain ⟨s1, v, e1, r1, f1⟩ := y_num d 0 (nI P - 1) tk h
  have pl : Ex (d + 3) 155 0 [.ref 112] [] G0 σ = _ := m_places (d + 2) σ
  have pv : pt s1 133 (a + 1) v 133 (a + 1) = v := pt_e
  have FT : FX (Dz a) σ (pt s1 133 (a + 1) v) := FX_p (FX_m f1 (fun q k hq => DnDz hq)) (Or.inr ⟨rfl, by omega, by omega⟩)
  rw [b196_0, pl]
  simp only [Option.bind_some, Option.toList_some, Option.toList_none, List.cons_append, List.nil_append, i01a, i01b, if_true, if_false, hP, nI_s, b196_13, e1, b196_18, x1, y1, pv, i10, i01, eq_self, if_true, if_false, true_and, false_and, and_true, and_false, not_true, not_false_iff, true_or, or_true, false_or, or_false, ne_eq, not_true_eq_false, not_false_eq_true]
  cases hu : pW (kd b N F E) (vN b F E) 0 (nI P - 1) i with
  | inl x =>
    rw [hu] at r1
    obtain ⟨x1, x2⟩ := x
    simp only [r1.1, i10, i01, eq_self, if_true, if_false, true_and, false_and, and_true, and_false, not_true, not_false_iff, true_or, or_true, false_or, or_false, ne_eq, not_true_eq_false, not_false_eq_true] at FT ⊢
    exact ⟨_, _, rfl, ⟨rfl, by rw [pt_q (by decide)]; exact r1.2.1, by rw [pt_q (by decide)]; exact r1.2.2⟩, FT⟩
  | inr x =>
    obtain ⟨c, j⟩ := x
    obtain ⟨_, ej, k30, _⟩ := pW_i hu
    subst ej
    have hv := kd_30 tk k30
    rw [hu] at r1
    obtain ⟨ev, m1⟩ := r1
    have nv1 : (v = -1) = False := by rw [ev]; exact nI_ne (by omega)
    have M : MY b n N F E (i + 1) (pt s1 133 (a + 1) v) := MY_p m1 (by omega)
    rw [ev] at pv
    simp only [nv1, i10, i01, eq_self, if_true, if_false, true_and, false_and, and_true, and_false, not_true, not_false_iff, true_or, or_true, false_or, or_false, ne_eq, not_true_eq_false, not_false_eq_true]
    rw [ev] at M FT ⊢
    generalize pt s1 133 (a + 1) (nI (vN b F E i)) = t at pv M FT
    have iw : Ex (d + 3) 180 0 [.ref 112, .int (nI (pmW w))] [] G0 t = _ := m_isWord (d + 3) M.2.1 hw
    rw [iw]
    simp only [Option.bind_some, Option.toList_some, Option.toList_none, List.cons_append, List.nil_append, i01a, i01b, if_true, if_false, b196_38, bI_z, bI_o, bI_em, ite_not]
    by_cases cw : kd b N F E (i + 1) = w
    · have lt := kLt kd_e M.2.2 (show kd b N F E (i + 1) ≠ 32 by omega)
      obtain ⟨s2, e2, m2, f2⟩ := y_next (d + 1) tk M lt
      have e2' : Ex (d + 3) 178 0 [.ref 112, .null] [] G0 t = some (none, G0, s2) := e2
      obtain ⟨s3, u, e3, r3, f3⟩ := y_num d 0 mo tk m2
      have F3 : FX (Dz a) σ s3 := FX_t FT (FX_t (FX_m f2 (fun q k hq => DnDz hq)) (FX_m f3 (fun q k hq => DnDz hq)))
      have p2 : pt s3 133 (a + 2) u 133 (a + 2) = u := pt_e
      have F4 : FX (Dz a) σ (pt s3 133 (a + 2) u) := FX_p F3 (Or.inr ⟨rfl, by omega, by omega⟩)
      rw [if_pos cw]
      simp only [eq_true cw, i10, i01, eq_self, if_true, if_false, true_and, false_and, and_true, and_false, not_true, not_false_iff, true_or, or_true, false_or, or_false, ne_eq, not_true_eq_false, not_false_eq_true, e2', Option.bind_some, Option.toList_some, Option.toList_none, List.cons_append, List.nil_append, i01a, i01b, if_true, if_false, b196_51, e3, z2, b196_64, x2, y2, p2]
      cases hw' : pW (kd b N F E) (vN b F E) 0 mo (i + 1 + 1) with
      | inl y =>
        rw [hw'] at r3
        obtain ⟨y1, y2⟩ := y
        exact ⟨_, _, rfl, ⟨r3.1, by rw [pt_q (by decide)]; exact r3.2.1, by rw [pt_q (by decide)]; exact r3.2.2⟩, F4⟩
      | inr y =>
        obtain ⟨c', j'⟩ := y
        obtain ⟨_, ej, k30', _⟩ := pW_i hw'
        subst ej
        have hv' := kd_30 tk k30'
        rw [hw'] at r3
        obtain ⟨eu, m3⟩ := r3
        refine ⟨_, _, rfl, ⟨by rw [eu]; exact nI_ne (by omega), MY_p m3 (by omega), ?_, fun _ => ?_, fun hp => absurd hp hk⟩, F4⟩
        · rw [pt_k (by omega), f3 133 _ (by omega), f2 133 _ (by omega)]; exact pv
        · rw [pt_e]; exact eu
    · obtain ⟨s2, e2, r1, r2, f2⟩ := y_f (d + 3) 1 M
      have e2' : Ex (d + 3) 179 0 [.ref 112, .int 1] [] G0 t = some (some (.int (-1)), G0, s2) := e2
      rw [if_neg cw]
      simp only [eq_false cw, i10, i01, eq_self, if_true, if_false, true_and, false_and, and_true, and_false, not_true, not_false_iff, true_or, or_true, false_or, or_false, ne_eq, not_true_eq_false, not_false_eq_true, e2', Option.bind_some, Option.toList_some, Option.toList_none, List.cons_append, List.nil_append, i01a, i01b, if_true, if_false, b196_46]
      exact ⟨s2, _, rfl, ⟨rfl, r1, r2⟩, FX_t FT (FX_m f2 (fun q k hq => DnDz hq))⟩
def YL (a : Nat) (l : WLn) (σ : Sig) : Prop := σ 133 a = mway l.1 ∧ σ 133 (a + 1) = l.2.1 ∧ (l.1 ≠ 23 → σ 133 (a + 2) = l.2.2.1) ∧ (pkW l → σ 133 (a + 3) = l.2.2.2)
def RYl (b : Nat → Nat) (n N : Nat) (F E : Nat → Nat) (a : Nat) (r : Sum (Nat × Nat) (WLn × Nat)) (v : Int32) (σ' : Sig) : Prop := match r with
  | .inl (k, x) => v = -1 ∧ σ' 112 39 = nI k ∧ σ' 112 40 = nI (fN n N F x)
  | .inr (l, j) => if kd b N F E j = 59 then v = 0 ∧ MY b n N F E (j + 1) σ' ∧ YL a l σ' else v = -1 ∧ σ' 112 39 = nI 1 ∧ σ' 112 40 = nI (fN n N F j)
/-- behind the line's slots: ; -/
theorem y_semi (d : Nat) {a j : Nat} {σ s : Sig} {l : WLn} (v : Int32) (tk : TOK (fun i => sr (b i)) n N F E) (h : MY b n N F E j s) (hy : YL a l s) (hF : FX (Dy a) σ s) (ha : 160 ≤ a) :
    ∃ σ' w, (Ex (d + 4) 181 0 [.ref 112, .int 59] [] G0 s).bind (fun o => Ex (d + 4 + 1) 197 182 [.ref 112, .int (nI a), .int v] (o.1.toList ++ []) o.2.1 o.2.2) = some (some (.int w), G0, σ') ∧ RYl b n N F E a (.inr (l, j)) w σ' ∧ FX (Dy a) σ σ' := by
  have is : Ex (d + 4) 181 0 [.ref 112, .int 59] [] G0 s = _ := m_isSign (d + 4) h.2.1 (c := 59) (by decide) (by decide)
  rw [is]
  simp only [Option.bind_some, Option.toList_some, Option.toList_none, List.cons_append, List.nil_append, i01a, i01b, if_true, if_false, b197_182, bI_z, bI_o, bI_em, ite_not]
  unfold RYl
  by_cases c : kd b N F E j = 59
  · have lt := kLt kd_e h.2.2 (show kd b N F E j ≠ 32 by omega)
    obtain ⟨s2, e2, m2, f2⟩ := y_next (d + 2) tk h lt
    have e2' : Ex (d + 4) 178 0 [.ref 112, .null] [] G0 s = some (none, G0, s2) := e2
    simp only [eq_true c, i10, i01, eq_self, if_true, if_false, true_and, false_and, and_true, and_false, not_true, not_false_iff, true_or, or_true, false_or, or_false, ne_eq, not_true_eq_false, not_false_eq_true, e2', Option.bind_some, Option.toList_some, Option.toList_none, List.cons_append, List.nil_append, i01a, i01b, if_true, if_false, b197_195]
    refine ⟨s2, 0, rfl, ⟨rfl, m2, ?_⟩, FX_t hF (FX_m f2 (fun q k hq => Or.inl hq))⟩
    unfold YL
    rw [f2 133 _ (by omega), f2 133 _ (by omega), f2 133 _ (by omega), f2 133 _ (by omega)]; exact hy
  · obtain ⟨s2, e2, r1, r2, f2⟩ := y_f (d + 4) 1 h
    have e2' : Ex (d + 4) 179 0 [.ref 112, .int 1] [] G0 s = some (some (.int (-1)), G0, s2) := e2
    simp only [eq_false c, i10, i01, eq_self, if_true, if_false, true_and, false_and, and_true, and_false, not_true, not_false_iff, true_or, or_true, false_or, or_false, ne_eq, not_true_eq_false, not_false_eq_true, e2', Option.bind_some, Option.toList_some, Option.toList_none, List.cons_append, List.nil_append, i01a, i01b, if_true, if_false, b197_190]
    exact ⟨s2, _, rfl, ⟨rfl, r1, r2⟩, FX_t hF (FX_m f2 (fun q k hq => Or.inl hq))⟩
theorem DzDy {a q k : Nat} (h : Dz a q k) : Dy a q k := by simp only [Dz, Dy] at h ⊢; omega
theorem y_line (d : Nat) {a i P Bn : Nat} {σ : Sig} (tk : TOK (fun i => sr (b i)) n N F E) (ha : 160 ≤ a ∧ a + 3 < 320) (hk : wk (kd b N F E i)) (hP : 2 * (σ 112 7 + 3) = nI P) (hB : σ 112 12 = nI Bn) (h : MY b n N F E i σ) :
    ∃ σ' v, Ex (d + 5) 197 0 [.ref 112, .int (nI a), .null] [] G0 σ = some (some (.int v), G0, σ') ∧ RYl b n N F E a (pWl (kd b N F E) (vN b F E) P Bn (kd b N F E i) (i + 1)) v σ' ∧ FX (Dy a) σ σ' := by
  obtain ⟨x0, x1, x2, x3, y0, y1, y2, y3, z2, z3⟩ := ix a ha
  have lt := kLt kd_e h.2.2 (show kd b N F E i ≠ 32 by unfold wk at hk; omega)
  have e26 : σ 112 26 = nI (pmW (kd b N F E i)) := h.2.1.2.1 (by unfold wk at hk; omega)
  -- the kind
  have head : ∃ s, Ex (d + 5) 197 0 [.ref 112, .int (nI a), .null] [] G0 σ = Ex (d + 4 + 1) 197 30 [.ref 112, .int (nI a), .null] [] G0 s ∧ MY b n N F E (i + 1) s ∧ s 133 a = mway (nI (kd b N F E i)) ∧ FX (Dy a) σ s := by
    have fin : ∀ v : Int32, ∃ s, (Ex (d + 4) 178 0 [.ref 112, .null] [] G0 (pt σ 133 a v)).bind (fun o => Ex (d + 4 + 1) 197 30 [.ref 112, .int (nI a), .null] (o.1.toList ++ []) o.2.1 o.2.2) = Ex (d + 4 + 1) 197 30 [.ref 112, .int (nI a), .null] [] G0 s ∧ MY b n N F E (i + 1) s ∧ s 133 a = v ∧ FX (Dy a) σ s := by
      intro v
      obtain ⟨s2, e2, m2, f2⟩ := y_next (d + 2) tk (MY_p (v := v) h ha.1) lt
      have e2' : Ex (d + 4) 178 0 [.ref 112, .null] [] G0 (pt σ 133 a v) = some (none, G0, s2) := e2
      rw [e2']
      simp only [Option.bind_some, Option.toList_some, Option.toList_none, List.cons_append, List.nil_append, i01a, i01b, if_true, if_false]
      exact ⟨s2, rfl, m2, by rw [f2 133 _ (by omega), pt_e], FX_t (FX_p FX_r (Or.inr ⟨rfl, by omega, by omega⟩)) (FX_m f2 (fun q k hq => Or.inl hq))⟩
    rw [b197_0, e26]
    have : kd b N F E i = 21 ∨ kd b N F E i = 22 ∨ kd b N F E i = 23 ∨ kd b N F E i = 24 ∨ kd b N F E i = 4 := by unfold wk at hk; omega
    rcases this with e | e | e | e | e
    · have q : (nI (pmW (kd b N F E i)) = 10) = False := by rw [e]; exact eq_false (by decide)
      simp only [q, x0, y0, i10, i01, eq_self, if_true, if_false, true_and, false_and, and_true, and_false, not_true, not_false_iff, true_or, or_true, false_or, or_false, ne_eq, not_true_eq_false, not_false_eq_true]
      rw [show mway (nI (kd b N F E i)) = nI (pmW (kd b N F E i)) - 21 by rw [e]; decide]
      exact fin _
    · have q : (nI (pmW (kd b N F E i)) = 10) = False := by rw [e]; exact eq_false (by decide)
      simp only [q, x0, y0, i10, i01, eq_self, if_true, if_false, true_and, false_and, and_true, and_false, not_true, not_false_iff, true_or, or_true, false_or, or_false, ne_eq, not_true_eq_false, not_false_eq_true]
      rw [show mway (nI (kd b N F E i)) = nI (pmW (kd b N F E i)) - 21 by rw [e]; decide]
      exact fin _
    · have q : (nI (pmW (kd b N F E i)) = 10) = False := by rw [e]; exact eq_false (by decide)
      simp only [q, x0, y0, i10, i01, eq_self, if_true, if_false, true_and, false_and, and_true, and_false, not_true, not_false_iff, true_or, or_true, false_or, or_false, ne_eq, not_true_eq_false, not_false_eq_true]
      rw [show mway (nI (kd b N F E i)) = nI (pmW (kd b N F E i)) - 21 by rw [e]; decide]
      exact fin _
    · have q : (nI (pmW (kd b N F E i)) = 10) = False := by rw [e]; exact eq_false (by decide)
      simp only [q, x0, y0, i10, i01, eq_self, if_true, if_false, true_and, false_and, and_true, and_false, not_true, not_false_iff, true_or, or_true, false_or, or_false, ne_eq, not_true_eq_false, not_false_eq_true]
      rw [show mway (nI (kd b N F E i)) = nI (pmW (kd b N F E i)) - 21 by rw [e]; decide]
      exact fin _
    · have q : (nI (pmW (kd b N F E i)) = 10) = True := by rw [e]; exact eq_true (by decide)
      simp only [q, x0, y0, i10, i01, eq_self, if_true, if_false, true_and, false_and, and_true, and_false, not_true, not_false_iff, true_or, or_true, false_or, or_false, ne_eq, not_true_eq_false, not_false_eq_true]
      rw [show mway (nI (kd b N F E i)) = 4 by rw [e]; decide]
      exact fin _
  obtain ⟨s, es, ms, ks, fs⟩ := head
  have sP : 2 * (s 112 7 + 3) = nI P := by rw [fs 112 7 (by omega)]; exact hP
  have sB : s 112 12 = nI Bn := by rw [fs 112 12 (by omega)]; exact hB
  rw [es, b197_30]
  have : kd b N F E i = 21 ∨ kd b N F E i = 22 ∨ kd b N F E i = 23 ∨ kd b N F E i = 24 ∨ kd b N F E i = 4 := by unfold wk at hk; omega
  rcases this with e | e | e | e | e
  · rw [e] at ks ⊢
    have k0 : s 133 a = 0 := ks
    obtain ⟨s1, v, e1, r1, f1⟩ := y_walk d (P := P) (Bn := Bn) tk ha ms
    have g0 : s1 133 a = 0 := by rw [f1 133 a (by omega)]; exact k0
    have F1 : FX (Dy a) σ s1 := FX_t fs (FX_m f1 (fun q k hq => DzDy hq))
    have n1 : ((0 : Int32) = 1) = False := eq_false (by decide)
    have n2 : ((0 : Int32) = 2) = False := eq_false (by decide)
    have n3 : ((0 : Int32) = 3) = False := eq_false (by decide)
    have n4 : ((0 : Int32) = 4) = False := eq_false (by decide)
    simp only [x0, y0, k0, i10, i01, eq_self, if_true, if_false, true_and, false_and, and_true, and_false, not_true, not_false_iff, true_or, or_true, false_or, or_false, ne_eq, not_true_eq_false, not_false_eq_true, e1, Option.bind_some, Option.toList_some, Option.toList_none, List.cons_append, List.nil_append, i01a, i01b, if_true, if_false, b197_46, b197_47, g0, n1, n2, n3, b197_149, n4]
    cases hu : pWl (kd b N F E) (vN b F E) P Bn 21 (i + 1) with
    | inl x =>
      rw [hu] at r1
      obtain ⟨x1, x2⟩ := x
      simp only [r1.1, i10, i01, eq_self, if_true, if_false, true_and, false_and, and_true, and_false, not_true, not_false_iff, true_or, or_true, false_or, or_false, ne_eq, not_true_eq_false, not_false_eq_true]
      exact ⟨s1, _, rfl, ⟨rfl, r1.2.1, r1.2.2⟩, F1⟩
    | inr x =>
      obtain ⟨l, j⟩ := x
      rw [hu] at r1
      obtain ⟨nv1, m1, q1, q2, q3⟩ := r1
      have el : l.1 = 21 := by
        have ep : pWl (kd b N F E) (vN b F E) P Bn 21 (i + 1) = (match pW (kd b N F E) (vN b F E) 1 200 (i + 1) with | .inl x => .inl x | .inr _ => match pUp (kd b N F E) (vN b F E) (i + 1 + 1) with
          | .inl x => .inl x
          | .inr (s, l) => if kd b N F E l = 13 then .inr ((21, nI (vN b F E (i + 1)), s, 1), l + 1) else .inr ((21, nI (vN b F E (i + 1)), s, 0), l)) := rfl
        rw [ep] at hu
        split at hu
        · cases hu
        · split at hu
          · cases hu
          · split at hu <;> cases hu <;> rfl
      simp only [nv1, i10, i01, eq_self, if_true, if_false, true_and, false_and, and_true, and_false, not_true, not_false_iff, true_or, or_true, false_or, or_false, ne_eq, not_true_eq_false, not_false_eq_true]
      exact y_semi d v tk m1 ⟨by rw [g0, el]; rfl, q1, q2, q3⟩ F1 ha.1
  · rw [e] at ks ⊢
    have k0 : s 133 a = 1 := ks
    obtain ⟨s1, v, e1, r1, f1⟩ := y_num (d + 1) 1 200 tk ms
    have e1' : Ex (d + 4) 194 0 [.ref 112, .int 1, .int 200, .null] [] G0 s = some (some (.int v), G0, s1) := e1
    have ep : pWl (kd b N F E) (vN b F E) P Bn 22 (i + 1) = (match pW (kd b N F E) (vN b F E) 1 200 (i + 1) with | .inl x => .inl x | .inr _ => .inr ((22, nI (vN b F E (i + 1)), 0, 0), i + 1 + 1)) := rfl
    have n0 : ((1 : Int32) = 0) = False := eq_false (by decide)
    have n1 : ((2 : Int32) = 1) = False := eq_false (by decide)
    have n3 : ((1 : Int32) = 3) = False := eq_false (by decide)
    have n4 : ((1 : Int32) = 4) = False := eq_false (by decide)
    have g0 : s1 133 a = 1 := by rw [f1 133 a (by omega)]; exact k0
    have pa : pt (pt (pt s1 133 (a + 1) v) 133 (a + 2) 0) 133 (a + 3) 0 133 a = 1 := by rw [pt_k (by omega), pt_k (by omega), pt_k (by omega)]; exact g0
    have pv : pt (pt (pt s1 133 (a + 1) v) 133 (a + 2) 0) 133 (a + 3) 0 133 (a + 1) = v := by rw [pt_k (by omega), pt_k (by omega), pt_e]
    have p2 : pt (pt (pt s1 133 (a + 1) v) 133 (a + 2) 0) 133 (a + 3) 0 133 (a + 2) = 0 := by rw [pt_k (by omega), pt_e]
    have p3 : pt (pt (pt s1 133 (a + 1) v) 133 (a + 2) 0) 133 (a + 3) 0 133 (a + 3) = 0 := pt_e
    have pq : ∀ k, pt (pt (pt s1 133 (a + 1) v) 133 (a + 2) 0) 133 (a + 3) 0 112 k = s1 112 k := fun k => by rw [pt_q (by decide), pt_q (by decide), pt_q (by decide)]
    have pM : ∀ j, MY b n N F E j s1 → MY b n N F E j (pt (pt (pt s1 133 (a + 1) v) 133 (a + 2) 0) 133 (a + 3) 0) := fun j hj => MY_p (MY_p (MY_p hj (by omega)) (by omega)) (by omega)
    have FT : FX (Dy a) σ (pt (pt (pt s1 133 (a + 1) v) 133 (a + 2) 0) 133 (a + 3) 0) := FX_p (FX_p (FX_p (FX_t fs (FX_m f1 (fun q k hq => Or.inl hq))) (Or.inr ⟨rfl, by omega, by omega⟩)) (Or.inr ⟨rfl, by omega, by omega⟩)) (Or.inr ⟨rfl, by omega, by omega⟩)
    rw [ep]
    simp only [x0, y0, k0, n0, n1, i10, i01, eq_self, if_true, if_false, true_and, false_and, and_true, and_false, not_true, not_false_iff, true_or, or_true, false_or, or_false, ne_eq, not_true_eq_false, not_false_eq_true, b197_47, b197_67, e1', Option.bind_some, Option.toList_some, Option.toList_none, List.cons_append, List.nil_append, i01a, i01b, if_true, if_false, nI_s, b197_97, x1, x2, x3, y1, y2, y3, z2, z3, pa, pv, n3, b197_149, n4]
    generalize pt (pt (pt s1 133 (a + 1) v) 133 (a + 2) 0) 133 (a + 3) 0 = t at pa pv p2 p3 pq pM FT
    cases hu : pW (kd b N F E) (vN b F E) 1 200 (i + 1) with
    | inl x =>
      rw [hu] at r1
      obtain ⟨x1, x2⟩ := x
      simp only [r1.1, i10, i01, eq_self, if_true, if_false, true_and, false_and, and_true, and_false, not_true, not_false_iff, true_or, or_true, false_or, or_false, ne_eq, not_true_eq_false, not_false_eq_true]
      exact ⟨t, _, rfl, ⟨rfl, by rw [pq]; exact r1.2.1, by rw [pq]; exact r1.2.2⟩, FT⟩
    | inr x =>
      obtain ⟨c, j⟩ := x
      obtain ⟨_, ej, k30, _⟩ := pW_i hu
      subst ej
      have hv := kd_30 tk k30
      rw [hu] at r1
      obtain ⟨ev, m1⟩ := r1
      have nv1 : (v = -1) = False := by rw [ev]; exact nI_ne (by omega)
      simp only [nv1, i10, i01, eq_self, if_true, if_false, true_and, false_and, and_true, and_false, not_true, not_false_iff, true_or, or_true, false_or, or_false, ne_eq, not_true_eq_false, not_false_eq_true]
      exact y_semi d v tk (pM _ m1) ⟨by rw [pa]; show (1 : Int32) = mway 22; decide, by rw [pv]; exact ev, fun _ => p2, fun _ => p3⟩ FT ha.1
  · rw [e] at ks ⊢
    have k0 : s 133 a = 2 := ks
    obtain ⟨s1, v, e1, r1, f1⟩ := y_num (d + 1) 1 99 tk ms
    have e1' : Ex (d + 4) 194 0 [.ref 112, .int 1, .int 99, .null] [] G0 s = some (some (.int v), G0, s1) := e1
    have ep : pWl (kd b N F E) (vN b F E) P Bn 23 (i + 1) = (match pW (kd b N F E) (vN b F E) 1 99 (i + 1) with | .inl x => .inl x | .inr _ => .inr ((23, nI (vN b F E (i + 1)), 0, 0), i + 1 + 1)) := rfl
    have n0 : ((2 : Int32) = 0) = False := eq_false (by decide)
    have n1 : ((2 : Int32) = 1) = False := eq_false (by decide)
    have n3 : ((2 : Int32) = 3) = False := eq_false (by decide)
    have n4 : ((2 : Int32) = 4) = False := eq_false (by decide)
    have g0 : s1 133 a = 2 := by rw [f1 133 a (by omega)]; exact k0
    have pa : pt (pt (pt s1 133 (a + 1) v) 133 (a + 2) 0) 133 (a + 3) 0 133 a = 2 := by rw [pt_k (by omega), pt_k (by omega), pt_k (by omega)]; exact g0
    have pv : pt (pt (pt s1 133 (a + 1) v) 133 (a + 2) 0) 133 (a + 3) 0 133 (a + 1) = v := by rw [pt_k (by omega), pt_k (by omega), pt_e]
    have p2 : pt (pt (pt s1 133 (a + 1) v) 133 (a + 2) 0) 133 (a + 3) 0 133 (a + 2) = 0 := by rw [pt_k (by omega), pt_e]
    have p3 : pt (pt (pt s1 133 (a + 1) v) 133 (a + 2) 0) 133 (a + 3) 0 133 (a + 3) = 0 := pt_e
    have pq : ∀ k, pt (pt (pt s1 133 (a + 1) v) 133 (a + 2) 0) 133 (a + 3) 0 112 k = s1 112 k := fun k => by rw [pt_q (by decide), pt_q (by decide), pt_q (by decide)]
    have pM : ∀ j, MY b n N F E j s1 → MY b n N F E j (pt (pt (pt s1 133 (a + 1) v) 133 (a + 2) 0) 133 (a + 3) 0) := fun j hj => MY_p (MY_p (MY_p hj (by omega)) (by omega)) (by omega)
    have FT : FX (Dy a) σ (pt (pt (pt s1 133 (a + 1) v) 133 (a + 2) 0) 133 (a + 3) 0) := FX_p (FX_p (FX_p (FX_t fs (FX_m f1 (fun q k hq => Or.inl hq))) (Or.inr ⟨rfl, by omega, by omega⟩)) (Or.inr ⟨rfl, by omega, by omega⟩)) (Or.inr ⟨rfl, by omega, by omega⟩)
    rw [ep]
    simp only [x0, y0, k0, n0, n1, i10, i01, eq_self, if_true, if_false, true_and, false_and, and_true, and_false, not_true, not_false_iff, true_or, or_true, false_or, or_false, ne_eq, not_true_eq_false, not_false_eq_true, b197_47, b197_67, e1', Option.bind_some, Option.toList_some, Option.toList_none, List.cons_append, List.nil_append, i01a, i01b, if_true, if_false, nI_s, b197_97, x1, x2, x3, y1, y2, y3, z2, z3, pa, pv, n3, b197_149, n4]
    generalize pt (pt (pt s1 133 (a + 1) v) 133 (a + 2) 0) 133 (a + 3) 0 = t at pa pv p2 p3 pq pM FT
    cases hu : pW (kd b N F E) (vN b F E) 1 99 (i + 1) with
    | inl x =>
      rw [hu] at r1
      obtain ⟨x1, x2⟩ := x
      simp only [r1.1, i10, i01, eq_self, if_true, if_false, true_and, false_and, and_true, and_false, not_true, not_false_iff, true_or, or_true, false_or, or_false, ne_eq, not_true_eq_false, not_false_eq_true]
      exact ⟨t, _, rfl, ⟨rfl, by rw [pq]; exact r1.2.1, by rw [pq]; exact r1.2.2⟩, FT⟩
    | inr x =>
      obtain ⟨c, j⟩ := x
      obtain ⟨_, ej, k30, _⟩ := pW_i hu
      subst ej
      have hv := kd_30 tk k30
      rw [hu] at r1
      obtain ⟨ev, m1⟩ := r1
      have nv1 : (v = -1) = False := by rw [ev]; exact nI_ne (by omega)
      simp only [nv1, i10, i01, eq_self, if_true, if_false, true_and, false_and, and_true, and_false, not_true, not_false_iff, true_or, or_true, false_or, or_false, ne_eq, not_true_eq_false, not_false_eq_true]
      exact y_semi d v tk (pM _ m1) ⟨by rw [pa]; show (2 : Int32) = mway 23; decide, by rw [pv]; exact ev, fun _ => p2, fun _ => p3⟩ FT ha.1
  · rw [e] at ks ⊢
    have k0 : s 133 a = 3 := ks
    obtain ⟨s1, v, e1, r1, f1⟩ := y_of d (P := P) (w := 25) (kk := 24) (mo := nI Bn - 1) tk ha (by decide) (by decide) sP ms
    have e1' : Ex (d + 4) 196 0 [.ref 112, .int (nI a), .int 25, .int (nI Bn - 1)] [] G0 s = some (some (.int v), G0, s1) := e1
    have ep : pWl (kd b N F E) (vN b F E) P Bn 24 (i + 1) = (match pW (kd b N F E) (vN b F E) 0 (nI P - 1) (i + 1) with | .inl x => .inl x | .inr _ => if kd b N F E (i + 1 + 1) = 25 then (match pW (kd b N F E) (vN b F E) 0 (nI Bn - 1) (i + 1 + 2) with | .inl x => .inl x | .inr _ => .inr ((24, nI (vN b F E (i + 1)), nI (vN b F E (i + 1 + 2)), 0), i + 1 + 3)) else .inl (1, i + 1 + 1)) := rfl
    have g0 : s1 133 a = 3 := by rw [f1 133 a (by omega)]; exact k0
    have F1 : FX (Dy a) σ s1 := FX_t fs (FX_m f1 (fun q k hq => DzDy hq))
    have n0 : ((3 : Int32) = 0) = False := eq_false (by decide)
    have n1 : ((3 : Int32) = 1) = False := eq_false (by decide)
    have n2 : ((3 : Int32) = 2) = False := eq_false (by decide)
    have n4 : ((3 : Int32) = 4) = False := eq_false (by decide)
    simp only [x0, y0, k0, n0, n1, n2, i10, i01, eq_self, if_true, if_false, true_and, false_and, and_true, and_false, not_true, not_false_iff, true_or, or_true, false_or, or_false, ne_eq, not_true_eq_false, not_false_eq_true, b197_47, b197_135, sB, e1', Option.bind_some, Option.toList_some, Option.toList_none, List.cons_append, List.nil_append, i01a, i01b, if_true, if_false, b197_148, b197_149, g0, n4]
    rw [← ep] at r1
    cases hu : pWl (kd b N F E) (vN b F E) P Bn 24 (i + 1) with
    | inl x =>
      rw [hu] at r1
      obtain ⟨x1, x2⟩ := x
      simp only [r1.1, i10, i01, eq_self, if_true, if_false, true_and, false_and, and_true, and_false, not_true, not_false_iff, true_or, or_true, false_or, or_false, ne_eq, not_true_eq_false, not_false_eq_true]
      exact ⟨s1, _, rfl, ⟨rfl, r1.2.1, r1.2.2⟩, F1⟩
    | inr x =>
      obtain ⟨l, j⟩ := x
      rw [hu] at r1
      obtain ⟨nv1, m1, q1, q2, q3⟩ := r1
      have el : l.1 = 24 := by
        rw [ep] at hu
        split at hu
        · cases hu
        · split at hu
          · split at hu
            · cases hu
            · cases hu; rfl
          · cases hu
      simp only [nv1, i10, i01, eq_self, if_true, if_false, true_and, false_and, and_true, and_false, not_true, not_false_iff, true_or, or_true, false_or, or_false, ne_eq, not_true_eq_false, not_false_eq_true]
      exact y_semi d v tk m1 ⟨by rw [g0, el]; rfl, q1, q2, q3⟩ F1 ha.1
  · rw [e] at ks ⊢
    have k0 : s 133 a = 4 := ks
    obtain ⟨s1, v, e1, r1, f1⟩ := y_of d (P := P) (w := 26) (kk := 4) (mo := 6) tk ha (by decide) (by decide) sP ms
    have e1' : Ex (d + 4) 196 0 [.ref 112, .int (nI a), .int 26, .int 6] [] G0 s = some (some (.int v), G0, s1) := e1
    have ep : pWl (kd b N F E) (vN b F E) P Bn 4 (i + 1) = (match pW (kd b N F E) (vN b F E) 0 (nI P - 1) (i + 1) with | .inl x => .inl x | .inr _ => if kd b N F E (i + 1 + 1) = 26 then (match pW (kd b N F E) (vN b F E) 0 6 (i + 1 + 2) with | .inl x => .inl x | .inr _ => .inr ((4, nI (vN b F E (i + 1)), nI (vN b F E (i + 1 + 2)), 0), i + 1 + 3)) else .inl (1, i + 1 + 1)) := rfl
    have g0 : s1 133 a = 4 := by rw [f1 133 a (by omega)]; exact k0
    have F1 : FX (Dy a) σ s1 := FX_t fs (FX_m f1 (fun q k hq => DzDy hq))
    have n0 : ((4 : Int32) = 0) = False := eq_false (by decide)
    have n1 : ((4 : Int32) = 1) = False := eq_false (by decide)
    have n2 : ((4 : Int32) = 2) = False := eq_false (by decide)
    have n3 : ((4 : Int32) = 3) = False := eq_false (by decide)
    simp only [x0, y0, k0, n0, n1, n2, n3, i10, i01, eq_self, if_true, if_false, true_and, false_and, and_true, and_false, not_true, not_false_iff, true_or, or_true, false_or, or_false, ne_eq, not_true_eq_false, not_false_eq_true, b197_47, b197_149, e1', Option.bind_some, Option.toList_some, Option.toList_none, List.cons_append, List.nil_append, i01a, i01b, if_true, if_false, b197_168]
    rw [← ep] at r1
    cases hu : pWl (kd b N F E) (vN b F E) P Bn 4 (i + 1) with
    | inl x =>
      rw [hu] at r1
      obtain ⟨x1, x2⟩ := x
      simp only [r1.1, i10, i01, eq_self, if_true, if_false, true_and, false_and, and_true, and_false, not_true, not_false_iff, true_or, or_true, false_or, or_false, ne_eq, not_true_eq_false, not_false_eq_true]
      exact ⟨s1, _, rfl, ⟨rfl, r1.2.1, r1.2.2⟩, F1⟩
    | inr x =>
      obtain ⟨l, j⟩ := x
      rw [hu] at r1
      obtain ⟨nv1, m1, q1, q2, q3⟩ := r1
      have el : l.1 = 4 := by
        rw [ep] at hu
        split at hu
        · cases hu
        · split at hu
          · split at hu
            · cases hu
            · cases hu; rfl
          · cases hu
      simp only [nv1, i10, i01, eq_self, if_true, if_false, true_and, false_and, and_true, and_false, not_true, not_false_iff, true_or, or_true, false_or, or_false, ne_eq, not_true_eq_false, not_false_eq_true]
      exact y_semi d v tk m1 ⟨by rw [g0, el]; rfl, q1, q2, q3⟩ F1 ha.1
end
