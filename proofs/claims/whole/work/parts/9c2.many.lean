/-! L3: the grammar, the model: a condition, by a stack of what waits -/
def ST (st : List Int32) (σ : Sig) : Prop := σ 112 38 = nI st.length ∧ ∀ k, k < st.length → σ 132 k = st.getD k 0
theorem m_waits (d : Nat) {st : List Int32} {σ : Sig} (x : Int32) (h : ST st σ) (hl : st.length < 40) : ∃ σ', Ex d 188 0 [.ref 112, .int x] [] G0 σ = some (none, G0, σ') ∧ ST (st ++ [x]) σ' ∧ FX (fun q k => (q = 112 ∧ k = 38) ∨ q = 132) σ σ' := by
  obtain ⟨h1, h2⟩ := h
  have p1 : pt σ 132 st.length x 112 38 = nI st.length := by rw [pt_q (by decide)]; exact h1
  rw [b188_0]
  simp only [h1, inb_n hl (show st.length < 2 ^ 31 by omega), nI_c (show st.length < 2 ^ 31 by omega), p1, nI_s, i10, i01, eq_self, if_true, if_false, true_and, false_and, and_true, and_false, not_true, not_false_iff, true_or, or_true, false_or, or_false, ne_eq, not_true_eq_false, not_false_eq_true]
  refine ⟨_, rfl, ⟨by rw [pt_e, List.length_append]; rfl, fun k hk => ?_⟩, FX_p (FX_p FX_r (Or.inr rfl)) (Or.inl ⟨rfl, rfl⟩)⟩
  rw [pt_q (by decide)]
  by_cases ek : k = st.length
  · subst ek; rw [pt_e, gd_r (Nat.le_refl _), Nat.sub_self]; rfl
  · have : k < st.length := by rw [List.length_append] at hk; simp at hk; omega
    rw [pt_k ek, gd_l this]; exact h2 k this
theorem ST_x {P : Nat → Nat → Prop} {st : List Int32} {σ σ' : Sig} (h : ST st σ) (f : FX P σ σ') (h1 : ¬ P 112 38) (h2 : ∀ k, ¬ P 132 k) : ST st σ' := ⟨by rw [f 112 38 h1]; exact h.1, fun k hk => by rw [f 132 k (h2 k)]; exact h.2 k hk⟩
/-- the top isn't w -/
def NT (st : List Int32) (w : Int32) : Prop := ∀ k, st.length = k + 1 → st.getD k 0 ≠ w
theorem NT_0 {w : Int32} : NT [] w := fun k h => by cases h
theorem NT_a {st : List Int32} {x w : Int32} (h : x ≠ w) : NT (st ++ [x]) w := fun k hk => by
  rw [List.length_append] at hk
  have : k = st.length := by simp at hk; omega
  rw [this, gd_r (Nat.le_refl _), Nat.sub_self]; exact h
section
variable {b : Nat → Nat} {n N : Nat} {F E : Nat → Nat}
def MA (b : Nat → Nat) (n N : Nat) (F E : Nat → Nat) (g j : Nat) (C st : List Int32) (o : Nat) (σ : Sig) : Prop := MP b n N F E g j C σ ∧ ST st σ ∧ σ 112 36 = nI o
theorem MP_x {g j : Nat} {C : List Int32} {σ σ' : Sig} (h : MP b n N F E g j C σ) (f : FX (fun q k => (q = 112 ∧ (k = 36 ∨ k = 38)) ∨ q = 132) σ σ') : MP b n N F E g j C σ' := by
  obtain ⟨h1, h2, h3, h4, h5⟩ := h
  refine ⟨TPm_x h1 (FX_m f (fun q k hq => by simp only [Dl, Da, Ds]; omega)), RT_x h2 f (by decide), h3, CM_k h4 (f 112 35 (by decide)) ?_ ?_, by rw [f 112 34 (by decide)]; exact h5⟩
  · funext k; exact f 130 k (by omega)
  · funext k; exact f 131 k (by omega)
theorem m_settles (d : Nat) {g j : Nat} (w c : Int32) (hc : cmK c w 0) : ∀ m C st o σ, MA b n N F E g j C (st ++ List.replicate m w) o σ → NT st w → st.length + m ≤ 40 → C.length + m ≤ 400 → (w = 9 → m ≤ o) → o ≤ 8 →
    ∃ σ', Ex (d + 1) 189 0 [.ref 112, .int w] [] G0 σ = some (none, G0, σ') ∧ MA b n N F E g j (C ++ List.replicate m c) st (if w = 9 then o - m else o) σ' ∧ FX Da σ σ' := by
  intro m
  induction m with
  | zero =>
    intro C st o σ h hN hl hC ho h8
    have e0 : st ++ List.replicate 0 w = st := List.append_nil st
    rw [e0] at h
    have e1 : C ++ List.replicate 0 c = C := List.append_nil C
    have e2 : (if w = 9 then o - 0 else o) = o := by split <;> rfl
    rw [e1, e2, b189_0, h.2.1.1]
    refine ⟨σ, ?_, h, FX_r⟩
    rcases Nat.eq_zero_or_pos st.length with z | z
    · have q : (nI st.length ≤ 0) = True := by rw [z]; exact eq_true (by decide)
      simp only [q, i10, i01, eq_self, if_true, if_false, true_and, false_and, and_true, and_false, not_true, not_false_iff, true_or, or_true, false_or, or_false, ne_eq, not_true_eq_false, not_false_eq_true]
    · obtain ⟨k, ek⟩ : ∃ k, st.length = k + 1 := ⟨st.length - 1, by omega⟩
      have q : (nI (k + 1) ≤ 0) = False := by
        have : (nI (k + 1) ≤ 0) = (k + 1 ≤ 0) := nJ_le (b := 0) (by omega) (by omega)
        rw [this]; exact eq_false (by omega)
      have p : nI (k + 1) - 1 = nI k := nI_p1 (by omega)
      have ne : (st.getD k 0 = w) = False := eq_false (hN k ek)
      simp only [ek, q, p, inb_n (show k < 40 by omega) (show k < 2 ^ 31 by omega), nI_c (show k < 2 ^ 31 by omega), h.2.1.2 k (by omega), ne, i10, i01, eq_self, if_true, if_false, true_and, false_and, and_true, and_false, not_true, not_false_iff, true_or, or_true, false_or, or_false, ne_eq, not_true_eq_false, not_false_eq_true]
  | succ m ih =>
    intro C st o σ h hN hl hC ho h8
    have eL : (st ++ List.replicate (m + 1) w).length = st.length + m + 1 := by rw [List.length_append, List.length_replicate]; omega
    have h1 := h.2.1.1
    rw [eL] at h1
    have eg : (st ++ List.replicate (m + 1) w).getD (st.length + m) 0 = w := by
      rw [gd_r (by omega), show st.length + m - st.length = m by omega]
      rw [List.getD, List.getElem?_replicate, if_pos (by omega)]; rfl
    have h2 := h.2.1.2 (st.length + m) (by omega)
    rw [eg] at h2
    have q : (nI (st.length + m + 1) ≤ 0) = False := by
      have : (nI (st.length + m + 1) ≤ 0) = (st.length + m + 1 ≤ 0) := nJ_le (b := 0) (by omega) (by omega)
      rw [this]; exact eq_false (by omega)
    have p : nI (st.length + m + 1) - 1 = nI (st.length + m) := nI_p1 (by omega)
    have F1 : FX (fun q k => (q = 112 ∧ (k = 36 ∨ k = 38)) ∨ q = 132) σ (pt σ 112 38 (nI (st.length + m))) := FX_p FX_r (Or.inl ⟨rfl, Or.inr rfl⟩)
    have M1 := MP_x h.1 F1
    have S1 : ST (st ++ List.replicate m w) (pt σ 112 38 (nI (st.length + m))) := by
      refine ⟨by rw [pt_e, List.length_append, List.length_replicate], fun k hk => ?_⟩
      rw [pt_q (by decide), h.2.1.2 k (by rw [List.length_append, List.length_replicate] at hk ⊢; omega)]
      by_cases c : k < st.length
      · rw [gd_l c, gd_l c]
      · rw [List.length_append, List.length_replicate] at hk
        rw [gd_r (by omega), gd_r (by omega), List.getD, List.getD, List.getElem?_replicate, List.getElem?_replicate, if_pos (by omega), if_pos (by omega)]
    have O1 : pt σ 112 38 (nI (st.length + m)) 112 36 = nI o := by rw [pt_k (by decide)]; exact h.2.2
    rw [b189_0, h1]
    simp only [q, p, inb_n (show st.length + m < 40 by omega) (show st.length + m < 2 ^ 31 by omega), nI_c (show st.length + m < 2 ^ 31 by omega), h2, i10, i01, eq_self, if_true, if_false, true_and, false_and, and_true, and_false, not_true, not_false_iff, true_or, or_true, false_or, or_false, ne_eq, not_true_eq_false, not_false_eq_true]
    generalize pt σ 112 38 (nI (st.length + m)) = s1 at F1 M1 S1 O1
    obtain ⟨s2, e2, m2, f2⟩ := MP_e d M1 (show C.length < 400 by omega) hc
    have S2 := ST_x S1 f2 (by decide) (fun k => by omega)
    have O2 : s2 112 36 = nI o := by rw [f2 112 36 (by decide)]; exact O1
    have F12 : FX Da σ s2 := FX_t (FX_m F1 (fun q k hq => by simp only [Da, Ds]; omega)) (FX_m f2 (fun q k hq => by simp only [Da, Ds]; omega))
    have eC : C ++ List.replicate (m + 1) c = C ++ [c] ++ List.replicate m c := by rw [List.append_assoc]; rfl
    simp only [e2, Option.bind_some, Option.toList_some, Option.toList_none, List.cons_append, List.nil_append, i01a, i01b, if_true, if_false, b189_38]
    by_cases c9 : w = 9
    · have ho1 := ho c9
      have p9 : nI o - 1 = nI (o - 1) := nI_p1 (by omega)
      simp only [eq_true c9, i10, i01, eq_self, if_true, if_false, true_and, false_and, and_true, and_false, not_true, not_false_iff, true_or, or_true, false_or, or_false, ne_eq, not_true_eq_false, not_false_eq_true, O2, p9]
      have F3 : FX (fun q k => (q = 112 ∧ (k = 36 ∨ k = 38)) ∨ q = 132) s2 (pt s2 112 36 (nI (o - 1))) := FX_p FX_r (Or.inl ⟨rfl, Or.inl rfl⟩)
      obtain ⟨s4, e4, m4, f4⟩ := ih (C ++ [c]) st (o - 1) (pt s2 112 36 (nI (o - 1))) ⟨MP_x m2 F3, ⟨by rw [pt_k (by decide)]; exact S2.1, by rw [pt_q (by decide)]; exact S2.2⟩, pt_e⟩ hN (by omega) (by rw [List.length_append]; simp; omega) (fun _ => by omega) (by omega)
      refine ⟨s4, e4, ?_, FX_t F12 (FX_t (FX_m F3 (fun q k hq => by simp only [Da, Ds]; omega)) f4)⟩
      rw [if_pos c9] at m4
      rw [eC, show o - (m + 1) = o - 1 - m by omega]; exact m4
    · simp only [eq_false c9, i10, i01, eq_self, if_true, if_false, true_and, false_and, and_true, and_false, not_true, not_false_iff, true_or, or_true, false_or, or_false, ne_eq, not_true_eq_false, not_false_eq_true]
      obtain ⟨s4, e4, m4, f4⟩ := ih (C ++ [c]) st o s2 ⟨m2, S2, O2⟩ hN (by omega) (by rw [List.length_append]; simp; omega) (fun e => absurd e c9) h8
      refine ⟨s4, e4, ?_, FX_t F12 f4⟩
      rw [if_neg c9] at m4
      rw [eC]; exact m4
/-- the loop: where it stands not due (pc 9), and where a condition has ended (pc 184) -/
def OA (b : Nat → Nat) (n N : Nat) (F E : Nat → Nat) (d g br pc : Nat) (X : Option Out) (σ : Sig) (r : PR) (D : List Int32 → List Int32) (st : List Int32) (o : Nat) : Prop := match r with
  | .inl (k, x) => ∃ σ', X = some (some (.int (-1)), G0, σ') ∧ σ' 112 39 = nI k ∧ σ' 112 40 = nI (fN n N F x) ∧ FX Da σ σ'
  | .inr (c, j) => ∃ σ' a3, X = Ex (d + 6 + 1) 190 pc [.ref 112, .int (nI br), .int 0, a3] [] G0 σ' ∧ MA b n N F E g j (D c) st o σ' ∧ FX Da σ σ'
def SGm (b : Nat → Nat) (n N : Nat) (F E : Nat → Nat) (d g q : Nat) : Prop := ∀ m i C st br σ a3, MA b n N F E g i C (st ++ List.replicate m 9) (8 - q) σ → NT st 9 → m ≤ 8 - q → C.length + m ≤ i → st.length + m ≤ 3 * (8 - q) + 2 → br ≤ 8 - q →
    OA b n N F E d g br 9 (Ex (d + 6 + 1) 190 9 [.ref 112, .int (nI br), .int 1, a3] [] G0 σ) σ (pN (kd b N F E) (vN b F E) g q i) (fun c => C ++ c ++ List.replicate m (-21)) st (8 - q - m)
def wOF (w : Bool) : List Int32 := if w = true then [11] else []
def aF (a : Bool) : List Int32 := if a = true then [10] else []
def aC (a : Bool) : List Int32 := if a = true then [-20] else []
theorem MA_n (d : Nat) {g j o : Nat} {C st : List Int32} {σ : Sig} (tk : TOK (fun i => sr (b i)) n N F E) (h : MA b n N F E g j C st o σ) (hj : j < N) : ∃ σ', Ex (d + 2) 178 0 [.ref 112, .null] [] G0 σ = some (none, G0, σ') ∧ MA b n N F E g (j + 1) C st o σ' ∧ FX Da σ σ' := by
  obtain ⟨s, e, m, f⟩ := m_next d tk h.1 hj
  exact ⟨s, e, ⟨m, ST_x h.2.1 f (by decide) (fun k => by omega), by rw [f 112 36 (by decide)]; exact h.2.2⟩, FX_m f (fun q k hq => by simp only [Da, Ds]; omega)⟩
theorem MA_w (d : Nat) {g j o : Nat} {C st : List Int32} {σ : Sig} (x : Int32) (h : MA b n N F E g j C st o σ) (hl : st.length < 40) : ∃ σ', Ex d 188 0 [.ref 112, .int x] [] G0 σ = some (none, G0, σ') ∧ MA b n N F E g j C (st ++ [x]) o σ' ∧ FX Da σ σ' := by
  obtain ⟨s, e, m, f⟩ := m_waits d x h.2.1 hl
  exact ⟨s, e, ⟨MP_x h.1 (FX_m f (fun q k hq => by omega)), m, by rw [f 112 36 (by decide)]; exact h.2.2⟩, FX_m f (fun q k hq => by simp only [Da, Ds]; omega)⟩
theorem MA_f (d : Nat) {g j o : Nat} {C st : List Int32} {σ : Sig} (k : Nat) (h : MA b n N F E g j C st o σ) : ∃ σ', Ex d 179 0 [.ref 112, .int (nI k)] [] G0 σ = some (some (.int (-1)), G0, σ') ∧ σ' 112 39 = nI k ∧ σ' 112 40 = nI (fN n N F j) ∧ FX Da σ σ' := by
  obtain ⟨e, r, f⟩ := MP_f d k h.1
  exact ⟨_, e, r.2.1, r.2.2, FX_m f (fun q k hq => by simp only [Da, Ds]; omega)⟩
theorem m_conL (d : Nat) {g q br : Nat} {st : List Int32} (tk : TOK (fun i => sr (b i)) n N F E) (hq : q ≤ 8) (hS : SGm b n N F E d g q) (hst : NT st 10 ∧ NT st 11) (hsl : st.length ≤ 3 * (8 - q)) (hbr : br ≤ 8 - q) :
    ∀ fu w a i Cm σ a3, N - i < fu → MA b n N F E g i Cm (st ++ wOF w ++ aF a) (8 - q) σ → (Cm ++ aC a).length + (bC w).length ≤ i →
    OA b n N F E d g br 184 (Ex (d + 6 + 1) 190 9 [.ref 112, .int (nI br), .int 0, a3] [] G0 σ) σ (pBl (kd b N F E) (pN (kd b N F E) (vN b F E) g q) fu w i) (fun c => Cm ++ aC a ++ c) st (8 - q) := by
  intro fu
  induction fu with
  | zero => intro w a i Cm σ a3 hf; omega
  | succ fu ih =>
    intro w a i Cm σ a3 hf h hl
    have hN : N ≤ 400 := Nat.le_trans tk.2.2.2 h.1.1.1
    have hi := h.1.2.2.1
    have wl : (wOF w).length ≤ 1 := by cases w <;> decide
    have wbl : (wOF w).length = (bC w).length := by cases w <;> rfl
    have al : (aF a).length ≤ 1 := by cases a <;> decide
    have acl : (aC a).length = (aF a).length := by cases a <;> rfl
    have lA : (Cm ++ aC a).length = Cm.length + (aF a).length := by rw [List.length_append, acl]
    have i19 : Ex (d + 6) 180 0 [.ref 112, .int 4] [] G0 σ = _ := m_isWord (d + 6) h.1.2.1 (k0 := 19) (by decide)
    have i18 : Ex (d + 6) 180 0 [.ref 112, .int 3] [] G0 σ = _ := m_isWord (d + 6) h.1.2.1 (k0 := 18) (by decide)
    -- settles(AND)
    obtain ⟨s1, e1, m1, f1⟩ : ∃ σ', Ex (d + 6) 189 0 [.ref 112, .int 10] [] G0 σ = some (none, G0, σ') ∧ MA b n N F E g i (Cm ++ aC a) (st ++ wOF w) (8 - q) σ' ∧ FX Da σ σ' := by
      have nt : NT (st ++ wOF w) 10 := by
        cases w
        · rw [show st ++ wOF false = st from List.append_nil st]; exact hst.1
        · exact NT_a (by decide)
      have hc : cmK (-20) 10 0 := mop_o (by decide) (by decide) (by decide)
      have hn9 : ¬ (10 : Int32) = 9 := by decide
      cases a
      · obtain ⟨s, e, m, f⟩ := m_settles (d + 5) 10 (-20) hc 0 Cm (st ++ wOF w) (8 - q) σ h nt (by rw [List.length_append]; omega) (by rw [List.length_append] at hl; omega) (fun e => absurd e hn9) (by omega)
        rw [if_neg hn9] at m
        exact ⟨s, e, m, f⟩
      · obtain ⟨s, e, m, f⟩ := m_settles (d + 5) 10 (-20) hc 1 Cm (st ++ wOF w) (8 - q) σ h nt (by rw [List.length_append]; omega) (by rw [lA] at hl; simp only [aF, if_true, List.length_cons, List.length_nil] at hl; omega) (fun e => absurd e hn9) (by omega)
        rw [if_neg hn9] at m
        exact ⟨s, e, m, f⟩
    have e1' : Ex (d + 6) 189 0 [.ref 112, .int 10] [] G0 σ = some (none, G0, s1) := e1
    rw [b190_9]
    simp only [i10, i01, eq_self, if_true, if_false, true_and, false_and, and_true, and_false, not_true, not_false_iff, true_or, or_true, false_or, or_false, ne_eq, not_true_eq_false, not_false_eq_true, i19, Option.bind_some, Option.toList_some, Option.toList_none, List.cons_append, List.nil_append, i01a, i01b, if_true, if_false, b190_113, bI_z, bI_o, bI_em, ite_not, i18, b190_142]
    rw [pBl]
    by_cases k19 : kd b N F E i = 19
    · have lt := kLt kd_e hi (show kd b N F E i ≠ 32 by omega)
      obtain ⟨s2, e2, m2, f2⟩ := MA_w (d + 6) 10 m1 (by rw [List.length_append]; omega)
      have e2' : Ex (d + 6) 188 0 [.ref 112, .int 10] [] G0 s1 = some (none, G0, s2) := e2
      obtain ⟨s3, e3, m3, f3⟩ := MA_n (d + 4) tk m2 lt
      have e3' : Ex (d + 6) 178 0 [.ref 112, .null] [] G0 s2 = some (none, G0, s3) := e3
      have F3 : FX Da σ s3 := FX_t f1 (FX_t f2 f3)
      have A := hS 0 (i + 1) (Cm ++ aC a) (st ++ wOF w ++ [10]) br s3 a3 (by rw [show List.replicate 0 (9 : Int32) = [] from rfl, List.append_nil]; exact m3) (NT_a (by decide)) (Nat.zero_le _) (by omega) (by rw [List.length_append, List.length_append]; simp; omega) hbr
      simp only [eq_true k19, i10, i01, eq_self, if_true, if_false, true_and, false_and, and_true, and_false, not_true, not_false_iff, true_or, or_true, false_or, or_false, ne_eq, not_true_eq_false, not_false_eq_true, e1', Option.bind_some, Option.toList_some, Option.toList_none, List.cons_append, List.nil_append, i01a, i01b, if_true, if_false, b190_122, e2', b190_128, e3', b190_132]
      have pok := pN_ok (V := vN b F E) (g := g) (K := kd b N F E) (N := N) kd_e q (i + 1) (by omega)
      cases hu : pN (kd b N F E) (vN b F E) g q (i + 1) with
      | inl x =>
        rw [hu] at A
        obtain ⟨x1, x2⟩ := x
        obtain ⟨s4, e4, r1, r2, f4⟩ := A
        exact ⟨s4, e4, r1, r2, FX_t F3 f4⟩
      | inr x =>
        obtain ⟨c, j⟩ := x
        rw [hu] at A
        obtain ⟨p1, p2⟩ := pok c j hu
        obtain ⟨s4, a4, e4, m4, f4⟩ := A
        simp only [Nat.sub_zero, List.replicate_zero, List.append_nil] at m4
        have B := ih w true j (Cm ++ aC a ++ c) s4 a4 (by omega) m4 (by have t1 : (aC true).length = 1 := rfl; rw [List.length_append, List.length_append, t1]; omega)
        rw [e4]
        show OA b n N F E d g br 184 _ σ (pre (c ++ [-20]) (pBl (kd b N F E) (pN (kd b N F E) (vN b F E) g q) fu w j)) _ st (8 - q)
        cases hw : pBl (kd b N F E) (pN (kd b N F E) (vN b F E) g q) fu w j with
        | inl y =>
          rw [hw] at B
          obtain ⟨y1, y2⟩ := y
          obtain ⟨s5, e5, r1, r2, f5⟩ := B
          exact ⟨s5, e5, r1, r2, FX_t F3 (FX_t f4 f5)⟩
        | inr y =>
          rw [hw] at B
          obtain ⟨y1, y2⟩ := y
          obtain ⟨s5, a5, e5, m5, f5⟩ := B
          refine ⟨s5, a5, e5, ?_, FX_t F3 (FX_t f4 f5)⟩
          show MA b n N F E g y2 (Cm ++ aC a ++ (c ++ [-20] ++ y1)) st (8 - q) s5
          rw [show Cm ++ aC a ++ (c ++ [-20] ++ y1) = Cm ++ aC a ++ c ++ aC true ++ y1 by simp [aC]]; exact m5
    · have hE : NT st 11 := hst.2
      -- settles(OR)
      obtain ⟨s2, e2, m2, f2⟩ : ∃ σ', Ex (d + 6) 189 0 [.ref 112, .int 11] [] G0 s1 = some (none, G0, σ') ∧ MA b n N F E g i (Cm ++ aC a ++ bC w) st (8 - q) σ' ∧ FX Da s1 σ' := by
        have hc : cmK (-19) 11 0 := mop_o (by decide) (by decide) (by decide)
        have hn9 : ¬ (11 : Int32) = 9 := by decide
        cases w
        · obtain ⟨s, e, m, f⟩ := m_settles (d + 5) 11 (-19) hc 0 (Cm ++ aC a) st (8 - q) s1 m1 hE (by omega) (by omega) (fun e => absurd e hn9) (by omega)
          rw [if_neg hn9] at m
          exact ⟨s, e, m, f⟩
        · obtain ⟨s, e, m, f⟩ := m_settles (d + 5) 11 (-19) hc 1 (Cm ++ aC a) st (8 - q) s1 m1 hE (by omega) (by simp only [bC, if_true, List.length_cons, List.length_nil] at hl; omega) (fun e => absurd e hn9) (by omega)
          rw [if_neg hn9] at m
          exact ⟨s, e, m, f⟩
      have e2' : Ex (d + 6) 189 0 [.ref 112, .int 11] [] G0 s1 = some (none, G0, s2) := e2
      by_cases k18 : kd b N F E i = 18
      · have lt := kLt kd_e hi (show kd b N F E i ≠ 32 by omega)
        obtain ⟨s3, e3, m3, f3⟩ := MA_w (d + 6) 11 m2 (by omega)
        have e3' : Ex (d + 6) 188 0 [.ref 112, .int 11] [] G0 s2 = some (none, G0, s3) := e3
        obtain ⟨s4, e4, m4, f4⟩ := MA_n (d + 4) tk m3 lt
        have e4' : Ex (d + 6) 178 0 [.ref 112, .null] [] G0 s3 = some (none, G0, s4) := e4
        have F4 : FX Da σ s4 := FX_t f1 (FX_t f2 (FX_t f3 f4))
        have A := hS 0 (i + 1) (Cm ++ aC a ++ bC w) (st ++ [11]) br s4 a3 (by rw [show List.replicate 0 (9 : Int32) = [] from rfl, List.append_nil]; exact m4) (NT_a (by decide)) (Nat.zero_le _) (by rw [List.length_append]; omega) (by rw [List.length_append]; simp; omega) hbr
        simp only [eq_false k19, eq_true k18, i10, i01, eq_self, if_true, if_false, true_and, false_and, and_true, and_false, not_true, not_false_iff, true_or, or_true, false_or, or_false, ne_eq, not_true_eq_false, not_false_eq_true, e1', Option.bind_some, Option.toList_some, Option.toList_none, List.cons_append, List.nil_append, i01a, i01b, if_true, if_false, b190_151, e2', b190_157, e3', b190_163, e4', b190_167]
        have pok := pN_ok (V := vN b F E) (g := g) (K := kd b N F E) (N := N) kd_e q (i + 1) (by omega)
        cases hu : pN (kd b N F E) (vN b F E) g q (i + 1) with
        | inl x =>
          rw [hu] at A
          obtain ⟨x1, x2⟩ := x
          obtain ⟨s5, e5, r1, r2, f5⟩ := A
          exact ⟨s5, e5, r1, r2, FX_t F4 f5⟩
        | inr x =>
          obtain ⟨c, j⟩ := x
          rw [hu] at A
          obtain ⟨p1, p2⟩ := pok c j hu
          obtain ⟨s5, a5, e5, m5, f5⟩ := A
          simp only [Nat.sub_zero, List.replicate_zero, List.append_nil] at m5
          have B := ih true false j (Cm ++ aC a ++ bC w ++ c) s5 a5 (by omega) (by rw [show st ++ wOF true ++ aF false = st ++ [11] from List.append_nil _]; exact m5) (by rw [show Cm ++ aC a ++ bC w ++ c ++ aC false = Cm ++ aC a ++ bC w ++ c from List.append_nil _, List.length_append, List.length_append]; show _ + 1 ≤ j; omega)
          rw [e5]
          show OA b n N F E d g br 184 _ σ (pre (bC w) (pre c (pBl (kd b N F E) (pN (kd b N F E) (vN b F E) g q) fu true j))) _ st (8 - q)
          cases hw : pBl (kd b N F E) (pN (kd b N F E) (vN b F E) g q) fu true j with
          | inl y =>
            rw [hw] at B
            obtain ⟨y1, y2⟩ := y
            obtain ⟨s6, e6, r1, r2, f6⟩ := B
            exact ⟨s6, e6, r1, r2, FX_t F4 (FX_t f5 f6)⟩
          | inr y =>
            rw [hw] at B
            obtain ⟨y1, y2⟩ := y
            obtain ⟨s6, a6, e6, m6, f6⟩ := B
            refine ⟨s6, a6, e6, ?_, FX_t F4 (FX_t f5 f6)⟩
            show MA b n N F E g y2 (Cm ++ aC a ++ (bC w ++ (c ++ y1))) st (8 - q) s6
            rw [show Cm ++ aC a ++ (bC w ++ (c ++ y1)) = Cm ++ aC a ++ bC w ++ c ++ aC false ++ y1 by simp [aC]]; exact m6
      · simp only [eq_false k19, eq_false k18, i10, i01, eq_self, if_true, if_false, true_and, false_and, and_true, and_false, not_true, not_false_iff, true_or, or_true, false_or, or_false, ne_eq, not_true_eq_false, not_false_eq_true, e1', Option.bind_some, Option.toList_some, Option.toList_none, List.cons_append, List.nil_append, i01a, i01b, if_true, if_false, b190_178, e2']
        exact ⟨s2, a3, rfl, m2, FX_t f1 f2⟩
/-- a whole condition, from where one is due -/
theorem m_con (d : Nat) {g q br i : Nat} {C st : List Int32} {σ : Sig} {a3 : Value} (tk : TOK (fun i => sr (b i)) n N F E) (hq : q ≤ 8) (hS : SGm b n N F E d g q) (hst : NT st 9 ∧ NT st 10 ∧ NT st 11) (hsl : st.length ≤ 3 * (8 - q)) (hbr : br ≤ 8 - q) (h : MA b n N F E g i C st (8 - q) σ) (hl : C.length ≤ i) :
    OA b n N F E d g br 184 (Ex (d + 6 + 1) 190 9 [.ref 112, .int (nI br), .int 1, a3] [] G0 σ) σ (pB (kd b N F E) (pN (kd b N F E) (vN b F E) g q) i) (fun c => C ++ c) st (8 - q) := by
  have hN : N ≤ 400 := Nat.le_trans tk.2.2.2 h.1.1.1
  have A := hS 0 i C st br σ a3 (by rw [show List.replicate 0 (9 : Int32) = [] from rfl, List.append_nil]; exact h) hst.1 (Nat.zero_le _) (by omega) (by omega) hbr
  have pok := pN_ok (V := vN b F E) (g := g) (K := kd b N F E) (N := N) kd_e q i h.1.2.2.1
  unfold pB
  cases hu : pN (kd b N F E) (vN b F E) g q i with
  | inl x => rw [hu] at A; exact A
  | inr x =>
    obtain ⟨c, j⟩ := x
    rw [hu] at A
    obtain ⟨p1, p2⟩ := pok c j hu
    obtain ⟨s4, a4, e4, m4, f4⟩ := A
    simp only [Nat.sub_zero, List.replicate_zero, List.append_nil] at m4
    have B := m_conL d tk hq hS hst.2 hsl hbr 401 false false j (C ++ c) s4 a4 (by omega) (by rw [show st ++ wOF false ++ aF false = st by simp [wOF, aF]]; exact m4) (by rw [show C ++ c ++ aC false = C ++ c from List.append_nil _, List.length_append]; show _ + 0 ≤ j; omega)
    rw [e4]
    show OA b n N F E d g br 184 _ σ (pre c (pBl (kd b N F E) (pN (kd b N F E) (vN b F E) g q) 401 false j)) _ st (8 - q)
    cases hw : pBl (kd b N F E) (pN (kd b N F E) (vN b F E) g q) 401 false j with
    | inl y =>
      rw [hw] at B
      obtain ⟨y1, y2⟩ := y
      obtain ⟨s5, e5, r1, r2, f5⟩ := B
      exact ⟨s5, e5, r1, r2, FX_t f4 f5⟩
    | inr y =>
      rw [hw] at B
      obtain ⟨y1, y2⟩ := y
      obtain ⟨s5, a5, e5, m5, f5⟩ := B
      refine ⟨s5, a5, e5, ?_, FX_t f4 f5⟩
      show MA b n N F E g y2 (C ++ (c ++ y1)) st (8 - q) s5
      rw [show C ++ (c ++ y1) = C ++ c ++ aC false ++ y1 by simp [aC]]; exact m5
theorem rep_s {m : Nat} {x : Int32} : List.replicate m x ++ [x] = List.replicate (m + 1) x := List.replicate_succ'.symm
theorem rep_t {m : Nat} {x : Int32} : [x] ++ List.replicate m x = List.replicate (m + 1) x := rfl
theorem m_single (d : Nat) {g : Nat} (tk : TOK (fun i => sr (b i)) n N F E) (hg : g = 15 ∨ g = 16) : ∀ q, q ≤ 8 → SGm b n N F E d g q := by
  intro q
  -- a comparison, at any depth
  have cmp : ∀ q m i C st br σ a3, q ≤ 8 → MA b n N F E g i C (st ++ List.replicate m 9) (8 - q) σ → NT st 9 → m ≤ 8 - q → C.length + m ≤ i → st.length + m ≤ 3 * (8 - q) + 2 → ¬ kd b N F E i = 20 → ¬ kd b N F E i = 40 →
      OA b n N F E d g br 9 (Ex (d + 6 + 1) 190 9 [.ref 112, .int (nI br), .int 1, a3] [] G0 σ) σ (pC (kd b N F E) (vN b F E) g i) (fun c => C ++ c ++ List.replicate m (-21)) st (8 - q - m) := by
    intro q m i C st br σ a3 hq h hst hm hl hsl n20 n40
    have hN : N ≤ 400 := Nat.le_trans tk.2.2.2 h.1.1.1
    have i20 : Ex (d + 6) 180 0 [.ref 112, .int 5] [] G0 σ = _ := m_isWord (d + 6) h.1.2.1 (k0 := 20) (by decide)
    have i40 : Ex (d + 6) 181 0 [.ref 112, .int 40] [] G0 σ = _ := m_isSign (d + 6) h.1.2.1 (c := 40) (by decide) (by decide)
    obtain ⟨s1, v, e1, r1, f1⟩ := m_cmp d tk hg h.1 (show C.length ≤ i by omega)
    have pok := pC_ok (K := kd b N F E) (V := vN b F E) (g := g) kd_e h.1.2.2.1
    have n0 : ((0 : Int32) = -1) = False := eq_false (by decide)
    have b20 : bI (kd b N F E i = 20) = 0 := bI_F n20
    have b40 : bI (kd b N F E i = 40) = 0 := bI_F n40
    rw [b190_9]
    simp only [i10, i01, eq_self, if_true, if_false, true_and, false_and, and_true, and_false, not_true, not_false_iff, true_or, or_true, false_or, or_false, ne_eq, not_true_eq_false, not_false_eq_true, i20, b20, bI_tt, bI_ff, Option.bind_some, Option.toList_some, Option.toList_none, List.cons_append, List.nil_append, i01a, i01b, if_true, if_false, b190_18, i40, b40, b190_29, e1, b190_91]
    cases hu : pC (kd b N F E) (vN b F E) g i with
    | inl x =>
      rw [hu] at r1
      obtain ⟨x1, x2⟩ := x
      have v0 : v = -1 := r1.1
      simp only [v0, i10, i01, eq_self, if_true, if_false, true_and, false_and, and_true, and_false, not_true, not_false_iff, true_or, or_true, false_or, or_false, ne_eq, not_true_eq_false, not_false_eq_true]
      exact ⟨s1, rfl, r1.2.1, r1.2.2, FX_m f1 (fun q k hq => Or.inl hq)⟩
    | inr x =>
      obtain ⟨c, j⟩ := x
      rw [hu] at r1
      obtain ⟨p1, p2⟩ := pok c j hu
      have v0 : v = 0 := r1.1
      have M1 : MA b n N F E g j (C ++ c) (st ++ List.replicate m 9) (8 - q) s1 := ⟨r1.2, ST_x h.2.1 f1 (by decide) (fun k => by simp only [Ds]; omega), by rw [f1 112 36 (by decide)]; exact h.2.2⟩
      obtain ⟨s2, e2, m2, f2⟩ := m_settles (d + 5) 9 (-21) (mop_o (by decide) (by decide) (by decide)) m (C ++ c) st (8 - q) s1 M1 hst (by omega) (by rw [List.length_append]; omega) (fun _ => hm) (by omega)
      have e2' : Ex (d + 6) 189 0 [.ref 112, .int 9] [] G0 s1 = some (none, G0, s2) := e2
      rw [if_pos rfl] at m2
      simp only [v0, n0, i10, i01, eq_self, if_true, if_false, true_and, false_and, and_true, and_false, not_true, not_false_iff, true_or, or_true, false_or, or_false, ne_eq, not_true_eq_false, not_false_eq_true, e2', Option.bind_some, Option.toList_some, Option.toList_none, List.cons_append, List.nil_append, i01a, i01b, if_true, if_false, b190_103]
      exact ⟨s2, _, rfl, m2, FX_t (FX_m f1 (fun q k hq => Or.inl hq)) f2⟩
  induction q with
  | zero =>
    intro hq m i C st br σ a3 h hst hm hl hsl hbr
    have hN : N ≤ 400 := Nat.le_trans tk.2.2.2 h.1.1.1
    rw [pN]
    by_cases c : kd b N F E i = 20 ∨ kd b N F E i = 40
    · rw [if_pos c]
      have i20 : Ex (d + 6) 180 0 [.ref 112, .int 5] [] G0 σ = _ := m_isWord (d + 6) h.1.2.1 (k0 := 20) (by decide)
      have i40 : Ex (d + 6) 181 0 [.ref 112, .int 40] [] G0 σ = _ := m_isSign (d + 6) h.1.2.1 (c := 40) (by decide) (by decide)
      obtain ⟨s1, e1, r1, r2, f1⟩ := MA_f (d + 6) 3 h
      have e1' : Ex (d + 6) 179 0 [.ref 112, .int 3] [] G0 σ = some (some (.int (-1)), G0, s1) := e1
      have e8 : σ 112 36 = 8 := h.2.2
      rw [b190_9]
      rcases c with c | c
      · have b20 : bI (kd b N F E i = 20) = 1 := bI_T c
        simp only [i10, i01, eq_self, if_true, if_false, true_and, false_and, and_true, and_false, not_true, not_false_iff, true_or, or_true, false_or, or_false, ne_eq, not_true_eq_false, not_false_eq_true, i20, b20, bI_tt, bI_ff, Option.bind_some, Option.toList_some, Option.toList_none, List.cons_append, List.nil_append, i01a, i01b, if_true, if_false, b190_18, b190_32, e8, e1', b190_46]
        exact ⟨s1, rfl, r1, r2, f1⟩
      · have b20 : bI (kd b N F E i = 20) = 0 := bI_F (by omega)
        have b40 : bI (kd b N F E i = 40) = 1 := bI_T c
        simp only [i10, i01, eq_self, if_true, if_false, true_and, false_and, and_true, and_false, not_true, not_false_iff, true_or, or_true, false_or, or_false, ne_eq, not_true_eq_false, not_false_eq_true, i20, b20, bI_tt, bI_ff, Option.bind_some, Option.toList_some, Option.toList_none, List.cons_append, List.nil_append, i01a, i01b, if_true, if_false, b190_18, i40, b40, b190_29, b190_32, e8, e1', b190_46]
        exact ⟨s1, rfl, r1, r2, f1⟩
    · rw [if_neg c]
      exact cmp 0 m i C st br σ a3 (by omega) h hst hm hl hsl (fun e => c (Or.inl e)) (fun e => c (Or.inr e))
  | succ q ih =>
    intro hq m i C st br σ a3 h hst hm hl hsl hbr
    have hS := ih (by omega)
    have hN : N ≤ 400 := Nat.le_trans tk.2.2.2 h.1.1.1
    have hi := h.1.2.2.1
    have i20 : Ex (d + 6) 180 0 [.ref 112, .int 5] [] G0 σ = _ := m_isWord (d + 6) h.1.2.1 (k0 := 20) (by decide)
    have i40 : Ex (d + 6) 181 0 [.ref 112, .int 40] [] G0 σ = _ := m_isSign (d + 6) h.1.2.1 (c := 40) (by decide) (by decide)
    have q8 : (nI (8 - (q + 1)) = 8) = False := by
      have : (nI (8 - (q + 1)) = 8) = (8 - (q + 1) = 8) := nJ_e (b := 8) (by omega) (by omega)
      rw [this]; exact eq_false (by omega)
    have F1 : FX (fun q k => (q = 112 ∧ (k = 36 ∨ k = 38)) ∨ q = 132) σ (pt σ 112 36 (nI (8 - q))) := FX_p FX_r (Or.inl ⟨rfl, Or.inl rfl⟩)
    have M1 : MA b n N F E g i C (st ++ List.replicate m 9) (8 - q) (pt σ 112 36 (nI (8 - q))) := ⟨MP_x h.1 F1, ⟨by rw [pt_k (by decide)]; exact h.2.1.1, by rw [pt_q (by decide)]; exact h.2.1.2⟩, pt_e⟩
    have F1' : FX Da σ (pt σ 112 36 (nI (8 - q))) := FX_m F1 (fun q k hq => by simp only [Da, Ds]; omega)
    have eo : nI (8 - (q + 1)) + 1 = nI (8 - q) := by rw [nI_s]; congr 1; omega
    have lst : (st ++ List.replicate m 9).length = st.length + m := by rw [List.length_append, List.length_replicate]
    rw [pN]
    by_cases c20 : kd b N F E i = 20
    · have lt := kLt kd_e hi (show kd b N F E i ≠ 32 by omega)
      obtain ⟨s2, e2, m2, f2⟩ := MA_w (d + 6) 9 M1 (by rw [lst]; omega)
      have e2' : Ex (d + 6) 188 0 [.ref 112, .int 9] [] G0 (pt σ 112 36 (nI (8 - q))) = some (none, G0, s2) := e2
      obtain ⟨s3, e3, m3, f3⟩ := MA_n (d + 4) tk m2 lt
      have e3' : Ex (d + 6) 178 0 [.ref 112, .null] [] G0 s2 = some (none, G0, s3) := e3
      have F3 : FX Da σ s3 := FX_t F1' (FX_t f2 f3)
      rw [List.append_assoc, rep_s] at m3
      have A := hS (m + 1) (i + 1) C st br s3 (.int 1) m3 hst (by omega) (by omega) (by omega) (by omega)
      have b20 : bI (kd b N F E i = 20) = 1 := bI_T c20
      rw [if_pos c20, b190_9]
      simp only [i10, i01, eq_self, if_true, if_false, true_and, false_and, and_true, and_false, not_true, not_false_iff, true_or, or_true, false_or, or_false, ne_eq, not_true_eq_false, not_false_eq_true, i20, b20, bI_tt, bI_ff, Option.bind_some, Option.toList_some, Option.toList_none, List.cons_append, List.nil_append, i01a, i01b, if_true, if_false, b190_18, b190_32, h.2.2, q8, eo, e2', b190_80, e3', b190_84]
      cases hu : pN (kd b N F E) (vN b F E) g q (i + 1) with
      | inl x =>
        rw [hu] at A
        obtain ⟨x1, x2⟩ := x
        obtain ⟨s5, e5, r1, r2, f5⟩ := A
        exact ⟨s5, e5, r1, r2, FX_t F3 f5⟩
      | inr x =>
        obtain ⟨c, j⟩ := x
        rw [hu] at A
        obtain ⟨s4, a4, e4, m4, f4⟩ := A
        refine ⟨s4, a4, e4, ?_, FX_t F3 f4⟩
        show MA b n N F E g j (C ++ (c ++ [-21]) ++ List.replicate m (-21)) st (8 - (q + 1) - m) s4
        rw [show 8 - (q + 1) - m = 8 - q - (m + 1) by omega, show C ++ (c ++ [-21]) ++ List.replicate m (-21) = C ++ c ++ List.replicate (m + 1) (-21) by rw [← List.append_assoc, List.append_assoc (C ++ c), rep_t]]
        exact m4
    · rw [if_neg c20]
      have b20 : bI (kd b N F E i = 20) = 0 := bI_F c20
      by_cases c40 : kd b N F E i = 40
      · have lt := kLt kd_e hi (show kd b N F E i ≠ 32 by omega)
        obtain ⟨s2, e2, m2, f2⟩ := MA_w (d + 6) 12 M1 (by rw [lst]; omega)
        have e2' : Ex (d + 6) 188 0 [.ref 112, .int 12] [] G0 (pt σ 112 36 (nI (8 - q))) = some (none, G0, s2) := e2
        obtain ⟨s3, e3, m3, f3⟩ := MA_n (d + 4) tk m2 lt
        have e3' : Ex (d + 6) 178 0 [.ref 112, .null] [] G0 s2 = some (none, G0, s3) := e3
        have F3 : FX Da σ s3 := FX_t F1' (FX_t f2 f3)
        have A := m_con d (a3 := .int 0) (br := br + 1) tk (show q ≤ 8 by omega) hS ⟨NT_a (by decide), NT_a (by decide), NT_a (by decide)⟩ (by rw [List.length_append, lst]; simp; omega) (by omega) m3 (show C.length ≤ i + 1 by omega)
        have b40 : bI (kd b N F E i = 40) = 1 := bI_T c40
        rw [if_pos c40, b190_9]
        simp only [i10, i01, eq_self, if_true, if_false, true_and, false_and, and_true, and_false, not_true, not_false_iff, true_or, or_true, false_or, or_false, ne_eq, not_true_eq_false, not_false_eq_true, i20, b20, bI_tt, bI_ff, Option.bind_some, Option.toList_some, Option.toList_none, List.cons_append, List.nil_append, i01a, i01b, if_true, if_false, b190_18, i40, b40, b190_29, b190_32, h.2.2, q8, eo, e2', b190_80, e3', b190_84, nI_s]
        have pok := pB_ok (S := pN (kd b N F E) (vN b F E) g q) (kd_e (b := b) (F := F) (E := E)) (pN_ok (V := vN b F E) (g := g) kd_e q) (show i + 1 ≤ N by omega)
        cases hu : pB (kd b N F E) (pN (kd b N F E) (vN b F E) g q) (i + 1) with
        | inl x =>
          rw [hu] at A
          obtain ⟨x1, x2⟩ := x
          obtain ⟨s5, e5, r1, r2, f5⟩ := A
          exact ⟨s5, e5, r1, r2, FX_t F3 f5⟩
        | inr x =>
          obtain ⟨c, j⟩ := x
          rw [hu] at A
          obtain ⟨p1, p2⟩ := pok c j hu
          obtain ⟨s4, a4, e4, m4, f4⟩ := A
          have i41 : Ex (d + 6) 181 0 [.ref 112, .int 41] [] G0 s4 = _ := m_isSign (d + 6) m4.1.2.1 (c := 41) (by decide) (by decide)
          have nb : (nI (br + 1) = 0) = False := by
            have : (nI (br + 1) = 0) = (br + 1 = 0) := nJ_e (b := 0) (by omega) (by omega)
            rw [this]; exact eq_false (by omega)
          rw [e4, b190_184]
          simp only [nb, i10, i01, eq_self, if_true, if_false, true_and, false_and, and_true, and_false, not_true, not_false_iff, true_or, or_true, false_or, or_false, ne_eq, not_true_eq_false, not_false_eq_true, i41, Option.bind_some, Option.toList_some, Option.toList_none, List.cons_append, List.nil_append, i01a, i01b, if_true, if_false, b190_196, bI_z, bI_o, bI_em, ite_not]
          show OA b n N F E d g br 9 _ σ (if kd b N F E j = 41 then .inr (c, j + 1) else .inl (1, j)) _ st _
          by_cases c41 : kd b N F E j = 41
          · have lt2 := kLt kd_e p2 (show kd b N F E j ≠ 32 by omega)
            have h38 : s4 112 38 - 1 = nI (st.length + m) := by
              rw [m4.2.1.1, nI_p1 (by rw [List.length_append]; simp), List.length_append, lst]; rfl
            have h36 : pt s4 112 38 (nI (st.length + m)) 112 36 - 1 = nI (8 - (q + 1)) := by
              rw [pt_k (by decide), m4.2.2, nI_p1 (by omega)]; congr 1
            have F5 : FX (fun q k => (q = 112 ∧ (k = 36 ∨ k = 38)) ∨ q = 132) s4 (pt (pt s4 112 38 (nI (st.length + m))) 112 36 (nI (8 - (q + 1)))) := FX_p (FX_p FX_r (Or.inl ⟨rfl, Or.inr rfl⟩)) (Or.inl ⟨rfl, Or.inl rfl⟩)
            have M5 : MA b n N F E g j (C ++ c) (st ++ List.replicate m 9) (8 - (q + 1)) (pt (pt s4 112 38 (nI (st.length + m))) 112 36 (nI (8 - (q + 1)))) := by
              refine ⟨MP_x m4.1 F5, ⟨by rw [pt_k (by decide), pt_e, lst], fun k hk => ?_⟩, pt_e⟩
              rw [pt_q (by decide), pt_q (by decide), m4.2.1.2 k (by rw [List.length_append]; omega), gd_l hk]
            rw [h38, h36]
            generalize pt (pt s4 112 38 (nI (st.length + m))) 112 36 (nI (8 - (q + 1))) = s5 at F5 M5
            obtain ⟨s6, e6, m6, f6⟩ := m_settles (d + 5) 9 (-21) (mop_o (by decide) (by decide) (by decide)) m (C ++ c) st (8 - (q + 1)) s5 M5 hst (by omega) (by rw [List.length_append]; omega) (fun _ => hm) (by omega)
            have e6' : Ex (d + 6) 189 0 [.ref 112, .int 9] [] G0 s5 = some (none, G0, s6) := e6
            rw [if_pos rfl] at m6
            obtain ⟨s7, e7, m7, f7⟩ := MA_n (d + 4) tk m6 lt2
            have e7' : Ex (d + 6) 178 0 [.ref 112, .null] [] G0 s6 = some (none, G0, s7) := e7
            have pb : nI (br + 1) - 1 = nI br := nI_p1 (by omega)
            simp only [eq_true c41, i10, i01, eq_self, if_true, if_false, true_and, false_and, and_true, and_false, not_true, not_false_iff, true_or, or_true, false_or, or_false, ne_eq, not_true_eq_false, not_false_eq_true, e6', Option.bind_some, Option.toList_some, Option.toList_none, List.cons_append, List.nil_append, i01a, i01b, if_true, if_false, b190_235, e7', b190_239, pb]
            exact ⟨s7, a4, rfl, m7, FX_t F3 (FX_t f4 (FX_t (FX_m F5 (fun q k hq => by simp only [Da, Ds]; omega)) (FX_t f6 f7)))⟩
          · obtain ⟨s5, e5, r1, r2, f5⟩ := MA_f (d + 6) 1 m4
            have e5' : Ex (d + 6) 179 0 [.ref 112, .int 1] [] G0 s4 = some (some (.int (-1)), G0, s5) := e5
            rw [if_neg c41]
            simp only [eq_false c41, i10, i01, eq_self, if_true, if_false, true_and, false_and, and_true, and_false, not_true, not_false_iff, true_or, or_true, false_or, or_false, ne_eq, not_true_eq_false, not_false_eq_true, e5', Option.bind_some, Option.toList_some, Option.toList_none, List.cons_append, List.nil_append, i01a, i01b, if_true, if_false, b190_204]
            exact ⟨s5, rfl, r1, r2, FX_t F3 (FX_t f4 f5)⟩
      · rw [if_neg c40]
        exact cmp (q + 1) m i C st br σ a3 hq h hst hm hl hsl c20 c40
theorem m_any (d : Nat) {g i : Nat} {C : List Int32} {σ : Sig} (tk : TOK (fun i => sr (b i)) n N F E) (hg : g = 15 ∨ g = 16) (h : MP b n N F E g i C σ) (h36 : σ 112 36 = 0) (hl : C.length ≤ i) :
    ∃ σ' v, Ex (d + 7) 190 0 [.ref 112, .null, .null, .null] [] G0 σ = some (some (.int v), G0, σ') ∧ RM b n N F E g C (pB (kd b N F E) (pN (kd b N F E) (vN b F E) g 8) i) v σ' ∧ (v = 0 → σ' 112 36 = 0) ∧ FX Da σ σ' := by
  have F1 : FX (fun q k => (q = 112 ∧ (k = 36 ∨ k = 38)) ∨ q = 132) σ (pt σ 112 38 0) := FX_p FX_r (Or.inl ⟨rfl, Or.inr rfl⟩)
  have F1' : FX Da σ (pt σ 112 38 0) := FX_m F1 (fun q k hq => by simp only [Da, Ds]; omega)
  have A := m_con d (br := 0) (a3 := .null) tk (Nat.le_refl 8) (m_single d tk hg 8 (Nat.le_refl 8)) ⟨NT_0, NT_0, NT_0⟩ (Nat.zero_le _) (Nat.zero_le _) ⟨MP_x h F1, ⟨pt_e, fun k hk => absurd hk (Nat.not_lt_zero k)⟩, by rw [pt_k (by decide)]; exact h36⟩ hl
  rw [b190_0]
  cases hu : pB (kd b N F E) (pN (kd b N F E) (vN b F E) g 8) i with
  | inl x =>
    rw [hu] at A
    obtain ⟨x1, x2⟩ := x
    obtain ⟨s5, e5, r1, r2, f5⟩ := A
    exact ⟨s5, -1, e5, ⟨rfl, r1, r2⟩, fun k => absurd k (by decide), FX_t F1' f5⟩
  | inr x =>
    obtain ⟨c, j⟩ := x
    rw [hu] at A
    obtain ⟨s4, a4, e4, m4, f4⟩ := A
    refine ⟨s4, 0, ?_, ⟨rfl, m4.1⟩, fun _ => m4.2.2, FX_t F1' f4⟩
    refine Eq.trans e4 ?_
    rw [b190_184]
    simp only [show nI 0 = 0 from rfl, i10, i01, eq_self, if_true, if_false, true_and, false_and, and_true, and_false, not_true, not_false_iff, true_or, or_true, false_or, or_false, ne_eq, not_true_eq_false, not_false_eq_true]
end
