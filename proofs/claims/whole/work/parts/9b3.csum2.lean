/-! L3: the grammar, the class: sum, comparison -/
theorem bnd_p {c : List Int32} {r : PR} {x : List Int32} {G : Nat → PR} : bnd (pre c r) (fun e j => pre (e ++ x) (G j)) = pre c (bnd r (fun e j => pre (e ++ x) (G j))) := by
  cases r with
  | inl y => rfl
  | inr y =>
    obtain ⟨e, j⟩ := y
    show pre (c ++ e ++ x) (G j) = pre c (pre (e ++ x) (G j))
    cases G j with
    | inl z => rfl
    | inr z => obtain ⟨u, k⟩ := z; show Sum.inr (c ++ e ++ x ++ u, k) = Sum.inr (c ++ (e ++ x ++ u), k); rw [List.append_assoc, List.append_assoc, List.append_assoc]
theorem pre_p {a b : List Int32} {r : PR} : pre a (pre b r) = pre (a ++ b) r := by
  cases r with
  | inl y => rfl
  | inr y => obtain ⟨e, j⟩ := y; show Sum.inr (a ++ (b ++ e), j) = Sum.inr (a ++ b ++ e, j); rw [List.append_assoc]
theorem pre_n {r : PR} : pre [] r = r := by
  cases r with
  | inl y => rfl
  | inr y => rfl
theorem RC_p {f : Nat → Nat} {C c : List Int32} {σ σ1 σ' : Sig} {r : PR} {v : Int32} (h : RC f (C ++ c) σ1 r v σ') (e1 : σ1 53 1 = σ 53 1) (e2 : σ1 53 2 = σ 53 2) : RC f C σ (pre c r) v σ' := by
  cases r with
  | inl x => exact h
  | inr x =>
    obtain ⟨e, j⟩ := x
    obtain ⟨a1, a2, a3, a4, a5⟩ := h
    exact ⟨a1, a2, by rw [← List.append_assoc]; exact a3, a4.trans e1, a5.trans e2⟩
theorem c_lput' (d : Nat) {C : List Int32} {σ : Sig} (v : Int32) (h : CO C σ) (hl : C.length ≤ 400) : ∃ (σ' : Sig) (C' : List Int32), Ex d 23 0 [.ref 54, .int v] [] G0 σ = some (some (.int 1), G0, σ') ∧ CO C' σ' ∧ C'.length ≤ 400 ∧ Fr [55] [(54, 1)] σ σ' := by
  by_cases c : C.length < 400
  · obtain ⟨s, e, c1, f⟩ := c_lput d v h c
    exact ⟨s, C ++ [v], e, c1, by rw [List.length_append]; simp; omega, f⟩
  · have q : ((400 : Int32) ≤ nI C.length) = True := by
      have : ((400 : Int32) ≤ nI C.length) = (400 ≤ C.length) := nJ_le (a := 400) (by omega) (by omega)
      rw [this]; exact eq_true (by omega)
    rw [b23_0, h.1]
    simp only [q, i10, i01, eq_self, if_true, if_false, true_and, false_and, and_true, and_false, not_true, not_false_iff, true_or, or_true, false_or, or_false, ne_eq, not_true_eq_false, not_false_eq_true]
    exact ⟨σ, C, rfl, h, hl, Fr_r⟩
/-- a NUMBER within bounds -/
def pW (K V : Nat → Nat) (a m : Int32) (i : Nat) : PR := if K i = 30 then (if a ≤ nI (V i) ∧ nI (V i) ≤ m then .inr ([], i + 1) else .inl (2, i)) else .inl (1, i)
theorem c_want (d : Nat) {K V f : Nat → Nat} {N i : Nat} {C : List Int32} {σ : Sig} (a m : Int32) (h : TKb K V f N σ) (e11 : σ 53 11 = nI i) (hi : i ≤ N) (hC : CO C σ) (hl : C.length ≤ 400) :
    ∃ σ' v, Ex (d + 1) 56 0 [.ref 53, .int a, .int m] [] G0 σ = some (some (.int v), G0, σ') ∧ RC f C σ (pW K V a m i) v σ' ∧ (v = 1 → σ' 53 13 = nI (V i)) ∧ Fr [] [(53, 1), (53, 2), (53, 11), (53, 13)] σ σ' := by
  have hN := h.1
  obtain ⟨k100, e63, e65⟩ := h.2.2.2.1 i hi
  have ti : inb (nI i) 401 = true := inb_n (by omega) (by omega)
  have tc' : (nI i).toNatClampNeg = i := nI_c (by omega)
  have q30 : (nI (K i) = 30) = (K i = 30) := nJ_e (b := 30) (by omega) (by omega)
  rw [b56_0, e11]
  simp only [ti, tc', e63, q30, i10, i01, eq_self, if_true, if_false, true_and, false_and, and_true, and_false, not_true, not_false_iff, true_or, or_true, false_or, or_false, ne_eq, not_true_eq_false, not_false_eq_true]
  unfold pW
  by_cases c : K i = 30
  · have e64 := (h.2.2.2.2 i hi c).2
    rw [if_pos c]
    have p13 : pt σ 53 13 (nI (V i)) 53 13 = nI (V i) := pt_e
    have p11 : pt σ 53 13 (nI (V i)) 53 11 = nI i := by rw [pt_k (by decide)]; exact e11
    simp only [eq_true c, i10, i01, eq_self, if_true, if_false, true_and, false_and, and_true, and_false, not_true, not_false_iff, true_or, or_true, false_or, or_false, ne_eq, not_true_eq_false, not_false_eq_true, e64, p13, c_within, Option.bind_some, Option.toList_some, Option.toList_none, List.cons_append, List.nil_append, i01a, i01b, if_true, if_false, b56_42, bI_z, bI_o, bI_em, ite_not, p11, nI_s]
    by_cases cb : a ≤ nI (V i) ∧ nI (V i) ≤ m
    · rw [if_pos cb]
      simp only [eq_true cb, i10, i01, eq_self, if_true, if_false, true_and, false_and, and_true, and_false, not_true, not_false_iff, true_or, or_true, false_or, or_false, ne_eq, not_true_eq_false, not_false_eq_true]
      refine ⟨_, 1, rfl, ⟨rfl, pt_e, ?_, by rw [pt_k (by decide), pt_k (by decide)], by rw [pt_k (by decide), pt_k (by decide)]⟩, fun _ => by rw [pt_k (by decide), pt_e], Fr_p (Fr_p Fr_r (Or.inr (by simp))) (Or.inr (by simp))⟩
      rw [List.append_nil]; exact CO_k hC (by rw [pt_q (by decide), pt_q (by decide)]) (by rw [pt_q (by decide), pt_q (by decide)])
    · rw [if_neg cb]
      have h' : TKb K V f N (pt σ 53 13 (nI (V i))) := TKb_fr h (Fr_p Fr_r (Or.inr (by decide)))
      obtain ⟨s', e1, e2, e3, fr⟩ := c_fail d 2 h' p11 hi
      simp only [eq_false cb, i10, i01, eq_self, if_true, if_false, true_and, false_and, and_true, and_false, not_true, not_false_iff, true_or, or_true, false_or, or_false, ne_eq, not_true_eq_false, not_false_eq_true, e1, Option.bind_some, Option.toList_some, Option.toList_none, List.cons_append, List.nil_append, i01a, i01b, if_true, if_false, b56_50]
      refine ⟨s', 0, rfl, ⟨rfl, e2, e3, C, ?_, hl⟩, fun k => absurd k (by decide), Fr_t (Fr_p Fr_r (Or.inr (by simp))) (Fr_m fr (by simp) (by simp))⟩
      exact CO_k hC (by rw [fr 54 1 (by simp) (by simp), pt_q (by decide)]) (by rw [Fr_q fr (by simp) (by simp), pt_q (by decide)])
  · rw [if_neg c]
    obtain ⟨s', e1, e2, e3, fr⟩ := c_fail d 1 h e11 hi
    simp only [eq_false c, i10, i01, eq_self, if_true, if_false, true_and, false_and, and_true, and_false, not_true, not_false_iff, true_or, or_true, false_or, or_false, ne_eq, not_true_eq_false, not_false_eq_true, e1, Option.bind_some, Option.toList_some, Option.toList_none, List.cons_append, List.nil_append, i01a, i01b, if_true, if_false, b56_19]
    refine ⟨s', 0, rfl, ⟨rfl, e2, e3, C, ?_, hl⟩, fun k => absurd k (by decide), Fr_m fr (by simp) (by simp)⟩
    exact CO_k hC (fr 54 1 (by simp) (by simp)) (Fr_q fr (by simp) (by simp))
def sgV : Option Nat → Int32
  | none => -1
  | some s => nI s
def wcd : Option Nat → List Int32
  | none => []
  | some s => [-1 - nI s]
def tlS (K V : Nat → Nat) (g fp fs : Nat) (w : Option Nat) (i : Nat) : PR := bnd (pPl K V g fp i) (fun c j => pre (c ++ wcd w) (pSl K V g fs j))
theorem tl_m {K V : Nat → Nat} {g fp fs i : Nat} {w : Option Nat} (k : K i = 42) : tlS K V g (fp + 1) fs w i = bnd (pU K V g (i + 1)) (fun c j => pre (c ++ [-43]) (tlS K V g fp fs w j)) := by
  unfold tlS
  rw [pPl, if_pos k]
  cases pU K V g (i + 1) with
  | inl x => rfl
  | inr x => obtain ⟨c, j⟩ := x; exact bnd_p
theorem tl_d {K V : Nat → Nat} {g fp fs i : Nat} {w : Option Nat} (k : K i = 47) (hv : K (i + 1) = 30 → V (i + 1) ≤ 9999) : tlS K V g (fp + 1) fs w i = bnd (pW K V 1 9999 (i + 1)) (fun _ j => pre [nI (V (i + 1)), -48] (tlS K V g fp fs w j)) := by
  unfold tlS
  rw [pPl, if_neg (by omega), if_pos k]
  unfold pW
  by_cases c : K (i + 1) = 30
  · have h9 := hv c
    have q1 : ((1 : Int32) ≤ nI (V (i + 1)) ∧ nI (V (i + 1)) ≤ 9999) = (1 ≤ V (i + 1) ∧ V (i + 1) ≤ 9999) := in_le (a := 1) (b := 9999) (by omega) (by omega) (by omega)
    rw [if_pos c, if_pos c]
    by_cases z : V (i + 1) = 0
    · rw [if_pos z, if_neg (by rw [q1]; omega)]; rfl
    · rw [if_neg z, if_pos (by rw [q1]; omega)]; exact bnd_p
  · rw [if_neg c, if_neg c]; rfl
theorem tl_a {K V : Nat → Nat} {g fp fs i s : Nat} {w : Option Nat} (k : K i = s) (hs : s = 43 ∨ s = 45) : tlS K V g (fp + 1) (fs + 1) w i = pre (wcd w) (bnd (pU K V g (i + 1)) (fun c j => pre c (tlS K V g 401 fs (some s) j))) := by
  unfold tlS
  rw [pPl, if_neg (by omega), if_neg (by omega)]
  show pre ([] ++ wcd w) (pSl K V g (fs + 1) i) = _
  rw [List.nil_append, pSl, if_pos (by omega)]
  unfold pP
  rw [k]
  cases pU K V g (i + 1) with
  | inl x => rfl
  | inr x =>
    obtain ⟨c, j⟩ := x
    show pre (wcd w) (bnd (pre c (pPl K V g 401 j)) (fun c j => pre (c ++ [-1 - nI s]) (pSl K V g fs j))) = _
    rw [bnd_p]; rfl
theorem tl_e {K V : Nat → Nat} {g fp fs i : Nat} {w : Option Nat} (k : ¬ (K i = 43 ∨ K i = 45 ∨ K i = 42 ∨ K i = 47)) : tlS K V g (fp + 1) (fs + 1) w i = .inr (wcd w, i) := by
  unfold tlS
  rw [pPl, if_neg (by omega), if_neg (by omega)]
  show pre ([] ++ wcd w) (pSl K V g (fs + 1) i) = _
  rw [List.nil_append, pSl, if_neg (by omega)]
  show Sum.inr (wcd w ++ [], i) = _
  rw [List.append_nil]
