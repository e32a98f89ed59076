/-! L3: the grammar: a WAY; the class -/
abbrev WLn : Type := Int32 × Int32 × Int32 × Int32
abbrev wk (k : Nat) : Prop := (21 ≤ k ∧ k ≤ 24) ∨ k = 4
def wmo (P k : Nat) : Int32 := if k = 23 then 99 else if k = 24 ∨ k = 4 then nI P - 1 else 200
def pUp (K V : Nat → Nat) (j : Nat) : Sum (Nat × Nat) (Int32 × Nat) := if K j = 7 ∨ K j = 8 then (match pW K V 1 9 (j + 1) with
    | .inl x => .inl x
    | .inr _ => .inr (if K j = 8 then -(nI (V (j + 1))) else nI (V (j + 1)), j + 2))
  else .inr (0, j)
/-- a line k, from behind its word -/
def pWl (K V : Nat → Nat) (P Bn k i : Nat) : Sum (Nat × Nat) (WLn × Nat) := match pW K V (if k = 24 ∨ k = 4 then 0 else 1) (wmo P k) i with
  | .inl x => .inl x
  | .inr _ => if k = 21 then (match pUp K V (i + 1) with
      | .inl x => .inl x
      | .inr (s, l) => if K l = 13 then .inr ((21, nI (V i), s, 1), l + 1) else .inr ((21, nI (V i), s, 0), l))
    else if k = 24 ∨ k = 4 then (if K (i + 1) = (if k = 24 then 25 else 26) then (match pW K V 0 (if k = 24 then nI Bn - 1 else 6) (i + 2) with
        | .inl x => .inl x
        | .inr _ => .inr ((nI k, nI (V i), nI (V (i + 2)), 0), i + 3))
      else .inl (1, i + 1))
    else .inr ((nI k, nI (V i), 0, 0), i + 1)
def pWy (K V : Nat → Nat) (P Bn : Nat) : Nat → Nat → Sum (Nat × Nat) (List WLn)
  | 0, i => if K i = 32 then .inr [] else if wk (K i) then .inl (3, i) else .inl (1, i)
  | m + 1, i => if K i = 32 then .inr [] else if wk (K i) then (match pWl K V P Bn (K i) (i + 1) with
      | .inl x => .inl x
      | .inr (l, j) => if K j = 59 then (match pWy K V P Bn m (j + 1) with
          | .inl x => .inl x
          | .inr r => .inr (l :: r))
        else .inl (1, j))
    else .inl (1, i)
theorem pW_i {K V : Nat → Nat} {a m : Int32} {i j : Nat} {c : List Int32} (h : pW K V a m i = .inr (c, j)) : c = [] ∧ j = i + 1 ∧ K i = 30 ∧ a ≤ nI (V i) ∧ nI (V i) ≤ m := by
  unfold pW at h
  split at h
  · rename_i k
    split at h
    · rename_i q; cases h; exact ⟨rfl, rfl, k, q.1, q.2⟩
    · cases h
  · cases h
/-- what a line is -/
def okW1 (P Bn : Nat) (x : WLn) : Prop := ((x.1 = 21 ∨ x.1 = 22) ∧ bw x.2.1 1 200 ∧ bw x.2.2.1 (-9) 9 ∧ bw x.2.2.2 0 1) ∨ (x.1 = 23 ∧ bw x.2.1 1 99) ∨ (x.1 = 24 ∧ bw x.2.1 0 (P - 1) ∧ ∃ b : Nat, b < Bn ∧ x.2.2.1 = nI b) ∨ (x.1 = 4 ∧ bw x.2.1 0 (P - 1) ∧ bw x.2.2.1 0 6)
theorem bw_n {n : Nat} {a m : Int32} {x y : Int} (h : n < 2 ^ 31) (h1 : a ≤ nI n) (h2 : nI n ≤ m) (hx : x ≤ a.toInt) (hy : m.toInt ≤ y) : bw (nI n) x y := by
  rw [Int32.le_iff_toInt_le] at h1 h2
  exact ⟨by omega, by omega⟩
theorem pm1_i {P : Nat} (h1 : 1 ≤ P) (h : P < 2 ^ 31) : (nI P - 1).toInt = P - 1 := by
  rw [nI_p1 h1, nI_i (by omega)]; omega
theorem pWl_ok {K V : Nat → Nat} {N P Bn k i : Nat} {l : WLn} {j : Nat} (hE : endK K N) (hV : ∀ t, K t = 30 → V t ≤ 9999) (hk : wk k) (hP : 1 ≤ P ∧ P ≤ 8) (hB : Bn ≤ 8) (hi : i ≤ N) (h : pWl K V P Bn k i = .inr (l, j)) : okW1 P Bn l ∧ j ≤ N := by
  unfold pWl at h
  cases hu : pW K V (if k = 24 ∨ k = 4 then 0 else 1) (wmo P k) i with
  | inl x => rw [hu] at h; cases h
  | inr x =>
    obtain ⟨c, j1⟩ := x
    obtain ⟨_, _, k30, b1, b2⟩ := pW_i hu
    have lt := kLt hE hi (by omega)
    have h9 := hV i k30
    rw [hu] at h
    simp only at h
    by_cases c21 : k = 21
    · subst c21
      have B1 : bw (nI (V i)) 1 200 := bw_n (by omega) b1 b2 (by decide) (by show (200 : Int32).toInt ≤ 200; decide)
      have Z1 : bw (1 : Int32) 0 1 := ⟨by decide, by decide⟩
      have Z0 : bw (0 : Int32) 0 1 := ⟨by decide, by decide⟩
      simp only [if_true] at h
      cases hp : pUp K V (i + 1) with
      | inl x => rw [hp] at h; cases h
      | inr x =>
        obtain ⟨s, l1⟩ := x
        rw [hp] at h
        have A : bw s (-9) 9 ∧ l1 ≤ N := by
          unfold pUp at hp
          split at hp
          · rename_i kk
            have lt1 := kLt hE (show i + 1 ≤ N by omega) (by omega)
            cases hv : pW K V 1 9 (i + 1 + 1) with
            | inl x => rw [hv] at hp; cases hp
            | inr x =>
              obtain ⟨c', j'⟩ := x
              obtain ⟨_, _, k30', b1', b2'⟩ := pW_i hv
              have lt2 := kLt hE (show i + 1 + 1 ≤ N by omega) (by omega)
              have h9' := hV _ k30'
              have B := bw_n (x := 1) (y := 9) (show V (i + 1 + 1) < 2 ^ 31 by omega) b1' b2' (by decide) (by decide)
              rw [hv] at hp
              cases hp
              refine ⟨?_, by omega⟩
              split
              · have e : (-(nI (V (i + 1 + 1)))).toInt = -((nI (V (i + 1 + 1))).toInt) := by
                  rw [Int32.toInt_neg, nI_i (by omega)]
                  exact Int.bmod_eq_of_le (by omega) (by omega)
                unfold bw at B ⊢
                rw [e]; omega
              · unfold bw at B ⊢; omega
          · cases hp; exact ⟨⟨by decide, by decide⟩, by omega⟩
        simp only at h
        split at h
        · rename_i k13
          have := kLt hE A.2 (by omega)
          cases h
          exact ⟨Or.inl ⟨Or.inl rfl, B1, A.1, Z1⟩, by omega⟩
        · cases h
          exact ⟨Or.inl ⟨Or.inl rfl, B1, A.1, Z0⟩, A.2⟩
    · simp only [if_neg c21] at h
      by_cases cc : k = 24 ∨ k = 4
      · simp only [if_pos cc] at h b1
        have B1 : bw (nI (V i)) 0 (P - 1) := by
          refine bw_n (by omega) b1 b2 (by decide) ?_
          unfold wmo
          rw [if_neg (by omega), if_pos cc, pm1_i hP.1 (by omega)]; omega
        by_cases kj : K (i + 1) = (if k = 24 then 25 else 26)
        · rw [if_pos kj] at h
          have lt1 := kLt hE (show i + 1 ≤ N by omega) (by rw [kj]; split <;> decide)
          cases hv : pW K V 0 (if k = 24 then nI Bn - 1 else 6) (i + 2) with
          | inl x => rw [hv] at h; cases h
          | inr x =>
            obtain ⟨c', j'⟩ := x
            obtain ⟨_, _, k30', b1', b2'⟩ := pW_i hv
            have lt2 := kLt hE (show i + 2 ≤ N by omega) (by omega)
            have h9' := hV _ k30'
            rw [hv] at h
            cases h
            refine ⟨?_, by omega⟩
            rcases cc with e | e
            · subst e
              refine Or.inr (Or.inr (Or.inl ⟨rfl, B1, V (i + 2), ?_, rfl⟩))
              rw [if_pos rfl] at b2'
              rcases Nat.eq_zero_or_pos Bn with z | z
              · subst z
                have : nI (V (i + 2)) ≤ -1 := b2'
                rw [Int32.le_iff_toInt_le, nI_i (by omega)] at this
                have e1 : (-1 : Int32).toInt = -1 := by decide
                omega
              · rw [Int32.le_iff_toInt_le, pm1_i z (by omega), nI_i (by omega)] at b2'
                omega
            · subst e
              rw [if_neg (by decide)] at b2'
              exact Or.inr (Or.inr (Or.inr ⟨rfl, B1, bw_n (by omega) b1' b2' (by decide) (by decide)⟩))
        · rw [if_neg kj] at h; cases h
      · simp only [if_neg cc] at h b1
        cases h
        refine ⟨?_, by omega⟩
        have hk' : k = 22 ∨ k = 23 := by unfold wk at hk; omega
        rcases hk' with e | e
        · subst e
          have Z0 : bw (0 : Int32) 0 1 := ⟨by decide, by decide⟩
          have Z9 : bw (0 : Int32) (-9) 9 := ⟨by decide, by decide⟩
          exact Or.inl ⟨Or.inr rfl, bw_n (by omega) b1 b2 (by decide) (by show (200 : Int32).toInt ≤ 200; decide), Z9, Z0⟩
        · subst e
          exact Or.inr (Or.inl ⟨rfl, bw_n (by omega) b1 b2 (by decide) (by show (99 : Int32).toInt ≤ 99; decide)⟩)
theorem pWy_ok {K V : Nat → Nat} {N P Bn : Nat} (hE : endK K N) (hV : ∀ t, K t = 30 → V t ≤ 9999) (hP : 1 ≤ P ∧ P ≤ 8) (hB : Bn ≤ 8) : ∀ m i r, i ≤ N → pWy K V P Bn m i = .inr r → r.length ≤ m ∧ ∀ x ∈ r, okW1 P Bn x := by
  intro m
  induction m with
  | zero =>
    intro i r hi h
    rw [pWy] at h
    split at h
    · cases h; exact ⟨Nat.le_refl _, fun x hx => absurd hx List.not_mem_nil⟩
    · split at h <;> cases h
  | succ m ih =>
    intro i r hi h
    rw [pWy] at h
    split at h
    · cases h; exact ⟨Nat.zero_le _, fun x hx => absurd hx List.not_mem_nil⟩
    · rename_i n32
      split at h
      · rename_i hw
        have lt := kLt hE hi n32
        cases hu : pWl K V P Bn (K i) (i + 1) with
        | inl x => rw [hu] at h; cases h
        | inr x =>
          obtain ⟨l, j⟩ := x
          obtain ⟨a1, a2⟩ := pWl_ok hE hV hw hP hB (show i + 1 ≤ N by omega) hu
          rw [hu] at h
          simp only at h
          split at h
          · rename_i k59
            have lt2 := kLt hE a2 (by omega)
            cases hv : pWy K V P Bn m (j + 1) with
            | inl x => rw [hv] at h; cases h
            | inr r' =>
              rw [hv] at h
              cases h
              obtain ⟨b1, b2⟩ := ih (j + 1) r' (by omega) hv
              refine ⟨by rw [List.length_cons]; omega, fun x hx => ?_⟩
              rcases List.mem_cons.mp hx with e | e
              · rw [e]; exact a1
              · exact b2 x e
          · cases h
      · cases h
def dW : WLn := (0, 0, 0, 0)
def pkW (x : WLn) : Prop := x.1 = 21 ∨ x.1 = 22
def LPW (ls : List WLn) (v : Int32) : Prop := (v = -1 ∧ ∀ l, l < ls.length → ¬ pkW (ls.getD l dW)) ∨ (∃ m : Nat, m < ls.length ∧ v = nI m ∧ pkW (ls.getD m dW) ∧ ∀ l, m < l → l < ls.length → ¬ pkW (ls.getD l dW))
theorem gw_l {a b : List WLn} {i : Nat} (h : i < a.length) : (a ++ b).getD i dW = a.getD i dW := by rw [List.getD, List.getD, List.getElem?_append_left h]
theorem gw_r {a : List WLn} {x : WLn} : (a ++ [x]).getD a.length dW = x := by rw [List.getD, List.getElem?_append_right (Nat.le_refl _), Nat.sub_self]; rfl
theorem LPW_n {ls : List WLn} {v : Int32} {x : WLn} (h : LPW ls v) (hx : ¬ pkW x) : LPW (ls ++ [x]) v := by
  have el : (ls ++ [x]).length = ls.length + 1 := by rw [List.length_append]; rfl
  rcases h with ⟨h1, h2⟩ | ⟨m, h1, h2, h3, h4⟩
  · refine Or.inl ⟨h1, fun l hl => ?_⟩
    by_cases c : l < ls.length
    · rw [gw_l c]; exact h2 l c
    · rw [show l = ls.length by omega, gw_r]; exact hx
  · refine Or.inr ⟨m, by omega, h2, by rw [gw_l h1]; exact h3, fun l h5 hl => ?_⟩
    by_cases c : l < ls.length
    · rw [gw_l c]; exact h4 l h5 c
    · rw [show l = ls.length by omega, gw_r]; exact hx
theorem LPW_p {ls : List WLn} {x : WLn} (hx : pkW x) : LPW (ls ++ [x]) (nI ls.length) := by
  have el : (ls ++ [x]).length = ls.length + 1 := by rw [List.length_append]; rfl
  exact Or.inr ⟨ls.length, by omega, rfl, by rw [gw_r]; exact hx, fun l h5 hl => by omega⟩
/-- the class's way (cells a to a + 4) -/
def WCa (a : Nat) (ls : List WLn) (σ : Sig) : Prop := σ a 0 = nI ls.length ∧ (∀ l, l < ls.length → σ (a + 1) l = (ls.getD l dW).1 ∧ σ (a + 2) l = (ls.getD l dW).2.1 ∧ σ (a + 3) l = (ls.getD l dW).2.2.1 ∧ σ (a + 4) l = (ls.getD l dW).2.2.2) ∧ LPW ls (σ a 1)
theorem WCa_k {a : Nat} {ls : List WLn} {σ σ' : Sig} (h : WCa a ls σ) (e : ∀ q, a ≤ q → q ≤ a + 4 → σ' q = σ q) : WCa a ls σ' := by
  unfold WCa
  rw [e a (by omega) (by omega), e (a + 1) (by omega) (by omega), e (a + 2) (by omega) (by omega), e (a + 3) (by omega) (by omega), e (a + 4) (by omega) (by omega)]
  exact h
theorem c_wadd (d : Nat) {ls : List WLn} {σ : Sig} (k a s g : Int32) (h : WCa 57 ls σ) (hl : ls.length < 40) : ∃ σ', Ex d 89 0 [.ref 57, .int k, .int a, .int s, .int g] [] G0 σ = some (none, G0, σ') ∧ WCa 57 (ls ++ [(k, a, s, g)]) σ' ∧ Fr [57, 58, 59, 60, 61] [] σ σ' := by
  obtain ⟨h1, h2, h3⟩ := h
  have q : (nI ls.length < 40) = True := by
    have : (nI ls.length < 40) = (ls.length < 40) := nJ_lt (b := 40) (by omega) (by omega)
    rw [this]; exact eq_true hl
  have i1 : inb (nI ls.length) 40 = true := inb_n hl (by omega)
  have c1 : (nI ls.length).toNatClampNeg = ls.length := nI_c (by omega)
  have p1 : pt σ 58 ls.length k 57 0 = nI ls.length := by rw [pt_q (by decide)]; exact h1
  have p2 : pt (pt σ 58 ls.length k) 59 ls.length a 57 0 = nI ls.length := by rw [pt_q (by decide)]; exact p1
  have p3 : pt (pt (pt σ 58 ls.length k) 59 ls.length a) 60 ls.length s 57 0 = nI ls.length := by rw [pt_q (by decide)]; exact p2
  have p4 : pt (pt (pt (pt σ 58 ls.length k) 59 ls.length a) 60 ls.length s) 61 ls.length g 57 0 = nI ls.length := by rw [pt_q (by decide)]; exact p3
  have r1 : ∀ l, l < ls.length + 1 → pt (pt (pt (pt σ 58 ls.length k) 59 ls.length a) 60 ls.length s) 61 ls.length g 58 l = ((ls ++ [(k, a, s, g)]).getD l dW).1 ∧ pt (pt (pt (pt σ 58 ls.length k) 59 ls.length a) 60 ls.length s) 61 ls.length g 59 l = ((ls ++ [(k, a, s, g)]).getD l dW).2.1 ∧ pt (pt (pt (pt σ 58 ls.length k) 59 ls.length a) 60 ls.length s) 61 ls.length g 60 l = ((ls ++ [(k, a, s, g)]).getD l dW).2.2.1 ∧ pt (pt (pt (pt σ 58 ls.length k) 59 ls.length a) 60 ls.length s) 61 ls.length g 61 l = ((ls ++ [(k, a, s, g)]).getD l dW).2.2.2 := by
    intro l hl'
    by_cases c : l = ls.length
    · subst c; rw [gw_r]
      refine ⟨?_, ?_, ?_, pt_e⟩
      · rw [pt_q (by decide), pt_q (by decide), pt_q (by decide), pt_e]
      · rw [pt_q (by decide), pt_q (by decide), pt_e]
      · rw [pt_q (by decide), pt_e]
    · have c' : l < ls.length := by omega
      obtain ⟨a1, a2, a3, a4⟩ := h2 l c'
      rw [gw_l c']
      refine ⟨?_, ?_, ?_, ?_⟩
      · rw [pt_q (by decide), pt_q (by decide), pt_q (by decide), pt_k c]; exact a1
      · rw [pt_q (by decide), pt_q (by decide), pt_k c, pt_q (by decide)]; exact a2
      · rw [pt_q (by decide), pt_k c, pt_q (by decide), pt_q (by decide)]; exact a3
      · rw [pt_k c, pt_q (by decide), pt_q (by decide), pt_q (by decide)]; exact a4
  have r2 : pt (pt (pt (pt σ 58 ls.length k) 59 ls.length a) 60 ls.length s) 61 ls.length g 57 1 = σ 57 1 := by rw [pt_q (by decide), pt_q (by decide), pt_q (by decide), pt_q (by decide)]
  have F : Fr [57, 58, 59, 60, 61] [] σ (pt (pt (pt (pt σ 58 ls.length k) 59 ls.length a) 60 ls.length s) 61 ls.length g) := Fr_p (Fr_p (Fr_p (Fr_p Fr_r (Or.inl (by simp))) (Or.inl (by simp))) (Or.inl (by simp))) (Or.inl (by simp))
  rw [b89_0]
  simp only [h1, q, i10, i01, eq_self, if_true, if_false, true_and, false_and, and_true, and_false, not_true, not_false_iff, true_or, or_true, false_or, or_false, ne_eq, not_true_eq_false, not_false_eq_true, i1, c1, p1, p2, p3, b89_51]
  generalize pt (pt (pt (pt σ 58 ls.length k) 59 ls.length a) 60 ls.length s) 61 ls.length g = s4 at p4 r1 r2 F
  have el : (ls ++ [(k, a, s, g)]).length = ls.length + 1 := by rw [List.length_append]; rfl
  have fin : ∀ v, LPW (ls ++ [(k, a, s, g)]) v → WCa 57 (ls ++ [(k, a, s, g)]) (pt (pt s4 57 1 v) 57 0 (nI (ls.length + 1))) := fun v hv => ⟨by rw [pt_e, el], fun l hl' => by
    show pt (pt s4 57 1 v) 57 0 (nI (ls.length + 1)) 58 l = _ ∧ pt (pt s4 57 1 v) 57 0 (nI (ls.length + 1)) 59 l = _ ∧ pt (pt s4 57 1 v) 57 0 (nI (ls.length + 1)) 60 l = _ ∧ pt (pt s4 57 1 v) 57 0 (nI (ls.length + 1)) 61 l = _
    rw [pt_q (by decide), pt_q (by decide), pt_q (by decide), pt_q (by decide), pt_q (by decide), pt_q (by decide), pt_q (by decide), pt_q (by decide)]
    exact r1 l (by omega), by rw [pt_k (by decide), pt_e]; exact hv⟩
  have p5 : ∀ v, pt s4 57 1 v 57 0 = nI ls.length := fun v => by rw [pt_k (by decide)]; exact p4
  have F2 : ∀ v, Fr [57, 58, 59, 60, 61] [] σ (pt (pt s4 57 1 v) 57 0 (nI (ls.length + 1))) := fun v => Fr_p (Fr_p F (Or.inl (by simp))) (Or.inl (by simp))
  by_cases k21 : k = 21
  · simp only [eq_true k21, i10, i01, eq_self, if_true, if_false, true_and, false_and, and_true, and_false, not_true, not_false_iff, true_or, or_true, false_or, or_false, ne_eq, not_true_eq_false, not_false_eq_true, p4, p5, nI_s]
    exact ⟨_, rfl, fin _ (LPW_p (ls := ls) (x := (k, a, s, g)) (Or.inl k21)), F2 _⟩
  · by_cases k22 : k = 22
    · simp only [eq_false k21, eq_true k22, i10, i01, eq_self, if_true, if_false, true_and, false_and, and_true, and_false, not_true, not_false_iff, true_or, or_true, false_or, or_false, ne_eq, not_true_eq_false, not_false_eq_true, p4, p5, nI_s]
      exact ⟨_, rfl, fin _ (LPW_p (ls := ls) (x := (k, a, s, g)) (Or.inr k22)), F2 _⟩
    · simp only [eq_false k21, eq_false k22, i10, i01, eq_self, if_true, if_false, true_and, false_and, and_true, and_false, not_true, not_false_iff, true_or, or_true, false_or, or_false, ne_eq, not_true_eq_false, not_false_eq_true, p4, nI_s]
      refine ⟨_, rfl, ⟨by rw [pt_e, el], fun l hl' => ?_, ?_⟩, Fr_p F (Or.inl (by simp))⟩
      · show pt s4 57 0 (nI (ls.length + 1)) 58 l = _ ∧ pt s4 57 0 (nI (ls.length + 1)) 59 l = _ ∧ pt s4 57 0 (nI (ls.length + 1)) 60 l = _ ∧ pt s4 57 0 (nI (ls.length + 1)) 61 l = _
        rw [pt_q (by decide), pt_q (by decide), pt_q (by decide), pt_q (by decide)]
        exact r1 l (by omega)
      · rw [pt_k (by decide), r2]
        exact LPW_n h3 (fun e => e.elim k21 k22)
theorem TKb_g {K V f : Nat → Nat} {N : Nat} {σ σ' : Sig} (h : TKb K V f N σ) (e63 : σ' 63 = σ 63) (e64 : σ' 64 = σ 64) (e65 : σ' 65 = σ 65) : TKb K V f N σ' := by
  obtain ⟨a, b, c, d, e⟩ := h
  refine ⟨a, b, c, ?_, ?_⟩
  · rw [e63, e65]; exact d
  · rw [e64]; exact e
def SLYw : List (Nat × Nat) := [(53, 1), (53, 2), (53, 11), (53, 13)]
def SCYw : List Nat := [57, 58, 59, 60, 61]
theorem TKb_y {K V f : Nat → Nat} {N : Nat} {σ σ' : Sig} (h : TKb K V f N σ) (g : Fr SCYw SLYw σ σ') : TKb K V f N σ' := TKb_g h (Fr_q g (by decide) (by decide)) (Fr_q g (by decide) (by decide)) (Fr_q g (by decide) (by decide))
theorem WCa_y {ls : List WLn} {σ σ' : Sig} (h : WCa 57 ls σ) (g : Fr [] SLYw σ σ') : WCa 57 ls σ' := WCa_k h (fun q h1 h2 => Fr_q g (by simp) (fun x hx => by
  have : x.1 = 53 := by
    have : ∀ x ∈ SLYw, x.1 = 53 := by decide
    exact this x hx
  omega))
def R1 (f : Nat → Nat) (σ : Sig) (r : PR) (v : Int32) (σ' : Sig) : Prop := match r with
  | .inl (k, x) => v = 0 ∧ σ' 53 1 = nI k ∧ σ' 53 2 = nI (f x)
  | .inr (_, j) => v = 1 ∧ σ' 53 11 = nI j ∧ σ' 53 1 = σ 53 1 ∧ σ' 53 2 = σ 53 2
theorem c_wnt (d : Nat) {K V f : Nat → Nat} {N i : Nat} {σ : Sig} (a m : Int32) (h : TKb K V f N σ) (e11 : σ 53 11 = nI i) (hi : i ≤ N) :
    ∃ σ' v, Ex (d + 1) 56 0 [.ref 53, .int a, .int m] [] G0 σ = some (some (.int v), G0, σ') ∧ R1 f σ (pW K V a m i) v σ' ∧ (v = 1 → σ' 53 13 = nI (V i)) ∧ Fr [] SLYw σ σ' := by
  have hN := h.1
  obtain ⟨k100, e63, e65⟩ := h.2.2.2.1 i hi
  have ti : inb (nI i) 401 = true := inb_n (by omega) (by omega)
  have tc' : (nI i).toNatClampNeg = i := nI_c (by omega)
  have q30 : (nI (K i) = 30) = (K i = 30) := nJ_e (b := 30) (by omega) (by omega)
  rw [b56_0, e11]
  simp only [ti, tc', e63, q30, i10, i01, eq_self, if_true, if_false, true_and, false_and, and_true, and_false, not_true, not_false_iff, true_or, or_true, false_or, or_false, ne_eq, not_true_eq_false, not_false_eq_true]
  unfold pW
  by_cases c : K i = 30
  · have e64 := (h.2.2.2.2 i hi c).2
    rw [if_pos c]
    have p13 : pt σ 53 13 (nI (V i)) 53 13 = nI (V i) := pt_e
    have p11 : pt σ 53 13 (nI (V i)) 53 11 = nI i := by rw [pt_k (by decide)]; exact e11
    simp only [eq_true c, i10, i01, eq_self, if_true, if_false, true_and, false_and, and_true, and_false, not_true, not_false_iff, true_or, or_true, false_or, or_false, ne_eq, not_true_eq_false, not_false_eq_true, e64, p13, c_within, Option.bind_some, Option.toList_some, Option.toList_none, List.cons_append, List.nil_append, i01a, i01b, if_true, if_false, b56_42, bI_z, bI_o, bI_em, ite_not, p11, nI_s]
    by_cases cb : a ≤ nI (V i) ∧ nI (V i) ≤ m
    · rw [if_pos cb]
      simp only [eq_true cb, i10, i01, eq_self, if_true, if_false, true_and, false_and, and_true, and_false, not_true, not_false_iff, true_or, or_true, false_or, or_false, ne_eq, not_true_eq_false, not_false_eq_true]
      exact ⟨_, 1, rfl, ⟨rfl, pt_e, by rw [pt_k (by decide), pt_k (by decide)], by rw [pt_k (by decide), pt_k (by decide)]⟩, fun _ => by rw [pt_k (by decide), pt_e], Fr_p (Fr_p Fr_r (Or.inr (by decide))) (Or.inr (by decide))⟩
    · rw [if_neg cb]
      have h' : TKb K V f N (pt σ 53 13 (nI (V i))) := TKb_fr h (Fr_p Fr_r (Or.inr (by decide)))
      obtain ⟨s', e1, e2, e3, fr⟩ := c_fail d 2 h' p11 hi
      simp only [eq_false cb, i10, i01, eq_self, if_true, if_false, true_and, false_and, and_true, and_false, not_true, not_false_iff, true_or, or_true, false_or, or_false, ne_eq, not_true_eq_false, not_false_eq_true, e1, Option.bind_some, Option.toList_some, Option.toList_none, List.cons_append, List.nil_append, i01a, i01b, if_true, if_false, b56_50]
      exact ⟨s', 0, rfl, ⟨rfl, e2, e3⟩, fun k => absurd k (by decide), Fr_t (Fr_p Fr_r (Or.inr (by decide))) (Fr_m fr (by simp) (by decide))⟩
  · rw [if_neg c]
    obtain ⟨s', e1, e2, e3, fr⟩ := c_fail d 1 h e11 hi
    simp only [eq_false c, i10, i01, eq_self, if_true, if_false, true_and, false_and, and_true, and_false, not_true, not_false_iff, true_or, or_true, false_or, or_false, ne_eq, not_true_eq_false, not_false_eq_true, e1, Option.bind_some, Option.toList_some, Option.toList_none, List.cons_append, List.nil_append, i01a, i01b, if_true, if_false, b56_19]
    exact ⟨s', 0, rfl, ⟨rfl, e2, e3⟩, fun k => absurd k (by decide), Fr_m fr (by simp) (by decide)⟩
theorem c_skp (d : Nat) {K V f : Nat → Nat} {N i k : Nat} {σ : Sig} (hk : k < 100) (h : TKb K V f N σ) (e11 : σ 53 11 = nI i) (hi : i ≤ N) :
    Ex d 57 0 [.ref 53, .int (nI k)] [] G0 σ = if K i = k then some (some (.int 1), G0, pt σ 53 11 (nI (i + 1))) else some (some (.int 0), G0, σ) := by
  have hN := h.1
  obtain ⟨k100, e63, e65⟩ := h.2.2.2.1 i hi
  have ti : inb (nI i) 401 = true := inb_n (by omega) (by omega)
  have tc' : (nI i).toNatClampNeg = i := nI_c (by omega)
  have q : (nI (K i) = nI k) = (K i = k) := nJ_e (by omega) (by omega)
  rw [b57_0, e11]
  simp only [ti, tc', e63, q, i10, i01, eq_self, if_true, if_false, true_and, false_and, and_true, and_false, not_true, not_false_iff, true_or, or_true, false_or, or_false, ne_eq, not_true_eq_false, not_false_eq_true, nI_s]
theorem c_nd (d : Nat) {K V f : Nat → Nat} {N i k : Nat} {σ : Sig} (hk : k < 100) (h : TKb K V f N σ) (e11 : σ 53 11 = nI i) (hi : i ≤ N) :
    ∃ σ' v, Ex (d + 1) 58 0 [.ref 53, .int (nI k)] [] G0 σ = some (some (.int v), G0, σ') ∧ R1 f σ (if K i = k then .inr ([], i + 1) else .inl (1, i)) v σ' ∧ Fr [] SLYw σ σ' := by
  rw [b58_0, c_skp d hk h e11 hi]
  by_cases c : K i = k
  · rw [if_pos c, if_pos c]
    simp only [Option.bind_some, Option.toList_some, Option.toList_none, List.cons_append, List.nil_append, i01a, i01b, if_true, if_false, b58_5, i10, i01, eq_self, if_true, if_false, true_and, false_and, and_true, and_false, not_true, not_false_iff, true_or, or_true, false_or, or_false, ne_eq, not_true_eq_false, not_false_eq_true]
    exact ⟨_, 1, rfl, ⟨rfl, pt_e, pt_k (by decide), pt_k (by decide)⟩, Fr_p Fr_r (Or.inr (by decide))⟩
  · rw [if_neg c, if_neg c]
    obtain ⟨s, e1, e2, e3, fr⟩ := c_fail d 1 h e11 hi
    simp only [Option.bind_some, Option.toList_some, Option.toList_none, List.cons_append, List.nil_append, i01a, i01b, if_true, if_false, b58_5, i10, i01, eq_self, if_true, if_false, true_and, false_and, and_true, and_false, not_true, not_false_iff, true_or, or_true, false_or, or_false, ne_eq, not_true_eq_false, not_false_eq_true, e1, b58_13]
    exact ⟨s, 0, rfl, ⟨rfl, e2, e3⟩, Fr_m fr (by simp) (by decide)⟩
def RWl (f : Nat → Nat) (ls : List WLn) (σ : Sig) (r : Sum (Nat × Nat) (WLn × Nat)) (v : Int32) (σ' : Sig) : Prop := match r with
  | .inl (k, x) => v = 0 ∧ σ' 53 1 = nI k ∧ σ' 53 2 = nI (f x)
  | .inr (l, j) => v = 1 ∧ σ' 53 11 = nI j ∧ WCa 57 (ls ++ [l]) σ' ∧ σ' 53 1 = σ 53 1 ∧ σ' 53 2 = σ 53 2
section
variable {K V f : Nat → Nat} {N P Bn i : Nat} {ls : List WLn} {σ : Sig}
theorem toY {s s' : Sig} (h : Fr [] SLYw s s') : Fr SCYw SLYw s s' := Fr_m h (by simp) (fun x hx => Or.inl hx)
theorem addY {s s' : Sig} (h : Fr [57, 58, 59, 60, 61] [] s s') : Fr SCYw SLYw s s' := Fr_m h (fun q hq => hq) (by simp)
theorem c_wl22 (d : Nat) (hT : TKb K V f N σ) (e11 : σ 53 11 = nI i) (hi : i ≤ N) (hW : WCa 57 ls σ) (hl : ls.length < 40) :
    ∃ σ' v, Ex (d + 2) 55 0 [.ref 53, .int 22, .int (nI P), .int (nI Bn), .null, .null, .null, .null, .null, .null] [] G0 σ = some (some (.int v), G0, σ') ∧ RWl f ls σ (pWl K V P Bn 22 i) v σ' ∧ Fr SCYw SLYw σ σ' := by
  have n1 : ((22 : Int32) = 24) = False := eq_false (by decide)
  have n2 : ((22 : Int32) = 4) = False := eq_false (by decide)
  have n3 : ((22 : Int32) = 21) = False := eq_false (by decide)
  have nn : (22 : Int32) ≠ 23 := by decide
  obtain ⟨s1, v, e1, r1, w1, f1⟩ := c_wnt d 1 200 hT e11 hi
  have T1 := TKb_y hT (toY f1)
  have W1 := WCa_y hW f1
  have ep : pWl K V P Bn 22 i = (match pW K V 1 200 i with | .inl x => .inl x | .inr _ => .inr ((22, nI (V i), 0, 0), i + 1)) := rfl
  rw [ep, b55_0]
  simp only [eq_false nn, n1, n2, i10, i01, eq_self, if_true, if_false, true_and, false_and, and_true, and_false, not_true, not_false_iff, true_or, or_true, false_or, or_false, ne_eq, not_true_eq_false, not_false_eq_true, b55_34, e1, Option.bind_some, Option.toList_some, Option.toList_none, List.cons_append, List.nil_append, i01a, i01b, if_true, if_false, b55_68, n3]
  cases hu : pW K V 1 200 i with
  | inl x =>
    rw [hu] at r1
    obtain ⟨x1, x2⟩ := x
    simp only [r1.1, i10, i01, eq_self, if_true, if_false, true_and, false_and, and_true, and_false, not_true, not_false_iff, true_or, or_true, false_or, or_false, ne_eq, not_true_eq_false, not_false_eq_true]
    exact ⟨s1, 0, rfl, ⟨rfl, r1.2.1, r1.2.2⟩, toY f1⟩
  | inr x =>
    obtain ⟨c, j⟩ := x
    obtain ⟨_, ej, _⟩ := pW_i hu
    rw [hu] at r1
    obtain ⟨v1, g11, g1, g2⟩ := r1
    obtain ⟨s2, e2, W2, f2⟩ := c_wadd (d + 1) 22 (nI (V i)) 0 0 W1 hl
    have e2' : Ex (d + 1) 89 0 [.ref 57, .int 22, .int (nI (V i)), .int 0, .int 0] [] G0 s1 = some (none, G0, s2) := e2
    simp only [v1, i10, i01, eq_self, if_true, if_false, true_and, false_and, and_true, and_false, not_true, not_false_iff, true_or, or_true, false_or, or_false, ne_eq, not_true_eq_false, not_false_eq_true, w1 v1, e2', Option.bind_some, Option.toList_some, Option.toList_none, List.cons_append, List.nil_append, i01a, i01b, if_true, if_false, b55_260]
    exact ⟨s2, 1, rfl, ⟨rfl, by rw [f2 53 11 (by decide) (by simp), g11, ej], W2, by rw [f2 53 1 (by decide) (by simp), g1], by rw [f2 53 2 (by decide) (by simp), g2]⟩, Fr_t (toY f1) (addY f2)⟩
theorem c_wl23 (d : Nat) (hT : TKb K V f N σ) (e11 : σ 53 11 = nI i) (hi : i ≤ N) (hW : WCa 57 ls σ) (hl : ls.length < 40) :
    ∃ σ' v, Ex (d + 2) 55 0 [.ref 53, .int 23, .int (nI P), .int (nI Bn), .null, .null, .null, .null, .null, .null] [] G0 σ = some (some (.int v), G0, σ') ∧ RWl f ls σ (pWl K V P Bn 23 i) v σ' ∧ Fr SCYw SLYw σ σ' := by
  have n1 : ((23 : Int32) = 24) = False := eq_false (by decide)
  have n2 : ((23 : Int32) = 4) = False := eq_false (by decide)
  have n3 : ((23 : Int32) = 21) = False := eq_false (by decide)
  have nn : (22 : Int32) ≠ 23 := by decide
  obtain ⟨s1, v, e1, r1, w1, f1⟩ := c_wnt d 1 99 hT e11 hi
  have T1 := TKb_y hT (toY f1)
  have W1 := WCa_y hW f1
  have ep : pWl K V P Bn 23 i = (match pW K V 1 99 i with | .inl x => .inl x | .inr _ => .inr ((23, nI (V i), 0, 0), i + 1)) := rfl
  rw [ep, b55_0]
  simp only [eq_false nn, n1, n2, i10, i01, eq_self, if_true, if_false, true_and, false_and, and_true, and_false, not_true, not_false_iff, true_or, or_true, false_or, or_false, ne_eq, not_true_eq_false, not_false_eq_true, b55_34, e1, Option.bind_some, Option.toList_some, Option.toList_none, List.cons_append, List.nil_append, i01a, i01b, if_true, if_false, b55_68, n3]
  cases hu : pW K V 1 99 i with
  | inl x =>
    rw [hu] at r1
    obtain ⟨x1, x2⟩ := x
    simp only [r1.1, i10, i01, eq_self, if_true, if_false, true_and, false_and, and_true, and_false, not_true, not_false_iff, true_or, or_true, false_or, or_false, ne_eq, not_true_eq_false, not_false_eq_true]
    exact ⟨s1, 0, rfl, ⟨rfl, r1.2.1, r1.2.2⟩, toY f1⟩
  | inr x =>
    obtain ⟨c, j⟩ := x
    obtain ⟨_, ej, _⟩ := pW_i hu
    rw [hu] at r1
    obtain ⟨v1, g11, g1, g2⟩ := r1
    obtain ⟨s2, e2, W2, f2⟩ := c_wadd (d + 1) 23 (nI (V i)) 0 0 W1 hl
    have e2' : Ex (d + 1) 89 0 [.ref 57, .int 23, .int (nI (V i)), .int 0, .int 0] [] G0 s1 = some (none, G0, s2) := e2
    simp only [v1, i10, i01, eq_self, if_true, if_false, true_and, false_and, and_true, and_false, not_true, not_false_iff, true_or, or_true, false_or, or_false, ne_eq, not_true_eq_false, not_false_eq_true, w1 v1, e2', Option.bind_some, Option.toList_some, Option.toList_none, List.cons_append, List.nil_append, i01a, i01b, if_true, if_false, b55_260]
    exact ⟨s2, 1, rfl, ⟨rfl, by rw [f2 53 11 (by decide) (by simp), g11, ej], W2, by rw [f2 53 1 (by decide) (by simp), g1], by rw [f2 53 2 (by decide) (by simp), g2]⟩, Fr_t (toY f1) (addY f2)⟩
theorem c_wl24 (d : Nat) (hT : TKb K V f N σ) (e11 : σ 53 11 = nI i) (hi : i ≤ N) (hW : WCa 57 ls σ) (hl : ls.length < 40) :
    ∃ σ' v, Ex (d + 2) 55 0 [.ref 53, .int 24, .int (nI P), .int (nI Bn), .null, .null, .null, .null, .null, .null] [] G0 σ = some (some (.int v), G0, σ') ∧ RWl f ls σ (pWl K V P Bn 24 i) v σ' ∧ Fr SCYw SLYw σ σ' := by
  have n1 : ((24 : Int32) = 23) = False := eq_false (by decide)
  have n2 : ((4 : Int32) = 24) = False := eq_false (by decide)
  have n3 : ((24 : Int32) = 21) = False := eq_false (by decide)
  obtain ⟨s1, v, e1, r1, w1, f1⟩ := c_wnt d 0 (nI P - 1) hT e11 hi
  have T1 := TKb_y hT (toY f1)
  have W1 := WCa_y hW f1
  have ep : pWl K V P Bn 24 i = (match pW K V 0 (nI P - 1) i with | .inl x => .inl x | .inr _ => if K (i + 1) = 25 then (match pW K V 0 (nI Bn - 1) (i + 2) with | .inl x => .inl x | .inr _ => .inr ((24, nI (V i), nI (V (i + 2)), 0), i + 3)) else .inl (1, i + 1)) := rfl
  rw [ep, b55_0]
  simp only [n1, n2, i10, i01, eq_self, if_true, if_false, true_and, false_and, and_true, and_false, not_true, not_false_iff, true_or, or_true, false_or, or_false, ne_eq, not_true_eq_false, not_false_eq_true, b55_34, e1, Option.bind_some, Option.toList_some, Option.toList_none, List.cons_append, List.nil_append, i01a, i01b, if_true, if_false, b55_68, n3]
  cases hu : pW K V 0 (nI P - 1) i with
  | inl x =>
    rw [hu] at r1
    obtain ⟨x1, x2⟩ := x
    simp only [r1.1, i10, i01, eq_self, if_true, if_false, true_and, false_and, and_true, and_false, not_true, not_false_iff, true_or, or_true, false_or, or_false, ne_eq, not_true_eq_false, not_false_eq_true]
    exact ⟨s1, 0, rfl, ⟨rfl, r1.2.1, r1.2.2⟩, toY f1⟩
  | inr x =>
    obtain ⟨c, j⟩ := x
    obtain ⟨_, ej, k30, _⟩ := pW_i hu
    subst ej
    have lt := kLt hT.2.1 hi (by omega)
    rw [hu] at r1
    obtain ⟨v1, g11, g1, g2⟩ := r1
    obtain ⟨s2, u, e2, r2, f2⟩ := c_nd d (k := 25) (by decide) T1 g11 (by omega)
    have e2' : Ex (d + 1) 58 0 [.ref 53, .int 25] [] G0 s1 = some (some (.int u), G0, s2) := e2
    have T2 := TKb_y T1 (toY f2)
    have W2 := WCa_y W1 f2
    simp only [v1, i10, i01, eq_self, if_true, if_false, true_and, false_and, and_true, and_false, not_true, not_false_iff, true_or, or_true, false_or, or_false, ne_eq, not_true_eq_false, not_false_eq_true, w1 v1, e2', Option.bind_some, Option.toList_some, Option.toList_none, List.cons_append, List.nil_append, i01a, i01b, if_true, if_false, b55_214]
    by_cases cw : K (i + 1) = 25
    · rw [if_pos cw] at r2 ⊢
      have lt2 := kLt hT.2.1 (show i + 1 ≤ N by omega) (by omega)
      obtain ⟨u1, h11, h1, h2⟩ := r2
      obtain ⟨s3, x, e3, r3, w3, f3⟩ := c_wnt d 0 (nI Bn - 1) T2 h11 (show i + 1 + 1 ≤ N by omega)
      have W3 := WCa_y W2 f3
      simp only [u1, i10, i01, eq_self, if_true, if_false, true_and, false_and, and_true, and_false, not_true, not_false_iff, true_or, or_true, false_or, or_false, ne_eq, not_true_eq_false, not_false_eq_true, e3, Option.bind_some, Option.toList_some, Option.toList_none, List.cons_append, List.nil_append, i01a, i01b, if_true, if_false, b55_235]
      cases hv : pW K V 0 (nI Bn - 1) (i + 1 + 1) with
      | inl y =>
        rw [hv] at r3
        obtain ⟨y1, y2⟩ := y
        simp only [r3.1, i10, i01, eq_self, if_true, if_false, true_and, false_and, and_true, and_false, not_true, not_false_iff, true_or, or_true, false_or, or_false, ne_eq, not_true_eq_false, not_false_eq_true]
        exact ⟨s3, 0, rfl, ⟨rfl, r3.2.1, r3.2.2⟩, Fr_t (toY f1) (Fr_t (toY f2) (toY f3))⟩
      | inr y =>
        obtain ⟨c', j'⟩ := y
        obtain ⟨_, ej, _⟩ := pW_i hv
        rw [hv] at r3
        obtain ⟨x1, i11, i1, i2⟩ := r3
        obtain ⟨s4, e4, W4, f4⟩ := c_wadd (d + 1) 24 (nI (V i)) (nI (V (i + 1 + 1))) 0 W3 hl
        have e4' : Ex (d + 1) 89 0 [.ref 57, .int 24, .int (nI (V i)), .int (nI (V (i + 1 + 1))), .int 0] [] G0 s3 = some (none, G0, s4) := e4
        simp only [x1, i10, i01, eq_self, if_true, if_false, true_and, false_and, and_true, and_false, not_true, not_false_iff, true_or, or_true, false_or, or_false, ne_eq, not_true_eq_false, not_false_eq_true, w3 x1, e4', Option.bind_some, Option.toList_some, Option.toList_none, List.cons_append, List.nil_append, i01a, i01b, if_true, if_false, b55_260]
        exact ⟨s4, 1, rfl, ⟨rfl, by rw [f4 53 11 (by decide) (by simp), i11, ej], W4, by rw [f4 53 1 (by decide) (by simp), i1, h1, g1], by rw [f4 53 2 (by decide) (by simp), i2, h2, g2]⟩, Fr_t (toY f1) (Fr_t (toY f2) (Fr_t (toY f3) (addY f4)))⟩
    · rw [if_neg cw] at r2 ⊢
      simp only [r2.1, i10, i01, eq_self, if_true, if_false, true_and, false_and, and_true, and_false, not_true, not_false_iff, true_or, or_true, false_or, or_false, ne_eq, not_true_eq_false, not_false_eq_true]
      exact ⟨s2, 0, rfl, ⟨rfl, r2.2.1, r2.2.2⟩, Fr_t (toY f1) (toY f2)⟩
theorem c_wl4 (d : Nat) (hT : TKb K V f N σ) (e11 : σ 53 11 = nI i) (hi : i ≤ N) (hW : WCa 57 ls σ) (hl : ls.length < 40) :
    ∃ σ' v, Ex (d + 2) 55 0 [.ref 53, .int 4, .int (nI P), .int (nI Bn), .null, .null, .null, .null, .null, .null] [] G0 σ = some (some (.int v), G0, σ') ∧ RWl f ls σ (pWl K V P Bn 4 i) v σ' ∧ Fr SCYw SLYw σ σ' := by
  have n1 : ((4 : Int32) = 23) = False := eq_false (by decide)
  have n2 : ((4 : Int32) = 24) = False := eq_false (by decide)
  have n3 : ((4 : Int32) = 21) = False := eq_false (by decide)
  obtain ⟨s1, v, e1, r1, w1, f1⟩ := c_wnt d 0 (nI P - 1) hT e11 hi
  have T1 := TKb_y hT (toY f1)
  have W1 := WCa_y hW f1
  have ep : pWl K V P Bn 4 i = (match pW K V 0 (nI P - 1) i with | .inl x => .inl x | .inr _ => if K (i + 1) = 26 then (match pW K V 0 (6) (i + 2) with | .inl x => .inl x | .inr _ => .inr ((4, nI (V i), nI (V (i + 2)), 0), i + 3)) else .inl (1, i + 1)) := rfl
  rw [ep, b55_0]
  simp only [n1, n2, i10, i01, eq_self, if_true, if_false, true_and, false_and, and_true, and_false, not_true, not_false_iff, true_or, or_true, false_or, or_false, ne_eq, not_true_eq_false, not_false_eq_true, b55_34, e1, Option.bind_some, Option.toList_some, Option.toList_none, List.cons_append, List.nil_append, i01a, i01b, if_true, if_false, b55_68, n3]
  cases hu : pW K V 0 (nI P - 1) i with
  | inl x =>
    rw [hu] at r1
    obtain ⟨x1, x2⟩ := x
    simp only [r1.1, i10, i01, eq_self, if_true, if_false, true_and, false_and, and_true, and_false, not_true, not_false_iff, true_or, or_true, false_or, or_false, ne_eq, not_true_eq_false, not_false_eq_true]
    exact ⟨s1, 0, rfl, ⟨rfl, r1.2.1, r1.2.2⟩, toY f1⟩
  | inr x =>
    obtain ⟨c, j⟩ := x
    obtain ⟨_, ej, k30, _⟩ := pW_i hu
    subst ej
    have lt := kLt hT.2.1 hi (by omega)
    rw [hu] at r1
    obtain ⟨v1, g11, g1, g2⟩ := r1
    obtain ⟨s2, u, e2, r2, f2⟩ := c_nd d (k := 26) (by decide) T1 g11 (by omega)
    have e2' : Ex (d + 1) 58 0 [.ref 53, .int 26] [] G0 s1 = some (some (.int u), G0, s2) := e2
    have T2 := TKb_y T1 (toY f2)
    have W2 := WCa_y W1 f2
    simp only [v1, i10, i01, eq_self, if_true, if_false, true_and, false_and, and_true, and_false, not_true, not_false_iff, true_or, or_true, false_or, or_false, ne_eq, not_true_eq_false, not_false_eq_true, w1 v1, e2', Option.bind_some, Option.toList_some, Option.toList_none, List.cons_append, List.nil_append, i01a, i01b, if_true, if_false, b55_214]
    by_cases cw : K (i + 1) = 26
    · rw [if_pos cw] at r2 ⊢
      have lt2 := kLt hT.2.1 (show i + 1 ≤ N by omega) (by omega)
      obtain ⟨u1, h11, h1, h2⟩ := r2
      obtain ⟨s3, x, e3, r3, w3, f3⟩ := c_wnt d 0 (6) T2 h11 (show i + 1 + 1 ≤ N by omega)
      have W3 := WCa_y W2 f3
      simp only [u1, i10, i01, eq_self, if_true, if_false, true_and, false_and, and_true, and_false, not_true, not_false_iff, true_or, or_true, false_or, or_false, ne_eq, not_true_eq_false, not_false_eq_true, e3, Option.bind_some, Option.toList_some, Option.toList_none, List.cons_append, List.nil_append, i01a, i01b, if_true, if_false, b55_235]
      cases hv : pW K V 0 (6) (i + 1 + 1) with
      | inl y =>
        rw [hv] at r3
        obtain ⟨y1, y2⟩ := y
        simp only [r3.1, i10, i01, eq_self, if_true, if_false, true_and, false_and, and_true, and_false, not_true, not_false_iff, true_or, or_true, false_or, or_false, ne_eq, not_true_eq_false, not_false_eq_true]
        exact ⟨s3, 0, rfl, ⟨rfl, r3.2.1, r3.2.2⟩, Fr_t (toY f1) (Fr_t (toY f2) (toY f3))⟩
      | inr y =>
        obtain ⟨c', j'⟩ := y
        obtain ⟨_, ej, _⟩ := pW_i hv
        rw [hv] at r3
        obtain ⟨x1, i11, i1, i2⟩ := r3
        obtain ⟨s4, e4, W4, f4⟩ := c_wadd (d + 1) 4 (nI (V i)) (nI (V (i + 1 + 1))) 0 W3 hl
        have e4' : Ex (d + 1) 89 0 [.ref 57, .int 4, .int (nI (V i)), .int (nI (V (i + 1 + 1))), .int 0] [] G0 s3 = some (none, G0, s4) := e4
        simp only [x1, i10, i01, eq_self, if_true, if_false, true_and, false_and, and_true, and_false, not_true, not_false_iff, true_or, or_true, false_or, or_false, ne_eq, not_true_eq_false, not_false_eq_true, w3 x1, e4', Option.bind_some, Option.toList_some, Option.toList_none, List.cons_append, List.nil_append, i01a, i01b, if_true, if_false, b55_260]
        exact ⟨s4, 1, rfl, ⟨rfl, by rw [f4 53 11 (by decide) (by simp), i11, ej], W4, by rw [f4 53 1 (by decide) (by simp), i1, h1, g1], by rw [f4 53 2 (by decide) (by simp), i2, h2, g2]⟩, Fr_t (toY f1) (Fr_t (toY f2) (Fr_t (toY f3) (addY f4)))⟩
    · rw [if_neg cw] at r2 ⊢
      simp only [r2.1, i10, i01, eq_self, if_true, if_false, true_and, false_and, and_true, and_false, not_true, not_false_iff, true_or, or_true, false_or, or_false, ne_eq, not_true_eq_false, not_false_eq_true]
      exact ⟨s2, 0, rfl, ⟨rfl, r2.2.1, r2.2.2⟩, Fr_t (toY f1) (toY f2)⟩
theorem c_wl21 (d : Nat) (hT : TKb K V f N σ) (e11 : σ 53 11 = nI i) (hi : i ≤ N) (hW : WCa 57 ls σ) (hl : ls.length < 40) :
    ∃ σ' v, Ex (d + 2) 55 0 [.ref 53, .int 21, .int (nI P), .int (nI Bn), .null, .null, .null, .null, .null, .null] [] G0 σ = some (some (.int v), G0, σ') ∧ RWl f ls σ (pWl K V P Bn 21 i) v σ' ∧ Fr SCYw SLYw σ σ' := by
  have hN := hT.1
  have n1 : ((21 : Int32) = 23) = False := eq_false (by decide)
  have n2 : ((21 : Int32) = 24) = False := eq_false (by decide)
  have n3 : ((21 : Int32) = 4) = False := eq_false (by decide)
  obtain ⟨s1, v, e1, r1, w1, f1⟩ := c_wnt d 1 200 hT e11 hi
  have T1 := TKb_y hT (toY f1)
  have W1 := WCa_y hW f1
  have ep : pWl K V P Bn 21 i = (match pW K V 1 200 i with | .inl x => .inl x | .inr _ => match pUp K V (i + 1) with
      | .inl x => .inl x
      | .inr (s, l) => if K l = 13 then .inr ((21, nI (V i), s, 1), l + 1) else .inr ((21, nI (V i), s, 0), l)) := rfl
  rw [ep, b55_0]
  simp only [n1, n2, n3, i10, i01, eq_self, if_true, if_false, true_and, false_and, and_true, and_false, not_true, not_false_iff, true_or, or_true, false_or, or_false, ne_eq, not_true_eq_false, not_false_eq_true, b55_34, e1, Option.bind_some, Option.toList_some, Option.toList_none, List.cons_append, List.nil_append, i01a, i01b, if_true, if_false, b55_68]
  cases hu : pW K V 1 200 i with
  | inl x =>
    rw [hu] at r1
    obtain ⟨x1, x2⟩ := x
    simp only [r1.1, i10, i01, eq_self, if_true, if_false, true_and, false_and, and_true, and_false, not_true, not_false_iff, true_or, or_true, false_or, or_false, ne_eq, not_true_eq_false, not_false_eq_true]
    exact ⟨s1, 0, rfl, ⟨rfl, r1.2.1, r1.2.2⟩, toY f1⟩
  | inr x =>
    obtain ⟨c, j⟩ := x
    obtain ⟨_, ej, k30, _⟩ := pW_i hu
    subst ej
    have lt := kLt hT.2.1 hi (by omega)
    rw [hu] at r1
    obtain ⟨v1, g11, g1, g2⟩ := r1
    obtain ⟨k100, e63, e65⟩ := T1.2.2.2.1 (i + 1) (by omega)
    have ti : inb (nI (i + 1)) 401 = true := inb_n (by omega) (by omega)
    have tc' : (nI (i + 1)).toNatClampNeg = i + 1 := nI_c (by omega)
    have q8 : (nI (K (i + 1)) = 8) = (K (i + 1) = 8) := nJ_e (b := 8) (by omega) (by omega)
    have s7 : Ex (d + 1) 57 0 [.ref 53, .int 7] [] G0 s1 = _ := c_skp (d + 1) (k := 7) (by decide) T1 g11 (by omega)
    have s8 : Ex (d + 1) 57 0 [.ref 53, .int 8] [] G0 s1 = _ := c_skp (d + 1) (k := 8) (by decide) T1 g11 (by omega)
    -- gravel, and the line is added
    have fin : ∀ (s : Sig) (l : Nat) (a4 a5 a7 a9 : Int32), TKb K V f N s → s 53 11 = nI l → l ≤ N → WCa 57 ls s → s 53 1 = σ 53 1 → s 53 2 = σ 53 2 → Fr SCYw SLYw σ s →
        ∃ σ' v, (Ex (d + 1) 57 0 [.ref 53, .int 13] [] G0 s).bind (fun o => Ex (d + 1 + 1) 55 167 [.ref 53, .int 21, .int (nI P), .int (nI Bn), .int a4, .int a5, .int (nI (V i)), .int a7, .int 0, .int a9] (o.1.toList ++ []) o.2.1 o.2.2) = some (some (.int v), G0, σ') ∧ RWl f ls σ (if K l = 13 then .inr ((21, nI (V i), a7, 1), l + 1) else .inr ((21, nI (V i), a7, 0), l)) v σ' ∧ Fr SCYw SLYw σ σ' := by
      intro s l a4 a5 a7 a9 Ts h11 hl' Ws h1 h2 Fs
      have s13 : Ex (d + 1) 57 0 [.ref 53, .int 13] [] G0 s = _ := c_skp (d + 1) (k := 13) (by decide) Ts h11 hl'
      rw [s13]
      by_cases c13 : K l = 13
      · rw [if_pos c13, if_pos c13]
        have fp : Fr [] SLYw s (pt s 53 11 (nI (l + 1))) := Fr_p Fr_r (Or.inr (by decide))
        obtain ⟨s2, e2, W2, f2⟩ := c_wadd (d + 1) 21 (nI (V i)) a7 1 (WCa_y Ws fp) hl
        have e2' : Ex (d + 1) 89 0 [.ref 57, .int 21, .int (nI (V i)), .int a7, .int 1] [] G0 (pt s 53 11 (nI (l + 1))) = some (none, G0, s2) := e2
        simp only [Option.bind_some, Option.toList_some, Option.toList_none, List.cons_append, List.nil_append, i01a, i01b, if_true, if_false, b55_167, i10, i01, eq_self, if_true, if_false, true_and, false_and, and_true, and_false, not_true, not_false_iff, true_or, or_true, false_or, or_false, ne_eq, not_true_eq_false, not_false_eq_true, e2', b55_260]
        exact ⟨s2, 1, rfl, ⟨rfl, by rw [f2 53 11 (by decide) (by simp), pt_e], W2, by rw [f2 53 1 (by decide) (by simp), pt_k (by decide), h1], by rw [f2 53 2 (by decide) (by simp), pt_k (by decide), h2]⟩, Fr_t Fs (Fr_t (toY fp) (addY f2))⟩
      · rw [if_neg c13, if_neg c13]
        obtain ⟨s2, e2, W2, f2⟩ := c_wadd (d + 1) 21 (nI (V i)) a7 0 Ws hl
        have e2' : Ex (d + 1) 89 0 [.ref 57, .int 21, .int (nI (V i)), .int a7, .int 0] [] G0 s = some (none, G0, s2) := e2
        simp only [Option.bind_some, Option.toList_some, Option.toList_none, List.cons_append, List.nil_append, i01a, i01b, if_true, if_false, b55_167, i10, i01, eq_self, if_true, if_false, true_and, false_and, and_true, and_false, not_true, not_false_iff, true_or, or_true, false_or, or_false, ne_eq, not_true_eq_false, not_false_eq_true, e2', b55_260]
        exact ⟨s2, 1, rfl, ⟨rfl, by rw [f2 53 11 (by decide) (by simp), h11], W2, by rw [f2 53 1 (by decide) (by simp), h1], by rw [f2 53 2 (by decide) (by simp), h2]⟩, Fr_t Fs (addY f2)⟩
    simp only [v1, i10, i01, eq_self, if_true, if_false, true_and, false_and, and_true, and_false, not_true, not_false_iff, true_or, or_true, false_or, or_false, ne_eq, not_true_eq_false, not_false_eq_true, w1 v1, g11, ti, tc', e63, q8, s7]
    by_cases kud : K (i + 1) = 7 ∨ K (i + 1) = 8
    · have lt2 := kLt hT.2.1 (show i + 1 ≤ N by omega) (by omega)
      have fp : Fr [] SLYw s1 (pt s1 53 11 (nI (i + 1 + 1))) := Fr_p Fr_r (Or.inr (by decide))
      have T2 := TKb_y T1 (toY fp)
      have W2 := WCa_y W1 fp
      obtain ⟨s3, x, e3, r3, w3, f3⟩ := c_wnt d 1 9 T2 pt_e (show i + 1 + 1 ≤ N by omega)
      have T3 := TKb_y T2 (toY f3)
      have W3 := WCa_y W2 f3
      have F3 : Fr SCYw SLYw σ s3 := Fr_t (toY f1) (Fr_t (toY fp) (toY f3))
      have eP : pUp K V (i + 1) = (match pW K V 1 9 (i + 1 + 1) with
          | .inl x => .inl x
          | .inr _ => .inr (if K (i + 1) = 8 then -(nI (V (i + 1 + 1))) else nI (V (i + 1 + 1)), i + 1 + 2)) := by unfold pUp; rw [if_pos kud]
      rw [eP]
      -- the slope's number
      have go : ∀ (a4 a5 a9 : Int32), (a9 = if K (i + 1) = 8 then 1 else 0) → ∃ σ' v, (Ex (d + 1) 56 0 [.ref 53, .int 1, .int 9] [] G0 (pt s1 53 11 (nI (i + 1 + 1)))).bind (fun o => Ex (d + 1 + 1) 55 137 [.ref 53, .int 21, .int (nI P), .int (nI Bn), .int a4, .int a5, .int (nI (V i)), .int 0, .int 0, .int a9] (o.1.toList ++ []) o.2.1 o.2.2) = some (some (.int v), G0, σ') ∧ RWl f ls σ (match (match pW K V 1 9 (i + 1 + 1) with
          | .inl x => .inl x
          | .inr _ => .inr (if K (i + 1) = 8 then -(nI (V (i + 1 + 1))) else nI (V (i + 1 + 1)), i + 1 + 2) : Sum (Nat × Nat) (Int32 × Nat)) with
        | .inl x => .inl x
        | .inr (s, l) => if K l = 13 then .inr ((21, nI (V i), s, 1), l + 1) else .inr ((21, nI (V i), s, 0), l)) v σ' ∧ Fr SCYw SLYw σ σ' := by
        intro a4 a5 a9 h9
        rw [e3]
        simp only [Option.bind_some, Option.toList_some, Option.toList_none, List.cons_append, List.nil_append, i01a, i01b, if_true, if_false, b55_137]
        cases hv : pW K V 1 9 (i + 1 + 1) with
        | inl y =>
          rw [hv] at r3
          obtain ⟨y1, y2⟩ := y
          simp only [r3.1, i10, i01, eq_self, if_true, if_false, true_and, false_and, and_true, and_false, not_true, not_false_iff, true_or, or_true, false_or, or_false, ne_eq, not_true_eq_false, not_false_eq_true]
          exact ⟨s3, 0, rfl, ⟨rfl, r3.2.1, r3.2.2⟩, F3⟩
        | inr y =>
          obtain ⟨c', j'⟩ := y
          obtain ⟨_, ej, k30', _⟩ := pW_i hv
          rw [hv] at r3
          obtain ⟨x1, i11, i1, i2⟩ := r3
          subst ej
          have lt3 := kLt hT.2.1 (show i + 1 + 1 ≤ N by omega) (by omega)
          have A := fun a7 => fin s3 (i + 1 + 1 + 1) a4 a5 a7 a9 T3 i11 (by omega) W3 (by rw [i1, pt_k (by decide), g1]) (by rw [i2, pt_k (by decide), g2]) F3
          simp only [x1, i10, i01, eq_self, if_true, if_false, true_and, false_and, and_true, and_false, not_true, not_false_iff, true_or, or_true, false_or, or_false, ne_eq, not_true_eq_false, not_false_eq_true, w3 x1]
          by_cases c8 : K (i + 1) = 8
          · have e9 : a9 = 1 := by rw [h9, if_pos c8]
            simp only [e9, i10, i01, eq_self, if_true, if_false, true_and, false_and, and_true, and_false, not_true, not_false_iff, true_or, or_true, false_or, or_false, ne_eq, not_true_eq_false, not_false_eq_true, eq_true c8] at A ⊢
            exact A _
          · have e9 : a9 = 0 := by rw [h9, if_neg c8]
            simp only [e9, i10, i01, eq_self, if_true, if_false, true_and, false_and, and_true, and_false, not_true, not_false_iff, true_or, or_true, false_or, or_false, ne_eq, not_true_eq_false, not_false_eq_true, eq_false c8] at A ⊢
            exact A _
      by_cases c8 : K (i + 1) = 8
      · have n7 : ¬ K (i + 1) = 7 := by omega
        simp only [eq_true c8, eq_false n7, i10, i01, eq_self, if_true, if_false, true_and, false_and, and_true, and_false, not_true, not_false_iff, true_or, or_true, false_or, or_false, ne_eq, not_true_eq_false, not_false_eq_true, Option.bind_some, Option.toList_some, Option.toList_none, List.cons_append, List.nil_append, i01a, i01b, if_true, if_false, b55_118, s8, b55_127]
        have := go 200 0 1 (by rw [if_pos c8])
        simpa only [eq_true c8, if_true] using this
      · have c7 : K (i + 1) = 7 := by omega
        simp only [eq_false c8, eq_true c7, i10, i01, eq_self, if_true, if_false, true_and, false_and, and_true, and_false, not_true, not_false_iff, true_or, or_true, false_or, or_false, ne_eq, not_true_eq_false, not_false_eq_true, Option.bind_some, Option.toList_some, Option.toList_none, List.cons_append, List.nil_append, i01a, i01b, if_true, if_false, b55_118]
        have := go 200 0 0 (by rw [if_neg c8])
        simpa only [eq_false c8, if_false] using this
    · have c7 : ¬ K (i + 1) = 7 := fun e => kud (Or.inl e)
      have c8 : ¬ K (i + 1) = 8 := fun e => kud (Or.inr e)
      have eP : pUp K V (i + 1) = .inr (0, i + 1) := by unfold pUp; rw [if_neg kud]
      rw [eP]
      simp only [eq_false c8, eq_false c7, i10, i01, eq_self, if_true, if_false, true_and, false_and, and_true, and_false, not_true, not_false_iff, true_or, or_true, false_or, or_false, ne_eq, not_true_eq_false, not_false_eq_true, Option.bind_some, Option.toList_some, Option.toList_none, List.cons_append, List.nil_append, i01a, i01b, if_true, if_false, b55_118, s8, b55_127]
      exact fin s1 (i + 1) 200 0 0 0 T1 g11 (by omega) W1 g1 g2 (toY f1)
theorem c_wayLine (d : Nat) {k : Nat} (hk : wk k) (hT : TKb K V f N σ) (e11 : σ 53 11 = nI i) (hi : i ≤ N) (hW : WCa 57 ls σ) (hl : ls.length < 40) :
    ∃ σ' v, Ex (d + 2) 55 0 [.ref 53, .int (nI k), .int (nI P), .int (nI Bn), .null, .null, .null, .null, .null, .null] [] G0 σ = some (some (.int v), G0, σ') ∧ RWl f ls σ (pWl K V P Bn k i) v σ' ∧ Fr SCYw SLYw σ σ' := by
  have : k = 21 ∨ k = 22 ∨ k = 23 ∨ k = 24 ∨ k = 4 := by unfold wk at hk; omega
  rcases this with e | e | e | e | e <;> subst e
  · exact c_wl21 d hT e11 hi hW hl
  · exact c_wl22 d hT e11 hi hW hl
  · exact c_wl23 d hT e11 hi hW hl
  · exact c_wl24 d hT e11 hi hW hl
  · exact c_wl4 d hT e11 hi hW hl
end
def RWy (f : Nat → Nat) (ls : List WLn) (σ : Sig) (r : Sum (Nat × Nat) (List WLn)) (v : Int32) (σ' : Sig) : Prop := match r with
  | .inl (k, x) => v = 0 ∧ σ' 53 1 = nI k ∧ σ' 53 2 = nI (f x)
  | .inr r => v = 1 ∧ WCa 57 (ls ++ r) σ' ∧ σ' 53 1 = σ 53 1 ∧ σ' 53 2 = σ 53 2
theorem c_wayL (d : Nat) {K V f : Nat → Nat} {N P Bn : Nat} (hV : ∀ t, K t = 30 → V t ≤ 9999) (hP : 1 ≤ P ∧ P ≤ 8) (hB : Bn ≤ 8) : ∀ m ls i σ a4, ls.length + m = 40 → TKb K V f N σ → σ 53 11 = nI i → i ≤ N → WCa 57 ls σ →
    ∃ σ' v, Ex (d + 3) 54 9 [.ref 53, .int (nI P), .int (nI Bn), .int (nI ls.length), a4] [] G0 σ = some (some (.int v), G0, σ') ∧ RWy f ls σ (pWy K V P Bn m i) v σ' ∧ Fr SCYw SLYw σ σ' := by
  intro m
  have pre : ∀ m (ls : List WLn) i σ, ls.length + m = 40 → TKb K V f N σ → σ 53 11 = nI i → i ≤ N → inb (nI i) 401 = true ∧ (nI i).toNatClampNeg = i ∧ σ 63 i = nI (K i) ∧ ((40 : Int32) < nI ls.length) = False ∧ (nI ls.length = 40) = (m = 0) ∧ (nI (K i) = 32) = (K i = 32) ∧ ((21 : Int32) ≤ nI (K i) ∧ nI (K i) ≤ 24) = (21 ≤ K i ∧ K i ≤ 24) ∧ (nI (K i) = 4) = (K i = 4) := by
    intro m ls i σ hm hT e11 hi
    have hN := hT.1
    obtain ⟨k100, e63, e65⟩ := hT.2.2.2.1 i hi
    refine ⟨inb_n (by omega) (by omega), nI_c (by omega), e63, ?_, ?_, nJ_e (b := 32) (by omega) (by omega), in_le (a := 21) (b := 24) (by omega) (by omega) (by omega), nJ_e (b := 4) (by omega) (by omega)⟩
    · have : ((40 : Int32) < nI ls.length) = (40 < ls.length) := nJ_lt (a := 40) (by omega) (by omega)
      rw [this]; exact eq_false (by omega)
    · have : (nI ls.length = 40) = (ls.length = 40) := nJ_e (b := 40) (by omega) (by omega)
      rw [this]; exact propext ⟨fun _ => by omega, fun _ => by omega⟩
  -- up to where the line's word stands
  have head : ∀ m (ls : List WLn) i σ a4, ls.length + m = 40 → TKb K V f N σ → σ 53 11 = nI i → i ≤ N → wk (K i) → Ex (d + 3) 54 9 [.ref 53, .int (nI P), .int (nI Bn), .int (nI ls.length), a4] [] G0 σ = Ex (d + 3) 54 64 [.ref 53, .int (nI P), .int (nI Bn), .int (nI ls.length), .int (nI (K i))] [] G0 σ := by
    intro m ls i σ a4 hm hT e11 hi hw
    obtain ⟨ti, tc', e63, q40, _, q32, q21, q4⟩ := pre m ls i σ hm hT e11 hi
    have n32 : ¬ K i = 32 := by unfold wk at hw; omega
    rw [b54_9]
    simp only [q40, e11, ti, tc', e63, q32, eq_false n32, i10, i01, eq_self, if_true, if_false, true_and, false_and, and_true, and_false, not_true, not_false_iff, true_or, or_true, false_or, or_false, ne_eq, not_true_eq_false, not_false_eq_true, c_within, Option.bind_some, Option.toList_some, Option.toList_none, List.cons_append, List.nil_append, i01a, i01b, if_true, if_false, b54_49, bI_z, bI_o, bI_em, ite_not, q21, q4]
    by_cases c : 21 ≤ K i ∧ K i ≤ 24
    · simp only [eq_true c, i10, i01, eq_self, if_true, if_false, true_and, false_and, and_true, and_false, not_true, not_false_iff, true_or, or_true, false_or, or_false, ne_eq, not_true_eq_false, not_false_eq_true]
    · have c4 : K i = 4 := by unfold wk at hw; omega
      simp only [eq_false c, eq_true c4, i10, i01, eq_self, if_true, if_false, true_and, false_and, and_true, and_false, not_true, not_false_iff, true_or, or_true, false_or, or_false, ne_eq, not_true_eq_false, not_false_eq_true]
  have stop : ∀ m (ls : List WLn) i σ a4, ls.length + m = 40 → TKb K V f N σ → σ 53 11 = nI i → i ≤ N → WCa 57 ls σ → ¬ wk (K i) → ∃ σ' v, Ex (d + 3) 54 9 [.ref 53, .int (nI P), .int (nI Bn), .int (nI ls.length), a4] [] G0 σ = some (some (.int v), G0, σ') ∧ RWy f ls σ (if K i = 32 then .inr [] else .inl (1, i)) v σ' ∧ Fr SCYw SLYw σ σ' := by
    intro m ls i σ a4 hm hT e11 hi hW hw
    obtain ⟨ti, tc', e63, q40, _, q32, q21, q4⟩ := pre m ls i σ hm hT e11 hi
    have c1 : ¬ (21 ≤ K i ∧ K i ≤ 24) := fun e => hw (Or.inl e)
    have c2 : ¬ K i = 4 := fun e => hw (Or.inr e)
    rw [b54_9]
    simp only [q40, e11, ti, tc', e63, q32, i10, i01, eq_self, if_true, if_false, true_and, false_and, and_true, and_false, not_true, not_false_iff, true_or, or_true, false_or, or_false, ne_eq, not_true_eq_false, not_false_eq_true, c_within, Option.bind_some, Option.toList_some, Option.toList_none, List.cons_append, List.nil_append, i01a, i01b, if_true, if_false, b54_49, bI_z, bI_o, bI_em, ite_not, q21, q4, eq_false c1, eq_false c2]
    by_cases c32 : K i = 32
    · simp only [eq_true c32, i10, i01, eq_self, if_true, if_false, true_and, false_and, and_true, and_false, not_true, not_false_iff, true_or, or_true, false_or, or_false, ne_eq, not_true_eq_false, not_false_eq_true]
      exact ⟨σ, 1, rfl, ⟨rfl, by rw [List.append_nil]; exact hW, rfl, rfl⟩, Fr_r⟩
    · obtain ⟨s, e1, e2, e3, fr⟩ := c_fail (d + 2) 1 hT e11 hi
      have e1' : Ex (d + 2) 59 0 [.ref 53, .int 1] [] G0 σ = some (some (.int 0), G0, s) := e1
      simp only [eq_false c32, i10, i01, eq_self, if_true, if_false, true_and, false_and, and_true, and_false, not_true, not_false_iff, true_or, or_true, false_or, or_false, ne_eq, not_true_eq_false, not_false_eq_true, e1', Option.bind_some, Option.toList_some, Option.toList_none, List.cons_append, List.nil_append, i01a, i01b, if_true, if_false, b54_63]
      exact ⟨s, 0, rfl, ⟨rfl, e2, e3⟩, Fr_m fr (by simp) (by decide)⟩
  induction m with
  | zero =>
    intro ls i σ a4 hm hT e11 hi hW
    rw [pWy]
    by_cases hw : wk (K i)
    · have n32 : ¬ K i = 32 := by unfold wk at hw; omega
      obtain ⟨_, _, _, _, q0, _⟩ := pre 0 ls i σ hm hT e11 hi
      obtain ⟨s, e1, e2, e3, fr⟩ := c_fail (d + 2) 3 hT e11 hi
      have e1' : Ex (d + 2) 59 0 [.ref 53, .int 3] [] G0 σ = some (some (.int 0), G0, s) := e1
      rw [head 0 ls i σ a4 hm hT e11 hi hw, if_neg n32, if_pos hw, b54_64]
      simp only [q0, i10, i01, eq_self, if_true, if_false, true_and, false_and, and_true, and_false, not_true, not_false_iff, true_or, or_true, false_or, or_false, ne_eq, not_true_eq_false, not_false_eq_true, e1', Option.bind_some, Option.toList_some, Option.toList_none, List.cons_append, List.nil_append, i01a, i01b, if_true, if_false, b54_75]
      exact ⟨s, 0, rfl, ⟨rfl, e2, e3⟩, Fr_m fr (by simp) (by decide)⟩
    · rw [if_neg hw]
      exact stop 0 ls i σ a4 hm hT e11 hi hW hw
  | succ m ih =>
    intro ls i σ a4 hm hT e11 hi hW
    rw [pWy]
    by_cases hw : wk (K i)
    · have n32 : ¬ K i = 32 := by unfold wk at hw; omega
      have lt := kLt hT.2.1 hi n32
      obtain ⟨_, _, _, _, q0, _⟩ := pre (m + 1) ls i σ hm hT e11 hi
      have nz : (m + 1 = 0) = False := eq_false (by omega)
      have fp : Fr [] SLYw σ (pt σ 53 11 (nI (i + 1))) := Fr_p Fr_r (Or.inr (by decide))
      obtain ⟨s1, v, e1, r1, f1⟩ := c_wayLine d (P := P) (Bn := Bn) hw (TKb_y hT (toY fp)) pt_e (show i + 1 ≤ N by omega) (WCa_y hW fp) (show ls.length < 40 by omega)
      have F1 : Fr SCYw SLYw σ s1 := Fr_t (toY fp) f1
      have T1 := TKb_y hT F1
      rw [head (m + 1) ls i σ a4 hm hT e11 hi hw, if_neg n32, if_pos hw, b54_64]
      simp only [q0, nz, i10, i01, eq_self, if_true, if_false, true_and, false_and, and_true, and_false, not_true, not_false_iff, true_or, or_true, false_or, or_false, ne_eq, not_true_eq_false, not_false_eq_true, e11, nI_s, e1, Option.bind_some, Option.toList_some, Option.toList_none, List.cons_append, List.nil_append, i01a, i01b, if_true, if_false, b54_94]
      cases hu : pWl K V P Bn (K i) (i + 1) with
      | inl x =>
        rw [hu] at r1
        obtain ⟨x1, x2⟩ := x
        simp only [r1.1, i10, i01, eq_self, if_true, if_false, true_and, false_and, and_true, and_false, not_true, not_false_iff, true_or, or_true, false_or, or_false, ne_eq, not_true_eq_false, not_false_eq_true]
        exact ⟨s1, 0, rfl, ⟨rfl, r1.2.1, r1.2.2⟩, F1⟩
      | inr x =>
        obtain ⟨l, j⟩ := x
        rw [hu] at r1
        obtain ⟨v1, g11, gW, g1, g2⟩ := r1
        have hj := (pWl_ok hT.2.1 hV hw hP hB (show i + 1 ≤ N by omega) hu).2
        obtain ⟨s2, w, e2, r2, f2⟩ := c_nd (d + 1) (k := 59) (by decide) T1 g11 hj
        have e2' : Ex (d + 2) 58 0 [.ref 53, .int 59] [] G0 s1 = some (some (.int w), G0, s2) := e2
        simp only [v1, i10, i01, eq_self, if_true, if_false, true_and, false_and, and_true, and_false, not_true, not_false_iff, true_or, or_true, false_or, or_false, ne_eq, not_true_eq_false, not_false_eq_true, e2', Option.bind_some, Option.toList_some, Option.toList_none, List.cons_append, List.nil_append, i01a, i01b, if_true, if_false, b54_103]
        by_cases c59 : K j = 59
        · have lt2 := kLt hT.2.1 hj (by omega)
          rw [if_pos c59] at r2
          obtain ⟨w1, h11, h1, h2⟩ := r2
          have el : (ls ++ [l]).length = ls.length + 1 := by rw [List.length_append]; rfl
          obtain ⟨s3, v3, e3, r3, f3⟩ := ih (ls ++ [l]) (j + 1) s2 (.int (nI (K i))) (by omega) (TKb_y T1 (toY f2)) h11 (by omega) (WCa_y gW f2)
          rw [el] at e3
          simp only [w1, i10, i01, eq_self, if_true, if_false, true_and, false_and, and_true, and_false, not_true, not_false_iff, true_or, or_true, false_or, or_false, ne_eq, not_true_eq_false, not_false_eq_true, nI_s, e3, eq_true c59]
          refine ⟨s3, v3, rfl, ?_, Fr_t F1 (Fr_t (toY f2) f3)⟩
          cases hv : pWy K V P Bn m (j + 1) with
          | inl y => rw [hv] at r3; exact r3
          | inr r =>
            rw [hv] at r3
            obtain ⟨a1, a2, a3, a5⟩ := r3
            refine ⟨a1, ?_, by rw [a3, h1, g1, pt_k (by decide)], by rw [a5, h2, g2, pt_k (by decide)]⟩
            rw [show ls ++ l :: r = ls ++ [l] ++ r by rw [List.append_assoc]; rfl]; exact a2
        · rw [if_neg c59] at r2
          simp only [r2.1, i10, i01, eq_self, if_true, if_false, true_and, false_and, and_true, and_false, not_true, not_false_iff, true_or, or_true, false_or, or_false, ne_eq, not_true_eq_false, not_false_eq_true, eq_false c59]
          exact ⟨s2, 0, rfl, ⟨rfl, r2.2.1, r2.2.2⟩, Fr_t F1 (toY f2)⟩
    · rw [if_neg hw]
      exact stop (m + 1) ls i σ a4 hm hT e11 hi hW hw
theorem c_readWay (d : Nat) {K V f : Nat → Nat} {N P Bn : Nat} {σ : Sig} (hV : ∀ t, K t = 30 → V t ≤ 9999) (hP : 1 ≤ P ∧ P ≤ 8) (hB : Bn ≤ 8) (hT : TKb K V f N σ) (e11 : σ 53 11 = 0) :
    ∃ σ' v, Ex (d + 3) 54 0 [.ref 53, .int (nI P), .int (nI Bn), .null, .null] [] G0 σ = some (some (.int v), G0, σ') ∧ RWy f [] σ (pWy K V P Bn 40 0) v σ' ∧ Fr SCYw SLYw σ σ' := by
  have fp : Fr SCYw SLYw σ (pt (pt σ 57 0 0) 57 1 (-1)) := Fr_p (Fr_p Fr_r (Or.inl (by decide))) (Or.inl (by decide))
  obtain ⟨s, v, e, r, f1⟩ := c_wayL d hV hP hB 40 [] 0 (pt (pt σ 57 0 0) 57 1 (-1)) .null rfl (TKb_y hT fp) (by rw [pt_q (by decide), pt_q (by decide)]; exact e11) (Nat.zero_le _) ⟨by rw [pt_k (by decide), pt_e]; rfl, fun l hl => absurd hl (Nat.not_lt_zero l), Or.inl ⟨pt_e, fun l hl => absurd hl (Nat.not_lt_zero l)⟩⟩
  have e' : Ex (d + 3) 54 9 [.ref 53, .int (nI P), .int (nI Bn), .int 0, .null] [] G0 (pt (pt σ 57 0 0) 57 1 (-1)) = some (some (.int v), G0, s) := e
  rw [b54_0]
  simp only [b88_0, Option.bind_some, Option.toList_some, Option.toList_none, List.cons_append, List.nil_append, i01a, i01b, if_true, if_false, b54_7, e']
  refine ⟨s, v, rfl, ?_, Fr_t fp f1⟩
  cases hw : pWy K V P Bn 40 0 with
  | inl y => rw [hw] at r; exact r
  | inr y =>
    rw [hw] at r
    obtain ⟨a1, a2, a3, a4⟩ := r
    exact ⟨a1, a2, by rw [a3, pt_q (by decide), pt_q (by decide)], by rw [a4, pt_q (by decide), pt_q (by decide)]⟩
