/-! L3: TOKENS: words, the model -/
def wordsM : List (List Nat) := [[98, 101, 97, 114], [116, 105, 114, 101], [119, 104, 101, 110], [111, 114], [97, 110, 100], [110, 111, 116], [116, 97, 108, 108], [115, 116, 114, 101, 110, 103, 116, 104], [107, 110, 101, 101], [116, 105, 114, 101, 100], [99, 108, 111, 116, 104], [112, 97, 105, 114], [114, 105, 103, 104, 116], [117, 112], [100, 111, 119, 110], [104, 97, 110, 100, 115], [111, 118, 101, 114], [98, 101, 97, 114, 115], [99, 97, 110], [103, 114, 97, 118, 101, 108], [115, 119, 97, 121], [119, 97, 108, 107], [103, 97, 116, 101], [114, 101, 115, 116], [99, 104, 97, 110, 103, 101], [116, 111], [105, 110]]
def mwL : List (List Nat) → List Nat
  | [] => [32]
  | w :: L => 32 :: (w ++ mwL L)
def mw (i : Nat) : Nat := (mwL wordsM).getD i 0
theorem okW_M : okW mw 138 1 wordsM = true := by decide
theorem mw_128 : ∀ i, i < 138 → mw i < 128 := by decide
def TPm (b : Nat → Nat) (n : Nat) (σ : Sig) : Prop := n ≤ 400 ∧ σ 112 22 = nI n ∧ (∀ i, i < n → b i < 256 ∧ σ 124 i = nI (b i)) ∧ (∀ i, i < 138 → σ 125 i = nI (mw i))
theorem TPm_fr {b : Nat → Nat} {n : Nat} {σ σ' : Sig} {S : List Nat} {U : List (Nat × Nat)} (h : TPm b n σ) (f : Fr S U σ σ') (h1 : 112 ∉ S ∧ 124 ∉ S ∧ 125 ∉ S) (h2 : (112, 22) ∉ U ∧ ∀ x ∈ U, x.1 ≠ 124 ∧ x.1 ≠ 125) : TPm b n σ' := by
  refine ⟨h.1, by rw [f 112 22 h1.1 h2.1]; exact h.2.1, ?_, ?_⟩
  · rw [Fr_q f h1.2.1 (fun x hx => (h2.2 x hx).1)]; exact h.2.2.1
  · rw [Fr_q f h1.2.2 (fun x hx => (h2.2 x hx).2)]; exact h.2.2.2
theorem m_wordAt (d : Nat) {σ : Sig} {b : Nat → Nat} {n F E : Nat} (h : TPm b n σ) (hF : F < E) (hE : E ≤ n) (hc : ∀ i, F ≤ i → i < E → b i ≠ 32) :
    Ex d 177 0 [.ref 112, .int (nI F), .int (nI E), .null, .null, .null] [] G0 σ = some (some (.int (match idW wordsM (bs b F (E - F)) 0 with | none => -1 | some j => nI j)), G0, σ) := by
  obtain ⟨hn, h22, hb, hw⟩ := h
  rw [b177_0]
  have key : ∀ (L : List (List Nat)) (s j : Nat) (v5 : Value), okW mw 138 (s + 1) L = true → j + L.length ≤ 100 → Ex d 177 5 [.ref 112, .int (nI F), .int (nI E), .int (nI j - 1), .int (nI s), v5] [] G0 σ = some (some (.int (match idW L (bs b F (E - F)) j with | none => -1 | some j => nI j)), G0, σ) := by
    intro L
    induction L with
    | nil =>
      intro s j v5 hs hj
      have e : s + 1 = 138 := of_decide_eq_true hs
      have q : ((137 : Int32) ≤ nI s) = True := by
        have : ((137 : Int32) ≤ nI s) = (137 ≤ s) := nJ_le (a := 137) (by omega) (by omega)
        rw [this]; exact eq_true (by omega)
      rw [b177_5]
      simp only [q, i10, i01, eq_self, if_true, if_false, true_and, false_and, and_true, and_false, not_true, not_false_iff, true_or, or_true, false_or, or_false, ne_eq, not_true_eq_false, not_false_eq_true]
      rfl
    | cons w L ih =>
      intro s j v5 hs hj
      obtain ⟨h1, h2, h3, h4⟩ := okW_s hs
      rw [List.length_cons] at hj
      have ej : nI j - 1 + 1 = nI j := Int32.sub_add_cancel _ _
      have q : ((137 : Int32) ≤ nI s) = False := by
        have : ((137 : Int32) ≤ nI s) = (137 ≤ s) := nJ_le (a := 137) (by omega) (by omega)
        rw [this]; exact eq_false (by omega)
      -- the rest of a word that isn't it
      have sk : ∀ m x (v5 : Int32), x + m = w.length → Ex d 177 94 [.ref 112, .int (nI F), .int (nI E), .int (nI j), .int (nI (s + 1 + x)), .int v5] [] G0 σ = Ex d 177 5 [.ref 112, .int (nI F), .int (nI E), .int (nI j), .int (nI (s + 1 + w.length)), .int v5] [] G0 σ := by
        intro m
        induction m with
        | zero =>
          intro x v5 hx
          have ex : x = w.length := by omega
          subst ex
          have q3 : (nI (mw (s + 1 + w.length)) = 32) = True := eq_true (by rw [h2]; rfl)
          rw [b177_94]
          simp only [inb_n (show s + 1 + w.length < 138 by omega) (show s + 1 + w.length < 2 ^ 31 by omega), nI_c (show s + 1 + w.length < 2 ^ 31 by omega), hw _ (show s + 1 + w.length < 138 by omega), q3, i10, i01, eq_self, if_true, if_false, true_and, false_and, and_true, and_false, not_true, not_false_iff, true_or, or_true, false_or, or_false, ne_eq, not_true_eq_false, not_false_eq_true, b177_115]
        | succ m ihm =>
          intro x v5 hx
          obtain ⟨a1, a2⟩ := h1 x (by omega)
          have q3 : (nI (mw (s + 1 + x)) = 32) = False := by
            have h128 := mw_128 (s + 1 + x) (by omega)
            have : (nI (mw (s + 1 + x)) = 32) = (mw (s + 1 + x) = 32) := nJ_e (b := 32) (by omega) (by omega)
            rw [this]; exact eq_false (by rw [a1]; exact a2)
          rw [b177_94]
          simp only [inb_n (show s + 1 + x < 138 by omega) (show s + 1 + x < 2 ^ 31 by omega), nI_c (show s + 1 + x < 2 ^ 31 by omega), hw _ (show s + 1 + x < 138 by omega), q3, i10, i01, eq_self, if_true, if_false, true_and, false_and, and_true, and_false, not_true, not_false_iff, true_or, or_true, false_or, or_false, ne_eq, not_true_eq_false, not_false_eq_true, b177_106, nI_s]
          exact ihm (x + 1) v5 (by omega)
      have skip : ∀ (v5 : Int32), bs b F (E - F) ≠ w → Ex d 177 94 [.ref 112, .int (nI F), .int (nI E), .int (nI j), .int (nI (s + 1)), .int v5] [] G0 σ = some (some (.int (match idW (w :: L) (bs b F (E - F)) j with | none => -1 | some j => nI j)), G0, σ) := by
        intro v5 hne
        have e := sk w.length 0 v5 (by omega)
        rw [Nat.add_zero] at e
        rw [e, idW, if_neg hne]
        have ej1 : nI j = nI (j + 1) - 1 := (show nI (j + 1) - 1 = nI j from nI_p1 (n := j + 1) (by omega)).symm
        have := ih (s + 1 + w.length) (j + 1) (.int v5) h4 (by omega)
        rw [← ej1] at this
        exact this
      have cmp : ∀ m i, F + i + m = E → i ≤ w.length → (∀ x, x < i → b (F + x) = w.getD x 0) → Ex d 177 20 [.ref 112, .int (nI F), .int (nI E), .int (nI j), .int (nI s), .int (nI i)] [] G0 σ = some (some (.int (match idW (w :: L) (bs b F (E - F)) j with | none => -1 | some j => nI j)), G0, σ) := by
        intro m
        induction m with
        | zero =>
          intro i hi hil hx
          have eFi : nI F + nI i = nI (F + i) := (Int32.ofNat_add _ _).symm
          have es : nI s + 1 + nI i = nI (s + 1 + i) := by rw [nI_s]; exact (Int32.ofNat_add _ _).symm
          have q2 : (nI E ≤ nI (F + i)) = True := by rw [nJ_le (by omega) (by omega)]; exact eq_true (by omega)
          have q4 : (nI (F + i) = nI E) = True := by rw [nJ_e (by omega) (by omega)]; exact eq_true (by omega)
          have h128 := mw_128 (s + 1 + i) (by omega)
          have q5 : (nI (mw (s + 1 + i)) = 32) = (mw (s + 1 + i) = 32) := nJ_e (b := 32) (by omega) (by omega)
          rw [b177_20]
          simp only [eFi, q2, i10, i01, eq_self, if_true, if_false, true_and, false_and, and_true, and_false, not_true, not_false_iff, true_or, or_true, false_or, or_false, ne_eq, not_true_eq_false, not_false_eq_true, b177_61, q4, es, inb_n (show s + 1 + i < 138 by omega) (show s + 1 + i < 2 ^ 31 by omega), nI_c (show s + 1 + i < 2 ^ 31 by omega), hw _ (show s + 1 + i < 138 by omega), q5]
          by_cases c : i = w.length
          · have e32 : mw (s + 1 + i) = 32 := by rw [c]; exact h2
            have eq : bs b F (E - F) = w := bs_e.mpr ⟨by omega, fun x hx' => hx x (by omega)⟩
            simp only [eq_true e32, i10, i01, eq_self, if_true, if_false, true_and, false_and, and_true, and_false, not_true, not_false_iff, true_or, or_true, false_or, or_false, ne_eq, not_true_eq_false, not_false_eq_true]
            rw [idW, if_pos eq]
          · obtain ⟨a1, a2⟩ := h1 i (by omega)
            have n32 : ¬ mw (s + 1 + i) = 32 := by rw [a1]; exact a2
            simp only [eq_false n32, i10, i01, eq_self, if_true, if_false, true_and, false_and, and_true, and_false, not_true, not_false_iff, true_or, or_true, false_or, or_false, ne_eq, not_true_eq_false, not_false_eq_true, nI_s]
            exact skip _ (fun e => by have := (bs_e.mp e).1; omega)
        | succ m ihm =>
          intro i hi hil hx
          have eFi : nI F + nI i = nI (F + i) := (Int32.ofNat_add _ _).symm
          have es : nI s + 1 + nI i = nI (s + 1 + i) := by rw [nI_s]; exact (Int32.ofNat_add _ _).symm
          have es2 : nI (s + 1) + nI i = nI (s + 1 + i) := (Int32.ofNat_add _ _).symm
          have q2 : (nI E ≤ nI (F + i)) = False := by rw [nJ_le (by omega) (by omega)]; exact eq_false (by omega)
          have q4 : (nI (F + i) = nI E) = False := by rw [nJ_e (by omega) (by omega)]; exact eq_false (by omega)
          have h128 := mw_128 (s + 1 + i) (by omega)
          obtain ⟨b256, e124⟩ := hb (F + i) (by omega)
          have qe : (nI (mw (s + 1 + i)) = nI (b (F + i))) = (mw (s + 1 + i) = b (F + i)) := nJ_e (by omega) (by omega)
          rw [b177_20]
          simp only [eFi, q2, i10, i01, eq_self, if_true, if_false, true_and, false_and, and_true, and_false, not_true, not_false_iff, true_or, or_true, false_or, or_false, ne_eq, not_true_eq_false, not_false_eq_true, es2, inb_n (show s + 1 + i < 138 by omega) (show s + 1 + i < 2 ^ 31 by omega), nI_c (show s + 1 + i < 2 ^ 31 by omega), hw _ (show s + 1 + i < 138 by omega), inb_n (show F + i < 400 by omega) (show F + i < 2 ^ 31 by omega), nI_c (show F + i < 2 ^ 31 by omega), e124, qe, b177_61, q4, nI_s]
          by_cases c : i = w.length
          · have ne : ¬ mw (s + 1 + i) = b (F + i) := by rw [c, h2, ← c]; exact fun e => hc (F + i) (by omega) (by omega) e.symm
            simp only [eq_false ne, i10, i01, eq_self, if_true, if_false, true_and, false_and, and_true, and_false, not_true, not_false_iff, true_or, or_true, false_or, or_false, ne_eq, not_true_eq_false, not_false_eq_true]
            exact skip _ (fun e => by have := (bs_e.mp e).1; omega)
          · obtain ⟨a1, a2⟩ := h1 i (by omega)
            by_cases k : mw (s + 1 + i) = b (F + i)
            · simp only [eq_true k, i10, i01, eq_self, if_true, if_false, true_and, false_and, and_true, and_false, not_true, not_false_iff, true_or, or_true, false_or, or_false, ne_eq, not_true_eq_false, not_false_eq_true]
              refine ihm (i + 1) (by omega) (by omega) (fun x hx' => ?_)
              by_cases e : x = i
              · subst e; rw [← k, a1]
              · exact hx x (by omega)
            · simp only [eq_false k, i10, i01, eq_self, if_true, if_false, true_and, false_and, and_true, and_false, not_true, not_false_iff, true_or, or_true, false_or, or_false, ne_eq, not_true_eq_false, not_false_eq_true]
              exact skip _ (fun e => k (by rw [a1]; exact ((bs_e.mp e).2 i (by omega)).symm))
      rw [b177_5]
      simp only [q, i10, i01, eq_self, if_true, if_false, true_and, false_and, and_true, and_false, not_true, not_false_iff, true_or, or_true, false_or, or_false, ne_eq, not_true_eq_false, not_false_eq_true, ej]
      exact cmp (E - F) 0 (by omega) (by omega) (fun x hx => by omega)
  exact key wordsM 0 0 .null okW_M (by decide)
theorem idW_g : ∀ (L : List (List Nat)) (u : List Nat) (j k : Nat), idW L u j = some k → j ≤ k ∧ k < j + L.length ∧ L.getD (k - j) [] = u := by
  intro L
  induction L with
  | nil => intro u j k h; cases h
  | cons w L ih =>
    intro u j k h
    rw [idW] at h
    by_cases c : u = w
    · rw [if_pos c] at h
      cases h
      refine ⟨Nat.le_refl _, by simp, ?_⟩
      rw [Nat.sub_self]; exact c.symm
    · rw [if_neg c] at h
      obtain ⟨h1, h2, h3⟩ := ih u (j + 1) k h
      refine ⟨by omega, by simp; omega, ?_⟩
      rw [show k - j = (k - (j + 1)) + 1 by omega]
      exact h3
/-- a word's number, the class's and the model's -/
def pmW (k : Nat) : Nat := if k < 15 then k + 6 else if k < 21 then k - 15 else k
theorem pm_1 : ∀ j, j < 27 → idW wordsM (wordsC.getD j []) 0 = some (pmW j) := by decide
theorem pm_2 : ∀ j, j < 27 → (idW wordsC (wordsM.getD j []) 0).isSome = true := by decide
theorem pm_id (u : List Nat) : idW wordsM u 0 = (idW wordsC u 0).map pmW := by
  cases h : idW wordsC u 0 with
  | some j =>
    obtain ⟨_, h2, h3⟩ := idW_g _ _ _ _ h
    have h2' : j < 27 := by have : wordsC.length = 27 := rfl; omega
    rw [Nat.sub_zero] at h3
    rw [← h3, pm_1 j h2']; rfl
  | none =>
    cases k : idW wordsM u 0 with
    | none => rfl
    | some i =>
      obtain ⟨_, h2, h3⟩ := idW_g _ _ _ _ k
      have h2' : i < 27 := by have : wordsM.length = 27 := rfl; omega
      have := pm_2 i h2'
      rw [Nat.sub_zero] at h3
      rw [h3, h] at this
      cases this
theorem wcN_le (b : Nat → Nat) (F E : Nat) : wcN b F E = 31 ∨ wcN b F E < 27 := by
  unfold wcN
  cases h : idW wordsC (bs b F (E - F)) 0 with
  | none => exact Or.inl rfl
  | some j =>
    obtain ⟨_, h2, _⟩ := idW_g _ _ _ _ h
    exact Or.inr (by have : wordsC.length = 27 := rfl; show j < 27; omega)
theorem wc_m {b : Nat → Nat} {F E : Nat} : (match idW wordsM (bs b F (E - F)) 0 with | none => (-1 : Int32) | some j => nI j) = if wcN b F E = 31 then -1 else nI (pmW (wcN b F E)) := by
  rw [pm_id]
  unfold wcN
  cases h : idW wordsC (bs b F (E - F)) 0 with
  | none => rfl
  | some j =>
    obtain ⟨_, h2, _⟩ := idW_g _ _ _ _ h
    have h2' : j < 27 := by have : wordsC.length = 27 := rfl; omega
    show nI (pmW j) = if j = 31 then -1 else nI (pmW j)
    rw [if_neg (by omega)]
