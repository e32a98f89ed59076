/-! L3: the class bears -/
theorem c_top (d : Nat) (σ : Sig) (p b : Nat) (s : Int32) (hp : p < 8) (hb : b < 8) (hw : σ 9 p = nI b) : Ex d 94 0 [.ref 1, .int (nI p), .int s, .null] [] G0 σ = some (some (.int (topX σ s p b (σ 10 p))), G0, σ) := by
  rw [b94_0]
  simp only [i8 hp, c8 hp, hw, i8 hb, c8 hb, i10, i01, eq_self, if_true, if_false, true_and, false_and, and_true, and_false, not_true, not_false_iff, true_or, or_true, false_or, or_false, ne_eq, not_true_eq_false, not_false_eq_true]
  rfl
theorem c_can (d : Nat) (σ : Sig) (b : Nat) (hb : b < 8) : Ex d 17 0 [.ref 2, .int (nI b)] [] G0 σ = some (some (.int (canB σ b)), G0, σ) := by
  rw [b17_0]
  simp only [i8 hb, c8 hb, i10, i01, eq_self, if_true, if_false, true_and, false_and, and_true, and_false, not_true, not_false_iff, true_or, or_true, false_or, or_false, ne_eq, not_true_eq_false, not_false_eq_true]
  rfl
theorem fo_ext {α : Type} {f : Nat → α → α} {n m : Nat} {s : α} (h : n ≤ m) (hf : ∀ p a, n ≤ p → p < m → f p a = a) : fo f m s = fo f n s := by
  induction h with
  | refl => rfl
  | step h ih =>
    rename_i k
    rw [fo, ih (fun p a h1 h2 => hf p a h1 (by omega)), hf k _ h (by omega)]
theorem mn_i {a b : Int32} : (mn a b).toInt ≤ a.toInt ∧ (mn a b).toInt ≤ b.toInt ∧ ((mn a b).toInt = a.toInt ∨ (mn a b).toInt = b.toInt) := by
  unfold mn
  by_cases h : b < a
  · rw [if_pos h]; have := Int32.lt_iff_toInt_lt.mp h; omega
  · rw [if_neg h]; have := Int32.not_lt.mp h; rw [Int32.le_iff_toInt_le] at this; omega
/-- the least TOP is no more than any TOP, and the start doesn't matter -/
theorem least_l {σ : Sig} {s g : Int32} {i : Int32} : ∀ n p, p < n → hold σ g p → (fo (leastF σ s g) n i).toInt ≤ (topS σ s p).toInt := by
  intro n
  induction n with
  | zero => intro p hp; omega
  | succ n ih =>
    intro p hp hh
    rw [fo]
    unfold leastF
    by_cases e : p = n
    · subst e; rw [if_pos hh]; exact mn_i.2.1
    · have := ih p (by omega) hh
      split
      · exact Int.le_trans mn_i.1 this
      · exact this
theorem least_s {σ : Sig} {s g : Int32} {i j : Int32} (hi : ∀ p, hold σ g p → (topS σ s p).toInt < i.toInt ∧ (topS σ s p).toInt < j.toInt) : ∀ n, (fo (leastF σ s g) n i = fo (leastF σ s g) n j) ∨ ((∀ p, p < n → ¬ hold σ g p) ∧ fo (leastF σ s g) n i = i ∧ fo (leastF σ s g) n j = j) := by
  intro n
  induction n with
  | zero => exact Or.inr ⟨fun p hp => by omega, rfl, rfl⟩
  | succ n ih =>
    rcases ih with e | ⟨h, e1, e2⟩
    · left; rw [fo, fo, e]
    · by_cases k : hold σ g n
      · left
        rw [fo, fo, e1, e2]
        unfold leastF
        rw [if_pos k, if_pos k]
        have := hi n k
        unfold mn
        rw [if_pos (Int32.lt_iff_toInt_lt.mpr this.1), if_pos (Int32.lt_iff_toInt_lt.mpr this.2)]
      · right
        refine ⟨fun p hp => ?_, ?_, ?_⟩
        · by_cases e : p = n
          · subst e; exact k
          · exact h p (by omega)
        · rw [fo, e1]; unfold leastF; rw [if_neg k]
        · rw [fo, e2]; unfold leastF; rw [if_neg k]
def SCB : List Nat := [16, 68, 69, 70, 71, 72, 73]
theorem WI_fr {B T : LW} {σ σ' : Sig} (h : WI B T σ) (e : ∀ q, 1 ≤ q → q ≤ 26 → q ≠ 16 → q ≠ 19 → σ' q = σ q) : WI B T σ' := by
  have e1 := e 1 (by omega) (by omega) (by omega) (by omega)
  have e2 := e 2 (by omega) (by omega) (by omega) (by omega)
  have e3 := e 3 (by omega) (by omega) (by omega) (by omega)
  have e4 := e 4 (by omega) (by omega) (by omega) (by omega)
  have e7 := e 7 (by omega) (by omega) (by omega) (by omega)
  have e8 := e 8 (by omega) (by omega) (by omega) (by omega)
  have e9 := e 9 (by omega) (by omega) (by omega) (by omega)
  have e10 := e 10 (by omega) (by omega) (by omega) (by omega)
  have e11 := e 11 (by omega) (by omega) (by omega) (by omega)
  have e12 := e 12 (by omega) (by omega) (by omega) (by omega)
  have e13 := e 13 (by omega) (by omega) (by omega) (by omega)
  have e14 := e 14 (by omega) (by omega) (by omega) (by omega)
  have e15 := e 15 (by omega) (by omega) (by omega) (by omega)
  have e17 := e 17 (by omega) (by omega) (by omega) (by omega)
  have e18 := e 18 (by omega) (by omega) (by omega) (by omega)
  have e20 := e 20 (by omega) (by omega) (by omega) (by omega)
  have e21 := e 21 (by omega) (by omega) (by omega) (by omega)
  have e22 := e 22 (by omega) (by omega) (by omega) (by omega)
  have e23 := e 23 (by omega) (by omega) (by omega) (by omega)
  have e24 := e 24 (by omega) (by omega) (by omega) (by omega)
  have e25 := e 25 (by omega) (by omega) (by omega) (by omega)
  intro i
  have hi := h i
  unfold wi pr np sz wl paced at hi ⊢
  unfold pr at hi ⊢
  rw [e1, e2, e3, e4, e7, e8, e9, e10, e11, e12, e13, e14, e15, e17, e18, e20, e21, e22, e23, e24, e25]
  exact hi
theorem MEM_fr {B : LW} {σ σ' : Sig} (h : MEM B σ) (e : ∀ q, q ∈ [1, 3, 4, 6, 7, 8, 9, 10, 73] → σ' q = σ q) (e8 : σ' 67 8 = σ 67 8) (e9 : σ' 67 9 = σ 67 9) : MEM B σ' := by
  have hfx : ∀ (q b : Nat) (c : Int32), fxX σ' 0 q b c = fxX σ 0 q b c := by
    intro p b c; funext k; unfold fxX
    simp only [e 3 (by decide), e 4 (by decide), e 6 (by decide), e 7 (by decide), e 1 (by decide)]
  unfold MEM shareX topX wN at h ⊢
  simp only [e8, e9, e 73 (by decide), e 10 (by decide), e 9 (by decide), e 1 (by decide), e 3 (by decide), e 8 (by decide), hfx]
  exact h
theorem bI_c {P Q : Prop} [Decidable P] [Decidable Q] (h : P ↔ Q) : bI P = bI Q := by
  unfold bI; by_cases k : P
  · rw [if_pos k, if_pos (h.mp k)]
  · rw [if_neg k, if_neg (fun q => k (h.mpr q))]
theorem hnd_out {am : Nat → Bool} {p : Nat} (h : am p = false) : ∀ n (x : Nat × (Nat → Nat)), (hnd am n x).2 p = x.2 p := by
  intro n
  induction n with
  | zero => intro x; rfl
  | succ n ih =>
    intro x
    rw [hnd]
    by_cases k : am n = true ∧ 0 < (hnd am n x).1
    · rw [if_pos k]
      dsimp only
      rw [if_neg (fun e => by rw [e] at h; rw [h] at k; exact absurd k.1 (by decide))]; exact ih x
    · rw [if_neg k]; exact ih x
theorem part_out {c : Nat → Nat} {p : Nat} : ∀ (f l : Nat) (s ld g : Nat → Nat), partS c f l s ld = some g → s p = 0 → ld p = 0 → g p = 0 := by
  intro f
  induction f with
  | zero => intro l s ld g h; cases h
  | succ f ih =>
    intro l s ld g h hs hl
    have hq : byd c l s p = false := decide_eq_false (by unfold qt; rw [hs, Nat.mul_zero, Nat.zero_div]; omega)
    rw [partS] at h
    by_cases z : su s 8 = 0
    · rw [if_pos z] at h; cases h
    · rw [if_neg z] at h
      by_cases a : anyB (byd c l s) = true
      · rw [if_pos a] at h
        refine ih _ _ _ g h ?_ ?_
        · unfold stp; dsimp only; rw [hq, hs]; rfl
        · unfold stp; dsimp only; rw [hq, hs]; exact hl
      · rw [if_neg a] at h
        cases h
        unfold fin
        rw [hnd_out (by rw [hs]; rfl)]
        dsimp only
        rw [hs]; exact hl
theorem c_bears (d : Nat) (B T : LW) (σ : Sig) (s g : Int32) (hW : WI B T σ) (hs : bw s (-9) 9) (hM : MEM B σ) (hr : σ 67 8 ≠ 0 → s = 0) :
    ∃ σ', Ex (d + 3) 3 0 [.ref 67, .ref 1, .int s, .int g, .null, .null, .null, .null] [] G0 σ = some (some (.int (bI (bearS B σ s g))), G0, σ') ∧ Fr SCB [(67, 2), (67, 3)] σ σ' ∧ MEM B σ'
      ∧ isM (σ' 67 2) (fun p => decide (hold σ g p)) ∧ σ' 67 3 = bI (askdS B σ s g) ∧ (∀ p, p < np σ → σ' 68 p = nI (loadS B σ s g p)) ∧ (∀ p, p < 8 → hold σ g p → σ' 72 p = canB σ (wN σ p)) := by
  obtain ⟨np4, np8, enp⟩ := WI_np hW
  have hnlt : ∀ p, p < np σ → (nI (np σ) ≤ nI p) = False := fun p hp => by rw [nJ_le (by omega) (by omega)]; exact eq_false (by omega)
  have hneq : (nI (np σ) ≤ nI (np σ)) = True := eq_true (by rw [nJ_le (by omega) (by omega)]; exact Nat.le_refl _)
  have hc8' : wi B T σ 8 := hW 8
  have htb : ∀ p, hold σ g p → bw (topS σ s p) 10 120 ∧ (s = 0 → bw (topS σ s p) 40 86) := fun p hh => by
    have hw := WI_who hW (by have := hh.1; omega) hh.2.1
    exact top_b hW hs hh.1 hw.2.1 (hc8' p (by have := hh.1; omega))
  rw [b3_0]
  simp only [c_count, Option.bind_some, Option.toList_some, Option.toList_none, List.cons_append, List.nil_append, i01a, i01b, if_true, if_false, b3_21, pt_q (show (8 : Nat) ≠ 67 by decide), enp]
  generalize hσ0 : pt (pt σ 67 3 0) 67 2 0 = σ0
  have f0 : Fr [] [(67, 2), (67, 3)] σ σ0 := by rw [← hσ0]; exact Fr_p (Fr_p Fr_r (Or.inr (by simp))) (Or.inr (by simp))
  have s02 : σ0 67 2 = 0 := by rw [← hσ0, pt_e]
  have s03 : σ0 67 3 = 0 := by rw [← hσ0, pt_k (by decide), pt_e]
  -- who HOLDS
  obtain ⟨⟨σ1, lw, v7⟩, e1, i1⟩ := loop_ex (fun p (x : Sig × Int32 × Value) => Ex (d + 3) 3 26 [.ref 67, .ref 1, .int s, .int g, .int x.2.1, .int (nI (np σ)), .int (nI p), x.2.2] [] G0 (x.1))
    (fun p x => Fr [68, 70, 72] [(67, 2)] σ0 x.1 ∧ isM (x.1 67 2) (fun q => decide (q < p ∧ hold σ g q)) ∧ (∀ q, q < p → x.1 68 q = 0) ∧ (∀ q, q < p → hold σ g q → x.1 70 q = topS σ s q ∧ x.1 72 q = canB σ (wN σ q)) ∧ x.2.1 = fo (leastF σ s g) p 2147483647) (np σ) (σ0, 2147483647, .null)
    ⟨Fr_r, by dsimp only; rw [s02]; exact M_ext M_0 (fun q _ => by simp), fun q hq => by omega, fun q hq => by omega, rfl⟩ (by
    intro p ⟨σ1, lw, v7⟩ hp ⟨j1, j2, j3, j4, j5⟩
    dsimp only at j1 j2 j3 j4 j5
    have hp8 : p < 8 := by omega
    have q : ∀ q, q ∉ [67, 68, 70, 72] → σ1 q = σ q := fun q hq => by
      rw [Fr_q j1 (by simp at hq ⊢; omega) (by simp at hq ⊢; omega)]; exact Fr_q f0 (by simp) (by simp at hq ⊢; omega)
    show ∃ a', Ex (d + 3) 3 26 [.ref 67, .ref 1, .int s, .int g, .int lw, .int (nI (np σ)), .int (nI p), v7] [] G0 σ1 = _ ∧ _
    rw [b3_26]
    simp only [hnlt p hp, i8 hp8, c8 hp8, pt_q (show (9 : Nat) ≠ 68 by decide), pt_q (show (67 : Nat) ≠ 68 by decide), q 9 (by decide), i10, i01, eq_self, if_true, if_false, true_and, false_and, and_true, and_false, not_true, not_false_iff, true_or, or_true, false_or, or_false, ne_eq, not_true_eq_false, not_false_eq_true, nI_s]
    have key : ∀ (h : ¬ hold σ g p), Fr [68, 70, 72] [(67, 2)] σ0 (pt σ1 68 p 0) ∧ isM ((pt σ1 68 p 0) 67 2) (fun q => decide (q < p + 1 ∧ hold σ g q)) ∧ (∀ q, q < p + 1 → (pt σ1 68 p 0) 68 q = 0) ∧ (∀ q, q < p + 1 → hold σ g q → (pt σ1 68 p 0) 70 q = topS σ s q ∧ (pt σ1 68 p 0) 72 q = canB σ (wN σ q)) ∧ lw = fo (leastF σ s g) (p + 1) 2147483647 := by
      intro h
      refine ⟨Fr_p j1 (Or.inl (by simp)), ?_, ?_, ?_, ?_⟩
      · rw [pt_q (by decide)]
        refine M_ext j2 (fun q hq => ?_)
        by_cases e : q = p
        · subst e; simp [h]
        · have : (q < p + 1) = (q < p) := propext (by omega)
          simp only [this]
      · intro q hq
        by_cases e : q = p
        · subst e; rw [pt_e]
        · rw [pt_k e]; exact j3 q (by omega)
      · intro q hq hh
        rw [pt_q (by decide), pt_q (by decide)]
        have : q ≠ p := fun e => h (e ▸ hh)
        exact j4 q (by omega) hh
      · rw [fo, ← j5]; unfold leastF; rw [if_neg h]
    by_cases hw : σ 9 p = -1
    · simp only [hw, i10, i01, eq_self, if_true, if_false, true_and, false_and, and_true, and_false, not_true, not_false_iff, true_or, or_true, false_or, or_false, ne_eq, not_true_eq_false, not_false_eq_true]
      exact ⟨(pt σ1 68 p 0, lw, .int (-1)), rfl, key (fun h => h.2.1 hw)⟩
    · simp only [hw, i10, i01, eq_self, if_true, if_false, true_and, false_and, and_true, and_false, not_true, not_false_iff, true_or, or_true, false_or, or_false, ne_eq, not_true_eq_false, not_false_eq_true]
      by_cases hg : (g >>> (nI p &&& 31)) &&& 1 = 0
      · have hh : hold σ g p := ⟨hp, hw, hg⟩
        obtain ⟨_, hb, hb8, ew⟩ := WI_who hW hp8 hw
        simp only [hg, i10, i01, eq_self, if_true, if_false, true_and, false_and, and_true, and_false, not_true, not_false_iff, true_or, or_true, false_or, or_false, ne_eq, not_true_eq_false, not_false_eq_true, b3_0, b3_21, b3_81, b3_94, b3_107, b3_124, b3_173, b3_200, b3_216, b3_232]
        generalize hσ2 : pt (pt σ1 68 p 0) 67 2 (σ1 67 2 ||| 1 <<< (nI p &&& 31)) = σ2
        have q2 : ∀ q, q ∉ [67, 68, 70, 72] → σ2 q = σ q := fun r hr => by
          rw [← hσ2, pt_q (by simp at hr; omega), pt_q (by simp at hr; omega)]; exact q r hr
        have et : topX σ2 s p (wN σ p) (σ2 10 p) = topS σ s p := by unfold topS topX; rw [q2 3 (by decide), q2 10 (by decide), q2 8 (by decide)]
        have ec : ∀ v, canB (pt σ2 70 p v) (wN σ p) = canB σ (wN σ p) := fun v => by unfold canB; rw [pt_q (by decide), pt_q (by decide), q2 4 (by decide), q2 7 (by decide)]
        rw [c_top (d + 2) σ2 p (wN σ p) s hp8 hb8 (by rw [q2 9 (by decide)]; exact ew)]
        simp only [Option.bind_some, Option.toList_some, Option.toList_none, List.cons_append, List.nil_append, i01a, i01b, if_true, if_false, i8 hp8, c8 hp8, i10, i01, eq_self, if_true, if_false, true_and, false_and, and_true, and_false, not_true, not_false_iff, true_or, or_true, false_or, or_false, ne_eq, not_true_eq_false, not_false_eq_true, b3_94, pt_e, c_min, b3_107, et]
        rw [ew, c_can (d + 2) _ _ hb8]
        simp only [Option.bind_some, Option.toList_some, Option.toList_none, List.cons_append, List.nil_append, i01a, i01b, if_true, if_false, i8 hp8, c8 hp8, i10, i01, eq_self, if_true, if_false, true_and, false_and, and_true, and_false, not_true, not_false_iff, true_or, or_true, false_or, or_false, ne_eq, not_true_eq_false, not_false_eq_true, b3_124, nI_s, ec]
        refine ⟨(pt (pt σ2 70 p (topS σ s p)) 72 p (canB σ (wN σ p)), mn lw (topS σ s p), .int (nI (wN σ p))), rfl, ?_, ?_, ?_, ?_, ?_⟩
        · rw [← hσ2]
          exact Fr_p (Fr_p (Fr_p (Fr_p j1 (Or.inl (by simp))) (Or.inr (by simp))) (Or.inl (by simp))) (Or.inl (by simp))
        · dsimp only
          rw [pt_q (by decide), pt_q (by decide), ← hσ2, pt_e]
          refine M_ext (M_add j2 hp8) (fun q hq => ?_)
          by_cases e : q = p
          · subst e; simp [hh]
          · have : (q < p + 1) = (q < p) := propext (by omega)
            simp [this, e]
        · intro q hq
          dsimp only
          rw [pt_q (by decide), pt_q (by decide), ← hσ2, pt_q (by decide)]
          by_cases e : q = p
          · subst e; rw [pt_e]
          · rw [pt_k e]; exact j3 q (by omega)
        · intro q hq hh'
          dsimp only
          by_cases e : q = p
          · subst e
            rw [pt_q (by decide), pt_e, pt_e]; exact ⟨rfl, rfl⟩
          · rw [pt_q (by decide), pt_k e, pt_k e, pt_q (by decide), ← hσ2, pt_q (by decide), pt_q (by decide), pt_q (by decide), pt_q (by decide)]
            exact j4 q (by omega) hh'
        · dsimp only
          rw [fo, ← j5]; unfold leastF; rw [if_pos hh]
      · simp only [hg, i10, i01, eq_self, if_true, if_false, true_and, false_and, and_true, and_false, not_true, not_false_iff, true_or, or_true, false_or, or_false, ne_eq, not_true_eq_false, not_false_eq_true]
        exact ⟨(pt σ1 68 p 0, lw, .int (σ 9 p)), rfl, key (fun h => hg h.2.2)⟩)
  obtain ⟨j1, j2, j3, j4, j5⟩ := i1
  dsimp only at j1 j2 j3 j4 j5
  have f1 : Fr [68, 70, 72] [(67, 2), (67, 3)] σ σ1 := Fr_t (Fr_m f0 (by simp) (by simp)) (Fr_m j1 (by simp) (by simp))
  have q1 : ∀ q, q ∉ [67, 68, 70, 72] → σ1 q = σ q := fun q hq => Fr_q f1 (by simp at hq ⊢; omega) (by simp at hq ⊢; omega)
  rw [show Ex (d + 3) 3 26 [.ref 67, .ref 1, .int s, .int g, .int 2147483647, .int (nI (np σ)), .int 0, .null] [] G0 σ0 = _ from e1]
  show ∃ σ', Ex (d + 3) 3 26 [.ref 67, .ref 1, .int s, .int g, .int lw, .int (nI (np σ)), .int (nI (np σ)), v7] [] G0 σ1 = _ ∧ _
  rw [b3_26]
  simp only [hneq, i10, i01, eq_self, if_true, if_false, true_and, false_and, and_true, and_false, not_true, not_false_iff, true_or, or_true, false_or, or_false, ne_eq, not_true_eq_false, not_false_eq_true]
  have hlw : (∃ p, hold σ g p) → lw = leastS σ s g := by
    intro ⟨p, hh⟩
    have a := least_s (σ := σ) (s := s) (g := g) (i := 2147483647) (j := 1000000) (fun p hp => by
      have := (htb p hp).1
      have h1 : (2147483647 : Int32).toInt = 2147483647 := rfl
      have h2 : (1000000 : Int32).toInt = 1000000 := rfl
      unfold bw at this; omega) 8
    have b : fo (leastF σ s g) 8 2147483647 = fo (leastF σ s g) (np σ) 2147483647 := fo_ext np8 (fun p a h1 _ => by unfold leastF; rw [if_neg (fun h => by have := h.1; omega)])
    rcases a with a | ⟨a, _, _⟩
    · unfold leastS; rw [j5, ← b, a]
    · exact absurd hh (a p (by have := hh.1; omega))
  have hM1 : MEM B σ1 := by
    have e67 : ∀ k, k ≠ 2 → k ≠ 3 → σ1 67 k = σ 67 k := fun k h2 h3 => f1 67 k (by decide) (by simp; omega)
    have hfx : ∀ (p b : Nat) (c : Int32), fxX σ1 0 p b c = fxX σ 0 p b c := by
      intro p b c; funext k; unfold fxX
      simp only [q1 3 (by decide), q1 4 (by decide), q1 6 (by decide), q1 7 (by decide), q1 1 (by decide)]
    unfold MEM shareX topX wN at hM ⊢
    simp only [e67 8 (by decide) (by decide), e67 9 (by decide) (by decide), q1 73 (by decide), q1 10 (by decide), q1 9 (by decide), q1 1 (by decide), q1 3 (by decide), q1 8 (by decide), hfx]
    exact hM
  -- SHARES
  obtain ⟨⟨σ2, bm⟩, e2, i2⟩ := loop_ex (fun p (x : Sig × Int32) => Ex (d + 3) 3 137 [.ref 67, .ref 1, .int s, .int g, .int lw, .int (nI (np σ)), .int x.2, .int (nI p)] [] G0 (x.1))
    (fun p x => Fr [16, 69, 71, 73] [] σ1 x.1 ∧ MEM B x.1 ∧ isM x.2 (fun q => decide (q < p ∧ hold σ g q ∧ 0 < sh0 B σ s g q)) ∧ ∀ q, q < p → hold σ g q → x.1 71 q = nI (sh0 B σ s g q)) (np σ) (σ1, 0)
    ⟨Fr_r, hM1, M_ext M_0 (fun q _ => by simp), fun q hq => by omega⟩ (by
    intro p ⟨σ3, bm⟩ hp ⟨k1, k2, k3, k4⟩
    dsimp only at k1 k2 k3 k4
    have hp8 : p < 8 := by omega
    have q3 : ∀ q, q ∉ [16, 67, 68, 69, 70, 71, 72, 73] → σ3 q = σ q := fun q hq => by
      rw [Fr_q k1 (by simp at hq ⊢; omega) (by simp)]; exact q1 q (by simp at hq ⊢; omega)
    have e67 : σ3 67 = σ1 67 := Fr_q k1 (by decide) (by simp)
    show ∃ a', Ex (d + 3) 3 137 [.ref 67, .ref 1, .int s, .int g, .int lw, .int (nI (np σ)), .int bm, .int (nI p)] [] G0 σ3 = _ ∧ _
    rw [b3_137]
    have hbit : ((σ3 67 2 >>> (nI p &&& 31)) &&& 1 = 1) = hold σ g p := by
      rw [e67, M_t1 j2 hp8]; simp only [decide_eq_true_eq]
      exact propext ⟨fun h => h.2, fun h => ⟨hp, h⟩⟩
    simp only [hnlt p hp, hbit, i10, i01, eq_self, if_true, if_false, true_and, false_and, and_true, and_false, not_true, not_false_iff, true_or, or_true, false_or, or_false, ne_eq, not_true_eq_false, not_false_eq_true, nI_s]
    by_cases hh : hold σ g p
    · obtain ⟨_, hb, hb8, ew⟩ := WI_who hW hp8 hh.2.1
      have hl := hlw ⟨p, hh⟩
      have hW3 : WI B T σ3 := WI_fr hW (fun q h1 h2 h3 h4 => q3 q (by simp; omega))
      have enp3 : np σ3 = np σ := by unfold np pr; rw [q3 8 (by decide)]
      have esz3 : sz σ3 = sz σ := by unfold sz; rw [q3 2 (by decide)]
      have et : topX σ3 s p (wN σ p) (σ3 10 p) = topS σ s p := by unfold topS topX; rw [q3 3 (by decide), q3 10 (by decide), q3 8 (by decide)]
      have e70 : σ3 70 p = topS σ s p := by rw [Fr_q k1 (by decide) (by simp)]; exact (j4 p hp hh).1
      have hov : 0 ≤ (topS σ s p - lw).toInt := by
        have a := least_l (σ := σ) (s := s) (g := g) (i := 1000000) 8 p hp8 hh
        have b := (htb p hh).1
        have c : 10 ≤ (leastS σ s g).toInt := by
          have key : ∀ n, 10 ≤ (fo (leastF σ s g) n 1000000).toInt := by
            intro n
            induction n with
            | zero => show (10 : Int) ≤ (1000000 : Int32).toInt; decide
            | succ n ih =>
              rw [fo]; unfold leastF
              split
              · rename_i h
                have := (htb n h).1
                unfold bw at this
                rcases (mn_i (a := fo (leastF σ s g) n 1000000) (b := topS σ s n)).2.2 with e | e
                · unfold leastF at e ih; omega
                · unfold leastF at e; omega
              · exact ih
          exact key 8
        rw [hl, Int32.toInt_sub]
        unfold bw at b
        unfold leastS at c ⊢
        rw [Int.bmod_eq_of_le (by omega) (by omega)]; omega
      obtain ⟨σ4, e4, f4, m4⟩ := c_shareAt d B T σ3 p (wN σ p) s lw hW3 (by omega) (by omega) (by rw [q3 9 (by decide)]; exact ew) hs (by rw [et]; exact e70) (by rw [et]; exact hov) k2 (fun h => hr (fun e => h (by rw [e67, f1 67 8 (by decide) (by simp)]; exact e)))
      have ev : shareX B σ3 s p (wN σ p) (σ3 10 p) lw = nI (sh0 B σ s g p) := by
        have : shareX B σ3 s p (wN σ p) (σ3 10 p) lw = shareS B σ s (leastS σ s g) p := by
          have hfx : fxX σ3 s p (wN σ p) (σ 10 p) = fxX σ s p (wN σ p) (σ 10 p) := by
            funext k; unfold fxX
            simp only [q3 3 (by decide), q3 4 (by decide), q3 6 (by decide), q3 7 (by decide), q3 1 (by decide)]
          unfold shareS shareX topX
          simp only [q3 3 (by decide), q3 10 (by decide), q3 8 (by decide), q3 1 (by decide), hfx, hl]
        rw [this]
        unfold sh0
        rw [if_pos hh]
        exact (shareX_n B σ s p (wN σ p) (σ 10 p) (leastS σ s g)).1
      have hle : sh0 B σ s g p ≤ 999 := by
        unfold sh0; rw [if_pos hh]; exact (shareX_n B σ s p (wN σ p) (σ 10 p) (leastS σ s g)).2
      rw [ev] at e4
      have hz : (nI (sh0 B σ s g p) ≤ 0) = (sh0 B σ s g p = 0) := nI_le0 (by omega)
      simp only [eq_true hh, e4, i10, i01, eq_self, if_true, if_false, true_and, false_and, and_true, and_false, not_true, not_false_iff, true_or, or_true, false_or, or_false, ne_eq, not_true_eq_false, not_false_eq_true, Option.bind_some, Option.toList_some, Option.toList_none, List.cons_append, List.nil_append, i01a, i01b, if_true, if_false, b3_0, b3_21, b3_81, b3_94, b3_107, b3_124, b3_173, b3_200, b3_216, b3_232, i8 hp8, c8 hp8, pt_e, hz, M_or0, nI_s]
      have fr5 : Fr [16, 69, 71, 73] [] σ1 (pt σ4 71 p (nI (sh0 B σ s g p))) := Fr_p (Fr_t k1 (Fr_m f4 (by simp) (by simp))) (Or.inl (by simp))
      have m5 : MEM B (pt σ4 71 p (nI (sh0 B σ s g p))) := by
        have e : ∀ q, q ≠ 71 → (pt σ4 71 p (nI (sh0 B σ s g p))) q = σ4 q := fun q hq => pt_q hq
        have hfx : ∀ (q b : Nat) (c : Int32), fxX (pt σ4 71 p (nI (sh0 B σ s g p))) 0 q b c = fxX σ4 0 q b c := by
          intro p b c; funext k; unfold fxX
          simp only [e 3 (by decide), e 4 (by decide), e 6 (by decide), e 7 (by decide), e 1 (by decide)]
        unfold MEM shareX topX wN at m4 ⊢
        simp only [e 67 (by decide), e 73 (by decide), e 10 (by decide), e 9 (by decide), e 1 (by decide), e 3 (by decide), e 8 (by decide), hfx]
        exact m4
      have l5 : ∀ q, q < p + 1 → hold σ g q → pt σ4 71 p (nI (sh0 B σ s g p)) 71 q = nI (sh0 B σ s g q) := by
        intro q hq hh'
        by_cases e : q = p
        · subst e; rw [pt_e]
        · rw [pt_k e, f4 71 q (by decide) (by simp)]; exact k4 q (by omega) hh'
      by_cases z : sh0 B σ s g p = 0
      · simp only [z, i10, i01, eq_self, if_true, if_false, true_and, false_and, and_true, and_false, not_true, not_false_iff, true_or, or_true, false_or, or_false, ne_eq, not_true_eq_false, not_false_eq_true] at fr5 m5 l5 ⊢
        refine ⟨(_, _), rfl, fr5, m5, M_ext k3 (fun q hq => ?_), l5⟩
        by_cases e : q = p
        · subst e; simp [z]
        · have : (q < p + 1) = (q < p) := propext (by omega)
          simp only [this]
      · simp only [z, i10, i01, eq_self, if_true, if_false, true_and, false_and, and_true, and_false, not_true, not_false_iff, true_or, or_true, false_or, or_false, ne_eq, not_true_eq_false, not_false_eq_true]
        refine ⟨(_, _), rfl, fr5, m5, M_ext (M_add k3 hp8) (fun q hq => ?_), l5⟩
        by_cases e : q = p
        · subst e
          have : 0 < sh0 B σ s g q := by omega
          simp [hh, this]
        · have : (q < p + 1) = (q < p) := propext (by omega)
          simp [this, e]
    · simp only [hh, i10, i01, eq_self, if_true, if_false, true_and, false_and, and_true, and_false, not_true, not_false_iff, true_or, or_true, false_or, or_false, ne_eq, not_true_eq_false, not_false_eq_true, b3_0, b3_21, b3_81, b3_94, b3_107, b3_124, b3_173, b3_200, b3_216, b3_232]
      refine ⟨(σ3, bm), rfl, k1, k2, M_ext k3 (fun q hq => ?_), fun q hq hh' => ?_⟩
      · by_cases e : q = p
        · subst e; simp [hh]
        · have : (q < p + 1) = (q < p) := propext (by omega)
          simp only [this]
      · have : q ≠ p := fun e => hh (e ▸ hh')
        exact k4 q (by omega) hh')
  obtain ⟨k1, k2, k3, k4⟩ := i2
  dsimp only at k1 k2 k3 k4
  rw [show Ex (d + 3) 3 137 [.ref 67, .ref 1, .int s, .int g, .int lw, .int (nI (np σ)), .int 0, .int 0] [] G0 σ1 = _ from e2]
  show ∃ σ', Ex (d + 3) 3 137 [.ref 67, .ref 1, .int s, .int g, .int lw, .int (nI (np σ)), .int bm, .int (nI (np σ))] [] G0 σ2 = _ ∧ _
  rw [b3_137]
  simp only [hneq, i10, i01, eq_self, if_true, if_false, true_and, false_and, and_true, and_false, not_true, not_false_iff, true_or, or_true, false_or, or_false, ne_eq, not_true_eq_false, not_false_eq_true]
  have hold8 : ∀ p, hold σ g p → p < 8 := fun p h => by have := h.1; omega
  have sh0_le : ∀ p, sh0 B σ s g p ≤ 999 := by
    intro p; unfold sh0
    split
    · exact (shareX_n B σ s p (wN σ p) (σ 10 p) (leastS σ s g)).2
    · omega
  have finish : ∀ (σ3 : Sig) (am a6 a7 : Int32) (h : Nat → Bool) (sN : Nat → Nat), Fr [16, 69, 71, 73] [] σ1 σ3 → MEM B σ3 → isM am h → (∀ p, h p = true → hold σ g p) → (∀ p, p < 8 → h p = true → σ3 71 p = nI (sN p) ∧ 0 < sN p ∧ sN p ≤ 999) → (fun p => if h p = true then sN p else 0) = sh B σ s g →
      ∃ σ', ((Ex (d + 2) 7 0 [.ref 67, .int (σ3 1 0), .int am, .null, .null, .null, .null, .null] [] G0 σ3).bind fun o => Ex (d + 2 + 1) 3 232 [.ref 67, .ref 1, .int s, .int g, .int lw, .int (nI (np σ)), .int a6, .int a7] (o.1.toList ++ []) o.2.1 o.2.2) = some (some (.int (bI (bearS B σ s g))), G0, σ') ∧ Fr SCB [(67, 2), (67, 3)] σ σ' ∧ MEM B σ'
      ∧ isM (σ' 67 2) (fun p => decide (hold σ g p)) ∧ σ' 67 3 = bI (askdS B σ s g) ∧ (∀ p, p < np σ → σ' 68 p = nI (loadS B σ s g p)) ∧ (∀ p, p < 8 → hold σ g p → σ' 72 p = canB σ (wN σ p)) := by
    intro σ3 am a6 a7 h sN f3 m3 hm hh hsN hsh
    have q3 : ∀ q, q ∉ [16, 67, 68, 69, 70, 71, 72, 73] → σ3 q = σ q := fun q hq => by
      rw [Fr_q f3 (by simp at hq ⊢; omega) (by simp)]; exact q1 q (by simp at hq ⊢; omega)
    have e67 : σ3 67 = σ1 67 := Fr_q f3 (by decide) (by simp)
    have e68 : σ3 68 = σ1 68 := Fr_q f3 (by decide) (by simp)
    have e72 : σ3 72 = σ1 72 := Fr_q f3 (by decide) (by simp)
    obtain ⟨_, ep, _, p9, _⟩ := bwN (a := 1) (b := 999) (show bw (σ 1 0) 1 999 from hW 0)
    have hpd : σ 1 0 = nI (pdN σ) := by unfold pdN; rw [ep, nI_c (by omega)]
    have hpd9 : pdN σ ≤ 999 := by unfold pdN; rw [ep, nI_c (by omega)]; exact p9
    have hcn : ∀ p, p < 8 → h p = true → σ3 72 p = nI (canN σ p) ∧ canN σ p ≤ 300 := by
      intro p hp k
      have hp' := hh p k
      have hw := WI_who hW hp hp'.2.1
      have := can_n hW hw.2.2.1
      rw [e72, (j4 p hp'.1 hp').2]
      exact this
    obtain ⟨σ4, e4, f4, l4, t4⟩ := c_part (d + 1) σ3 (nI (pdN σ)) am h sN (canN σ) hsN hcn 9 (Nat.le_refl 9) (pdN σ) h am σ3 (fun _ => 0) false .null .null hpd9 hm (fun p _ k => k) Fr_r (fun p _ k n => absurd k n) (fun p _ _ => rfl) (by rw [e67, j1 67 3 (by decide) (by simp), s03]; rfl)
    rw [hsh] at e4 l4 t4
    have hcall : Ex (d + 2) 7 0 [.ref 67, .int (σ3 1 0), .int am, .null, .null, .null, .null, .null] [] G0 σ3 = some (some (.int (bI (bearS B σ s g))), G0, σ4) := by
      rw [q3 1 (by decide), hpd, b7_0]
      exact e4
    rw [hcall]
    simp only [Option.bind_some, Option.toList_some, Option.toList_none, List.cons_append, List.nil_append, i01a, i01b, if_true, if_false, b3_232, bI_z, bI_o, bI_em, ite_not, i10, i01, eq_self, if_true, if_false, true_and, false_and, and_true, and_false, not_true, not_false_iff, true_or, or_true, false_or, or_false, ne_eq, not_true_eq_false, not_false_eq_true]
    have g4 : Fr SCB [(67, 2), (67, 3)] σ σ4 := Fr_t (Fr_m f1 (by decide) (by simp)) (Fr_t (Fr_m f3 (by decide) (by simp)) (Fr_m f4 (by decide) (by simp)))
    refine ⟨σ4, rfl, g4, ?_, ?_, ?_, ?_, ?_⟩
    · exact MEM_fr m3 (fun q hq => Fr_q f4 (by simp at hq ⊢; omega) (by simp at hq ⊢; omega)) (f4 67 8 (by decide) (by simp)) (f4 67 9 (by decide) (by simp))
    · rw [f4 67 2 (by decide) (by simp), e67]
      refine M_ext j2 (fun p hp => ?_)
      exact decide_eq_decide.mpr ⟨fun k => k.2, fun k => ⟨k.1, k⟩⟩
    · rw [t4]
      exact bI_c ⟨fun k => k.elim (fun e => by cases e) (fun e => e.2), fun k => Or.inr ⟨by omega, k⟩⟩
    · intro p hp
      unfold loadS loadO
      have hp8 : p < 8 := by omega
      cases hO : partS (canN σ) 9 (pdN σ) (sh B σ s g) (fun _ => 0) with
      | none => rw [hO] at l4; exact l4 p hp8
      | some f =>
        rw [hO] at l4
        dsimp only at l4 ⊢
        rw [l4 p hp8]
        by_cases k : h p = true
        · rw [if_pos k]
        · rw [if_neg k, e68, j3 p hp]
          have : sh B σ s g p = 0 := by rw [← hsh]; simp only [k]; rfl
          rw [part_out 9 _ _ _ f hO this rfl]; rfl
    · intro p hp k
      rw [f4 72 p (by decide) (by simp), e72]
      exact (j4 p k.1 k).2
  have hz : (bm = 0) = (su (sh0 B σ s g) 8 = 0) := by
    rw [M_z k3]
    refine propext ⟨fun e => su_z.mpr (fun p hp => ?_), fun e p hp => decide_eq_false (fun h => by have := su_z.mp e p hp; omega)⟩
    by_cases hh : hold σ g p
    · have := of_decide_eq_false (e p hp)
      have h2 := hh.1
      apply Classical.byContradiction
      intro n
      exact this ⟨h2, hh, by omega⟩
    · unfold sh0; rw [if_neg hh]
  by_cases z : su (sh0 B σ s g) 8 = 0
  · simp only [hz, eq_true z, i10, i01, eq_self, if_true, if_false, true_and, false_and, and_true, and_false, not_true, not_false_iff, true_or, or_true, false_or, or_false, ne_eq, not_true_eq_false, not_false_eq_true, c_fill71, Option.bind_some, Option.toList_some, Option.toList_none, List.cons_append, List.nil_append, i01a, i01b, if_true, if_false, b3_216]
    have fm : Fr [16, 69, 71, 73] [] σ1 (fiS σ2 71 8 1) := Fr_t k1 (fun q k hq _ => by rw [fiS_q (fun e => hq (by simp [e]))])
    refine finish (fiS σ2 71 8 1) _ _ _ (fun p => decide (hold σ g p)) (fun _ => 1) fm ?_ ?_ (fun p k => of_decide_eq_true k) (fun p hp _ => ⟨fiS_k hp, by omega, by omega⟩) ?_
    · exact MEM_fr k2 (fun q hq => fiS_q (by simp at hq; omega)) (by rw [fiS_q (by decide)]) (by rw [fiS_q (by decide)])
    · rw [fiS_q (by decide), Fr_q k1 (show (67 : Nat) ∉ [16, 69, 71, 73] by decide) (by simp)]
      refine M_ext j2 (fun p hp => ?_)
      exact decide_eq_decide.mpr ⟨fun k => k.2, fun k => ⟨k.1, k⟩⟩
    · funext p
      unfold sh
      rw [if_pos z]
      by_cases hh : hold σ g p
      · rw [if_pos hh, if_pos (decide_eq_true hh)]
      · rw [if_neg hh, if_neg (by rw [decide_eq_false hh]; decide)]
  · simp only [hz, eq_false z, i10, i01, eq_self, if_true, if_false, true_and, false_and, and_true, and_false, not_true, not_false_iff, true_or, or_true, false_or, or_false, ne_eq, not_true_eq_false, not_false_eq_true]
    refine finish σ2 bm bm _ (fun p => decide (hold σ g p ∧ 0 < sh0 B σ s g p)) (sh0 B σ s g) k1 k2 ?_ (fun p k => (of_decide_eq_true k).1) (fun p hp k => ?_) ?_
    · refine M_ext k3 (fun p hp => ?_)
      exact decide_eq_decide.mpr ⟨fun k => k.2, fun k => ⟨k.1.1, k⟩⟩
    · have := of_decide_eq_true k
      exact ⟨k4 p this.1.1 this.1, this.2, sh0_le p⟩
    · funext p
      unfold sh
      rw [if_neg z]
      by_cases hh : hold σ g p ∧ 0 < sh0 B σ s g p
      · rw [if_pos (decide_eq_true hh)]
      · rw [if_neg (by rw [decide_eq_false hh]; decide)]
        by_cases h1 : hold σ g p
        · have : ¬ 0 < sh0 B σ s g p := fun e => hh ⟨h1, e⟩
          omega
        · unfold sh0; rw [if_neg h1]
