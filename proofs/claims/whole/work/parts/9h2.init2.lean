/-! L3: all holds at the beginning -/
theorem i_1 : ∀ k, k < 11 → sI 1 k = [400, 0, 50, 100, 0, 0, 0, 0, 0, 0, 0].getD k 0 := by decide +kernel
theorem i_2 : (sI 2 0 = 0 ∧ sI 8 0 = 3 ∧ sI 14 0 = 0 ∧ sI 14 1 = 0 ∧ sI 17 0 = 0 ∧ sI 17 1 = 0 ∧ sI 20 0 = 0 ∧ sI 20 1 = -1 ∧ sI 25 0 = 0) ∧ (sI 53 0 = 0 ∧ sI 53 1 = 0 ∧ sI 53 2 = -1 ∧ sI 67 8 = 0 ∧ sI 0 7 = 0 ∧ sI 0 8 = 0 ∧ sI 0 9 = 0 ∧ sI 0 10 = 0) := by decide +kernel
theorem i_3 : ∀ b, b < 8 → (sI 3 b = 0 ∧ sI 4 b = 0 ∧ sI 5 b = 0 ∧ sI 6 b = 0 ∧ sI 7 b = 0) ∧ (sI 9 b = -1 ∧ sI 10 b = 0 ∧ sI 11 b = 0 ∧ sI 12 b = 1 ∧ sI 13 b = -1) := by decide +kernel
theorem i_4 : (∀ k, k < 13 → k = 3 ∨ (5 ≤ k) → sI 112 k = 0) ∧ sI 112 22 = 0 ∧ sI 112 41 = 0 ∧ sI 112 42 = -1 ∧ sI 112 43 = 0 ∧ sI 112 58 = 0 ∧ sI 126 0 = 0 ∧ sI 126 1 = 0 := by decide +kernel
theorem i_5 : ∀ k, k < 31 → sI 113 k = 0 := by decide +kernel
theorem i_6 : ∀ b, b < 8 → sI 116 b = 0 ∧ sI 117 b = 0 ∧ sI 118 b = 0 ∧ sI 119 b = 0 ∧ sI 120 b = 0 ∧ sI 121 b = 0 ∧ sI 122 b = 0 := by decide +kernel
theorem i_7 : ∀ i, i < 138 → sI 125 i = nI (mw i) := by decide +kernel
theorem WI_i : WI [] [] sI := by
  obtain ⟨⟨e2, e8, a1, a2, a3, a4, a5, a6, a7⟩, _⟩ := i_2
  have ep : pr sI = 3 := by unfold pr; rw [e8]; rfl
  have en : np sI = 6 := by unfold np; rw [ep]
  have ez : sz sI = 0 := by unfold sz; rw [e2]; rfl
  have ew : wl sI = 0 := by unfold wl; rw [a5]; rfl
  have okE : okL [] := ⟨by decide, by decide, by decide, fun x hx => absurd hx List.not_mem_nil⟩
  have okf : ∀ j, okFa j [] := fun j x hx => absurd hx List.not_mem_nil
  intro i
  match i with
  | 0 => simp only [wi]; rw [i_1 0 (by decide)]; exact ⟨by decide, by decide⟩
  | 1 => simp only [wi]; rw [i_1 1 (by decide)]; exact Or.inl rfl
  | 2 => simp only [wi]; rw [i_1 3 (by decide)]; exact ⟨by decide, by decide⟩
  | 3 => simp only [wi]; rw [i_1 4 (by decide)]; exact ⟨by decide, by decide⟩
  | 4 => simp only [wi]; rw [ep, e8]; exact ⟨rfl, by decide, by decide⟩
  | 5 => simp only [wi]; rw [ez, e2]; exact ⟨rfl, by decide⟩
  | 6 => simp only [wi]; intro p hp; exact Or.inl (i_3 p hp).2.1
  | 7 => simp only [wi]; intro p q hp _ _ ne; exact absurd (i_3 p hp).2.1 ne
  | 8 => simp only [wi]; intro p hp; rw [(i_3 p hp).2.2.1]; exact ⟨by decide, by decide⟩
  | 9 => simp only [wi]; intro p hp; exact Or.inl (i_3 p hp).2.2.2.1
  | 10 => simp only [wi]; intro p hp; rw [(i_3 p hp).2.2.2.2.2]; exact ⟨by decide, by decide⟩
  | 11 => simp only [wi]; rw [ez]; intro b hb; omega
  | 12 => simp only [wi]; intro p hp; rw [(i_3 p hp).1.2.1]; exact ⟨by decide, by decide⟩
  | 13 => simp only [wi]; intro p hp; rw [(i_3 p hp).1.2.2.2.2]; exact ⟨by decide, by decide⟩
  | 14 => simp only [wi]; rw [a7]; exact ⟨by decide, by decide⟩
  | 15 => simp only [wi]; rw [ew, a5]; exact ⟨rfl, by decide⟩
  | 16 => simp only [wi]; rw [ew, i_1 9 (by decide)]; exact ⟨by decide, by decide⟩
  | 17 => simp only [wi]; rw [i_1 10 (by decide)]; exact ⟨by decide, by decide⟩
  | 18 => simp only [wi]; rw [ew]; intro l hl; omega
  | 19 => simp only [wi]; rw [ew]; exact Or.inl ⟨a6, fun l hl => by omega⟩
  | 20 => simp only [wi]; exact ⟨⟨a1, a2, fun i hi => absurd hi (Nat.not_lt_zero i)⟩, okE, okf 0⟩
  | 21 => simp only [wi]; exact ⟨⟨a3, a4, fun i hi => absurd hi (Nat.not_lt_zero i)⟩, okE, okf 1⟩
  | 22 => simp only [wi]; intro p hp; rw [(i_3 p hp).2.2.2.2.1]; exact ⟨by decide, by decide⟩
  | _ + 23 => trivial
theorem MR_i : MR [] [] sI sI := by
  obtain ⟨⟨e2, e8, a1, a2, a3, a4, a5, a6, a7⟩, _⟩ := i_2
  obtain ⟨m, m22, m41, m42, m43, m58, m1, m2⟩ := i_4
  have ew : wl sI = 0 := by unfold wl; rw [a5]; rfl
  intro i
  match i with
  | 0 => simp only [mr]; rw [m 6 (by decide) (by decide), i_1 0 (by decide)]; decide
  | 1 => simp only [mr]; rw [m 7 (by decide) (by decide), e8]; decide
  | 2 => simp only [mr]; rw [m 8 (by decide) (by decide), i_1 2 (by decide)]; decide
  | 3 => simp only [mr]; rw [m 9 (by decide) (by decide), i_1 3 (by decide)]; decide
  | 4 => simp only [mr]; rw [m 10 (by decide) (by decide), i_1 1 (by decide)]; decide
  | 5 => simp only [mr]; rw [m 11 (by decide) (by decide), i_1 4 (by decide)]; decide
  | 6 => simp only [mr]; rw [m 12 (by decide) (by decide), e2]
  | 7 => simp only [mr]; rw [i_5 0 (by decide), i_1 6 (by decide)]; decide
  | 8 => simp only [mr]; rw [i_5 1 (by decide), i_1 5 (by decide)]; decide
  | 9 => simp only [mr]; rw [i_5 2 (by decide), a7]
  | 10 => simp only [mr]; rw [i_5 3 (by decide), i_1 7 (by decide)]; decide
  | 11 => simp only [mr]; rw [i_5 4 (by decide), i_1 8 (by decide)]; decide
  | 12 => simp only [mr]; rw [i_5 5 (by decide), i_1 9 (by decide)]; decide
  | 13 => simp only [mr]; rw [i_5 6 (by decide), i_1 10 (by decide)]; decide
  | 14 => simp only [mr]; intro p hp; rw [i_5 (7 + p) (by omega), (i_3 p hp).2.1]; decide
  | 15 => simp only [mr]; intro p hp; rw [i_5 (15 + p) (by omega), (i_3 p hp).2.2.1]
  | 16 => simp only [mr]; intro p hp; rw [i_5 (23 + p) (by omega), (i_3 p hp).1.2.2.2.2]
  | 17 => simp only [mr]; intro p hp; rw [(i_6 p hp).1, (i_3 p hp).1.1]
  | 18 => simp only [mr]; intro p hp; rw [(i_6 p hp).2.1, (i_3 p hp).1.2.1]
  | 19 => simp only [mr]; intro p hp; rw [(i_6 p hp).2.2.1, (i_3 p hp).1.2.2.1]
  | 20 => simp only [mr]; intro p hp; rw [(i_6 p hp).2.2.2.1, (i_3 p hp).1.2.2.2.1]
  | 21 => simp only [mr]; intro p hp; rw [(i_6 p hp).2.2.2.2.1, (i_3 p hp).2.2.2.1]
  | 22 => simp only [mr]; intro p hp; rw [(i_6 p hp).2.2.2.2.2.1, (i_3 p hp).2.2.2.2.1]; decide
  | 23 => simp only [mr]; intro p hp; rw [(i_6 p hp).2.2.2.2.2.2, (i_3 p hp).2.2.2.2.2]; decide
  | 24 => simp only [mr]; rw [m43, a5]
  | 25 => simp only [mr]; rw [ew]; intro l hl; omega
  | 26 => simp only [mr]; rw [a7]; intro i hi; exact absurd hi (Nat.not_lt_zero i)
  | 27 => simp only [mr]; rw [m1, a1]
  | 28 => simp only [mr]; rw [m2, a3]
  | 29 => simp only [mr]; exact ⟨fun k hk => absurd hk (Nat.not_lt_zero k), fun k hk => absurd hk (Nat.not_lt_zero k)⟩
  | 30 => simp only [mr]; exact ⟨fun k hk => absurd hk (Nat.not_lt_zero k), fun k hk => absurd hk (Nat.not_lt_zero k)⟩
  | _ + 31 => trivial
theorem INV_i : INV sI := by
  obtain ⟨_, b0, b1, b2, b67, b7, b8, b9, b10⟩ := i_2
  obtain ⟨m, m22, m41, m42, m43, m58, _⟩ := i_4
  exact ⟨[], [], [], WI_i, MR_i, UL_0, ⟨b8, 0, by decide, b7, fun j hj => absurd hj (Nat.not_lt_zero j)⟩, MU_0 (m 3 (by decide) (by decide)), KN_0 b10, m 5 (by decide) (by decide), b67, ⟨⟨fun _ => 0, 0, ⟨by decide, b0, fun i hi => absurd hi (Nat.not_lt_zero i)⟩, ⟨by decide, m22, fun i hi => absurd hi (Nat.not_lt_zero i), i_7⟩⟩, ⟨b1.trans m41.symm, b2.trans m42.symm⟩, Or.inl ⟨b9, m58⟩⟩, List.Pairwise.nil⟩
