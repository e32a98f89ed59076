/-! L3: the model's pace -/
theorem carW_q {B T : LW} {σ : Sig} {s gr g : Int32} {q : Nat} (h : q ≠ 7) (h1 : q ≠ 1) : carW B T σ s gr g q = σ q := by
  unfold carW; rw [pt_q h1, carT_q h]
theorem carW_1 {B T : LW} {σ : Sig} {s gr g : Int32} {k : Nat} (h : k ≠ 8) : carW B T σ s gr g 1 k = σ 1 k := by
  unfold carW; rw [pt_k h, carT_q (by decide)]
theorem carW_8 {B T : LW} {σ : Sig} {s gr g : Int32} : carW B T σ s gr g 1 8 = swN σ (wrongS σ g) := by
  unfold carW; rw [pt_e]
theorem carW_7 {B T : LW} {σ : Sig} {s gr g : Int32} : carW B T σ s gr g 7 = carT B T σ s gr g 8 7 := by
  unfold carW; rw [pt_q (by decide)]
theorem tire_r {B T : LW} {σ : Sig} {s gr g : Int32} {p : Nat} : ∃ n : Nat, n ≤ 99 ∧ tireS B T σ s gr g p = nI n := by
  unfold tireS
  generalize lawS (tireF B σ s gr g p) T (nI (loadS B σ s g p) / 20) = v
  rw [mxmn (by decide)]
  by_cases a : 0 ≤ v
  · rw [if_pos a]
    by_cases b : v ≤ 99
    · rw [if_pos b]
      obtain ⟨n, e, _, h, _⟩ := bwN (x := v) (a := 0) (b := 99) ⟨Int32.le_iff_toInt_le.mp a, Int32.le_iff_toInt_le.mp b⟩
      exact ⟨n, h, e⟩
    · rw [if_neg b]; exact ⟨99, by omega, rfl⟩
  · rw [if_neg a]; exact ⟨0, by omega, rfl⟩
theorem mn_n {a b : Nat} (ha : a < 2 ^ 31) (hb : b < 2 ^ 31) : mn (nI a) (nI b) = nI (min a b) := by
  unfold mn
  have e := nJ_lt hb ha
  by_cases h : b < a
  · rw [if_pos (by rw [e]; exact h), Nat.min_eq_right (by omega)]
  · rw [if_neg (by rw [e]; exact h), Nat.min_eq_left (by omega)]
theorem carT_bw {B T : LW} {σ : Sig} {s gr g : Int32} (hW : WI B T σ) {b : Nat} (hb : b < 8) : ∀ n, n ≤ 8 → bw (carT B T σ s gr g n 7 b) 0 1000 := by
  have h13 : wi B T σ 13 := hW 13
  intro n
  induction n with
  | zero => intro _; exact h13 b hb
  | succ n ih =>
    intro hn
    show bw (carF B T σ s gr g n (carT B T σ s gr g n) 7 b) 0 1000
    unfold carF
    split
    · rename_i hh
      by_cases e : b = wN σ n
      · subst e
        rw [pt_e]
        obtain ⟨x, ex, _, lx, _⟩ := bwN (a := 0) (b := 1000) (h13 _ hb)
        obtain ⟨t, lt, et⟩ := tire_r (B := B) (T := T) (σ := σ) (s := s) (gr := gr) (g := g) (p := n)
        have e1000 : (1000 : Int32) = nI 1000 := rfl
        rw [ex, et, nI_add, e1000, mn_n (by omega) (by omega)]
        unfold bw
        rw [nI_i (by omega)]
        omega
      · rw [pt_k e]; exact ih (by omega)
    · exact ih (by omega)
theorem WI_car {B T : LW} {σ : Sig} {s gr g : Int32} (hW : WI B T σ) : WI B T (carW B T σ s gr g) := by
  have q : ∀ q, q ≠ 7 → q ≠ 1 → carW B T σ s gr g q = σ q := fun q h h1 => carW_q h h1
  intro i
  have h := hW i
  match i, h with
  | 0, h => (simp only [wi, np, pr, sz, wl, paced] at h ⊢; (try simp (disch := decide) only [carW_1 (show (0 : Nat) ≠ 8 by decide), carW_1 (show (1 : Nat) ≠ 8 by decide), carW_1 (show (3 : Nat) ≠ 8 by decide), carW_1 (show (4 : Nat) ≠ 8 by decide), carW_1 (show (9 : Nat) ≠ 8 by decide), carW_1 (show (10 : Nat) ≠ 8 by decide), q 2 (by decide) (by decide), q 3 (by decide) (by decide), q 4 (by decide) (by decide), q 8 (by decide) (by decide), q 9 (by decide) (by decide), q 10 (by decide) (by decide), q 11 (by decide) (by decide), q 12 (by decide) (by decide), q 13 (by decide) (by decide), q 14 (by decide) (by decide), q 15 (by decide) (by decide), q 17 (by decide) (by decide), q 18 (by decide) (by decide), q 20 (by decide) (by decide), q 21 (by decide) (by decide), q 22 (by decide) (by decide), q 23 (by decide) (by decide), q 24 (by decide) (by decide), q 25 (by decide) (by decide)]); first | done | exact h)
  | 1, h => (simp only [wi, np, pr, sz, wl, paced] at h ⊢; (try simp (disch := decide) only [carW_1 (show (0 : Nat) ≠ 8 by decide), carW_1 (show (1 : Nat) ≠ 8 by decide), carW_1 (show (3 : Nat) ≠ 8 by decide), carW_1 (show (4 : Nat) ≠ 8 by decide), carW_1 (show (9 : Nat) ≠ 8 by decide), carW_1 (show (10 : Nat) ≠ 8 by decide), q 2 (by decide) (by decide), q 3 (by decide) (by decide), q 4 (by decide) (by decide), q 8 (by decide) (by decide), q 9 (by decide) (by decide), q 10 (by decide) (by decide), q 11 (by decide) (by decide), q 12 (by decide) (by decide), q 13 (by decide) (by decide), q 14 (by decide) (by decide), q 15 (by decide) (by decide), q 17 (by decide) (by decide), q 18 (by decide) (by decide), q 20 (by decide) (by decide), q 21 (by decide) (by decide), q 22 (by decide) (by decide), q 23 (by decide) (by decide), q 24 (by decide) (by decide), q 25 (by decide) (by decide)]); first | done | exact h)
  | 2, h => (simp only [wi, np, pr, sz, wl, paced] at h ⊢; (try simp (disch := decide) only [carW_1 (show (0 : Nat) ≠ 8 by decide), carW_1 (show (1 : Nat) ≠ 8 by decide), carW_1 (show (3 : Nat) ≠ 8 by decide), carW_1 (show (4 : Nat) ≠ 8 by decide), carW_1 (show (9 : Nat) ≠ 8 by decide), carW_1 (show (10 : Nat) ≠ 8 by decide), q 2 (by decide) (by decide), q 3 (by decide) (by decide), q 4 (by decide) (by decide), q 8 (by decide) (by decide), q 9 (by decide) (by decide), q 10 (by decide) (by decide), q 11 (by decide) (by decide), q 12 (by decide) (by decide), q 13 (by decide) (by decide), q 14 (by decide) (by decide), q 15 (by decide) (by decide), q 17 (by decide) (by decide), q 18 (by decide) (by decide), q 20 (by decide) (by decide), q 21 (by decide) (by decide), q 22 (by decide) (by decide), q 23 (by decide) (by decide), q 24 (by decide) (by decide), q 25 (by decide) (by decide)]); first | done | exact h)
  | 3, h => (simp only [wi, np, pr, sz, wl, paced] at h ⊢; (try simp (disch := decide) only [carW_1 (show (0 : Nat) ≠ 8 by decide), carW_1 (show (1 : Nat) ≠ 8 by decide), carW_1 (show (3 : Nat) ≠ 8 by decide), carW_1 (show (4 : Nat) ≠ 8 by decide), carW_1 (show (9 : Nat) ≠ 8 by decide), carW_1 (show (10 : Nat) ≠ 8 by decide), q 2 (by decide) (by decide), q 3 (by decide) (by decide), q 4 (by decide) (by decide), q 8 (by decide) (by decide), q 9 (by decide) (by decide), q 10 (by decide) (by decide), q 11 (by decide) (by decide), q 12 (by decide) (by decide), q 13 (by decide) (by decide), q 14 (by decide) (by decide), q 15 (by decide) (by decide), q 17 (by decide) (by decide), q 18 (by decide) (by decide), q 20 (by decide) (by decide), q 21 (by decide) (by decide), q 22 (by decide) (by decide), q 23 (by decide) (by decide), q 24 (by decide) (by decide), q 25 (by decide) (by decide)]); first | done | exact h)
  | 4, h => (simp only [wi, np, pr, sz, wl, paced] at h ⊢; (try simp (disch := decide) only [carW_1 (show (0 : Nat) ≠ 8 by decide), carW_1 (show (1 : Nat) ≠ 8 by decide), carW_1 (show (3 : Nat) ≠ 8 by decide), carW_1 (show (4 : Nat) ≠ 8 by decide), carW_1 (show (9 : Nat) ≠ 8 by decide), carW_1 (show (10 : Nat) ≠ 8 by decide), q 2 (by decide) (by decide), q 3 (by decide) (by decide), q 4 (by decide) (by decide), q 8 (by decide) (by decide), q 9 (by decide) (by decide), q 10 (by decide) (by decide), q 11 (by decide) (by decide), q 12 (by decide) (by decide), q 13 (by decide) (by decide), q 14 (by decide) (by decide), q 15 (by decide) (by decide), q 17 (by decide) (by decide), q 18 (by decide) (by decide), q 20 (by decide) (by decide), q 21 (by decide) (by decide), q 22 (by decide) (by decide), q 23 (by decide) (by decide), q 24 (by decide) (by decide), q 25 (by decide) (by decide)]); first | done | exact h)
  | 5, h => (simp only [wi, np, pr, sz, wl, paced] at h ⊢; (try simp (disch := decide) only [carW_1 (show (0 : Nat) ≠ 8 by decide), carW_1 (show (1 : Nat) ≠ 8 by decide), carW_1 (show (3 : Nat) ≠ 8 by decide), carW_1 (show (4 : Nat) ≠ 8 by decide), carW_1 (show (9 : Nat) ≠ 8 by decide), carW_1 (show (10 : Nat) ≠ 8 by decide), q 2 (by decide) (by decide), q 3 (by decide) (by decide), q 4 (by decide) (by decide), q 8 (by decide) (by decide), q 9 (by decide) (by decide), q 10 (by decide) (by decide), q 11 (by decide) (by decide), q 12 (by decide) (by decide), q 13 (by decide) (by decide), q 14 (by decide) (by decide), q 15 (by decide) (by decide), q 17 (by decide) (by decide), q 18 (by decide) (by decide), q 20 (by decide) (by decide), q 21 (by decide) (by decide), q 22 (by decide) (by decide), q 23 (by decide) (by decide), q 24 (by decide) (by decide), q 25 (by decide) (by decide)]); first | done | exact h)
  | 6, h => (simp only [wi, np, pr, sz, wl, paced] at h ⊢; (try simp (disch := decide) only [carW_1 (show (0 : Nat) ≠ 8 by decide), carW_1 (show (1 : Nat) ≠ 8 by decide), carW_1 (show (3 : Nat) ≠ 8 by decide), carW_1 (show (4 : Nat) ≠ 8 by decide), carW_1 (show (9 : Nat) ≠ 8 by decide), carW_1 (show (10 : Nat) ≠ 8 by decide), q 2 (by decide) (by decide), q 3 (by decide) (by decide), q 4 (by decide) (by decide), q 8 (by decide) (by decide), q 9 (by decide) (by decide), q 10 (by decide) (by decide), q 11 (by decide) (by decide), q 12 (by decide) (by decide), q 13 (by decide) (by decide), q 14 (by decide) (by decide), q 15 (by decide) (by decide), q 17 (by decide) (by decide), q 18 (by decide) (by decide), q 20 (by decide) (by decide), q 21 (by decide) (by decide), q 22 (by decide) (by decide), q 23 (by decide) (by decide), q 24 (by decide) (by decide), q 25 (by decide) (by decide)]); first | done | exact h)
  | 7, h => (simp only [wi, np, pr, sz, wl, paced] at h ⊢; (try simp (disch := decide) only [carW_1 (show (0 : Nat) ≠ 8 by decide), carW_1 (show (1 : Nat) ≠ 8 by decide), carW_1 (show (3 : Nat) ≠ 8 by decide), carW_1 (show (4 : Nat) ≠ 8 by decide), carW_1 (show (9 : Nat) ≠ 8 by decide), carW_1 (show (10 : Nat) ≠ 8 by decide), q 2 (by decide) (by decide), q 3 (by decide) (by decide), q 4 (by decide) (by decide), q 8 (by decide) (by decide), q 9 (by decide) (by decide), q 10 (by decide) (by decide), q 11 (by decide) (by decide), q 12 (by decide) (by decide), q 13 (by decide) (by decide), q 14 (by decide) (by decide), q 15 (by decide) (by decide), q 17 (by decide) (by decide), q 18 (by decide) (by decide), q 20 (by decide) (by decide), q 21 (by decide) (by decide), q 22 (by decide) (by decide), q 23 (by decide) (by decide), q 24 (by decide) (by decide), q 25 (by decide) (by decide)]); first | done | exact h)
  | 8, h => (simp only [wi, np, pr, sz, wl, paced] at h ⊢; (try simp (disch := decide) only [carW_1 (show (0 : Nat) ≠ 8 by decide), carW_1 (show (1 : Nat) ≠ 8 by decide), carW_1 (show (3 : Nat) ≠ 8 by decide), carW_1 (show (4 : Nat) ≠ 8 by decide), carW_1 (show (9 : Nat) ≠ 8 by decide), carW_1 (show (10 : Nat) ≠ 8 by decide), q 2 (by decide) (by decide), q 3 (by decide) (by decide), q 4 (by decide) (by decide), q 8 (by decide) (by decide), q 9 (by decide) (by decide), q 10 (by decide) (by decide), q 11 (by decide) (by decide), q 12 (by decide) (by decide), q 13 (by decide) (by decide), q 14 (by decide) (by decide), q 15 (by decide) (by decide), q 17 (by decide) (by decide), q 18 (by decide) (by decide), q 20 (by decide) (by decide), q 21 (by decide) (by decide), q 22 (by decide) (by decide), q 23 (by decide) (by decide), q 24 (by decide) (by decide), q 25 (by decide) (by decide)]); first | done | exact h)
  | 9, h => (simp only [wi, np, pr, sz, wl, paced] at h ⊢; (try simp (disch := decide) only [carW_1 (show (0 : Nat) ≠ 8 by decide), carW_1 (show (1 : Nat) ≠ 8 by decide), carW_1 (show (3 : Nat) ≠ 8 by decide), carW_1 (show (4 : Nat) ≠ 8 by decide), carW_1 (show (9 : Nat) ≠ 8 by decide), carW_1 (show (10 : Nat) ≠ 8 by decide), q 2 (by decide) (by decide), q 3 (by decide) (by decide), q 4 (by decide) (by decide), q 8 (by decide) (by decide), q 9 (by decide) (by decide), q 10 (by decide) (by decide), q 11 (by decide) (by decide), q 12 (by decide) (by decide), q 13 (by decide) (by decide), q 14 (by decide) (by decide), q 15 (by decide) (by decide), q 17 (by decide) (by decide), q 18 (by decide) (by decide), q 20 (by decide) (by decide), q 21 (by decide) (by decide), q 22 (by decide) (by decide), q 23 (by decide) (by decide), q 24 (by decide) (by decide), q 25 (by decide) (by decide)]); first | done | exact h)
  | 10, h => (simp only [wi, np, pr, sz, wl, paced] at h ⊢; (try simp (disch := decide) only [carW_1 (show (0 : Nat) ≠ 8 by decide), carW_1 (show (1 : Nat) ≠ 8 by decide), carW_1 (show (3 : Nat) ≠ 8 by decide), carW_1 (show (4 : Nat) ≠ 8 by decide), carW_1 (show (9 : Nat) ≠ 8 by decide), carW_1 (show (10 : Nat) ≠ 8 by decide), q 2 (by decide) (by decide), q 3 (by decide) (by decide), q 4 (by decide) (by decide), q 8 (by decide) (by decide), q 9 (by decide) (by decide), q 10 (by decide) (by decide), q 11 (by decide) (by decide), q 12 (by decide) (by decide), q 13 (by decide) (by decide), q 14 (by decide) (by decide), q 15 (by decide) (by decide), q 17 (by decide) (by decide), q 18 (by decide) (by decide), q 20 (by decide) (by decide), q 21 (by decide) (by decide), q 22 (by decide) (by decide), q 23 (by decide) (by decide), q 24 (by decide) (by decide), q 25 (by decide) (by decide)]); first | done | exact h)
  | 11, h => (simp only [wi, np, pr, sz, wl, paced] at h ⊢; (try simp (disch := decide) only [carW_1 (show (0 : Nat) ≠ 8 by decide), carW_1 (show (1 : Nat) ≠ 8 by decide), carW_1 (show (3 : Nat) ≠ 8 by decide), carW_1 (show (4 : Nat) ≠ 8 by decide), carW_1 (show (9 : Nat) ≠ 8 by decide), carW_1 (show (10 : Nat) ≠ 8 by decide), q 2 (by decide) (by decide), q 3 (by decide) (by decide), q 4 (by decide) (by decide), q 8 (by decide) (by decide), q 9 (by decide) (by decide), q 10 (by decide) (by decide), q 11 (by decide) (by decide), q 12 (by decide) (by decide), q 13 (by decide) (by decide), q 14 (by decide) (by decide), q 15 (by decide) (by decide), q 17 (by decide) (by decide), q 18 (by decide) (by decide), q 20 (by decide) (by decide), q 21 (by decide) (by decide), q 22 (by decide) (by decide), q 23 (by decide) (by decide), q 24 (by decide) (by decide), q 25 (by decide) (by decide)]); first | done | exact h)
  | 12, h => (simp only [wi, np, pr, sz, wl, paced] at h ⊢; (try simp (disch := decide) only [carW_1 (show (0 : Nat) ≠ 8 by decide), carW_1 (show (1 : Nat) ≠ 8 by decide), carW_1 (show (3 : Nat) ≠ 8 by decide), carW_1 (show (4 : Nat) ≠ 8 by decide), carW_1 (show (9 : Nat) ≠ 8 by decide), carW_1 (show (10 : Nat) ≠ 8 by decide), q 2 (by decide) (by decide), q 3 (by decide) (by decide), q 4 (by decide) (by decide), q 8 (by decide) (by decide), q 9 (by decide) (by decide), q 10 (by decide) (by decide), q 11 (by decide) (by decide), q 12 (by decide) (by decide), q 13 (by decide) (by decide), q 14 (by decide) (by decide), q 15 (by decide) (by decide), q 17 (by decide) (by decide), q 18 (by decide) (by decide), q 20 (by decide) (by decide), q 21 (by decide) (by decide), q 22 (by decide) (by decide), q 23 (by decide) (by decide), q 24 (by decide) (by decide), q 25 (by decide) (by decide)]); first | done | exact h)
  | 13, h => (show ∀ b, b < 8 → bw (carW B T σ s gr g 7 b) 0 1000; intro b hb; rw [carW_7]; exact carT_bw hW hb 8 (Nat.le_refl 8))
  | 14, h => (simp only [wi, np, pr, sz, wl, paced] at h ⊢; (try simp (disch := decide) only [carW_1 (show (0 : Nat) ≠ 8 by decide), carW_1 (show (1 : Nat) ≠ 8 by decide), carW_1 (show (3 : Nat) ≠ 8 by decide), carW_1 (show (4 : Nat) ≠ 8 by decide), carW_1 (show (9 : Nat) ≠ 8 by decide), carW_1 (show (10 : Nat) ≠ 8 by decide), q 2 (by decide) (by decide), q 3 (by decide) (by decide), q 4 (by decide) (by decide), q 8 (by decide) (by decide), q 9 (by decide) (by decide), q 10 (by decide) (by decide), q 11 (by decide) (by decide), q 12 (by decide) (by decide), q 13 (by decide) (by decide), q 14 (by decide) (by decide), q 15 (by decide) (by decide), q 17 (by decide) (by decide), q 18 (by decide) (by decide), q 20 (by decide) (by decide), q 21 (by decide) (by decide), q 22 (by decide) (by decide), q 23 (by decide) (by decide), q 24 (by decide) (by decide), q 25 (by decide) (by decide)]); first | done | exact h)
  | 15, h => (simp only [wi, np, pr, sz, wl, paced] at h ⊢; (try simp (disch := decide) only [carW_1 (show (0 : Nat) ≠ 8 by decide), carW_1 (show (1 : Nat) ≠ 8 by decide), carW_1 (show (3 : Nat) ≠ 8 by decide), carW_1 (show (4 : Nat) ≠ 8 by decide), carW_1 (show (9 : Nat) ≠ 8 by decide), carW_1 (show (10 : Nat) ≠ 8 by decide), q 2 (by decide) (by decide), q 3 (by decide) (by decide), q 4 (by decide) (by decide), q 8 (by decide) (by decide), q 9 (by decide) (by decide), q 10 (by decide) (by decide), q 11 (by decide) (by decide), q 12 (by decide) (by decide), q 13 (by decide) (by decide), q 14 (by decide) (by decide), q 15 (by decide) (by decide), q 17 (by decide) (by decide), q 18 (by decide) (by decide), q 20 (by decide) (by decide), q 21 (by decide) (by decide), q 22 (by decide) (by decide), q 23 (by decide) (by decide), q 24 (by decide) (by decide), q 25 (by decide) (by decide)]); first | done | exact h)
  | 16, h => (simp only [wi, np, pr, sz, wl, paced] at h ⊢; (try simp (disch := decide) only [carW_1 (show (0 : Nat) ≠ 8 by decide), carW_1 (show (1 : Nat) ≠ 8 by decide), carW_1 (show (3 : Nat) ≠ 8 by decide), carW_1 (show (4 : Nat) ≠ 8 by decide), carW_1 (show (9 : Nat) ≠ 8 by decide), carW_1 (show (10 : Nat) ≠ 8 by decide), q 2 (by decide) (by decide), q 3 (by decide) (by decide), q 4 (by decide) (by decide), q 8 (by decide) (by decide), q 9 (by decide) (by decide), q 10 (by decide) (by decide), q 11 (by decide) (by decide), q 12 (by decide) (by decide), q 13 (by decide) (by decide), q 14 (by decide) (by decide), q 15 (by decide) (by decide), q 17 (by decide) (by decide), q 18 (by decide) (by decide), q 20 (by decide) (by decide), q 21 (by decide) (by decide), q 22 (by decide) (by decide), q 23 (by decide) (by decide), q 24 (by decide) (by decide), q 25 (by decide) (by decide)]); first | done | exact h)
  | 17, h => (simp only [wi, np, pr, sz, wl, paced] at h ⊢; (try simp (disch := decide) only [carW_1 (show (0 : Nat) ≠ 8 by decide), carW_1 (show (1 : Nat) ≠ 8 by decide), carW_1 (show (3 : Nat) ≠ 8 by decide), carW_1 (show (4 : Nat) ≠ 8 by decide), carW_1 (show (9 : Nat) ≠ 8 by decide), carW_1 (show (10 : Nat) ≠ 8 by decide), q 2 (by decide) (by decide), q 3 (by decide) (by decide), q 4 (by decide) (by decide), q 8 (by decide) (by decide), q 9 (by decide) (by decide), q 10 (by decide) (by decide), q 11 (by decide) (by decide), q 12 (by decide) (by decide), q 13 (by decide) (by decide), q 14 (by decide) (by decide), q 15 (by decide) (by decide), q 17 (by decide) (by decide), q 18 (by decide) (by decide), q 20 (by decide) (by decide), q 21 (by decide) (by decide), q 22 (by decide) (by decide), q 23 (by decide) (by decide), q 24 (by decide) (by decide), q 25 (by decide) (by decide)]); first | done | exact h)
  | 18, h => (simp only [wi, np, pr, sz, wl, paced] at h ⊢; (try simp (disch := decide) only [carW_1 (show (0 : Nat) ≠ 8 by decide), carW_1 (show (1 : Nat) ≠ 8 by decide), carW_1 (show (3 : Nat) ≠ 8 by decide), carW_1 (show (4 : Nat) ≠ 8 by decide), carW_1 (show (9 : Nat) ≠ 8 by decide), carW_1 (show (10 : Nat) ≠ 8 by decide), q 2 (by decide) (by decide), q 3 (by decide) (by decide), q 4 (by decide) (by decide), q 8 (by decide) (by decide), q 9 (by decide) (by decide), q 10 (by decide) (by decide), q 11 (by decide) (by decide), q 12 (by decide) (by decide), q 13 (by decide) (by decide), q 14 (by decide) (by decide), q 15 (by decide) (by decide), q 17 (by decide) (by decide), q 18 (by decide) (by decide), q 20 (by decide) (by decide), q 21 (by decide) (by decide), q 22 (by decide) (by decide), q 23 (by decide) (by decide), q 24 (by decide) (by decide), q 25 (by decide) (by decide)]); first | done | exact h)
  | 19, h => (simp only [wi, np, pr, sz, wl, paced] at h ⊢; (try simp (disch := decide) only [carW_1 (show (0 : Nat) ≠ 8 by decide), carW_1 (show (1 : Nat) ≠ 8 by decide), carW_1 (show (3 : Nat) ≠ 8 by decide), carW_1 (show (4 : Nat) ≠ 8 by decide), carW_1 (show (9 : Nat) ≠ 8 by decide), carW_1 (show (10 : Nat) ≠ 8 by decide), q 2 (by decide) (by decide), q 3 (by decide) (by decide), q 4 (by decide) (by decide), q 8 (by decide) (by decide), q 9 (by decide) (by decide), q 10 (by decide) (by decide), q 11 (by decide) (by decide), q 12 (by decide) (by decide), q 13 (by decide) (by decide), q 14 (by decide) (by decide), q 15 (by decide) (by decide), q 17 (by decide) (by decide), q 18 (by decide) (by decide), q 20 (by decide) (by decide), q 21 (by decide) (by decide), q 22 (by decide) (by decide), q 23 (by decide) (by decide), q 24 (by decide) (by decide), q 25 (by decide) (by decide)]); first | done | exact h)
  | 20, h => (simp only [wi, np, pr, sz, wl, paced] at h ⊢; (try simp (disch := decide) only [carW_1 (show (0 : Nat) ≠ 8 by decide), carW_1 (show (1 : Nat) ≠ 8 by decide), carW_1 (show (3 : Nat) ≠ 8 by decide), carW_1 (show (4 : Nat) ≠ 8 by decide), carW_1 (show (9 : Nat) ≠ 8 by decide), carW_1 (show (10 : Nat) ≠ 8 by decide), q 2 (by decide) (by decide), q 3 (by decide) (by decide), q 4 (by decide) (by decide), q 8 (by decide) (by decide), q 9 (by decide) (by decide), q 10 (by decide) (by decide), q 11 (by decide) (by decide), q 12 (by decide) (by decide), q 13 (by decide) (by decide), q 14 (by decide) (by decide), q 15 (by decide) (by decide), q 17 (by decide) (by decide), q 18 (by decide) (by decide), q 20 (by decide) (by decide), q 21 (by decide) (by decide), q 22 (by decide) (by decide), q 23 (by decide) (by decide), q 24 (by decide) (by decide), q 25 (by decide) (by decide)]); first | done | exact h)
  | 21, h => (simp only [wi, np, pr, sz, wl, paced] at h ⊢; (try simp (disch := decide) only [carW_1 (show (0 : Nat) ≠ 8 by decide), carW_1 (show (1 : Nat) ≠ 8 by decide), carW_1 (show (3 : Nat) ≠ 8 by decide), carW_1 (show (4 : Nat) ≠ 8 by decide), carW_1 (show (9 : Nat) ≠ 8 by decide), carW_1 (show (10 : Nat) ≠ 8 by decide), q 2 (by decide) (by decide), q 3 (by decide) (by decide), q 4 (by decide) (by decide), q 8 (by decide) (by decide), q 9 (by decide) (by decide), q 10 (by decide) (by decide), q 11 (by decide) (by decide), q 12 (by decide) (by decide), q 13 (by decide) (by decide), q 14 (by decide) (by decide), q 15 (by decide) (by decide), q 17 (by decide) (by decide), q 18 (by decide) (by decide), q 20 (by decide) (by decide), q 21 (by decide) (by decide), q 22 (by decide) (by decide), q 23 (by decide) (by decide), q 24 (by decide) (by decide), q 25 (by decide) (by decide)]); first | done | exact h)
  | 22, h => (simp only [wi, np, pr, sz, wl, paced] at h ⊢; (try simp (disch := decide) only [carW_1 (show (0 : Nat) ≠ 8 by decide), carW_1 (show (1 : Nat) ≠ 8 by decide), carW_1 (show (3 : Nat) ≠ 8 by decide), carW_1 (show (4 : Nat) ≠ 8 by decide), carW_1 (show (9 : Nat) ≠ 8 by decide), carW_1 (show (10 : Nat) ≠ 8 by decide), q 2 (by decide) (by decide), q 3 (by decide) (by decide), q 4 (by decide) (by decide), q 8 (by decide) (by decide), q 9 (by decide) (by decide), q 10 (by decide) (by decide), q 11 (by decide) (by decide), q 12 (by decide) (by decide), q 13 (by decide) (by decide), q 14 (by decide) (by decide), q 15 (by decide) (by decide), q 17 (by decide) (by decide), q 18 (by decide) (by decide), q 20 (by decide) (by decide), q 21 (by decide) (by decide), q 22 (by decide) (by decide), q 23 (by decide) (by decide), q 24 (by decide) (by decide), q 25 (by decide) (by decide)]); first | done | exact h)
  | _ + 23, _ => trivial
theorem m_tireOf (d : Nat) {B T : LW} {ω σ : Sig} (hM : MR B T ω σ) (hW : WI B T ω) {s : Int32} (hs : bw s (-9) 9) (gr g : Int32) {p : Nat} (hp : p < 8) (hh : hold ω g p) (hl : σ 136 p = nI (loadS B ω s g p)) :
    ∃ σ', Ex (d + 3) 218 0 [.ref 112, .int (nI p), .int s, .int gr, .null] [] G0 σ = some (some (.int (tireS B T ω s gr g p)), G0, σ') ∧ Fr [134, 135] [] σ σ' := by
  obtain ⟨hc21, hk21, hf21⟩ : wi B T ω 21 := hW 21
  obtain ⟨hpn, _, hb8, ew⟩ := WI_who hW hp hh.2.1
  obtain ⟨σ1, e1, f1, g1⟩ := m_asks (d + 1) hM hs hp hb8 ew
  have e136 : σ1 136 p = nI (loadS B ω s g p) := by rw [f1 136 p (by decide) (by simp)]; exact hl
  have hM1 : ∀ v, MR B T ω (pt σ1 134 11 v) := fun v => MR_S hM (Fr_p f1 (Or.inl (by simp)) : Fr [134] [] σ (pt σ1 134 11 v)) (by decide) (by simp)
  have h11 : ∀ v w : Int32, pt (pt (pt σ1 134 11 v) 134 12 w) 134 13 gr 113 4 = ω 1 8 := fun v w => by
    rw [pt_q (by decide), pt_q (by decide)]; exact (hM1 v) 11
  generalize hld : nI (loadS B ω s g p) = ld at *
  generalize hσ2 : pt (pt (pt (pt σ1 134 11 ld) 134 12 (canB ω (wN ω p))) 134 13 gr) 134 14 (ω 1 8) = σ2
  have f2 : Fr [134] [] σ σ2 := by
    rw [← hσ2]
    exact Fr_p (Fr_p (Fr_p (Fr_p f1 (Or.inl (by simp))) (Or.inl (by simp))) (Or.inl (by simp))) (Or.inl (by simp))
  have hM2 : MR B T ω σ2 := MR_S hM f2 (by decide) (by simp)
  obtain ⟨σ3, v, e3, f3, c3⟩ := m_lineOf d σ2 1 T (by omega) (by
    rw [show σ2 126 1 = ω 17 0 from hM2 28]; exact hc21.1) hk21 (hM2 30)
  have hl : ∀ o, lawS (σ2 134) T o = lawS (tireF B ω s gr g p) T o := fun o => by
    refine lawS_f (j := 1) (fun k hk => ?_) T o hf21
    have k10 := hk.2.2 rfl
    have k15 := hk.1
    unfold tireF
    rw [hld, ← hσ2]
    by_cases c11 : k = 11
    · subst c11; rw [pt_k (by decide), pt_k (by decide), pt_k (by decide), pt_e, if_pos rfl]
    · by_cases c12 : k = 12
      · subst c12; rw [pt_k (by decide), pt_k (by decide), pt_e, if_neg (by decide), if_pos rfl]
      · by_cases c13 : k = 13
        · subst c13; rw [pt_k (by decide), pt_e, if_neg (by decide), if_neg (by decide), if_pos rfl]
        · by_cases c14 : k = 14
          · subst c14; rw [pt_e, if_neg (by decide), if_neg (by decide), if_neg (by decide), if_pos rfl]
          · rw [pt_k c14, pt_k c13, pt_k c12, pt_k c11, if_neg c11, if_neg c12, if_neg c13, if_neg c14, g1 k (by omega)]
  have f3' : Fr [134, 135] [] σ σ3 := Fr_t (Fr_m f2 (by simp) (by simp)) (Fr_m f3 (by simp) (by simp))
  have hM3 : MR B T ω σ3 := MR_S hM f3' (by decide) (by simp)
  have e3' : Ex (d + 2) 204 0 [.ref 112, .int 1, .null, .null] [] G0 σ2 = some (some (.int v), G0, σ3) := e3
  have ht : tireS B T ω s gr g p = mx 0 (mn 99 (lawS (σ2 134) T (ld / 20))) := by unfold tireS; rw [hl, hld]
  rw [ht]
  rw [b218_0, e1]
  simp only [Option.bind_some, Option.toList_some, Option.toList_none, List.cons_append, List.nil_append, i01a, i01b, if_true, if_false, b218_6, i8 hp, c8 hp, i10, i01, eq_self, if_true, if_false, true_and, false_and, and_true, and_false, not_true, not_false_iff, true_or, or_true, false_or, or_false, ne_eq, not_true_eq_false, not_false_eq_true, e136, (fun d => m_who d (hM1 ld) hp), b218_31]
  rw [ew]
  simp only [(fun d => m_canOf d (hM1 ld) hb8), Option.bind_some, Option.toList_some, Option.toList_none, List.cons_append, List.nil_append, i01a, i01b, if_true, if_false, b218_34, h11, hσ2, e3', b218_61]
  have e136' : σ3 136 p = ld := by rw [f3' 136 p (by decide) (by simp)]; assumption
  rcases c3 with ⟨hv, hlw⟩ | ⟨k, e, b', hg, hv, hlw⟩
  · rw [hlw]
    subst hv
    simp only [i10, i01, eq_self, if_true, if_false, true_and, false_and, and_true, and_false, not_true, not_false_iff, true_or, or_true, false_or, or_false, ne_eq, not_true_eq_false, not_false_eq_true, i8 hp, c8 hp, e136', b218_101, m_held (d + 2) σ3 _ 0 99 (by decide), Option.bind_some, Option.toList_some, Option.toList_none, List.cons_append, List.nil_append, i01a, i01b, if_true, if_false, b218_107]
    exact ⟨σ3, rfl, f3'⟩
  · rw [hlw]
    have hkl : k < T.length := by
      rcases Nat.lt_or_ge k T.length with h1 | h1
      · exact h1
      · rw [List.getElem?_eq_none h1] at hg; cases hg
    have hk16 := hk21.1
    have h30' : modLaw (σ3 127) (σ3 128) (σ3 129) (σ3 130) (σ3 131) (16 * 1) (400 * 1) T := hM3 30
    obtain ⟨a, ha, a1, a2, a3, a4, a5⟩ := mcode h30' hg
    have htl := hk21.2.2.1
    obtain ⟨⟨t, _, hce⟩, _⟩ := hk21.2.2.2 (e, b') (List.mem_of_getElem? hg)
    obtain ⟨σ4, e4, f4⟩ := m_runs (d + 1) σ3 1 a (a + e.length) e t (by omega) rfl (by omega) hce a4
    have e4' : Ex (d + 2) 203 0 [.ref 112, .int 1, .int (nI a), .int (nI (a + e.length)), .null, .null] [] G0 σ3 = _ := e4
    have nv : ¬ v = -1 := by
      rw [hv]; intro e
      have := congrArg Int32.toInt e
      rw [nI_i (by omega)] at this
      have h2 : (-1 : Int32).toInt = -1 := rfl
      omega
    have e134 : σ3 134 = σ2 134 := Fr_q f3 (by decide) (by simp)
    simp only [nv, i10, i01, eq_self, if_true, if_false, true_and, false_and, and_true, and_false, not_true, not_false_iff, true_or, or_true, false_or, or_false, ne_eq, not_true_eq_false, not_false_eq_true]
    rw [hv] at *
    simp only [inb_n (show 16 * 1 + k < 48 by omega) (show 16 * 1 + k < 2 ^ 31 by omega), nI_c (show 16 * 1 + k < 2 ^ 31 by omega), i10, i01, eq_self, if_true, if_false, true_and, false_and, and_true, and_false, not_true, not_false_iff, true_or, or_true, false_or, or_false, ne_eq, not_true_eq_false, not_false_eq_true, a1, a2, e4', Option.bind_some, Option.toList_some, Option.toList_none, List.cons_append, List.nil_append, i01a, i01b, if_true, if_false, b218_101, e134, m_held (d + 2) σ4 _ 0 99 (by decide), b218_107]
    exact ⟨σ4, rfl, Fr_t f3' (Fr_m f4 (by simp) (by simp))⟩
theorem m_wrong (d : Nat) {B T : LW} {ω σ : Sig} (g : Int32) (hM : MR B T ω σ) (hW : WI B T ω) : Ex (d + 4) 217 0 [.ref 112, .int g, .null, .null] [] G0 σ = some (some (.int (wrongS ω g)), G0, σ) := by
  have h19 : mr B T ω σ 19 := hM 19
  rw [b217_0]
  have e := loop_fo (fun p (x : Int32) => Ex (d + 4) 217 4 [.ref 112, .int g, .int x, .int (nI p)] [] G0 σ) (wrongF ω g) 8 0 (by
    intro p x hp
    show Ex (d + 4) 217 4 [.ref 112, .int g, .int x, .int (nI p)] [] G0 σ = _
    rw [b217_4]
    simp only [n8 hp, i10, i01, eq_self, if_true, if_false, true_and, false_and, and_true, and_false, not_true, not_false_iff, true_or, or_true, false_or, or_false, ne_eq, not_true_eq_false, not_false_eq_true, m_holds d hM hW g hp, Option.bind_some, Option.toList_some, Option.toList_none, List.cons_append, List.nil_append, i01a, i01b, if_true, if_false, b217_16, bI_z, bI_o, bI_em, ite_not, nI_s]
    unfold wrongF
    by_cases hh : hold ω g p
    · obtain ⟨_, _, hb8, ew⟩ := WI_who hW hp hh.2.1
      simp only [eq_true hh, i10, i01, eq_self, if_true, if_false, true_and, false_and, and_true, and_false, not_true, not_false_iff, true_or, or_true, false_or, or_false, ne_eq, not_true_eq_false, not_false_eq_true, (fun d => m_who d hM hp), Option.bind_some, Option.toList_some, Option.toList_none, List.cons_append, List.nil_append, i01a, i01b, if_true, if_false, b217_28, ew, i8 hb8, c8 hb8, h19 _ hb8, par8 p hp, nI_s]
      by_cases k : ω 5 (wN ω p) = nI p &&& 1
      · simp only [k, i10, i01, eq_self, if_true, if_false, true_and, false_and, and_true, and_false, not_true, not_false_iff, true_or, or_true, false_or, or_false, ne_eq, not_true_eq_false, not_false_eq_true]
      · simp only [k, i10, i01, eq_self, if_true, if_false, true_and, false_and, and_true, and_false, not_true, not_false_iff, true_or, or_true, false_or, or_false, ne_eq, not_true_eq_false, not_false_eq_true]
    · simp only [eq_false hh, i10, i01, eq_self, if_true, if_false, true_and, false_and, and_true, and_false, not_true, not_false_iff, true_or, or_true, false_or, or_false, ne_eq, not_true_eq_false, not_false_eq_true])
  rw [show Ex (d + 4) 217 4 [.ref 112, .int g, .int 0, .int 0] [] G0 σ = _ from e]
  show Ex (d + 4) 217 4 [.ref 112, .int g, .int (wrongS ω g), .int (nI 8)] [] G0 σ = _
  rw [b217_4]
  simp only [n88, i10, i01, eq_self, if_true, if_false, true_and, false_and, and_true, and_false, not_true, not_false_iff, true_or, or_true, false_or, or_false, ne_eq, not_true_eq_false, not_false_eq_true]
theorem mx_n0 {a : Nat} : mx 0 (nI a) = nI a ∨ 2 ^ 31 ≤ a := by
  by_cases h : a < 2 ^ 31
  · left
    unfold mx
    have e : ((0 : Int32) < nI a) = (0 < a) := nJ_lt (a := 0) (b := a) (by omega) h
    by_cases z : 0 < a
    · rw [if_pos (by rw [e]; exact z)]
    · rw [if_neg (by rw [e]; exact z), show a = 0 by omega]; rfl
  · right; omega
theorem WI_7 {B T : LW} {ω ω' : Sig} (hW : WI B T ω) (q : ∀ q, q ≠ 7 → ω' q = ω q) (h7 : ∀ b, b < 8 → bw (ω' 7 b) 0 1000) : WI B T ω' := by
  intro i
  have h := hW i
  match i, h with
  | 0, h => (simp only [wi, np, pr, sz, wl, paced] at h ⊢; (try simp (disch := decide) only [q]); first | done | exact h)
  | 1, h => (simp only [wi, np, pr, sz, wl, paced] at h ⊢; (try simp (disch := decide) only [q]); first | done | exact h)
  | 2, h => (simp only [wi, np, pr, sz, wl, paced] at h ⊢; (try simp (disch := decide) only [q]); first | done | exact h)
  | 3, h => (simp only [wi, np, pr, sz, wl, paced] at h ⊢; (try simp (disch := decide) only [q]); first | done | exact h)
  | 4, h => (simp only [wi, np, pr, sz, wl, paced] at h ⊢; (try simp (disch := decide) only [q]); first | done | exact h)
  | 5, h => (simp only [wi, np, pr, sz, wl, paced] at h ⊢; (try simp (disch := decide) only [q]); first | done | exact h)
  | 6, h => (simp only [wi, np, pr, sz, wl, paced] at h ⊢; (try simp (disch := decide) only [q]); first | done | exact h)
  | 7, h => (simp only [wi, np, pr, sz, wl, paced] at h ⊢; (try simp (disch := decide) only [q]); first | done | exact h)
  | 8, h => (simp only [wi, np, pr, sz, wl, paced] at h ⊢; (try simp (disch := decide) only [q]); first | done | exact h)
  | 9, h => (simp only [wi, np, pr, sz, wl, paced] at h ⊢; (try simp (disch := decide) only [q]); first | done | exact h)
  | 10, h => (simp only [wi, np, pr, sz, wl, paced] at h ⊢; (try simp (disch := decide) only [q]); first | done | exact h)
  | 11, h => (simp only [wi, np, pr, sz, wl, paced] at h ⊢; (try simp (disch := decide) only [q]); first | done | exact h)
  | 12, h => (simp only [wi, np, pr, sz, wl, paced] at h ⊢; (try simp (disch := decide) only [q]); first | done | exact h)
  | 13, h => exact h7
  | 14, h => (simp only [wi, np, pr, sz, wl, paced] at h ⊢; (try simp (disch := decide) only [q]); first | done | exact h)
  | 15, h => (simp only [wi, np, pr, sz, wl, paced] at h ⊢; (try simp (disch := decide) only [q]); first | done | exact h)
  | 16, h => (simp only [wi, np, pr, sz, wl, paced] at h ⊢; (try simp (disch := decide) only [q]); first | done | exact h)
  | 17, h => (simp only [wi, np, pr, sz, wl, paced] at h ⊢; (try simp (disch := decide) only [q]); first | done | exact h)
  | 18, h => (simp only [wi, np, pr, sz, wl, paced] at h ⊢; (try simp (disch := decide) only [q]); first | done | exact h)
  | 19, h => (simp only [wi, np, pr, sz, wl, paced] at h ⊢; (try simp (disch := decide) only [q]); first | done | exact h)
  | 20, h => (simp only [wi, np, pr, sz, wl, paced] at h ⊢; (try simp (disch := decide) only [q]); first | done | exact h)
  | 21, h => (simp only [wi, np, pr, sz, wl, paced] at h ⊢; (try simp (disch := decide) only [q]); first | done | exact h)
  | 22, h => (simp only [wi, np, pr, sz, wl, paced] at h ⊢; (try simp (disch := decide) only [q]); first | done | exact h)
  | _ + 23, _ => trivial
theorem MR_n0 {B T : LW} {ω σ : Sig} (hM : MR B T ω σ) (v : Int32) : MR B T (pt ω 1 6 v) (pt σ 113 0 v) := by
  intro i
  have h := hM i
  match i, h with
  | 0, h => (simp only [mr] at h ⊢; (try simp (disch := decide) only [pt_q, pt_k, pt_e, wl, paced]); first | done | exact h)
  | 1, h => (simp only [mr] at h ⊢; (try simp (disch := decide) only [pt_q, pt_k, pt_e, wl, paced]); first | done | exact h)
  | 2, h => (simp only [mr] at h ⊢; (try simp (disch := decide) only [pt_q, pt_k, pt_e, wl, paced]); first | done | exact h)
  | 3, h => (simp only [mr] at h ⊢; (try simp (disch := decide) only [pt_q, pt_k, pt_e, wl, paced]); first | done | exact h)
  | 4, h => (simp only [mr] at h ⊢; (try simp (disch := decide) only [pt_q, pt_k, pt_e, wl, paced]); first | done | exact h)
  | 5, h => (simp only [mr] at h ⊢; (try simp (disch := decide) only [pt_q, pt_k, pt_e, wl, paced]); first | done | exact h)
  | 6, h => (simp only [mr] at h ⊢; (try simp (disch := decide) only [pt_q, pt_k, pt_e, wl, paced]); first | done | exact h)
  | 7, h => (simp only [mr] at h ⊢; (try simp (disch := decide) only [pt_q, pt_k, pt_e, wl, paced]); first | done | exact h)
  | 8, h => (simp only [mr] at h ⊢; (try simp (disch := decide) only [pt_q, pt_k, pt_e, wl, paced]); first | done | exact h)
  | 9, h => (simp only [mr] at h ⊢; (try simp (disch := decide) only [pt_q, pt_k, pt_e, wl, paced]); first | done | exact h)
  | 10, h => (simp only [mr] at h ⊢; (try simp (disch := decide) only [pt_q, pt_k, pt_e, wl, paced]); first | done | exact h)
  | 11, h => (simp only [mr] at h ⊢; (try simp (disch := decide) only [pt_q, pt_k, pt_e, wl, paced]); first | done | exact h)
  | 12, h => (simp only [mr] at h ⊢; (try simp (disch := decide) only [pt_q, pt_k, pt_e, wl, paced]); first | done | exact h)
  | 13, h => (simp only [mr] at h ⊢; (try simp (disch := decide) only [pt_q, pt_k, pt_e, wl, paced]); first | done | exact h)
  | 14, h => (intro p hp; rw [pt_k (by omega), pt_q (by decide)]; exact h p hp)
  | 15, h => (intro p hp; rw [pt_k (by omega), pt_q (by decide)]; exact h p hp)
  | 16, h => (intro p hp; rw [pt_k (by omega), pt_q (by decide)]; exact h p hp)
  | 17, h => (simp only [mr] at h ⊢; (try simp (disch := decide) only [pt_q, pt_k, pt_e, wl, paced]); first | done | exact h)
  | 18, h => (simp only [mr] at h ⊢; (try simp (disch := decide) only [pt_q, pt_k, pt_e, wl, paced]); first | done | exact h)
  | 19, h => (simp only [mr] at h ⊢; (try simp (disch := decide) only [pt_q, pt_k, pt_e, wl, paced]); first | done | exact h)
  | 20, h => (simp only [mr] at h ⊢; (try simp (disch := decide) only [pt_q, pt_k, pt_e, wl, paced]); first | done | exact h)
  | 21, h => (simp only [mr] at h ⊢; (try simp (disch := decide) only [pt_q, pt_k, pt_e, wl, paced]); first | done | exact h)
  | 22, h => (simp only [mr] at h ⊢; (try simp (disch := decide) only [pt_q, pt_k, pt_e, wl, paced]); first | done | exact h)
  | 23, h => (simp only [mr] at h ⊢; (try simp (disch := decide) only [pt_q, pt_k, pt_e, wl, paced]); first | done | exact h)
  | 24, h => (simp only [mr] at h ⊢; (try simp (disch := decide) only [pt_q, pt_k, pt_e, wl, paced]); first | done | exact h)
  | 25, h => (simp only [mr] at h ⊢; (try simp (disch := decide) only [pt_q, pt_k, pt_e, wl, paced]); first | done | exact h)
  | 26, h => (simp only [mr] at h ⊢; (try simp (disch := decide) only [pt_q, pt_k, pt_e, wl, paced]); first | done | exact h)
  | 27, h => (simp only [mr] at h ⊢; (try simp (disch := decide) only [pt_q, pt_k, pt_e, wl, paced]); first | done | exact h)
  | 28, h => (simp only [mr] at h ⊢; (try simp (disch := decide) only [pt_q, pt_k, pt_e, wl, paced]); first | done | exact h)
  | 29, h => (simp only [mr] at h ⊢; (try simp (disch := decide) only [pt_q, pt_k, pt_e, wl, paced]); first | done | exact h)
  | 30, h => (simp only [mr] at h ⊢; (try simp (disch := decide) only [pt_q, pt_k, pt_e, wl, paced]); first | done | exact h)
  | _ + 31, _ => trivial
theorem MR_n1 {B T : LW} {ω σ : Sig} (hM : MR B T ω σ) (v : Int32) : MR B T (pt ω 1 5 v) (pt σ 113 1 v) := by
  intro i
  have h := hM i
  match i, h with
  | 0, h => (simp only [mr] at h ⊢; (try simp (disch := decide) only [pt_q, pt_k, pt_e, wl, paced]); first | done | exact h)
  | 1, h => (simp only [mr] at h ⊢; (try simp (disch := decide) only [pt_q, pt_k, pt_e, wl, paced]); first | done | exact h)
  | 2, h => (simp only [mr] at h ⊢; (try simp (disch := decide) only [pt_q, pt_k, pt_e, wl, paced]); first | done | exact h)
  | 3, h => (simp only [mr] at h ⊢; (try simp (disch := decide) only [pt_q, pt_k, pt_e, wl, paced]); first | done | exact h)
  | 4, h => (simp only [mr] at h ⊢; (try simp (disch := decide) only [pt_q, pt_k, pt_e, wl, paced]); first | done | exact h)
  | 5, h => (simp only [mr] at h ⊢; (try simp (disch := decide) only [pt_q, pt_k, pt_e, wl, paced]); first | done | exact h)
  | 6, h => (simp only [mr] at h ⊢; (try simp (disch := decide) only [pt_q, pt_k, pt_e, wl, paced]); first | done | exact h)
  | 7, h => (simp only [mr] at h ⊢; (try simp (disch := decide) only [pt_q, pt_k, pt_e, wl, paced]); first | done | exact h)
  | 8, h => (simp only [mr] at h ⊢; (try simp (disch := decide) only [pt_q, pt_k, pt_e, wl, paced]); first | done | exact h)
  | 9, h => (simp only [mr] at h ⊢; (try simp (disch := decide) only [pt_q, pt_k, pt_e, wl, paced]); first | done | exact h)
  | 10, h => (simp only [mr] at h ⊢; (try simp (disch := decide) only [pt_q, pt_k, pt_e, wl, paced]); first | done | exact h)
  | 11, h => (simp only [mr] at h ⊢; (try simp (disch := decide) only [pt_q, pt_k, pt_e, wl, paced]); first | done | exact h)
  | 12, h => (simp only [mr] at h ⊢; (try simp (disch := decide) only [pt_q, pt_k, pt_e, wl, paced]); first | done | exact h)
  | 13, h => (simp only [mr] at h ⊢; (try simp (disch := decide) only [pt_q, pt_k, pt_e, wl, paced]); first | done | exact h)
  | 14, h => (intro p hp; rw [pt_k (by omega), pt_q (by decide)]; exact h p hp)
  | 15, h => (intro p hp; rw [pt_k (by omega), pt_q (by decide)]; exact h p hp)
  | 16, h => (intro p hp; rw [pt_k (by omega), pt_q (by decide)]; exact h p hp)
  | 17, h => (simp only [mr] at h ⊢; (try simp (disch := decide) only [pt_q, pt_k, pt_e, wl, paced]); first | done | exact h)
  | 18, h => (simp only [mr] at h ⊢; (try simp (disch := decide) only [pt_q, pt_k, pt_e, wl, paced]); first | done | exact h)
  | 19, h => (simp only [mr] at h ⊢; (try simp (disch := decide) only [pt_q, pt_k, pt_e, wl, paced]); first | done | exact h)
  | 20, h => (simp only [mr] at h ⊢; (try simp (disch := decide) only [pt_q, pt_k, pt_e, wl, paced]); first | done | exact h)
  | 21, h => (simp only [mr] at h ⊢; (try simp (disch := decide) only [pt_q, pt_k, pt_e, wl, paced]); first | done | exact h)
  | 22, h => (simp only [mr] at h ⊢; (try simp (disch := decide) only [pt_q, pt_k, pt_e, wl, paced]); first | done | exact h)
  | 23, h => (simp only [mr] at h ⊢; (try simp (disch := decide) only [pt_q, pt_k, pt_e, wl, paced]); first | done | exact h)
  | 24, h => (simp only [mr] at h ⊢; (try simp (disch := decide) only [pt_q, pt_k, pt_e, wl, paced]); first | done | exact h)
  | 25, h => (simp only [mr] at h ⊢; (try simp (disch := decide) only [pt_q, pt_k, pt_e, wl, paced]); first | done | exact h)
  | 26, h => (simp only [mr] at h ⊢; (try simp (disch := decide) only [pt_q, pt_k, pt_e, wl, paced]); first | done | exact h)
  | 27, h => (simp only [mr] at h ⊢; (try simp (disch := decide) only [pt_q, pt_k, pt_e, wl, paced]); first | done | exact h)
  | 28, h => (simp only [mr] at h ⊢; (try simp (disch := decide) only [pt_q, pt_k, pt_e, wl, paced]); first | done | exact h)
  | 29, h => (simp only [mr] at h ⊢; (try simp (disch := decide) only [pt_q, pt_k, pt_e, wl, paced]); first | done | exact h)
  | 30, h => (simp only [mr] at h ⊢; (try simp (disch := decide) only [pt_q, pt_k, pt_e, wl, paced]); first | done | exact h)
  | _ + 31, _ => trivial
theorem MR_n3 {B T : LW} {ω σ : Sig} (hM : MR B T ω σ) (v : Int32) : MR B T (pt ω 1 7 v) (pt σ 113 3 v) := by
  intro i
  have h := hM i
  match i, h with
  | 0, h => (simp only [mr] at h ⊢; (try simp (disch := decide) only [pt_q, pt_k, pt_e, wl, paced]); first | done | exact h)
  | 1, h => (simp only [mr] at h ⊢; (try simp (disch := decide) only [pt_q, pt_k, pt_e, wl, paced]); first | done | exact h)
  | 2, h => (simp only [mr] at h ⊢; (try simp (disch := decide) only [pt_q, pt_k, pt_e, wl, paced]); first | done | exact h)
  | 3, h => (simp only [mr] at h ⊢; (try simp (disch := decide) only [pt_q, pt_k, pt_e, wl, paced]); first | done | exact h)
  | 4, h => (simp only [mr] at h ⊢; (try simp (disch := decide) only [pt_q, pt_k, pt_e, wl, paced]); first | done | exact h)
  | 5, h => (simp only [mr] at h ⊢; (try simp (disch := decide) only [pt_q, pt_k, pt_e, wl, paced]); first | done | exact h)
  | 6, h => (simp only [mr] at h ⊢; (try simp (disch := decide) only [pt_q, pt_k, pt_e, wl, paced]); first | done | exact h)
  | 7, h => (simp only [mr] at h ⊢; (try simp (disch := decide) only [pt_q, pt_k, pt_e, wl, paced]); first | done | exact h)
  | 8, h => (simp only [mr] at h ⊢; (try simp (disch := decide) only [pt_q, pt_k, pt_e, wl, paced]); first | done | exact h)
  | 9, h => (simp only [mr] at h ⊢; (try simp (disch := decide) only [pt_q, pt_k, pt_e, wl, paced]); first | done | exact h)
  | 10, h => (simp only [mr] at h ⊢; (try simp (disch := decide) only [pt_q, pt_k, pt_e, wl, paced]); first | done | exact h)
  | 11, h => (simp only [mr] at h ⊢; (try simp (disch := decide) only [pt_q, pt_k, pt_e, wl, paced]); first | done | exact h)
  | 12, h => (simp only [mr] at h ⊢; (try simp (disch := decide) only [pt_q, pt_k, pt_e, wl, paced]); first | done | exact h)
  | 13, h => (simp only [mr] at h ⊢; (try simp (disch := decide) only [pt_q, pt_k, pt_e, wl, paced]); first | done | exact h)
  | 14, h => (intro p hp; rw [pt_k (by omega), pt_q (by decide)]; exact h p hp)
  | 15, h => (intro p hp; rw [pt_k (by omega), pt_q (by decide)]; exact h p hp)
  | 16, h => (intro p hp; rw [pt_k (by omega), pt_q (by decide)]; exact h p hp)
  | 17, h => (simp only [mr] at h ⊢; (try simp (disch := decide) only [pt_q, pt_k, pt_e, wl, paced]); first | done | exact h)
  | 18, h => (simp only [mr] at h ⊢; (try simp (disch := decide) only [pt_q, pt_k, pt_e, wl, paced]); first | done | exact h)
  | 19, h => (simp only [mr] at h ⊢; (try simp (disch := decide) only [pt_q, pt_k, pt_e, wl, paced]); first | done | exact h)
  | 20, h => (simp only [mr] at h ⊢; (try simp (disch := decide) only [pt_q, pt_k, pt_e, wl, paced]); first | done | exact h)
  | 21, h => (simp only [mr] at h ⊢; (try simp (disch := decide) only [pt_q, pt_k, pt_e, wl, paced]); first | done | exact h)
  | 22, h => (simp only [mr] at h ⊢; (try simp (disch := decide) only [pt_q, pt_k, pt_e, wl, paced]); first | done | exact h)
  | 23, h => (simp only [mr] at h ⊢; (try simp (disch := decide) only [pt_q, pt_k, pt_e, wl, paced]); first | done | exact h)
  | 24, h => (simp only [mr] at h ⊢; (try simp (disch := decide) only [pt_q, pt_k, pt_e, wl, paced]); first | done | exact h)
  | 25, h => (simp only [mr] at h ⊢; (try simp (disch := decide) only [pt_q, pt_k, pt_e, wl, paced]); first | done | exact h)
  | 26, h => (simp only [mr] at h ⊢; (try simp (disch := decide) only [pt_q, pt_k, pt_e, wl, paced]); first | done | exact h)
  | 27, h => (simp only [mr] at h ⊢; (try simp (disch := decide) only [pt_q, pt_k, pt_e, wl, paced]); first | done | exact h)
  | 28, h => (simp only [mr] at h ⊢; (try simp (disch := decide) only [pt_q, pt_k, pt_e, wl, paced]); first | done | exact h)
  | 29, h => (simp only [mr] at h ⊢; (try simp (disch := decide) only [pt_q, pt_k, pt_e, wl, paced]); first | done | exact h)
  | 30, h => (simp only [mr] at h ⊢; (try simp (disch := decide) only [pt_q, pt_k, pt_e, wl, paced]); first | done | exact h)
  | _ + 31, _ => trivial
theorem MR_n4 {B T : LW} {ω σ : Sig} (hM : MR B T ω σ) (v : Int32) : MR B T (pt ω 1 8 v) (pt σ 113 4 v) := by
  intro i
  have h := hM i
  match i, h with
  | 0, h => (simp only [mr] at h ⊢; (try simp (disch := decide) only [pt_q, pt_k, pt_e, wl, paced]); first | done | exact h)
  | 1, h => (simp only [mr] at h ⊢; (try simp (disch := decide) only [pt_q, pt_k, pt_e, wl, paced]); first | done | exact h)
  | 2, h => (simp only [mr] at h ⊢; (try simp (disch := decide) only [pt_q, pt_k, pt_e, wl, paced]); first | done | exact h)
  | 3, h => (simp only [mr] at h ⊢; (try simp (disch := decide) only [pt_q, pt_k, pt_e, wl, paced]); first | done | exact h)
  | 4, h => (simp only [mr] at h ⊢; (try simp (disch := decide) only [pt_q, pt_k, pt_e, wl, paced]); first | done | exact h)
  | 5, h => (simp only [mr] at h ⊢; (try simp (disch := decide) only [pt_q, pt_k, pt_e, wl, paced]); first | done | exact h)
  | 6, h => (simp only [mr] at h ⊢; (try simp (disch := decide) only [pt_q, pt_k, pt_e, wl, paced]); first | done | exact h)
  | 7, h => (simp only [mr] at h ⊢; (try simp (disch := decide) only [pt_q, pt_k, pt_e, wl, paced]); first | done | exact h)
  | 8, h => (simp only [mr] at h ⊢; (try simp (disch := decide) only [pt_q, pt_k, pt_e, wl, paced]); first | done | exact h)
  | 9, h => (simp only [mr] at h ⊢; (try simp (disch := decide) only [pt_q, pt_k, pt_e, wl, paced]); first | done | exact h)
  | 10, h => (simp only [mr] at h ⊢; (try simp (disch := decide) only [pt_q, pt_k, pt_e, wl, paced]); first | done | exact h)
  | 11, h => (simp only [mr] at h ⊢; (try simp (disch := decide) only [pt_q, pt_k, pt_e, wl, paced]); first | done | exact h)
  | 12, h => (simp only [mr] at h ⊢; (try simp (disch := decide) only [pt_q, pt_k, pt_e, wl, paced]); first | done | exact h)
  | 13, h => (simp only [mr] at h ⊢; (try simp (disch := decide) only [pt_q, pt_k, pt_e, wl, paced]); first | done | exact h)
  | 14, h => (intro p hp; rw [pt_k (by omega), pt_q (by decide)]; exact h p hp)
  | 15, h => (intro p hp; rw [pt_k (by omega), pt_q (by decide)]; exact h p hp)
  | 16, h => (intro p hp; rw [pt_k (by omega), pt_q (by decide)]; exact h p hp)
  | 17, h => (simp only [mr] at h ⊢; (try simp (disch := decide) only [pt_q, pt_k, pt_e, wl, paced]); first | done | exact h)
  | 18, h => (simp only [mr] at h ⊢; (try simp (disch := decide) only [pt_q, pt_k, pt_e, wl, paced]); first | done | exact h)
  | 19, h => (simp only [mr] at h ⊢; (try simp (disch := decide) only [pt_q, pt_k, pt_e, wl, paced]); first | done | exact h)
  | 20, h => (simp only [mr] at h ⊢; (try simp (disch := decide) only [pt_q, pt_k, pt_e, wl, paced]); first | done | exact h)
  | 21, h => (simp only [mr] at h ⊢; (try simp (disch := decide) only [pt_q, pt_k, pt_e, wl, paced]); first | done | exact h)
  | 22, h => (simp only [mr] at h ⊢; (try simp (disch := decide) only [pt_q, pt_k, pt_e, wl, paced]); first | done | exact h)
  | 23, h => (simp only [mr] at h ⊢; (try simp (disch := decide) only [pt_q, pt_k, pt_e, wl, paced]); first | done | exact h)
  | 24, h => (simp only [mr] at h ⊢; (try simp (disch := decide) only [pt_q, pt_k, pt_e, wl, paced]); first | done | exact h)
  | 25, h => (simp only [mr] at h ⊢; (try simp (disch := decide) only [pt_q, pt_k, pt_e, wl, paced]); first | done | exact h)
  | 26, h => (simp only [mr] at h ⊢; (try simp (disch := decide) only [pt_q, pt_k, pt_e, wl, paced]); first | done | exact h)
  | 27, h => (simp only [mr] at h ⊢; (try simp (disch := decide) only [pt_q, pt_k, pt_e, wl, paced]); first | done | exact h)
  | 28, h => (simp only [mr] at h ⊢; (try simp (disch := decide) only [pt_q, pt_k, pt_e, wl, paced]); first | done | exact h)
  | 29, h => (simp only [mr] at h ⊢; (try simp (disch := decide) only [pt_q, pt_k, pt_e, wl, paced]); first | done | exact h)
  | 30, h => (simp only [mr] at h ⊢; (try simp (disch := decide) only [pt_q, pt_k, pt_e, wl, paced]); first | done | exact h)
  | _ + 31, _ => trivial
theorem MR_n5 {B T : LW} {ω σ : Sig} (hM : MR B T ω σ) (v : Int32) : MR B T (pt ω 1 9 v) (pt σ 113 5 v) := by
  intro i
  have h := hM i
  match i, h with
  | 0, h => (simp only [mr] at h ⊢; (try simp (disch := decide) only [pt_q, pt_k, pt_e, wl, paced]); first | done | exact h)
  | 1, h => (simp only [mr] at h ⊢; (try simp (disch := decide) only [pt_q, pt_k, pt_e, wl, paced]); first | done | exact h)
  | 2, h => (simp only [mr] at h ⊢; (try simp (disch := decide) only [pt_q, pt_k, pt_e, wl, paced]); first | done | exact h)
  | 3, h => (simp only [mr] at h ⊢; (try simp (disch := decide) only [pt_q, pt_k, pt_e, wl, paced]); first | done | exact h)
  | 4, h => (simp only [mr] at h ⊢; (try simp (disch := decide) only [pt_q, pt_k, pt_e, wl, paced]); first | done | exact h)
  | 5, h => (simp only [mr] at h ⊢; (try simp (disch := decide) only [pt_q, pt_k, pt_e, wl, paced]); first | done | exact h)
  | 6, h => (simp only [mr] at h ⊢; (try simp (disch := decide) only [pt_q, pt_k, pt_e, wl, paced]); first | done | exact h)
  | 7, h => (simp only [mr] at h ⊢; (try simp (disch := decide) only [pt_q, pt_k, pt_e, wl, paced]); first | done | exact h)
  | 8, h => (simp only [mr] at h ⊢; (try simp (disch := decide) only [pt_q, pt_k, pt_e, wl, paced]); first | done | exact h)
  | 9, h => (simp only [mr] at h ⊢; (try simp (disch := decide) only [pt_q, pt_k, pt_e, wl, paced]); first | done | exact h)
  | 10, h => (simp only [mr] at h ⊢; (try simp (disch := decide) only [pt_q, pt_k, pt_e, wl, paced]); first | done | exact h)
  | 11, h => (simp only [mr] at h ⊢; (try simp (disch := decide) only [pt_q, pt_k, pt_e, wl, paced]); first | done | exact h)
  | 12, h => (simp only [mr] at h ⊢; (try simp (disch := decide) only [pt_q, pt_k, pt_e, wl, paced]); first | done | exact h)
  | 13, h => (simp only [mr] at h ⊢; (try simp (disch := decide) only [pt_q, pt_k, pt_e, wl, paced]); first | done | exact h)
  | 14, h => (intro p hp; rw [pt_k (by omega), pt_q (by decide)]; exact h p hp)
  | 15, h => (intro p hp; rw [pt_k (by omega), pt_q (by decide)]; exact h p hp)
  | 16, h => (intro p hp; rw [pt_k (by omega), pt_q (by decide)]; exact h p hp)
  | 17, h => (simp only [mr] at h ⊢; (try simp (disch := decide) only [pt_q, pt_k, pt_e, wl, paced]); first | done | exact h)
  | 18, h => (simp only [mr] at h ⊢; (try simp (disch := decide) only [pt_q, pt_k, pt_e, wl, paced]); first | done | exact h)
  | 19, h => (simp only [mr] at h ⊢; (try simp (disch := decide) only [pt_q, pt_k, pt_e, wl, paced]); first | done | exact h)
  | 20, h => (simp only [mr] at h ⊢; (try simp (disch := decide) only [pt_q, pt_k, pt_e, wl, paced]); first | done | exact h)
  | 21, h => (simp only [mr] at h ⊢; (try simp (disch := decide) only [pt_q, pt_k, pt_e, wl, paced]); first | done | exact h)
  | 22, h => (simp only [mr] at h ⊢; (try simp (disch := decide) only [pt_q, pt_k, pt_e, wl, paced]); first | done | exact h)
  | 23, h => (simp only [mr] at h ⊢; (try simp (disch := decide) only [pt_q, pt_k, pt_e, wl, paced]); first | done | exact h)
  | 24, h => (simp only [mr] at h ⊢; (try simp (disch := decide) only [pt_q, pt_k, pt_e, wl, paced]); first | done | exact h)
  | 25, h => (simp only [mr] at h ⊢; (try simp (disch := decide) only [pt_q, pt_k, pt_e, wl, paced]); first | done | exact h)
  | 26, h => (simp only [mr] at h ⊢; (try simp (disch := decide) only [pt_q, pt_k, pt_e, wl, paced]); first | done | exact h)
  | 27, h => (simp only [mr] at h ⊢; (try simp (disch := decide) only [pt_q, pt_k, pt_e, wl, paced]); first | done | exact h)
  | 28, h => (simp only [mr] at h ⊢; (try simp (disch := decide) only [pt_q, pt_k, pt_e, wl, paced]); first | done | exact h)
  | 29, h => (simp only [mr] at h ⊢; (try simp (disch := decide) only [pt_q, pt_k, pt_e, wl, paced]); first | done | exact h)
  | 30, h => (simp only [mr] at h ⊢; (try simp (disch := decide) only [pt_q, pt_k, pt_e, wl, paced]); first | done | exact h)
  | _ + 31, _ => trivial
theorem MR_n6 {B T : LW} {ω σ : Sig} (hM : MR B T ω σ) (v : Int32) : MR B T (pt ω 1 10 v) (pt σ 113 6 v) := by
  intro i
  have h := hM i
  match i, h with
  | 0, h => (simp only [mr] at h ⊢; (try simp (disch := decide) only [pt_q, pt_k, pt_e, wl, paced]); first | done | exact h)
  | 1, h => (simp only [mr] at h ⊢; (try simp (disch := decide) only [pt_q, pt_k, pt_e, wl, paced]); first | done | exact h)
  | 2, h => (simp only [mr] at h ⊢; (try simp (disch := decide) only [pt_q, pt_k, pt_e, wl, paced]); first | done | exact h)
  | 3, h => (simp only [mr] at h ⊢; (try simp (disch := decide) only [pt_q, pt_k, pt_e, wl, paced]); first | done | exact h)
  | 4, h => (simp only [mr] at h ⊢; (try simp (disch := decide) only [pt_q, pt_k, pt_e, wl, paced]); first | done | exact h)
  | 5, h => (simp only [mr] at h ⊢; (try simp (disch := decide) only [pt_q, pt_k, pt_e, wl, paced]); first | done | exact h)
  | 6, h => (simp only [mr] at h ⊢; (try simp (disch := decide) only [pt_q, pt_k, pt_e, wl, paced]); first | done | exact h)
  | 7, h => (simp only [mr] at h ⊢; (try simp (disch := decide) only [pt_q, pt_k, pt_e, wl, paced]); first | done | exact h)
  | 8, h => (simp only [mr] at h ⊢; (try simp (disch := decide) only [pt_q, pt_k, pt_e, wl, paced]); first | done | exact h)
  | 9, h => (simp only [mr] at h ⊢; (try simp (disch := decide) only [pt_q, pt_k, pt_e, wl, paced]); first | done | exact h)
  | 10, h => (simp only [mr] at h ⊢; (try simp (disch := decide) only [pt_q, pt_k, pt_e, wl, paced]); first | done | exact h)
  | 11, h => (simp only [mr] at h ⊢; (try simp (disch := decide) only [pt_q, pt_k, pt_e, wl, paced]); first | done | exact h)
  | 12, h => (simp only [mr] at h ⊢; (try simp (disch := decide) only [pt_q, pt_k, pt_e, wl, paced]); first | done | exact h)
  | 13, h => (simp only [mr] at h ⊢; (try simp (disch := decide) only [pt_q, pt_k, pt_e, wl, paced]); first | done | exact h)
  | 14, h => (intro p hp; rw [pt_k (by omega), pt_q (by decide)]; exact h p hp)
  | 15, h => (intro p hp; rw [pt_k (by omega), pt_q (by decide)]; exact h p hp)
  | 16, h => (intro p hp; rw [pt_k (by omega), pt_q (by decide)]; exact h p hp)
  | 17, h => (simp only [mr] at h ⊢; (try simp (disch := decide) only [pt_q, pt_k, pt_e, wl, paced]); first | done | exact h)
  | 18, h => (simp only [mr] at h ⊢; (try simp (disch := decide) only [pt_q, pt_k, pt_e, wl, paced]); first | done | exact h)
  | 19, h => (simp only [mr] at h ⊢; (try simp (disch := decide) only [pt_q, pt_k, pt_e, wl, paced]); first | done | exact h)
  | 20, h => (simp only [mr] at h ⊢; (try simp (disch := decide) only [pt_q, pt_k, pt_e, wl, paced]); first | done | exact h)
  | 21, h => (simp only [mr] at h ⊢; (try simp (disch := decide) only [pt_q, pt_k, pt_e, wl, paced]); first | done | exact h)
  | 22, h => (simp only [mr] at h ⊢; (try simp (disch := decide) only [pt_q, pt_k, pt_e, wl, paced]); first | done | exact h)
  | 23, h => (simp only [mr] at h ⊢; (try simp (disch := decide) only [pt_q, pt_k, pt_e, wl, paced]); first | done | exact h)
  | 24, h => (simp only [mr] at h ⊢; (try simp (disch := decide) only [pt_q, pt_k, pt_e, wl, paced]); first | done | exact h)
  | 25, h => (simp only [mr] at h ⊢; (try simp (disch := decide) only [pt_q, pt_k, pt_e, wl, paced]); first | done | exact h)
  | 26, h => (simp only [mr] at h ⊢; (try simp (disch := decide) only [pt_q, pt_k, pt_e, wl, paced]); first | done | exact h)
  | 27, h => (simp only [mr] at h ⊢; (try simp (disch := decide) only [pt_q, pt_k, pt_e, wl, paced]); first | done | exact h)
  | 28, h => (simp only [mr] at h ⊢; (try simp (disch := decide) only [pt_q, pt_k, pt_e, wl, paced]); first | done | exact h)
  | 29, h => (simp only [mr] at h ⊢; (try simp (disch := decide) only [pt_q, pt_k, pt_e, wl, paced]); first | done | exact h)
  | 30, h => (simp only [mr] at h ⊢; (try simp (disch := decide) only [pt_q, pt_k, pt_e, wl, paced]); first | done | exact h)
  | _ + 31, _ => trivial
theorem MR_ti {B T : LW} {ω σ : Sig} (hM : MR B T ω σ) {b : Nat} (hb : b < 8) (v : Int32) : MR B T (pt ω 7 b v) (pt σ 113 (23 + b) v) := by
  have k : ∀ k, k < 23 → pt σ 113 (23 + b) v 113 k = σ 113 k := fun k hk => pt_k (by omega)
  intro i
  have h := hM i
  match i, h with
  | 0, h => (simp only [mr] at h ⊢; (try simp (disch := decide) only [pt_q, k 0 (by omega), k 1 (by omega), k 2 (by omega), k 3 (by omega), k 4 (by omega), k 5 (by omega), k 6 (by omega), wl, paced]); first | done | exact h)
  | 1, h => (simp only [mr] at h ⊢; (try simp (disch := decide) only [pt_q, k 0 (by omega), k 1 (by omega), k 2 (by omega), k 3 (by omega), k 4 (by omega), k 5 (by omega), k 6 (by omega), wl, paced]); first | done | exact h)
  | 2, h => (simp only [mr] at h ⊢; (try simp (disch := decide) only [pt_q, k 0 (by omega), k 1 (by omega), k 2 (by omega), k 3 (by omega), k 4 (by omega), k 5 (by omega), k 6 (by omega), wl, paced]); first | done | exact h)
  | 3, h => (simp only [mr] at h ⊢; (try simp (disch := decide) only [pt_q, k 0 (by omega), k 1 (by omega), k 2 (by omega), k 3 (by omega), k 4 (by omega), k 5 (by omega), k 6 (by omega), wl, paced]); first | done | exact h)
  | 4, h => (simp only [mr] at h ⊢; (try simp (disch := decide) only [pt_q, k 0 (by omega), k 1 (by omega), k 2 (by omega), k 3 (by omega), k 4 (by omega), k 5 (by omega), k 6 (by omega), wl, paced]); first | done | exact h)
  | 5, h => (simp only [mr] at h ⊢; (try simp (disch := decide) only [pt_q, k 0 (by omega), k 1 (by omega), k 2 (by omega), k 3 (by omega), k 4 (by omega), k 5 (by omega), k 6 (by omega), wl, paced]); first | done | exact h)
  | 6, h => (simp only [mr] at h ⊢; (try simp (disch := decide) only [pt_q, k 0 (by omega), k 1 (by omega), k 2 (by omega), k 3 (by omega), k 4 (by omega), k 5 (by omega), k 6 (by omega), wl, paced]); first | done | exact h)
  | 7, h => (simp only [mr] at h ⊢; (try simp (disch := decide) only [pt_q, k 0 (by omega), k 1 (by omega), k 2 (by omega), k 3 (by omega), k 4 (by omega), k 5 (by omega), k 6 (by omega), wl, paced]); first | done | exact h)
  | 8, h => (simp only [mr] at h ⊢; (try simp (disch := decide) only [pt_q, k 0 (by omega), k 1 (by omega), k 2 (by omega), k 3 (by omega), k 4 (by omega), k 5 (by omega), k 6 (by omega), wl, paced]); first | done | exact h)
  | 9, h => (simp only [mr] at h ⊢; (try simp (disch := decide) only [pt_q, k 0 (by omega), k 1 (by omega), k 2 (by omega), k 3 (by omega), k 4 (by omega), k 5 (by omega), k 6 (by omega), wl, paced]); first | done | exact h)
  | 10, h => (simp only [mr] at h ⊢; (try simp (disch := decide) only [pt_q, k 0 (by omega), k 1 (by omega), k 2 (by omega), k 3 (by omega), k 4 (by omega), k 5 (by omega), k 6 (by omega), wl, paced]); first | done | exact h)
  | 11, h => (simp only [mr] at h ⊢; (try simp (disch := decide) only [pt_q, k 0 (by omega), k 1 (by omega), k 2 (by omega), k 3 (by omega), k 4 (by omega), k 5 (by omega), k 6 (by omega), wl, paced]); first | done | exact h)
  | 12, h => (simp only [mr] at h ⊢; (try simp (disch := decide) only [pt_q, k 0 (by omega), k 1 (by omega), k 2 (by omega), k 3 (by omega), k 4 (by omega), k 5 (by omega), k 6 (by omega), wl, paced]); first | done | exact h)
  | 13, h => (simp only [mr] at h ⊢; (try simp (disch := decide) only [pt_q, k 0 (by omega), k 1 (by omega), k 2 (by omega), k 3 (by omega), k 4 (by omega), k 5 (by omega), k 6 (by omega), wl, paced]); first | done | exact h)
  | 14, h => (intro p hp; rw [k (7 + p) (by omega), pt_q (by decide)]; exact h p hp)
  | 15, h => (intro p hp; rw [k (15 + p) (by omega), pt_q (by decide)]; exact h p hp)
  | 16, h => (intro p hp; by_cases e : p = b; (subst e; rw [pt_e, pt_e]); (rw [pt_k (by omega), pt_k e]; exact h p hp))
  | 17, h => (simp only [mr] at h ⊢; (try simp (disch := decide) only [pt_q, k 0 (by omega), k 1 (by omega), k 2 (by omega), k 3 (by omega), k 4 (by omega), k 5 (by omega), k 6 (by omega), wl, paced]); first | done | exact h)
  | 18, h => (simp only [mr] at h ⊢; (try simp (disch := decide) only [pt_q, k 0 (by omega), k 1 (by omega), k 2 (by omega), k 3 (by omega), k 4 (by omega), k 5 (by omega), k 6 (by omega), wl, paced]); first | done | exact h)
  | 19, h => (simp only [mr] at h ⊢; (try simp (disch := decide) only [pt_q, k 0 (by omega), k 1 (by omega), k 2 (by omega), k 3 (by omega), k 4 (by omega), k 5 (by omega), k 6 (by omega), wl, paced]); first | done | exact h)
  | 20, h => (simp only [mr] at h ⊢; (try simp (disch := decide) only [pt_q, k 0 (by omega), k 1 (by omega), k 2 (by omega), k 3 (by omega), k 4 (by omega), k 5 (by omega), k 6 (by omega), wl, paced]); first | done | exact h)
  | 21, h => (simp only [mr] at h ⊢; (try simp (disch := decide) only [pt_q, k 0 (by omega), k 1 (by omega), k 2 (by omega), k 3 (by omega), k 4 (by omega), k 5 (by omega), k 6 (by omega), wl, paced]); first | done | exact h)
  | 22, h => (simp only [mr] at h ⊢; (try simp (disch := decide) only [pt_q, k 0 (by omega), k 1 (by omega), k 2 (by omega), k 3 (by omega), k 4 (by omega), k 5 (by omega), k 6 (by omega), wl, paced]); first | done | exact h)
  | 23, h => (simp only [mr] at h ⊢; (try simp (disch := decide) only [pt_q, k 0 (by omega), k 1 (by omega), k 2 (by omega), k 3 (by omega), k 4 (by omega), k 5 (by omega), k 6 (by omega), wl, paced]); first | done | exact h)
  | 24, h => (simp only [mr] at h ⊢; (try simp (disch := decide) only [pt_q, k 0 (by omega), k 1 (by omega), k 2 (by omega), k 3 (by omega), k 4 (by omega), k 5 (by omega), k 6 (by omega), wl, paced]); first | done | exact h)
  | 25, h => (simp only [mr] at h ⊢; (try simp (disch := decide) only [pt_q, k 0 (by omega), k 1 (by omega), k 2 (by omega), k 3 (by omega), k 4 (by omega), k 5 (by omega), k 6 (by omega), wl, paced]); first | done | exact h)
  | 26, h => (simp only [mr] at h ⊢; (try simp (disch := decide) only [pt_q, k 0 (by omega), k 1 (by omega), k 2 (by omega), k 3 (by omega), k 4 (by omega), k 5 (by omega), k 6 (by omega), wl, paced]); first | done | exact h)
  | 27, h => (simp only [mr] at h ⊢; (try simp (disch := decide) only [pt_q, k 0 (by omega), k 1 (by omega), k 2 (by omega), k 3 (by omega), k 4 (by omega), k 5 (by omega), k 6 (by omega), wl, paced]); first | done | exact h)
  | 28, h => (simp only [mr] at h ⊢; (try simp (disch := decide) only [pt_q, k 0 (by omega), k 1 (by omega), k 2 (by omega), k 3 (by omega), k 4 (by omega), k 5 (by omega), k 6 (by omega), wl, paced]); first | done | exact h)
  | 29, h => (simp only [mr] at h ⊢; (try simp (disch := decide) only [pt_q, k 0 (by omega), k 1 (by omega), k 2 (by omega), k 3 (by omega), k 4 (by omega), k 5 (by omega), k 6 (by omega), wl, paced]); first | done | exact h)
  | 30, h => (simp only [mr] at h ⊢; (try simp (disch := decide) only [pt_q, k 0 (by omega), k 1 (by omega), k 2 (by omega), k 3 (by omega), k 4 (by omega), k 5 (by omega), k 6 (by omega), wl, paced]); first | done | exact h)
  | _ + 31, _ => trivial
theorem carT_hold {B T : LW} {σ : Sig} {s gr g g' : Int32} {n p : Nat} : hold (carT B T σ s gr g n) g' p = hold σ g' p := by
  unfold hold np pr; rw [carT_q (by decide), carT_q (by decide)]
theorem m_tires (d : Nat) {B T : LW} {ω σ : Sig} (hM : MR B T ω σ) (hW : WI B T ω) {s : Int32} (hs : bw s (-9) 9) (gr g : Int32) (hl : ∀ p, p < 8 → σ 136 p = nI (loadS B ω s g p)) :
    ∃ σ', Ex (d + 5) 220 0 [.ref 112, .int s, .int gr, .int g, .null] [] G0 σ = some (none, G0, σ') ∧ Fr [113, 134, 135, 138] [] σ σ' ∧ MR B T (carW B T ω s gr g) σ' := by
  rw [b220_0]
  obtain ⟨σ1, e1, i1, i2⟩ := loop_ex (fun p (x : Sig) => Ex (d + 5) 220 3 [.ref 112, .int s, .int gr, .int g, .int (nI p)] [] G0 x) (fun p x => Fr [134, 135, 138] [] σ x ∧ ∀ q, q < p → hold ω g q → x 138 q = tireS B T ω s gr g q) 8 σ ⟨Fr_r, fun q hq => by omega⟩ (by
    intro p x hp ⟨i1, i2⟩
    have hMx : MR B T ω x := MR_S hM i1 (by decide) (by simp)
    show ∃ a', Ex (d + 5) 220 3 [.ref 112, .int s, .int gr, .int g, .int (nI p)] [] G0 x = _ ∧ _
    rw [b220_3]
    simp only [n8 hp, i10, i01, eq_self, if_true, if_false, true_and, false_and, and_true, and_false, not_true, not_false_iff, true_or, or_true, false_or, or_false, ne_eq, not_true_eq_false, not_false_eq_true, m_holds (d + 1) hMx hW g hp, Option.bind_some, Option.toList_some, Option.toList_none, List.cons_append, List.nil_append, i01a, i01b, if_true, if_false, b220_23, bI_z, bI_o, bI_em, ite_not, i8 hp, c8 hp, nI_s]
    by_cases hh : hold ω g p
    · obtain ⟨σ2, e2, f2⟩ := m_tireOf (d + 1) hMx hW hs gr g hp hh (by rw [i1 136 p (by decide) (by simp)]; exact hl p hp)
      simp only [eq_true hh, i10, i01, eq_self, if_true, if_false, true_and, false_and, and_true, and_false, not_true, not_false_iff, true_or, or_true, false_or, or_false, ne_eq, not_true_eq_false, not_false_eq_true, e2, Option.bind_some, Option.toList_some, Option.toList_none, List.cons_append, List.nil_append, i01a, i01b, if_true, if_false, b220_34, i8 hp, c8 hp, nI_s]
      refine ⟨pt σ2 138 p (tireS B T ω s gr g p), rfl, Fr_p (Fr_t i1 (Fr_m f2 (by simp) (by simp))) (Or.inl (by simp)), fun q hq hh2 => ?_⟩
      by_cases e : q = p
      · subst e; rw [pt_e]
      · rw [pt_k e, f2 138 q (by decide) (by simp)]; exact i2 q (by omega) hh2
    · simp only [eq_false hh, i10, i01, eq_self, if_true, if_false, true_and, false_and, and_true, and_false, not_true, not_false_iff, true_or, or_true, false_or, or_false, ne_eq, not_true_eq_false, not_false_eq_true]
      refine ⟨pt x 138 p 0, rfl, Fr_p i1 (Or.inl (by simp)), fun q hq hh2 => ?_⟩
      have e : q ≠ p := fun e => hh (e ▸ hh2)
      rw [pt_k e]; exact i2 q (by omega) hh2)
  have hM1 : MR B T ω σ1 := MR_S hM i1 (by decide) (by simp)
  rw [show Ex (d + 5) 220 3 [.ref 112, .int s, .int gr, .int g, .int 0] [] G0 σ = _ from e1, b220_3]
  simp only [n88, i10, i01, eq_self, if_true, if_false, true_and, false_and, and_true, and_false, not_true, not_false_iff, true_or, or_true, false_or, or_false, ne_eq, not_true_eq_false, not_false_eq_true]
  obtain ⟨σ2, e2, j1, j2⟩ := loop_ex (fun p (x : Sig) => Ex (d + 5) 220 48 [.ref 112, .int s, .int gr, .int g, .int (nI p)] [] G0 x) (fun p x => MR B T (carT B T ω s gr g p) x ∧ Fr [113] [] σ1 x) 8 σ1 ⟨hM1, Fr_r⟩ (by
    intro p x hp ⟨j1, j2⟩
    have hWp : WI B T (carT B T ω s gr g p) := WI_7 hW (fun q hq => carT_q hq p) (fun b hb => carT_bw hW hb p (by omega))
    show ∃ a', Ex (d + 5) 220 48 [.ref 112, .int s, .int gr, .int g, .int (nI p)] [] G0 x = _ ∧ _
    rw [b220_48]
    have hho := m_holds (d + 1) j1 hWp g hp
    simp only [n8 hp, i10, i01, eq_self, if_true, if_false, true_and, false_and, and_true, and_false, not_true, not_false_iff, true_or, or_true, false_or, or_false, ne_eq, not_true_eq_false, not_false_eq_true, hho, Option.bind_some, Option.toList_some, Option.toList_none, List.cons_append, List.nil_append, i01a, i01b, if_true, if_false, b220_62, bI_z, bI_o, bI_em, ite_not, carT_hold, nI_s]
    have cT : carT B T ω s gr g (p + 1) = carF B T ω s gr g p (carT B T ω s gr g p) := rfl
    rw [cT]
    unfold carF
    by_cases hh : hold ω g p
    · obtain ⟨_, _, hb8, ew⟩ := WI_who hW hp hh.2.1
      have e23 : (23 : Int32) + nI (wN ω p) = nI (23 + wN ω p) := nI_add 23 _
      have w9 : carT B T ω s gr g p 9 p = nI (wN ω p) := by rw [carT_q (by decide)]; exact ew
      have h16 : mr B T (carT B T ω s gr g p) x 16 := j1 16
      have h7 : x 113 (23 + wN ω p) = ω 7 (wN ω p) := by
        rw [h16 _ hb8]
        exact carT_b hW p (by omega) (fun q hq hh2 e => by have := WI_inj hW (by omega) hp hh2.2.1 hh.2.1 e; omega)
      have h38 : x 138 p = tireS B T ω s gr g p := by rw [j2 138 p (by decide) (by simp)]; exact i2 p hp hh
      have hv : mx 0 (mn 1000 (ω 7 (wN ω p) + tireS B T ω s gr g p)) = mn 1000 (ω 7 (wN ω p) + tireS B T ω s gr g p) := by
        have h13 : wi B T ω 13 := hW 13
        obtain ⟨y, ey, _, ly, _⟩ := bwN (a := 0) (b := 1000) (h13 _ hb8)
        obtain ⟨t, lt, et⟩ := tire_r (B := B) (T := T) (σ := ω) (s := s) (gr := gr) (g := g) (p := p)
        have e1000 : (1000 : Int32) = nI 1000 := rfl
        rw [ey, et, nI_add, e1000, mn_n (by omega) (by omega)]
        exact mx_n0.resolve_right (by omega)
      simp only [eq_true hh, i10, i01, eq_self, if_true, if_false, true_and, false_and, and_true, and_false, not_true, not_false_iff, true_or, or_true, false_or, or_false, ne_eq, not_true_eq_false, not_false_eq_true, (fun d => m_who d j1 hp), w9, Option.bind_some, Option.toList_some, Option.toList_none, List.cons_append, List.nil_append, i01a, i01b, if_true, if_false, b220_77, b220_91, e23, inb_n (show 23 + wN ω p < 31 by omega) (show 23 + wN ω p < 2 ^ 31 by omega), nI_c (show 23 + wN ω p < 2 ^ 31 by omega), i8 hp, c8 hp, h7, h38, (fun d => m_held d x (ω 7 (wN ω p) + tireS B T ω s gr g p) 0 1000 (by decide)), b220_108, hv, nI_s]
      exact ⟨_, rfl, MR_ti j1 hb8 _, Fr_p j2 (Or.inl (by simp))⟩
    · simp only [eq_false hh, i10, i01, eq_self, if_true, if_false, true_and, false_and, and_true, and_false, not_true, not_false_iff, true_or, or_true, false_or, or_false, ne_eq, not_true_eq_false, not_false_eq_true]
      exact ⟨x, rfl, j1, j2⟩)
  have hW8 : WI B T (carT B T ω s gr g 8) := WI_7 hW (fun q hq => carT_q hq 8) (fun b hb => carT_bw hW hb 8 (by omega))
  rw [show Ex (d + 5) 220 48 [.ref 112, .int s, .int gr, .int g, .int 0] [] G0 σ1 = _ from e2]
  show ∃ σ', Ex (d + 5) 220 48 [.ref 112, .int s, .int gr, .int g, .int (nI 8)] [] G0 σ2 = _ ∧ _
  rw [b220_48]
  have h11 : σ2 113 4 = ω 1 8 := by rw [show σ2 113 4 = (carT B T ω s gr g 8) 1 8 from j1 11, carT_q (by decide)]
  have h2 : σ2 112 8 + 50 = ω 1 2 := by rw [show σ2 112 8 = (carT B T ω s gr g 8) 1 2 - 50 from j1 2, carT_q (by decide), Int32.sub_add_cancel]
  have hw : wrongS (carT B T ω s gr g 8) g = wrongS ω g := by
    have : wrongF (carT B T ω s gr g 8) g = wrongF ω g := by
      funext p a; unfold wrongF wN
      simp only [carT_hold, carT_q (show (5 : Nat) ≠ 7 by decide), carT_q (show (9 : Nat) ≠ 7 by decide)]
    unfold wrongS; rw [this]
  simp only [n88, i10, i01, eq_self, if_true, if_false, true_and, false_and, and_true, and_false, not_true, not_false_iff, true_or, or_true, false_or, or_false, ne_eq, not_true_eq_false, not_false_eq_true, m_loose, Option.bind_some, Option.toList_some, Option.toList_none, List.cons_append, List.nil_append, i01a, i01b, if_true, if_false, b220_134, h11, h2, m_wrong d g j1 hW8, hw, b220_143, m_lesser, b220_147]
  refine ⟨_, rfl, Fr_p (Fr_t (Fr_m i1 (by simp) (by simp)) (Fr_m j2 (by simp) (by simp))) (Or.inl (by simp)), ?_⟩
  exact MR_n4 j1 _
