/-! L3: text: a law or a way is taken -/
/-- slots of law w in the model -/
abbrev LSw (w q k : Nat) : Prop := (q = 126 ∧ k = w) ∨ ((q = 127 ∨ q = 128 ∨ q = 129) ∧ 16 * w ≤ k ∧ k < 16 * w + 16) ∨ ((q = 130 ∨ q = 131) ∧ 400 * w ≤ k ∧ k < 400 * w + 400)
theorem modLaw_k {lf lw lt op ar lf' lw' lt' op' ar' : Nat → Int32} {lb cb : Nat} {ls : LW} (h : modLaw lf lw lt op ar lb cb ls) (h1 : ∀ k, k < ls.length → lf' (lb + k) = lf (lb + k) ∧ lw' (lb + k) = lw (lb + k) ∧ lt' (lb + k) = lt (lb + k)) (h2 : ∀ i, i < (tot ls).length → op' (cb + i) = op (cb + i) ∧ ar' (cb + i) = ar (cb + i)) : modLaw lf' lw' lt' op' ar' lb cb ls := by
  refine ⟨fun k hk => ?_, fun i hi => ?_⟩
  · obtain ⟨a, b, c⟩ := h1 k hk; rw [a, b, c]; exact h.1 k hk
  · obtain ⟨a, b⟩ := h2 i hi; rw [a, b]; exact h.2 i hi
theorem WI_lw0 {B T ls : LW} {ω ω' : Sig} (hW : WI B T ω) (q : ∀ q, 1 ≤ q ∧ q ≤ 26 ∧ q ≠ 14 ∧ q ≠ 15 ∧ q ≠ 16 ∧ q ≠ 19 → ω' q = ω q) (h20 : clsLaw (ω' 15) (ω' 14 0) (ω' 14 1) ls ∧ okL ls ∧ okFa 0 ls) : WI ls T ω' := by
  intro i
  have h := hW i
  match i, h with
  | 0, h => (simp only [wi, np, pr, sz, wl, paced] at h ⊢; (try simp (disch := decide) only [q]); first | done | exact h)
  | 1, h => (simp only [wi, np, pr, sz, wl, paced] at h ⊢; (try simp (disch := decide) only [q]); first | done | exact h)
  | 2, h => (simp only [wi, np, pr, sz, wl, paced] at h ⊢; (try simp (disch := decide) only [q]); first | done | exact h)
  | 3, h => (simp only [wi, np, pr, sz, wl, paced] at h ⊢; (try simp (disch := decide) only [q]); first | done | exact h)
  | 4, h => (simp only [wi, np, pr, sz, wl, paced] at h ⊢; (try simp (disch := decide) only [q]); first | done | exact h)
  | 5, h => (simp only [wi, np, pr, sz, wl, paced] at h ⊢; (try simp (disch := decide) only [q]); first | done | exact h)
  | 6, h => (simp only [wi, np, pr, sz, wl, paced] at h ⊢; (try simp (disch := decide) only [q]); first | done | exact h)
  | 7, h => (simp only [wi, np, pr, sz, wl, paced] at h ⊢; (try simp (disch := decide) only [q]); first | done | exact h)
  | 8, h => (simp only [wi, np, pr, sz, wl, paced] at h ⊢; (try simp (disch := decide) only [q]); first | done | exact h)
  | 9, h => (simp only [wi, np, pr, sz, wl, paced] at h ⊢; (try simp (disch := decide) only [q]); first | done | exact h)
  | 10, h => (simp only [wi, np, pr, sz, wl, paced] at h ⊢; (try simp (disch := decide) only [q]); first | done | exact h)
  | 11, h => (simp only [wi, np, pr, sz, wl, paced] at h ⊢; (try simp (disch := decide) only [q]); first | done | exact h)
  | 12, h => (simp only [wi, np, pr, sz, wl, paced] at h ⊢; (try simp (disch := decide) only [q]); first | done | exact h)
  | 13, h => (simp only [wi, np, pr, sz, wl, paced] at h ⊢; (try simp (disch := decide) only [q]); first | done | exact h)
  | 14, h => (simp only [wi, np, pr, sz, wl, paced] at h ⊢; (try simp (disch := decide) only [q]); first | done | exact h)
  | 15, h => (simp only [wi, np, pr, sz, wl, paced] at h ⊢; (try simp (disch := decide) only [q]); first | done | exact h)
  | 16, h => (simp only [wi, np, pr, sz, wl, paced] at h ⊢; (try simp (disch := decide) only [q]); first | done | exact h)
  | 17, h => (simp only [wi, np, pr, sz, wl, paced] at h ⊢; (try simp (disch := decide) only [q]); first | done | exact h)
  | 18, h => (simp only [wi, np, pr, sz, wl, paced] at h ⊢; (try simp (disch := decide) only [q]); first | done | exact h)
  | 19, h => (simp only [wi, np, pr, sz, wl, paced] at h ⊢; (try simp (disch := decide) only [q]); first | done | exact h)
  | 20, h => exact h20
  | 21, h => (simp only [wi, np, pr, sz, wl, paced] at h ⊢; (try simp (disch := decide) only [q]); first | done | exact h)
  | 22, h => (simp only [wi, np, pr, sz, wl, paced] at h ⊢; (try simp (disch := decide) only [q]); first | done | exact h)
  | _ + 23, _ => trivial
theorem MR_lw0 {B T ls : LW} {ω ω' s σ2 : Sig} (hM : MR B T ω s) (okK : okL T) (q : ∀ q, 1 ≤ q ∧ q ≤ 26 ∧ q ≠ 14 ∧ q ≠ 15 ∧ q ≠ 16 ∧ q ≠ 19 → ω' q = ω q) (m : ∀ q k, (q = 112 ∧ ((6 ≤ k ∧ k ≤ 12) ∨ k = 43)) ∨ q = 113 ∨ (116 ≤ q ∧ q ≤ 123) ∨ (q = 133 ∧ k < 160) ∨ (q = 126 ∧ k = 1) ∨ ((q = 127 ∨ q = 128 ∨ q = 129) ∧ 16 ≤ k ∧ k < 16 + 16) ∨ ((q = 130 ∨ q = 131) ∧ 400 ≤ k ∧ k < 400 + 400) → σ2 q k = s q k) (hwl : wl ω ≤ 40)
    (h27 : σ2 126 0 = ω' 14 0) (h29 : modLaw (σ2 127) (σ2 128) (σ2 129) (σ2 130) (σ2 131) 0 0 ls) : MR ls T ω' σ2 := by
  have mq : ∀ q, q = 113 ∨ (116 ≤ q ∧ q ≤ 123) → σ2 q = s q := fun q hq => by funext k; exact m q k (by omega)
  have mk : ∀ k, (6 ≤ k ∧ k ≤ 12) ∨ k = 43 → σ2 112 k = s 112 k := fun k hk => m 112 k (by omega)
  have ewl : wl ω' = wl ω := by unfold wl; rw [q 20 (by decide)]
  intro i
  have h := hM i
  match i, h with
  | 0, h => simp only [mr] at h ⊢; rw [mk 6 (by omega), q 1 (by decide)]; exact h
  | 1, h => simp only [mr] at h ⊢; rw [mk 7 (by omega), q 8 (by decide)]; exact h
  | 2, h => simp only [mr] at h ⊢; rw [mk 8 (by omega), q 1 (by decide)]; exact h
  | 3, h => simp only [mr] at h ⊢; rw [mk 9 (by omega), q 1 (by decide)]; exact h
  | 4, h => simp only [mr] at h ⊢; rw [mk 10 (by omega), q 1 (by decide)]; exact h
  | 5, h => simp only [mr] at h ⊢; rw [mk 11 (by omega), q 1 (by decide)]; exact h
  | 6, h => simp only [mr] at h ⊢; rw [mk 12 (by omega), q 2 (by decide)]; exact h
  | 7, h => simp only [mr] at h ⊢; rw [mq 113 (by omega), q 1 (by decide)]; exact h
  | 8, h => simp only [mr] at h ⊢; rw [mq 113 (by omega), q 1 (by decide)]; exact h
  | 9, h => simp only [mr] at h ⊢; rw [mq 113 (by omega), q 25 (by decide)]; exact h
  | 10, h => simp only [mr] at h ⊢; rw [mq 113 (by omega), q 1 (by decide)]; exact h
  | 11, h => simp only [mr] at h ⊢; rw [mq 113 (by omega), q 1 (by decide)]; exact h
  | 12, h => simp only [mr] at h ⊢; rw [mq 113 (by omega), q 1 (by decide)]; exact h
  | 13, h => simp only [mr] at h ⊢; rw [mq 113 (by omega), q 1 (by decide)]; exact h
  | 14, h => simp only [mr] at h ⊢; rw [mq 113 (by omega), q 9 (by decide)]; exact h
  | 15, h => simp only [mr] at h ⊢; rw [mq 113 (by omega), q 10 (by decide)]; exact h
  | 16, h => simp only [mr] at h ⊢; rw [mq 113 (by omega), q 7 (by decide)]; exact h
  | 17, h => simp only [mr] at h ⊢; rw [mq 116 (by omega), q 3 (by decide)]; exact h
  | 18, h => simp only [mr] at h ⊢; rw [mq 117 (by omega), q 4 (by decide)]; exact h
  | 19, h => simp only [mr] at h ⊢; rw [mq 118 (by omega), q 5 (by decide)]; exact h
  | 20, h => simp only [mr] at h ⊢; rw [mq 119 (by omega), q 6 (by decide)]; exact h
  | 21, h => simp only [mr] at h ⊢; rw [mq 120 (by omega), q 11 (by decide)]; exact h
  | 22, h => simp only [mr] at h ⊢; rw [mq 121 (by omega), q 12 (by decide)]; exact h
  | 23, h => simp only [mr] at h ⊢; rw [mq 122 (by omega), q 13 (by decide)]; exact h
  | 24, h => simp only [mr] at h ⊢; rw [mk 43 (by omega), q 20 (by decide)]; exact h
  | 25, h =>
    simp only [mr, paced] at h ⊢; rw [ewl, q 21 (by decide), q 22 (by decide), q 23 (by decide), q 24 (by decide)]; intro l hl
    rw [m 133 (4 * l) (by omega), m 133 (4 * l + 1) (by omega), m 133 (4 * l + 2) (by omega), m 133 (4 * l + 3) (by omega)]; exact h l hl
  | 26, h => simp only [mr] at h ⊢; rw [mq 123 (by omega), q 25 (by decide), q 26 (by decide)]; exact h
  | 27, h => simp only [mr]; exact h27
  | 28, h => simp only [mr] at h ⊢; rw [m 126 1 (by omega), q 17 (by decide)]; exact h
  | 29, h => simp only [mr]; exact h29
  | 30, h =>
    simp only [mr] at h ⊢
    exact modLaw_k h (fun k hk => by have := okK.1; exact ⟨m 127 _ (by omega), m 128 _ (by omega), m 129 _ (by omega)⟩) (fun i hi => by have := okK.2.2.1; exact ⟨m 130 _ (by omega), m 131 _ (by omega)⟩)
  | _ + 31, _ => trivial
theorem WI_lw1 {B T ls : LW} {ω ω' : Sig} (hW : WI B T ω) (q : ∀ q, 1 ≤ q ∧ q ≤ 26 ∧ q ≠ 17 ∧ q ≠ 18 ∧ q ≠ 16 ∧ q ≠ 19 → ω' q = ω q) (h20 : clsLaw (ω' 18) (ω' 17 0) (ω' 17 1) ls ∧ okL ls ∧ okFa 1 ls) : WI B ls ω' := by
  intro i
  have h := hW i
  match i, h with
  | 0, h => (simp only [wi, np, pr, sz, wl, paced] at h ⊢; (try simp (disch := decide) only [q]); first | done | exact h)
  | 1, h => (simp only [wi, np, pr, sz, wl, paced] at h ⊢; (try simp (disch := decide) only [q]); first | done | exact h)
  | 2, h => (simp only [wi, np, pr, sz, wl, paced] at h ⊢; (try simp (disch := decide) only [q]); first | done | exact h)
  | 3, h => (simp only [wi, np, pr, sz, wl, paced] at h ⊢; (try simp (disch := decide) only [q]); first | done | exact h)
  | 4, h => (simp only [wi, np, pr, sz, wl, paced] at h ⊢; (try simp (disch := decide) only [q]); first | done | exact h)
  | 5, h => (simp only [wi, np, pr, sz, wl, paced] at h ⊢; (try simp (disch := decide) only [q]); first | done | exact h)
  | 6, h => (simp only [wi, np, pr, sz, wl, paced] at h ⊢; (try simp (disch := decide) only [q]); first | done | exact h)
  | 7, h => (simp only [wi, np, pr, sz, wl, paced] at h ⊢; (try simp (disch := decide) only [q]); first | done | exact h)
  | 8, h => (simp only [wi, np, pr, sz, wl, paced] at h ⊢; (try simp (disch := decide) only [q]); first | done | exact h)
  | 9, h => (simp only [wi, np, pr, sz, wl, paced] at h ⊢; (try simp (disch := decide) only [q]); first | done | exact h)
  | 10, h => (simp only [wi, np, pr, sz, wl, paced] at h ⊢; (try simp (disch := decide) only [q]); first | done | exact h)
  | 11, h => (simp only [wi, np, pr, sz, wl, paced] at h ⊢; (try simp (disch := decide) only [q]); first | done | exact h)
  | 12, h => (simp only [wi, np, pr, sz, wl, paced] at h ⊢; (try simp (disch := decide) only [q]); first | done | exact h)
  | 13, h => (simp only [wi, np, pr, sz, wl, paced] at h ⊢; (try simp (disch := decide) only [q]); first | done | exact h)
  | 14, h => (simp only [wi, np, pr, sz, wl, paced] at h ⊢; (try simp (disch := decide) only [q]); first | done | exact h)
  | 15, h => (simp only [wi, np, pr, sz, wl, paced] at h ⊢; (try simp (disch := decide) only [q]); first | done | exact h)
  | 16, h => (simp only [wi, np, pr, sz, wl, paced] at h ⊢; (try simp (disch := decide) only [q]); first | done | exact h)
  | 17, h => (simp only [wi, np, pr, sz, wl, paced] at h ⊢; (try simp (disch := decide) only [q]); first | done | exact h)
  | 18, h => (simp only [wi, np, pr, sz, wl, paced] at h ⊢; (try simp (disch := decide) only [q]); first | done | exact h)
  | 19, h => (simp only [wi, np, pr, sz, wl, paced] at h ⊢; (try simp (disch := decide) only [q]); first | done | exact h)
  | 20, h => (simp only [wi, np, pr, sz, wl, paced] at h ⊢; (try simp (disch := decide) only [q]); first | done | exact h)
  | 21, h => exact h20
  | 22, h => (simp only [wi, np, pr, sz, wl, paced] at h ⊢; (try simp (disch := decide) only [q]); first | done | exact h)
  | _ + 23, _ => trivial
theorem MR_lw1 {B T ls : LW} {ω ω' s σ2 : Sig} (hM : MR B T ω s) (okK : okL B) (q : ∀ q, 1 ≤ q ∧ q ≤ 26 ∧ q ≠ 17 ∧ q ≠ 18 ∧ q ≠ 16 ∧ q ≠ 19 → ω' q = ω q) (m : ∀ q k, (q = 112 ∧ ((6 ≤ k ∧ k ≤ 12) ∨ k = 43)) ∨ q = 113 ∨ (116 ≤ q ∧ q ≤ 123) ∨ (q = 133 ∧ k < 160) ∨ (q = 126 ∧ k = 0) ∨ ((q = 127 ∨ q = 128 ∨ q = 129) ∧ 0 ≤ k ∧ k < 0 + 16) ∨ ((q = 130 ∨ q = 131) ∧ 0 ≤ k ∧ k < 0 + 400) → σ2 q k = s q k) (hwl : wl ω ≤ 40)
    (h27 : σ2 126 1 = ω' 17 0) (h29 : modLaw (σ2 127) (σ2 128) (σ2 129) (σ2 130) (σ2 131) 16 400 ls) : MR B ls ω' σ2 := by
  have mq : ∀ q, q = 113 ∨ (116 ≤ q ∧ q ≤ 123) → σ2 q = s q := fun q hq => by funext k; exact m q k (by omega)
  have mk : ∀ k, (6 ≤ k ∧ k ≤ 12) ∨ k = 43 → σ2 112 k = s 112 k := fun k hk => m 112 k (by omega)
  have ewl : wl ω' = wl ω := by unfold wl; rw [q 20 (by decide)]
  intro i
  have h := hM i
  match i, h with
  | 0, h => simp only [mr] at h ⊢; rw [mk 6 (by omega), q 1 (by decide)]; exact h
  | 1, h => simp only [mr] at h ⊢; rw [mk 7 (by omega), q 8 (by decide)]; exact h
  | 2, h => simp only [mr] at h ⊢; rw [mk 8 (by omega), q 1 (by decide)]; exact h
  | 3, h => simp only [mr] at h ⊢; rw [mk 9 (by omega), q 1 (by decide)]; exact h
  | 4, h => simp only [mr] at h ⊢; rw [mk 10 (by omega), q 1 (by decide)]; exact h
  | 5, h => simp only [mr] at h ⊢; rw [mk 11 (by omega), q 1 (by decide)]; exact h
  | 6, h => simp only [mr] at h ⊢; rw [mk 12 (by omega), q 2 (by decide)]; exact h
  | 7, h => simp only [mr] at h ⊢; rw [mq 113 (by omega), q 1 (by decide)]; exact h
  | 8, h => simp only [mr] at h ⊢; rw [mq 113 (by omega), q 1 (by decide)]; exact h
  | 9, h => simp only [mr] at h ⊢; rw [mq 113 (by omega), q 25 (by decide)]; exact h
  | 10, h => simp only [mr] at h ⊢; rw [mq 113 (by omega), q 1 (by decide)]; exact h
  | 11, h => simp only [mr] at h ⊢; rw [mq 113 (by omega), q 1 (by decide)]; exact h
  | 12, h => simp only [mr] at h ⊢; rw [mq 113 (by omega), q 1 (by decide)]; exact h
  | 13, h => simp only [mr] at h ⊢; rw [mq 113 (by omega), q 1 (by decide)]; exact h
  | 14, h => simp only [mr] at h ⊢; rw [mq 113 (by omega), q 9 (by decide)]; exact h
  | 15, h => simp only [mr] at h ⊢; rw [mq 113 (by omega), q 10 (by decide)]; exact h
  | 16, h => simp only [mr] at h ⊢; rw [mq 113 (by omega), q 7 (by decide)]; exact h
  | 17, h => simp only [mr] at h ⊢; rw [mq 116 (by omega), q 3 (by decide)]; exact h
  | 18, h => simp only [mr] at h ⊢; rw [mq 117 (by omega), q 4 (by decide)]; exact h
  | 19, h => simp only [mr] at h ⊢; rw [mq 118 (by omega), q 5 (by decide)]; exact h
  | 20, h => simp only [mr] at h ⊢; rw [mq 119 (by omega), q 6 (by decide)]; exact h
  | 21, h => simp only [mr] at h ⊢; rw [mq 120 (by omega), q 11 (by decide)]; exact h
  | 22, h => simp only [mr] at h ⊢; rw [mq 121 (by omega), q 12 (by decide)]; exact h
  | 23, h => simp only [mr] at h ⊢; rw [mq 122 (by omega), q 13 (by decide)]; exact h
  | 24, h => simp only [mr] at h ⊢; rw [mk 43 (by omega), q 20 (by decide)]; exact h
  | 25, h =>
    simp only [mr, paced] at h ⊢; rw [ewl, q 21 (by decide), q 22 (by decide), q 23 (by decide), q 24 (by decide)]; intro l hl
    rw [m 133 (4 * l) (by omega), m 133 (4 * l + 1) (by omega), m 133 (4 * l + 2) (by omega), m 133 (4 * l + 3) (by omega)]; exact h l hl
  | 26, h => simp only [mr] at h ⊢; rw [mq 123 (by omega), q 25 (by decide), q 26 (by decide)]; exact h
  | 28, h => simp only [mr]; exact h27
  | 27, h => simp only [mr] at h ⊢; rw [m 126 0 (by omega), q 14 (by decide)]; exact h
  | 30, h => simp only [mr]; exact h29
  | 29, h =>
    simp only [mr] at h ⊢
    exact modLaw_k h (fun k hk => by have := okK.1; exact ⟨m 127 _ (by omega), m 128 _ (by omega), m 129 _ (by omega)⟩) (fun i hi => by have := okK.2.2.1; exact ⟨m 130 _ (by omega), m 131 _ (by omega)⟩)
  | _ + 31, _ => trivial
theorem MR_lo {B T : LW} {v σ ρ ρ' : Sig} (h1 : MR B T v ρ) (h2 : MR B T σ σ) (e14 : σ 14 = v 14) (e17 : σ 17 = v 17) (p : ∀ q, ¬ (126 ≤ q ∧ q ≤ 131) → ρ' q = ρ q) (l : ∀ q, 126 ≤ q ∧ q ≤ 131 → ρ' q = σ q) : MR B T v ρ' := by
  intro i
  have h := h1 i
  have hs := h2 i
  match i, h, hs with
  | 0, h, _ => simp only [mr] at h ⊢; rw [p 112 (by omega)]; exact h
  | 1, h, _ => simp only [mr] at h ⊢; rw [p 112 (by omega)]; exact h
  | 2, h, _ => simp only [mr] at h ⊢; rw [p 112 (by omega)]; exact h
  | 3, h, _ => simp only [mr] at h ⊢; rw [p 112 (by omega)]; exact h
  | 4, h, _ => simp only [mr] at h ⊢; rw [p 112 (by omega)]; exact h
  | 5, h, _ => simp only [mr] at h ⊢; rw [p 112 (by omega)]; exact h
  | 6, h, _ => simp only [mr] at h ⊢; rw [p 112 (by omega)]; exact h
  | 7, h, _ => simp only [mr] at h ⊢; rw [p 113 (by omega)]; exact h
  | 8, h, _ => simp only [mr] at h ⊢; rw [p 113 (by omega)]; exact h
  | 9, h, _ => simp only [mr] at h ⊢; rw [p 113 (by omega)]; exact h
  | 10, h, _ => simp only [mr] at h ⊢; rw [p 113 (by omega)]; exact h
  | 11, h, _ => simp only [mr] at h ⊢; rw [p 113 (by omega)]; exact h
  | 12, h, _ => simp only [mr] at h ⊢; rw [p 113 (by omega)]; exact h
  | 13, h, _ => simp only [mr] at h ⊢; rw [p 113 (by omega)]; exact h
  | 14, h, _ => simp only [mr] at h ⊢; rw [p 113 (by omega)]; exact h
  | 15, h, _ => simp only [mr] at h ⊢; rw [p 113 (by omega)]; exact h
  | 16, h, _ => simp only [mr] at h ⊢; rw [p 113 (by omega)]; exact h
  | 17, h, _ => simp only [mr] at h ⊢; rw [p 116 (by omega)]; exact h
  | 18, h, _ => simp only [mr] at h ⊢; rw [p 117 (by omega)]; exact h
  | 19, h, _ => simp only [mr] at h ⊢; rw [p 118 (by omega)]; exact h
  | 20, h, _ => simp only [mr] at h ⊢; rw [p 119 (by omega)]; exact h
  | 21, h, _ => simp only [mr] at h ⊢; rw [p 120 (by omega)]; exact h
  | 22, h, _ => simp only [mr] at h ⊢; rw [p 121 (by omega)]; exact h
  | 23, h, _ => simp only [mr] at h ⊢; rw [p 122 (by omega)]; exact h
  | 24, h, _ => simp only [mr] at h ⊢; rw [p 112 (by omega)]; exact h
  | 25, h, _ => simp only [mr] at h ⊢; rw [p 133 (by omega)]; exact h
  | 26, h, _ => simp only [mr] at h ⊢; rw [p 123 (by omega)]; exact h
  | 27, _, hs => simp only [mr] at hs ⊢; rw [l 126 (by omega), ← e14]; exact hs
  | 28, _, hs => simp only [mr] at hs ⊢; rw [l 126 (by omega), ← e17]; exact hs
  | 29, _, hs => simp only [mr] at hs ⊢; rw [l 127 (by omega), l 128 (by omega), l 129 (by omega), l 130 (by omega), l 131 (by omega)]; exact hs
  | 30, _, hs => simp only [mr] at hs ⊢; rw [l 127 (by omega), l 128 (by omega), l 129 (by omega), l 130 (by omega), l 131 (by omega)]; exact hs
  | _ + 31, _, _ => trivial
section
variable {σ : Sig}
theorem Td_up {v w w' : Sig} {a b : Nat} (ha : a ∉ [1, 7, 9, 10, 16, 19, 25, 26]) (hb : b ∉ [1, 7, 9, 10, 16, 19, 25, 26]) (h : Td v w) (e : ∀ q, 1 ≤ q → q ≤ 26 → q ≠ a → q ≠ b → q ≠ 16 → q ≠ 19 → w' q = w q) : Td (fun q => if q = a ∨ q = b then w' q else v q) w' := by
  have n : ∀ q, q ∈ [1, 7, 9, 10, 25, 26] → ¬ (q = a ∨ q = b) := by
    intro q hq c
    simp at hq ha hb
    omega
  have e2 : ∀ q, q ∈ [1, 7, 9, 10, 25, 26] → w' q = w q := fun q hq => by
    have := n q hq
    simp at hq
    exact e q (by omega) (by omega) (by omega) (by omega) (by omega) (by omega)
  have u : ∀ q, q ∈ [1, 7, 9, 10, 25, 26] → (fun q => if q = a ∨ q = b then w' q else v q) q = v q := fun q hq => if_neg (n q hq)
  refine ⟨⟨fun q c1 c2 c3 => ?_, fun k hk => ?_, fun k hk => ?_, fun k hk => ?_, fun i hi => ?_⟩, ?_⟩
  · by_cases c : q = a ∨ q = b
    · exact (if_pos c).symm
    · refine Eq.trans ?_ (if_neg c).symm
      simp at c3
      rw [e q c1 c2 (by omega) (by omega) (by omega) (by omega)]; exact h.1.1 q c1 c2 (by simp; omega)
  · rw [u 1 (by decide), e2 1 (by decide)]; exact h.1.2.1 k hk
  · rw [u 7 (by decide), e2 7 (by decide), u 9 (by decide), e2 9 (by decide), u 10 (by decide), e2 10 (by decide)]; exact h.1.2.2.1 k hk
  · rw [u 25 (by decide), e2 25 (by decide)]; exact h.1.2.2.2.1 k hk
  · rw [u 25 (by decide)] at hi
    rw [u 26 (by decide), e2 26 (by decide)]; exact h.1.2.2.2.2 i hi
  · unfold lns
    rw [u 25 (by decide), e2 25 (by decide)]; exact h.2
theorem q_text0 (h : INV σ) : ∃ u σ1 σ2, Ex (0 + 40) 106 0 [.ref 0, .int 0] [] G0 σ = some (some (.int u), G0, σ1) ∧ Ex (0 + 40) 200 0 [.ref 112, .int 0, .null] [] G0 σ1 = some (some (.int u), G0, σ2) ∧ INV σ2 := by
  obtain ⟨B, T, L, hI⟩ := h
  have hJ := hI
  obtain ⟨hW, hM, hU, hC, hMU, hK, h5, h67, ⟨⟨b, n, te, tm⟩, hf, hi⟩, hS⟩ := hI
  obtain ⟨σ1, v, N, F, E, e1, tk, a0, r1⟩ := c_text0 17 te
  have F1 : Fr (15 :: SCTx) [(14, 0), (14, 1), (0, 10)] σ σ1 := by
    cases hw : pLw (kd b N F E) (vN b F E) 15 16 0 with
    | inl y => rw [hw] at r1; obtain ⟨y1, y2⟩ := y; exact Fr_m r1.2.2.2 (fun q hq => List.mem_cons_of_mem _ hq) (by simp)
    | inr ls => rw [hw] at r1; exact r1.2.2.2.2.2
  obtain ⟨σ2, v2, e2, b0, r2⟩ := m_text0 (40 - 9) (TPm_fr tm F1 (by decide) (by decide)) tk
  cases hw : pLw (kd b N F E) (vN b F E) 15 16 0 with
  | inl y =>
    rw [hw] at r1 r2
    obtain ⟨y1, y2⟩ := y
    obtain ⟨c1, c2, c3, c4⟩ := r1
    obtain ⟨d1, d2, d3, d4⟩ := r2
    rw [c1] at e1
    rw [d1] at e2
    exact ⟨_, σ1, σ2, e1, e2, B, T, L, IV_f hJ c4 d4 a0 b0 ⟨c2.trans d2.symm, c3.trans d3.symm⟩⟩
  | inr ls =>
    rw [hw] at r1 r2
    obtain ⟨c1, c2, c3, c4, c5, c6⟩ := r1
    obtain ⟨d1, d2, d3, d4, d5, d6⟩ := r2
    rw [c1] at e1
    rw [d1] at e2
    have hN : N ≤ n := tk.2.2.2
    have hn := te.1
    obtain ⟨p1, p2, p3, p4, p5⟩ := pLw_k kd_e (fun t ht => (kd_30 tk ht).2.2.2) (by decide) 16 0 ls (Nat.zero_le _) hw
    have ok : okL ls ∧ okFa 0 ls := ⟨⟨p1, by omega, by omega, p4⟩, p5⟩
    have g2 : ∀ q, q < 112 → σ2 q = σ1 q := fun q hq => by funext k; exact d6 q k (by simp only [DW, DT, Dl, Da, Ds]; omega)
    have g1 : ∀ q, ¬ (53 ≤ q ∧ q ≤ 66) → q ≠ 0 → q ≠ 14 → q ≠ 15 → σ1 q = σ q := fun q hq h0 h1 h2 => Fr_q F1 (by unfold SCTx; simp; omega) (by simp; omega)
    have z1 : ∀ k, k ≠ 10 → σ1 0 k = σ 0 k := fun k hk => F1 0 k (by decide) (by simp; omega)
    have c2' : ∀ q, q = 114 ∨ q = 124 ∨ q = 125 ∨ q = 142 → σ2 q = σ q := fun q hq => by rw [← g1 q (by omega) (by omega) (by omega) (by omega)]; funext k; exact d6 q k (by simp only [DW, DT, Dl, Da, Ds]; omega)
    have z2 : ∀ k, k = 3 ∨ k = 5 ∨ k = 58 → σ2 112 k = σ 112 k := fun k hk => by rw [← g1 112 (by omega) (by omega) (by omega) (by omega)]; exact d6 112 k (by simp only [DW, DT, Dl, Da, Ds]; omega)
    have gq : ∀ q, 1 ≤ q ∧ q ≤ 26 ∧ q ≠ 14 ∧ q ≠ 15 ∧ q ≠ 16 ∧ q ≠ 19 → σ2 q = σ q := fun q hq => by rw [g2 q (by omega), g1 q (by omega) (by omega) (by omega) (by omega)]
    have hcl : clsLaw (σ2 15) (σ2 14 0) (σ2 14 1) ls ∧ okL ls ∧ okFa 0 ls := ⟨by rw [g2 15 (by decide), g2 14 (by decide)]; exact c4, ok⟩
    have hW2 : WI ls T σ2 := WI_lw0 hW gq hcl
    have okK : okL T := (hW 21).2.1
    have hwl : wl σ ≤ 40 := (hW 15).2
    have mm : ∀ q k, (q = 112 ∧ ((6 ≤ k ∧ k ≤ 12) ∨ k = 43)) ∨ q = 113 ∨ (116 ≤ q ∧ q ≤ 123) ∨ (q = 133 ∧ k < 160) ∨ (q = 126 ∧ k = 1) ∨ ((q = 127 ∨ q = 128 ∨ q = 129) ∧ 16 ≤ k ∧ k < 16 + 16) ∨ ((q = 130 ∨ q = 131) ∧ 400 ≤ k ∧ k < 400 + 400) → σ2 q k = σ q k := fun q k hq => by
      rw [← g1 q (by omega) (by omega) (by omega) (by omega)]
      exact d6 q k (by simp only [DW, DT, Dl, Da, Ds]; omega)
    have h27 : σ2 126 0 = σ2 14 0 := by rw [d5, hcl.1.1]
    have hM2 : MR ls T σ2 σ2 := MR_lw0 hM okK gq mm hwl h27 d4
    let up : Sig → Sig := fun v q => if q = 14 ∨ q = 15 then σ2 q else v q
    have upq : ∀ (v : Sig) q, q ≠ 14 → q ≠ 15 → up v q = v q := fun v q h1 h2 => if_neg (fun e => e.elim h1 h2)
    have upA : ∀ v : Sig, up v 14 = σ2 14 ∧ up v 15 = σ2 15 := fun v => ⟨if_pos (Or.inl rfl), if_pos (Or.inr rfl)⟩
    have upW : ∀ v : Sig, WI B T v → WI ls T (up v) := fun v hv => WI_lw0 hv (fun q hq => upq v q hq.2.2.1 hq.2.2.2.1) (by rw [(upA v).1, (upA v).2]; exact hcl)
    have hU' : UL ls T (L.map up) σ2 := by
      refine ⟨by rw [List.length_map]; exact hU.1, fun v hv => ?_⟩
      obtain ⟨u, hu, e⟩ := List.mem_map.mp hv
      subst e
      exact ⟨upW u (hU.2 u hu).1, Td_up (a := 14) (b := 15) (by decide) (by decide) (hU.2 u hu).2 (fun q a b c d e f => gq q ⟨a, b, c, d, e, f⟩)⟩
    have hC' : CU (L.map up) σ2 := by
      have hC0 := CU_k (σ' := σ2) hC (by rw [g2 0 (by omega), z1 7 (by decide)]) (by rw [g2 0 (by omega), z1 8 (by decide)]) (fun q c1 c2 => by rw [g2 q c2, g1 q (by omega) (by omega) (by omega) (by omega)])
      obtain ⟨c8, o, ho, c7, hm⟩ := hC0
      refine ⟨by rw [List.length_map]; exact c8, o, ho, c7, fun j hj => ?_⟩
      rw [List.length_map] at hj
      rw [List.getElem_map]
      have hmj := hm j hj
      unfold MM at hmj ⊢
      rw [upq _ 1 (by decide) (by decide), upq _ 25 (by decide) (by decide), upq _ 9 (by decide) (by decide), upq _ 10 (by decide) (by decide), upq _ 7 (by decide) (by decide)]
      exact hmj
    have hMU' : MU ls T (L.map up) σ2 := by
      have hMU0 := MU_fr (σ' := σ2) hMU (z2 3 (by omega)) (c2' 114 (by omega))
      refine ⟨by rw [List.length_map]; exact hMU0.1, fun j hj => ?_⟩
      rw [List.length_map] at hj
      obtain ⟨ρ, r1, r2⟩ := hMU0.2 j hj
      rw [List.getElem_map]
      have hv := hU.2 L[j] (List.getElem_mem hj)
      let ρ' : Sig := fun q k => if 126 ≤ q ∧ q ≤ 131 then σ2 q k else ρ q k
      have p' : ∀ q, ¬ (126 ≤ q ∧ q ≤ 131) → ρ' q = ρ q := fun q hq => by funext k; exact if_neg hq
      have l' : ∀ q, 126 ≤ q ∧ q ≤ 131 → ρ' q = σ2 q := fun q hq => by funext k; exact if_pos hq
      refine ⟨ρ', ?_, fun k hk => by rw [p' 113 (by omega)]; exact r2 k hk⟩
      -- first with the law's slots of ρ as they were
      have base : MR B T L[j] (fun q k => if 126 ≤ q ∧ q ≤ 131 then σ q k else ρ q k) := MR_lo r1 hM (hv.2.1.1 14 (by omega) (by omega) (by decide)) (hv.2.1.1 17 (by omega) (by omega) (by decide)) (fun q hq => by funext k; exact if_neg hq) (fun q hq => by funext k; exact if_pos hq)
      refine MR_lw0 base okK (fun q hq => upq _ q hq.2.2.1 hq.2.2.2.1) (fun q k hq => ?_) ((hv.1 15).2) (by rw [l' 126 (by omega), (upA _).1]; exact h27) (by rw [l' 127 (by omega), l' 128 (by omega), l' 129 (by omega), l' 130 (by omega), l' 131 (by omega)]; exact d4)
      show (if 126 ≤ q ∧ q ≤ 131 then σ2 q k else ρ q k) = (if 126 ≤ q ∧ q ≤ 131 then σ q k else ρ q k)
      by_cases c : 126 ≤ q ∧ q ≤ 131
      · rw [if_pos c, if_pos c]; exact mm q k hq
      · rw [if_neg c, if_neg c]
    have hS' : SLw (L.map up) := by
      refine List.pairwise_map.mpr (List.Pairwise.imp ?_ hS)
      intro u v huv
      have l : ∀ v : Sig, lns (up v) = lns v := fun v => by unfold lns; rw [upq _ 25 (by decide) (by decide)]
      rw [l, l]; exact huv
    refine ⟨_, σ1, σ2, e1, e2, _, _, _, IV_g hW2 hM2 Wb_r hU' hC' hMU' (KN_0 (by rw [g2 0 (by omega)]; exact c5)) (by rw [z2 5 (by omega)]; exact h5) (by rw [g2 67 (by omega), g1 67 (by omega) (by omega) (by omega) (by omega)]; exact h67) ⟨⟨b, 0, ⟨Nat.zero_le _, by rw [g2 53 (by omega)]; exact a0, fun i hi => absurd hi (Nat.not_lt_zero i)⟩, ⟨Nat.zero_le _, b0, fun i hi => absurd hi (Nat.not_lt_zero i), by rw [c2' 125 (by omega)]; exact tm.2.2.2⟩⟩, ⟨by rw [g2 53 (by omega), c2, d2], by rw [g2 53 (by omega), c3, d3]⟩, IMG_x hi (by rw [g2 0 (by omega), z1 9 (by decide)]) (z2 58 (by omega)) (c2' 142 (by omega)) (fun q a b => by rw [g2 q (by omega), g1 q (by omega) (by omega) (by omega) (by omega)])⟩ hS'⟩
theorem q_text1 (h : INV σ) : ∃ u σ1 σ2, Ex (0 + 40) 106 0 [.ref 0, .int 1] [] G0 σ = some (some (.int u), G0, σ1) ∧ Ex (0 + 40) 200 0 [.ref 112, .int 1, .null] [] G0 σ1 = some (some (.int u), G0, σ2) ∧ INV σ2 := by
  obtain ⟨B, T, L, hI⟩ := h
  have hJ := hI
  obtain ⟨hW, hM, hU, hC, hMU, hK, h5, h67, ⟨⟨b, n, te, tm⟩, hf, hi⟩, hS⟩ := hI
  obtain ⟨σ1, v, N, F, E, e1, tk, a0, r1⟩ := c_text1 17 te
  have F1 : Fr (18 :: SCTx) [(17, 0), (17, 1), (0, 10)] σ σ1 := by
    cases hw : pLw (kd b N F E) (vN b F E) 16 16 0 with
    | inl y => rw [hw] at r1; obtain ⟨y1, y2⟩ := y; exact Fr_m r1.2.2.2 (fun q hq => List.mem_cons_of_mem _ hq) (by simp)
    | inr ls => rw [hw] at r1; exact r1.2.2.2.2.2
  obtain ⟨σ2, v2, e2, b0, r2⟩ := m_text1 (40 - 9) (TPm_fr tm F1 (by decide) (by decide)) tk
  cases hw : pLw (kd b N F E) (vN b F E) 16 16 0 with
  | inl y =>
    rw [hw] at r1 r2
    obtain ⟨y1, y2⟩ := y
    obtain ⟨c1, c2, c3, c4⟩ := r1
    obtain ⟨d1, d2, d3, d4⟩ := r2
    rw [c1] at e1
    rw [d1] at e2
    exact ⟨_, σ1, σ2, e1, e2, B, T, L, IV_f hJ c4 d4 a0 b0 ⟨c2.trans d2.symm, c3.trans d3.symm⟩⟩
  | inr ls =>
    rw [hw] at r1 r2
    obtain ⟨c1, c2, c3, c4, c5, c6⟩ := r1
    obtain ⟨d1, d2, d3, d4, d5, d6⟩ := r2
    rw [c1] at e1
    rw [d1] at e2
    have hN : N ≤ n := tk.2.2.2
    have hn := te.1
    obtain ⟨p1, p2, p3, p4, p5⟩ := pLw_k kd_e (fun t ht => (kd_30 tk ht).2.2.2) (by decide) 16 0 ls (Nat.zero_le _) hw
    have ok : okL ls ∧ okFa 1 ls := ⟨⟨p1, by omega, by omega, p4⟩, p5⟩
    have g2 : ∀ q, q < 112 → σ2 q = σ1 q := fun q hq => by funext k; exact d6 q k (by simp only [DW, DT, Dl, Da, Ds]; omega)
    have g1 : ∀ q, ¬ (53 ≤ q ∧ q ≤ 66) → q ≠ 0 → q ≠ 17 → q ≠ 18 → σ1 q = σ q := fun q hq h0 h1 h2 => Fr_q F1 (by unfold SCTx; simp; omega) (by simp; omega)
    have z1 : ∀ k, k ≠ 10 → σ1 0 k = σ 0 k := fun k hk => F1 0 k (by decide) (by simp; omega)
    have c2' : ∀ q, q = 114 ∨ q = 124 ∨ q = 125 ∨ q = 142 → σ2 q = σ q := fun q hq => by rw [← g1 q (by omega) (by omega) (by omega) (by omega)]; funext k; exact d6 q k (by simp only [DW, DT, Dl, Da, Ds]; omega)
    have z2 : ∀ k, k = 3 ∨ k = 5 ∨ k = 58 → σ2 112 k = σ 112 k := fun k hk => by rw [← g1 112 (by omega) (by omega) (by omega) (by omega)]; exact d6 112 k (by simp only [DW, DT, Dl, Da, Ds]; omega)
    have gq : ∀ q, 1 ≤ q ∧ q ≤ 26 ∧ q ≠ 17 ∧ q ≠ 18 ∧ q ≠ 16 ∧ q ≠ 19 → σ2 q = σ q := fun q hq => by rw [g2 q (by omega), g1 q (by omega) (by omega) (by omega) (by omega)]
    have hcl : clsLaw (σ2 18) (σ2 17 0) (σ2 17 1) ls ∧ okL ls ∧ okFa 1 ls := ⟨by rw [g2 18 (by decide), g2 17 (by decide)]; exact c4, ok⟩
    have hW2 : WI B ls σ2 := WI_lw1 hW gq hcl
    have okK : okL B := (hW 20).2.1
    have hwl : wl σ ≤ 40 := (hW 15).2
    have mm : ∀ q k, (q = 112 ∧ ((6 ≤ k ∧ k ≤ 12) ∨ k = 43)) ∨ q = 113 ∨ (116 ≤ q ∧ q ≤ 123) ∨ (q = 133 ∧ k < 160) ∨ (q = 126 ∧ k = 0) ∨ ((q = 127 ∨ q = 128 ∨ q = 129) ∧ 0 ≤ k ∧ k < 0 + 16) ∨ ((q = 130 ∨ q = 131) ∧ 0 ≤ k ∧ k < 0 + 400) → σ2 q k = σ q k := fun q k hq => by
      rw [← g1 q (by omega) (by omega) (by omega) (by omega)]
      exact d6 q k (by simp only [DW, DT, Dl, Da, Ds]; omega)
    have h27 : σ2 126 1 = σ2 17 0 := by rw [d5, hcl.1.1]
    have hM2 : MR B ls σ2 σ2 := MR_lw1 hM okK gq mm hwl h27 d4
    let up : Sig → Sig := fun v q => if q = 17 ∨ q = 18 then σ2 q else v q
    have upq : ∀ (v : Sig) q, q ≠ 17 → q ≠ 18 → up v q = v q := fun v q h1 h2 => if_neg (fun e => e.elim h1 h2)
    have upA : ∀ v : Sig, up v 17 = σ2 17 ∧ up v 18 = σ2 18 := fun v => ⟨if_pos (Or.inl rfl), if_pos (Or.inr rfl)⟩
    have upW : ∀ v : Sig, WI B T v → WI B ls (up v) := fun v hv => WI_lw1 hv (fun q hq => upq v q hq.2.2.1 hq.2.2.2.1) (by rw [(upA v).1, (upA v).2]; exact hcl)
    have hU' : UL B ls (L.map up) σ2 := by
      refine ⟨by rw [List.length_map]; exact hU.1, fun v hv => ?_⟩
      obtain ⟨u, hu, e⟩ := List.mem_map.mp hv
      subst e
      exact ⟨upW u (hU.2 u hu).1, Td_up (a := 17) (b := 18) (by decide) (by decide) (hU.2 u hu).2 (fun q a b c d e f => gq q ⟨a, b, c, d, e, f⟩)⟩
    have hC' : CU (L.map up) σ2 := by
      have hC0 := CU_k (σ' := σ2) hC (by rw [g2 0 (by omega), z1 7 (by decide)]) (by rw [g2 0 (by omega), z1 8 (by decide)]) (fun q c1 c2 => by rw [g2 q c2, g1 q (by omega) (by omega) (by omega) (by omega)])
      obtain ⟨c8, o, ho, c7, hm⟩ := hC0
      refine ⟨by rw [List.length_map]; exact c8, o, ho, c7, fun j hj => ?_⟩
      rw [List.length_map] at hj
      rw [List.getElem_map]
      have hmj := hm j hj
      unfold MM at hmj ⊢
      rw [upq _ 1 (by decide) (by decide), upq _ 25 (by decide) (by decide), upq _ 9 (by decide) (by decide), upq _ 10 (by decide) (by decide), upq _ 7 (by decide) (by decide)]
      exact hmj
    have hMU' : MU B ls (L.map up) σ2 := by
      have hMU0 := MU_fr (σ' := σ2) hMU (z2 3 (by omega)) (c2' 114 (by omega))
      refine ⟨by rw [List.length_map]; exact hMU0.1, fun j hj => ?_⟩
      rw [List.length_map] at hj
      obtain ⟨ρ, r1, r2⟩ := hMU0.2 j hj
      rw [List.getElem_map]
      have hv := hU.2 L[j] (List.getElem_mem hj)
      let ρ' : Sig := fun q k => if 126 ≤ q ∧ q ≤ 131 then σ2 q k else ρ q k
      have p' : ∀ q, ¬ (126 ≤ q ∧ q ≤ 131) → ρ' q = ρ q := fun q hq => by funext k; exact if_neg hq
      have l' : ∀ q, 126 ≤ q ∧ q ≤ 131 → ρ' q = σ2 q := fun q hq => by funext k; exact if_pos hq
      refine ⟨ρ', ?_, fun k hk => by rw [p' 113 (by omega)]; exact r2 k hk⟩
      -- first with the law's slots of ρ as they were
      have base : MR B T L[j] (fun q k => if 126 ≤ q ∧ q ≤ 131 then σ q k else ρ q k) := MR_lo r1 hM (hv.2.1.1 14 (by omega) (by omega) (by decide)) (hv.2.1.1 17 (by omega) (by omega) (by decide)) (fun q hq => by funext k; exact if_neg hq) (fun q hq => by funext k; exact if_pos hq)
      refine MR_lw1 base okK (fun q hq => upq _ q hq.2.2.1 hq.2.2.2.1) (fun q k hq => ?_) ((hv.1 15).2) (by rw [l' 126 (by omega), (upA _).1]; exact h27) (by rw [l' 127 (by omega), l' 128 (by omega), l' 129 (by omega), l' 130 (by omega), l' 131 (by omega)]; exact d4)
      show (if 126 ≤ q ∧ q ≤ 131 then σ2 q k else ρ q k) = (if 126 ≤ q ∧ q ≤ 131 then σ q k else ρ q k)
      by_cases c : 126 ≤ q ∧ q ≤ 131
      · rw [if_pos c, if_pos c]; exact mm q k hq
      · rw [if_neg c, if_neg c]
    have hS' : SLw (L.map up) := by
      refine List.pairwise_map.mpr (List.Pairwise.imp ?_ hS)
      intro u v huv
      have l : ∀ v : Sig, lns (up v) = lns v := fun v => by unfold lns; rw [upq _ 25 (by decide) (by decide)]
      rw [l, l]; exact huv
    refine ⟨_, σ1, σ2, e1, e2, _, _, _, IV_g hW2 hM2 Wb_r hU' hC' hMU' (KN_0 (by rw [g2 0 (by omega)]; exact c5)) (by rw [z2 5 (by omega)]; exact h5) (by rw [g2 67 (by omega), g1 67 (by omega) (by omega) (by omega) (by omega)]; exact h67) ⟨⟨b, 0, ⟨Nat.zero_le _, by rw [g2 53 (by omega)]; exact a0, fun i hi => absurd hi (Nat.not_lt_zero i)⟩, ⟨Nat.zero_le _, b0, fun i hi => absurd hi (Nat.not_lt_zero i), by rw [c2' 125 (by omega)]; exact tm.2.2.2⟩⟩, ⟨by rw [g2 53 (by omega), c2, d2], by rw [g2 53 (by omega), c3, d3]⟩, IMG_x hi (by rw [g2 0 (by omega), z1 9 (by decide)]) (z2 58 (by omega)) (c2' 142 (by omega)) (fun q a b => by rw [g2 q (by omega), g1 q (by omega) (by omega) (by omega) (by omega)])⟩ hS'⟩
end
