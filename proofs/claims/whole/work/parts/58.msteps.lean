/-! L3: the model's steps -/
def fallW (th : Bool) (ω : Sig) : Sig := noW th (eaS (pt (pt ω 1 7 (ω 1 7 + 1)) 1 8 0) (ω 1 3)) 0 0 (-1)
noncomputable def stW (B T : LW) (th : Bool) (ω : Sig) (s gr g : Int32) : Sig := pt (if bearS B ω s g then carW B T ω s gr g else fallW th ω) 1 6 (ω 1 6 + 1)
theorem WI_15 {B T : LW} {ω : Sig} (hW : WI B T ω) (v : Int32) : WI B T (pt ω 1 5 v) := by
  intro i
  have h := hW i
  match i, h with
  | 0, h => (simp only [wi, np, pr, sz, wl, paced] at h ⊢; (try simp (disch := decide) only [pt_q, pt_k]); first | done | exact h)
  | 1, h => (simp only [wi, np, pr, sz, wl, paced] at h ⊢; (try simp (disch := decide) only [pt_q, pt_k]); first | done | exact h)
  | 2, h => (simp only [wi, np, pr, sz, wl, paced] at h ⊢; (try simp (disch := decide) only [pt_q, pt_k]); first | done | exact h)
  | 3, h => (simp only [wi, np, pr, sz, wl, paced] at h ⊢; (try simp (disch := decide) only [pt_q, pt_k]); first | done | exact h)
  | 4, h => (simp only [wi, np, pr, sz, wl, paced] at h ⊢; (try simp (disch := decide) only [pt_q, pt_k]); first | done | exact h)
  | 5, h => (simp only [wi, np, pr, sz, wl, paced] at h ⊢; (try simp (disch := decide) only [pt_q, pt_k]); first | done | exact h)
  | 6, h => (simp only [wi, np, pr, sz, wl, paced] at h ⊢; (try simp (disch := decide) only [pt_q, pt_k]); first | done | exact h)
  | 7, h => (simp only [wi, np, pr, sz, wl, paced] at h ⊢; (try simp (disch := decide) only [pt_q, pt_k]); first | done | exact h)
  | 8, h => (simp only [wi, np, pr, sz, wl, paced] at h ⊢; (try simp (disch := decide) only [pt_q, pt_k]); first | done | exact h)
  | 9, h => (simp only [wi, np, pr, sz, wl, paced] at h ⊢; (try simp (disch := decide) only [pt_q, pt_k]); first | done | exact h)
  | 10, h => (simp only [wi, np, pr, sz, wl, paced] at h ⊢; (try simp (disch := decide) only [pt_q, pt_k]); first | done | exact h)
  | 11, h => (simp only [wi, np, pr, sz, wl, paced] at h ⊢; (try simp (disch := decide) only [pt_q, pt_k]); first | done | exact h)
  | 12, h => (simp only [wi, np, pr, sz, wl, paced] at h ⊢; (try simp (disch := decide) only [pt_q, pt_k]); first | done | exact h)
  | 13, h => (simp only [wi, np, pr, sz, wl, paced] at h ⊢; (try simp (disch := decide) only [pt_q, pt_k]); first | done | exact h)
  | 14, h => (simp only [wi, np, pr, sz, wl, paced] at h ⊢; (try simp (disch := decide) only [pt_q, pt_k]); first | done | exact h)
  | 15, h => (simp only [wi, np, pr, sz, wl, paced] at h ⊢; (try simp (disch := decide) only [pt_q, pt_k]); first | done | exact h)
  | 16, h => (simp only [wi, np, pr, sz, wl, paced] at h ⊢; (try simp (disch := decide) only [pt_q, pt_k]); first | done | exact h)
  | 17, h => (simp only [wi, np, pr, sz, wl, paced] at h ⊢; (try simp (disch := decide) only [pt_q, pt_k]); first | done | exact h)
  | 18, h => (simp only [wi, np, pr, sz, wl, paced] at h ⊢; (try simp (disch := decide) only [pt_q, pt_k]); first | done | exact h)
  | 19, h => (simp only [wi, np, pr, sz, wl, paced] at h ⊢; (try simp (disch := decide) only [pt_q, pt_k]); first | done | exact h)
  | 20, h => (simp only [wi, np, pr, sz, wl, paced] at h ⊢; (try simp (disch := decide) only [pt_q, pt_k]); first | done | exact h)
  | 21, h => (simp only [wi, np, pr, sz, wl, paced] at h ⊢; (try simp (disch := decide) only [pt_q, pt_k]); first | done | exact h)
  | 22, h => (simp only [wi, np, pr, sz, wl, paced] at h ⊢; (try simp (disch := decide) only [pt_q, pt_k]); first | done | exact h)
  | _ + 23, _ => trivial
theorem WI_16 {B T : LW} {ω : Sig} (hW : WI B T ω) (v : Int32) : WI B T (pt ω 1 6 v) := by
  intro i
  have h := hW i
  match i, h with
  | 0, h => (simp only [wi, np, pr, sz, wl, paced] at h ⊢; (try simp (disch := decide) only [pt_q, pt_k]); first | done | exact h)
  | 1, h => (simp only [wi, np, pr, sz, wl, paced] at h ⊢; (try simp (disch := decide) only [pt_q, pt_k]); first | done | exact h)
  | 2, h => (simp only [wi, np, pr, sz, wl, paced] at h ⊢; (try simp (disch := decide) only [pt_q, pt_k]); first | done | exact h)
  | 3, h => (simp only [wi, np, pr, sz, wl, paced] at h ⊢; (try simp (disch := decide) only [pt_q, pt_k]); first | done | exact h)
  | 4, h => (simp only [wi, np, pr, sz, wl, paced] at h ⊢; (try simp (disch := decide) only [pt_q, pt_k]); first | done | exact h)
  | 5, h => (simp only [wi, np, pr, sz, wl, paced] at h ⊢; (try simp (disch := decide) only [pt_q, pt_k]); first | done | exact h)
  | 6, h => (simp only [wi, np, pr, sz, wl, paced] at h ⊢; (try simp (disch := decide) only [pt_q, pt_k]); first | done | exact h)
  | 7, h => (simp only [wi, np, pr, sz, wl, paced] at h ⊢; (try simp (disch := decide) only [pt_q, pt_k]); first | done | exact h)
  | 8, h => (simp only [wi, np, pr, sz, wl, paced] at h ⊢; (try simp (disch := decide) only [pt_q, pt_k]); first | done | exact h)
  | 9, h => (simp only [wi, np, pr, sz, wl, paced] at h ⊢; (try simp (disch := decide) only [pt_q, pt_k]); first | done | exact h)
  | 10, h => (simp only [wi, np, pr, sz, wl, paced] at h ⊢; (try simp (disch := decide) only [pt_q, pt_k]); first | done | exact h)
  | 11, h => (simp only [wi, np, pr, sz, wl, paced] at h ⊢; (try simp (disch := decide) only [pt_q, pt_k]); first | done | exact h)
  | 12, h => (simp only [wi, np, pr, sz, wl, paced] at h ⊢; (try simp (disch := decide) only [pt_q, pt_k]); first | done | exact h)
  | 13, h => (simp only [wi, np, pr, sz, wl, paced] at h ⊢; (try simp (disch := decide) only [pt_q, pt_k]); first | done | exact h)
  | 14, h => (simp only [wi, np, pr, sz, wl, paced] at h ⊢; (try simp (disch := decide) only [pt_q, pt_k]); first | done | exact h)
  | 15, h => (simp only [wi, np, pr, sz, wl, paced] at h ⊢; (try simp (disch := decide) only [pt_q, pt_k]); first | done | exact h)
  | 16, h => (simp only [wi, np, pr, sz, wl, paced] at h ⊢; (try simp (disch := decide) only [pt_q, pt_k]); first | done | exact h)
  | 17, h => (simp only [wi, np, pr, sz, wl, paced] at h ⊢; (try simp (disch := decide) only [pt_q, pt_k]); first | done | exact h)
  | 18, h => (simp only [wi, np, pr, sz, wl, paced] at h ⊢; (try simp (disch := decide) only [pt_q, pt_k]); first | done | exact h)
  | 19, h => (simp only [wi, np, pr, sz, wl, paced] at h ⊢; (try simp (disch := decide) only [pt_q, pt_k]); first | done | exact h)
  | 20, h => (simp only [wi, np, pr, sz, wl, paced] at h ⊢; (try simp (disch := decide) only [pt_q, pt_k]); first | done | exact h)
  | 21, h => (simp only [wi, np, pr, sz, wl, paced] at h ⊢; (try simp (disch := decide) only [pt_q, pt_k]); first | done | exact h)
  | 22, h => (simp only [wi, np, pr, sz, wl, paced] at h ⊢; (try simp (disch := decide) only [pt_q, pt_k]); first | done | exact h)
  | _ + 23, _ => trivial
theorem WI_17 {B T : LW} {ω : Sig} (hW : WI B T ω) (v : Int32) : WI B T (pt ω 1 7 v) := by
  intro i
  have h := hW i
  match i, h with
  | 0, h => (simp only [wi, np, pr, sz, wl, paced] at h ⊢; (try simp (disch := decide) only [pt_q, pt_k]); first | done | exact h)
  | 1, h => (simp only [wi, np, pr, sz, wl, paced] at h ⊢; (try simp (disch := decide) only [pt_q, pt_k]); first | done | exact h)
  | 2, h => (simp only [wi, np, pr, sz, wl, paced] at h ⊢; (try simp (disch := decide) only [pt_q, pt_k]); first | done | exact h)
  | 3, h => (simp only [wi, np, pr, sz, wl, paced] at h ⊢; (try simp (disch := decide) only [pt_q, pt_k]); first | done | exact h)
  | 4, h => (simp only [wi, np, pr, sz, wl, paced] at h ⊢; (try simp (disch := decide) only [pt_q, pt_k]); first | done | exact h)
  | 5, h => (simp only [wi, np, pr, sz, wl, paced] at h ⊢; (try simp (disch := decide) only [pt_q, pt_k]); first | done | exact h)
  | 6, h => (simp only [wi, np, pr, sz, wl, paced] at h ⊢; (try simp (disch := decide) only [pt_q, pt_k]); first | done | exact h)
  | 7, h => (simp only [wi, np, pr, sz, wl, paced] at h ⊢; (try simp (disch := decide) only [pt_q, pt_k]); first | done | exact h)
  | 8, h => (simp only [wi, np, pr, sz, wl, paced] at h ⊢; (try simp (disch := decide) only [pt_q, pt_k]); first | done | exact h)
  | 9, h => (simp only [wi, np, pr, sz, wl, paced] at h ⊢; (try simp (disch := decide) only [pt_q, pt_k]); first | done | exact h)
  | 10, h => (simp only [wi, np, pr, sz, wl, paced] at h ⊢; (try simp (disch := decide) only [pt_q, pt_k]); first | done | exact h)
  | 11, h => (simp only [wi, np, pr, sz, wl, paced] at h ⊢; (try simp (disch := decide) only [pt_q, pt_k]); first | done | exact h)
  | 12, h => (simp only [wi, np, pr, sz, wl, paced] at h ⊢; (try simp (disch := decide) only [pt_q, pt_k]); first | done | exact h)
  | 13, h => (simp only [wi, np, pr, sz, wl, paced] at h ⊢; (try simp (disch := decide) only [pt_q, pt_k]); first | done | exact h)
  | 14, h => (simp only [wi, np, pr, sz, wl, paced] at h ⊢; (try simp (disch := decide) only [pt_q, pt_k]); first | done | exact h)
  | 15, h => (simp only [wi, np, pr, sz, wl, paced] at h ⊢; (try simp (disch := decide) only [pt_q, pt_k]); first | done | exact h)
  | 16, h => (simp only [wi, np, pr, sz, wl, paced] at h ⊢; (try simp (disch := decide) only [pt_q, pt_k]); first | done | exact h)
  | 17, h => (simp only [wi, np, pr, sz, wl, paced] at h ⊢; (try simp (disch := decide) only [pt_q, pt_k]); first | done | exact h)
  | 18, h => (simp only [wi, np, pr, sz, wl, paced] at h ⊢; (try simp (disch := decide) only [pt_q, pt_k]); first | done | exact h)
  | 19, h => (simp only [wi, np, pr, sz, wl, paced] at h ⊢; (try simp (disch := decide) only [pt_q, pt_k]); first | done | exact h)
  | 20, h => (simp only [wi, np, pr, sz, wl, paced] at h ⊢; (try simp (disch := decide) only [pt_q, pt_k]); first | done | exact h)
  | 21, h => (simp only [wi, np, pr, sz, wl, paced] at h ⊢; (try simp (disch := decide) only [pt_q, pt_k]); first | done | exact h)
  | 22, h => (simp only [wi, np, pr, sz, wl, paced] at h ⊢; (try simp (disch := decide) only [pt_q, pt_k]); first | done | exact h)
  | _ + 23, _ => trivial
theorem WI_18 {B T : LW} {ω : Sig} (hW : WI B T ω) (v : Int32) : WI B T (pt ω 1 8 v) := by
  intro i
  have h := hW i
  match i, h with
  | 0, h => (simp only [wi, np, pr, sz, wl, paced] at h ⊢; (try simp (disch := decide) only [pt_q, pt_k]); first | done | exact h)
  | 1, h => (simp only [wi, np, pr, sz, wl, paced] at h ⊢; (try simp (disch := decide) only [pt_q, pt_k]); first | done | exact h)
  | 2, h => (simp only [wi, np, pr, sz, wl, paced] at h ⊢; (try simp (disch := decide) only [pt_q, pt_k]); first | done | exact h)
  | 3, h => (simp only [wi, np, pr, sz, wl, paced] at h ⊢; (try simp (disch := decide) only [pt_q, pt_k]); first | done | exact h)
  | 4, h => (simp only [wi, np, pr, sz, wl, paced] at h ⊢; (try simp (disch := decide) only [pt_q, pt_k]); first | done | exact h)
  | 5, h => (simp only [wi, np, pr, sz, wl, paced] at h ⊢; (try simp (disch := decide) only [pt_q, pt_k]); first | done | exact h)
  | 6, h => (simp only [wi, np, pr, sz, wl, paced] at h ⊢; (try simp (disch := decide) only [pt_q, pt_k]); first | done | exact h)
  | 7, h => (simp only [wi, np, pr, sz, wl, paced] at h ⊢; (try simp (disch := decide) only [pt_q, pt_k]); first | done | exact h)
  | 8, h => (simp only [wi, np, pr, sz, wl, paced] at h ⊢; (try simp (disch := decide) only [pt_q, pt_k]); first | done | exact h)
  | 9, h => (simp only [wi, np, pr, sz, wl, paced] at h ⊢; (try simp (disch := decide) only [pt_q, pt_k]); first | done | exact h)
  | 10, h => (simp only [wi, np, pr, sz, wl, paced] at h ⊢; (try simp (disch := decide) only [pt_q, pt_k]); first | done | exact h)
  | 11, h => (simp only [wi, np, pr, sz, wl, paced] at h ⊢; (try simp (disch := decide) only [pt_q, pt_k]); first | done | exact h)
  | 12, h => (simp only [wi, np, pr, sz, wl, paced] at h ⊢; (try simp (disch := decide) only [pt_q, pt_k]); first | done | exact h)
  | 13, h => (simp only [wi, np, pr, sz, wl, paced] at h ⊢; (try simp (disch := decide) only [pt_q, pt_k]); first | done | exact h)
  | 14, h => (simp only [wi, np, pr, sz, wl, paced] at h ⊢; (try simp (disch := decide) only [pt_q, pt_k]); first | done | exact h)
  | 15, h => (simp only [wi, np, pr, sz, wl, paced] at h ⊢; (try simp (disch := decide) only [pt_q, pt_k]); first | done | exact h)
  | 16, h => (simp only [wi, np, pr, sz, wl, paced] at h ⊢; (try simp (disch := decide) only [pt_q, pt_k]); first | done | exact h)
  | 17, h => (simp only [wi, np, pr, sz, wl, paced] at h ⊢; (try simp (disch := decide) only [pt_q, pt_k]); first | done | exact h)
  | 18, h => (simp only [wi, np, pr, sz, wl, paced] at h ⊢; (try simp (disch := decide) only [pt_q, pt_k]); first | done | exact h)
  | 19, h => (simp only [wi, np, pr, sz, wl, paced] at h ⊢; (try simp (disch := decide) only [pt_q, pt_k]); first | done | exact h)
  | 20, h => (simp only [wi, np, pr, sz, wl, paced] at h ⊢; (try simp (disch := decide) only [pt_q, pt_k]); first | done | exact h)
  | 21, h => (simp only [wi, np, pr, sz, wl, paced] at h ⊢; (try simp (disch := decide) only [pt_q, pt_k]); first | done | exact h)
  | 22, h => (simp only [wi, np, pr, sz, wl, paced] at h ⊢; (try simp (disch := decide) only [pt_q, pt_k]); first | done | exact h)
  | _ + 23, _ => trivial
theorem WI_noR {B T : LW} {ω : Sig} (hW : WI B T ω) {n : Nat} (hn : n < 150) (w a b : Int32) : WI B T (noR ω n w a b) := by
  have q : ∀ q, q ≠ 25 → q ≠ 26 → noR ω n w a b q = ω q := fun q h h2 => noR_q h h2
  intro i
  have h := hW i
  match i, h with
  | 0, h => (simp only [wi, np, pr, sz, wl, paced] at h ⊢; (try simp (disch := decide) only [q]); first | done | exact h)
  | 1, h => (simp only [wi, np, pr, sz, wl, paced] at h ⊢; (try simp (disch := decide) only [q]); first | done | exact h)
  | 2, h => (simp only [wi, np, pr, sz, wl, paced] at h ⊢; (try simp (disch := decide) only [q]); first | done | exact h)
  | 3, h => (simp only [wi, np, pr, sz, wl, paced] at h ⊢; (try simp (disch := decide) only [q]); first | done | exact h)
  | 4, h => (simp only [wi, np, pr, sz, wl, paced] at h ⊢; (try simp (disch := decide) only [q]); first | done | exact h)
  | 5, h => (simp only [wi, np, pr, sz, wl, paced] at h ⊢; (try simp (disch := decide) only [q]); first | done | exact h)
  | 6, h => (simp only [wi, np, pr, sz, wl, paced] at h ⊢; (try simp (disch := decide) only [q]); first | done | exact h)
  | 7, h => (simp only [wi, np, pr, sz, wl, paced] at h ⊢; (try simp (disch := decide) only [q]); first | done | exact h)
  | 8, h => (simp only [wi, np, pr, sz, wl, paced] at h ⊢; (try simp (disch := decide) only [q]); first | done | exact h)
  | 9, h => (simp only [wi, np, pr, sz, wl, paced] at h ⊢; (try simp (disch := decide) only [q]); first | done | exact h)
  | 10, h => (simp only [wi, np, pr, sz, wl, paced] at h ⊢; (try simp (disch := decide) only [q]); first | done | exact h)
  | 11, h => (simp only [wi, np, pr, sz, wl, paced] at h ⊢; (try simp (disch := decide) only [q]); first | done | exact h)
  | 12, h => (simp only [wi, np, pr, sz, wl, paced] at h ⊢; (try simp (disch := decide) only [q]); first | done | exact h)
  | 13, h => (simp only [wi, np, pr, sz, wl, paced] at h ⊢; (try simp (disch := decide) only [q]); first | done | exact h)
  | 14, h => (show bw (noR ω n w a b 25 0) 0 150; unfold noR; rw [pt_e]; unfold bw; rw [nI_i (by omega)]; omega)
  | 15, h => (simp only [wi, np, pr, sz, wl, paced] at h ⊢; (try simp (disch := decide) only [q]); first | done | exact h)
  | 16, h => (simp only [wi, np, pr, sz, wl, paced] at h ⊢; (try simp (disch := decide) only [q]); first | done | exact h)
  | 17, h => (simp only [wi, np, pr, sz, wl, paced] at h ⊢; (try simp (disch := decide) only [q]); first | done | exact h)
  | 18, h => (simp only [wi, np, pr, sz, wl, paced] at h ⊢; (try simp (disch := decide) only [q]); first | done | exact h)
  | 19, h => (simp only [wi, np, pr, sz, wl, paced] at h ⊢; (try simp (disch := decide) only [q]); first | done | exact h)
  | 20, h => (simp only [wi, np, pr, sz, wl, paced] at h ⊢; (try simp (disch := decide) only [q]); first | done | exact h)
  | 21, h => (simp only [wi, np, pr, sz, wl, paced] at h ⊢; (try simp (disch := decide) only [q]); first | done | exact h)
  | 22, h => (simp only [wi, np, pr, sz, wl, paced] at h ⊢; (try simp (disch := decide) only [q]); first | done | exact h)
  | _ + 23, _ => trivial
theorem WI_noW {B T : LW} {ω : Sig} (hW : WI B T ω) (th : Bool) (w a b : Int32) : WI B T (noW th ω w a b) := by
  unfold noW
  split
  · exact hW
  · rename_i h
    have hn : (ω 25 0).toNatClampNeg < 150 := by
      apply Classical.byContradiction; intro k; exact h (Or.inr k)
    exact WI_noR hW hn w a b
theorem WI_fall {B T : LW} {ω : Sig} (hW : WI B T ω) (th : Bool) : WI B T (fallW th ω) := by
  unfold fallW
  refine WI_noW (WI_ea (WI_18 (WI_17 hW _) _) ?_) th _ _ _
  have h : wi B T ω 2 := hW 2
  have h' : bw (ω 1 3) 0 1000 := h
  unfold bw at *; omega
theorem WI_st {B T : LW} {ω : Sig} (hW : WI B T ω) (th : Bool) (s gr g : Int32) : WI B T (stW B T th ω s gr g) := by
  unfold stW
  refine WI_16 ?_ _
  split
  · exact WI_car hW
  · exact WI_fall hW th
theorem m_falls (d : Nat) {B T : LW} {ω σ : Sig} (hM : MR B T ω σ) (hW : WI B T ω) (th : Bool) (ht : σ 112 5 = bI (th = true)) : ∃ σ', Ex (d + 2) 219 0 [.ref 112] [] G0 σ = some (none, G0, σ') ∧ Fr [113, 123] [] σ σ' ∧ MR B T (fallW th ω) σ' ∧ (th = true → Fr [113] [] σ σ') := by
  have e3 : σ 113 3 = ω 1 7 := hM 10
  have h2 : bw (ω 1 3) 0 1000 := hW 2
  have hW1 : WI B T (pt (pt ω 1 7 (ω 1 7 + 1)) 1 8 0) := WI_18 (WI_17 hW _) _
  have hM1 : MR B T (pt (pt ω 1 7 (ω 1 7 + 1)) 1 8 0) (pt (pt σ 113 3 (ω 1 7 + 1)) 113 4 0) := MR_n4 (MR_n3 hM _) _
  have e13 : pt (pt ω 1 7 (ω 1 7 + 1)) 1 8 0 1 3 * 1 = ω 1 3 := by rw [pt_k (by decide), pt_k (by decide), Int32.mul_one]
  have hb : bw (pt (pt ω 1 7 (ω 1 7 + 1)) 1 8 0 1 3 * 1) 0 100000 := by rw [e13]; unfold bw at *; omega
  obtain ⟨σ1, e1, f1, m1⟩ := m_eases d hM1 hW1 1 hb
  rw [e13] at m1
  have fa : Fr [113] [] σ (pt (pt σ 113 3 (ω 1 7 + 1)) 113 4 0) := Fr_p (Fr_p Fr_r (Or.inl (by simp))) (Or.inl (by simp))
  have fb : Fr [113] [] σ σ1 := Fr_t fa f1
  have ht1 : σ1 112 5 = bI (th = true) := by rw [fb 112 5 (by decide) (by simp)]; exact ht
  have hWe : WI B T (eaS (pt (pt ω 1 7 (ω 1 7 + 1)) 1 8 0) (ω 1 3)) := WI_ea hW1 (by unfold bw at *; omega)
  obtain ⟨σ2, e2, f2, m2, k2⟩ := m_notes (d + 1) m1 hWe th ht1 0 0 (-1)
  simp only [b219_0, e3, e1, Option.bind_some, Option.toList_some, Option.toList_none, List.cons_append, List.nil_append, i01a, i01b, if_true, if_false, b219_26, e2, b219_33]
  exact ⟨σ2, rfl, Fr_t (Fr_m fb (by simp) (by simp)) f2, m2, fun h => by rw [k2 h]; exact fb⟩
def SCS : List Nat := [113, 134, 135, 136, 137, 138]
theorem m_steps (d : Nat) {B T : LW} {ω σ : Sig} (hM : MR B T ω σ) (hW : WI B T ω) (th : Bool) (ht : σ 112 5 = bI (th = true)) {s : Int32} (hs : bw s (-9) 9) (gr g : Int32) :
    ∃ σ', Ex (d + 6) 221 0 [.ref 112, .int s, .int gr, .int g, .null] [] G0 σ = some (some (.int (bI (bearS B ω s g))), G0, σ') ∧ Fr (123 :: SCS) [(112, 49)] σ σ' ∧ MR B T (stW B T th ω s gr g) σ' ∧ (th = true → Fr SCS [(112, 49)] σ σ') := by
  obtain ⟨σ1, e1, f1, m1, l1, _⟩ := m_bears d hM hW hs g
  have ht1 : σ1 112 5 = bI (th = true) := by rw [f1 112 5 (by decide) (by simp)]; exact ht
  simp only [b221_0, e1, Option.bind_some, Option.toList_some, Option.toList_none, List.cons_append, List.nil_append, i01a, i01b, if_true, if_false, b221_6, bI_z, bI_o, bI_em, ite_not]
  unfold stW
  by_cases hb : bearS B ω s g
  · obtain ⟨σ2, e2, f2, m2⟩ := m_tires d m1 hW hs gr g l1
    have e0 : σ2 113 0 = ω 1 6 := by rw [show σ2 113 0 = (carW B T ω s gr g) 1 6 from m2 7, carW_1 (by decide)]
    simp only [eq_true hb, i10, i01, eq_self, if_true, if_false, true_and, false_and, and_true, and_false, not_true, not_false_iff, true_or, or_true, false_or, or_false, ne_eq, not_true_eq_false, not_false_eq_true, e2, Option.bind_some, Option.toList_some, Option.toList_none, List.cons_append, List.nil_append, i01a, i01b, if_true, if_false, b221_20, b221_27, bI_T hb, e0]
    rw [bI_T trivial]
    simp only [i01b, i10, i01, eq_self, if_true, if_false, true_and, false_and, and_true, and_false, not_true, not_false_iff, true_or, or_true, false_or, or_false, ne_eq, not_true_eq_false, not_false_eq_true]
    have f3 : Fr SCS [(112, 49)] σ (pt σ2 113 0 (ω 1 6 + 1)) := Fr_p (Fr_t (Fr_m f1 (by decide) (by simp)) (Fr_m f2 (by decide) (by simp))) (Or.inl (by decide))
    exact ⟨_, rfl, Fr_m f3 (fun q hq => List.mem_cons_of_mem _ hq) (by simp), MR_n0 m2 _, fun _ => f3⟩
  · obtain ⟨σ2, e2, f2, m2, k2⟩ := m_falls (d + 3) m1 hW th ht1
    have e0 : σ2 113 0 = ω 1 6 := by
      rw [show σ2 113 0 = (fallW th ω) 1 6 from m2 7]
      unfold fallW
      rw [noW_q (by decide) (by decide), eaS_q (by decide), pt_k (by decide), pt_k (by decide)]
    simp only [eq_false hb, i10, i01, eq_self, if_true, if_false, true_and, false_and, and_true, and_false, not_true, not_false_iff, true_or, or_true, false_or, or_false, ne_eq, not_true_eq_false, not_false_eq_true, e2, Option.bind_some, Option.toList_some, Option.toList_none, List.cons_append, List.nil_append, i01a, i01b, if_true, if_false, b221_27, bI_F hb, e0]
    rw [bI_F (fun h => h)]
    simp only [i01a, i10, i01, eq_self, if_true, if_false, true_and, false_and, and_true, and_false, not_true, not_false_iff, true_or, or_true, false_or, or_false, ne_eq, not_true_eq_false, not_false_eq_true]
    refine ⟨_, rfl, ?_, MR_n0 m2 _, fun h => ?_⟩
    · exact Fr_p (Fr_t (Fr_m f1 (by decide) (by simp)) (Fr_m f2 (by decide) (by simp))) (Or.inl (by decide))
    · exact Fr_p (Fr_t (Fr_m f1 (by decide) (by simp)) (Fr_m (k2 h) (by decide) (by simp))) (Or.inl (by decide))
theorem n31 {p : Nat} (hp : p < 31) : ((31 : Int32) ≤ nI p) = False := by
  have : ((31 : Int32) ≤ nI p) = (31 ≤ p) := nJ_le (a := 31) (by omega) (by omega)
  rw [this]; exact eq_false (by omega)
theorem n3131 : ((31 : Int32) ≤ nI 31) = True := eq_true (by decide)
theorem m_thinks (d : Nat) (σ : Sig) : ∃ σ', Ex d 148 0 [.ref 112, .null] [] G0 σ = some (none, G0, σ') ∧ Fr [115] [(112, 5)] σ σ' ∧ (∀ k, k < 31 → σ' 115 k = σ 113 k) ∧ σ' 112 5 = 1 := by
  rw [b148_0]
  obtain ⟨σ1, e1, i1, i2⟩ := loop_ex (fun p (x : Sig) => Ex d 148 2 [.ref 112, .int (nI p)] [] G0 x) (fun p x => Fr [115] [] σ x ∧ ∀ k, k < p → x 115 k = σ 113 k) 31 σ ⟨Fr_r, fun k hk => by omega⟩ (by
    intro p x hp ⟨i1, i2⟩
    show ∃ a', Ex d 148 2 [.ref 112, .int (nI p)] [] G0 x = _ ∧ _
    rw [b148_2]
    simp only [n31 hp, inb_n hp (show p < 2 ^ 31 by omega), nI_c (show p < 2 ^ 31 by omega), i10, i01, eq_self, if_true, if_false, true_and, false_and, and_true, and_false, not_true, not_false_iff, true_or, or_true, false_or, or_false, ne_eq, not_true_eq_false, not_false_eq_true, b148_23, nI_s]
    refine ⟨_, rfl, Fr_p i1 (Or.inl (by simp)), fun k hk => ?_⟩
    by_cases e : k = p
    · subst e; rw [pt_e, i1 113 k (by decide) (by simp)]
    · rw [pt_k e]; exact i2 k (by omega))
  rw [show Ex d 148 2 [.ref 112, .int 0] [] G0 σ = _ from e1, b148_2]
  simp only [n3131, i10, i01, eq_self, if_true, if_false, true_and, false_and, and_true, and_false, not_true, not_false_iff, true_or, or_true, false_or, or_false, ne_eq, not_true_eq_false, not_false_eq_true]
  exact ⟨_, rfl, Fr_p (Fr_m i1 (by simp) (by simp)) (Or.inr (by simp)), fun k hk => by rw [pt_q (by decide)]; exact i2 k hk, pt_e⟩
theorem m_anew (d : Nat) (σ : Sig) : ∃ σ', Ex d 149 0 [.ref 112, .null] [] G0 σ = some (none, G0, σ') ∧ Fr [113] [] σ σ' ∧ (∀ k, k < 31 → σ' 113 k = σ 115 k) ∧ (∀ k, 31 ≤ k → σ' 113 k = σ 113 k) := by
  rw [b149_0]
  obtain ⟨σ1, e1, i1, i2, i3⟩ := loop_ex (fun p (x : Sig) => Ex d 149 2 [.ref 112, .int (nI p)] [] G0 x) (fun p x => Fr [113] [] σ x ∧ (∀ k, k < p → x 113 k = σ 115 k) ∧ (∀ k, 31 ≤ k → x 113 k = σ 113 k)) 31 σ ⟨Fr_r, fun k hk => by omega, fun k hk => rfl⟩ (by
    intro p x hp ⟨i1, i2, i3⟩
    show ∃ a', Ex d 149 2 [.ref 112, .int (nI p)] [] G0 x = _ ∧ _
    rw [b149_2]
    simp only [n31 hp, inb_n hp (show p < 2 ^ 31 by omega), nI_c (show p < 2 ^ 31 by omega), i10, i01, eq_self, if_true, if_false, true_and, false_and, and_true, and_false, not_true, not_false_iff, true_or, or_true, false_or, or_false, ne_eq, not_true_eq_false, not_false_eq_true, b149_23, nI_s]
    refine ⟨_, rfl, Fr_p i1 (Or.inl (by simp)), fun k hk => ?_, fun k hk => by rw [pt_k (by omega)]; exact i3 k hk⟩
    by_cases e : k = p
    · subst e; rw [pt_e, i1 115 k (by decide) (by simp)]
    · rw [pt_k e]; exact i2 k (by omega))
  rw [show Ex d 149 2 [.ref 112, .int 0] [] G0 σ = _ from e1, b149_2]
  simp only [n3131, i10, i01, eq_self, if_true, if_false, true_and, false_and, and_true, and_false, not_true, not_false_iff, true_or, or_true, false_or, or_false, ne_eq, not_true_eq_false, not_false_eq_true]
  exact ⟨_, rfl, i1, i2, i3⟩
theorem m_ends (d : Nat) (σ : Sig) : ∃ σ', Ex (d + 1) 150 0 [.ref 112] [] G0 σ = some (none, G0, σ') ∧ Fr [113] [(112, 5)] σ σ' ∧ (∀ k, k < 31 → σ' 113 k = σ 115 k) ∧ σ' 112 5 = 0 ∧ (∀ k, 31 ≤ k → σ' 113 k = σ 113 k) := by
  obtain ⟨σ1, e1, f1, h1, h2⟩ := m_anew d σ
  simp only [b150_0, e1, Option.bind_some, Option.toList_some, Option.toList_none, List.cons_append, List.nil_append, i01a, i01b, if_true, if_false, b150_4]
  exact ⟨_, rfl, Fr_p (Fr_m f1 (by simp) (by simp)) (Or.inr (by simp)), fun k hk => by rw [pt_q (by decide)]; exact h1 k hk, pt_e, fun k hk => by rw [pt_q (by decide)]; exact h2 k hk⟩
/-- thought is over: the model tells the same world again -/
theorem MR_back {B T : LW} {ω σ σ' : Sig} (hM : MR B T ω σ) (h113 : ∀ k, k < 31 → σ' 113 k = σ 113 k) (e : ∀ q, q ∈ [116, 117, 118, 119, 120, 121, 122, 123, 126, 127, 128, 129, 130, 131, 133] → σ' q = σ q) (e2 : ∀ k, k ∈ [6, 7, 8, 9, 10, 11, 12, 43] → σ' 112 k = σ 112 k) : MR B T ω σ' := by
  have q : ∀ q, q ∈ [116, 117, 118, 119, 120, 121, 122, 123, 126, 127, 128, 129, 130, 131, 133] → σ' q = σ q := e
  intro i
  have h := hM i
  match i, h with
  | 0, h => (simp only [mr] at h ⊢; (try simp (disch := decide) only [e 116 (by decide), e 117 (by decide), e 118 (by decide), e 119 (by decide), e 120 (by decide), e 121 (by decide), e 122 (by decide), e 123 (by decide), e 126 (by decide), e 127 (by decide), e 128 (by decide), e 129 (by decide), e 130 (by decide), e 131 (by decide), e 133 (by decide), e2 6 (by decide), e2 7 (by decide), e2 8 (by decide), e2 9 (by decide), e2 10 (by decide), e2 11 (by decide), e2 12 (by decide), e2 43 (by decide), h113 0 (by decide), h113 1 (by decide), h113 2 (by decide), h113 3 (by decide), h113 4 (by decide), h113 5 (by decide), h113 6 (by decide)]); first | done | exact h)
  | 1, h => (simp only [mr] at h ⊢; (try simp (disch := decide) only [e 116 (by decide), e 117 (by decide), e 118 (by decide), e 119 (by decide), e 120 (by decide), e 121 (by decide), e 122 (by decide), e 123 (by decide), e 126 (by decide), e 127 (by decide), e 128 (by decide), e 129 (by decide), e 130 (by decide), e 131 (by decide), e 133 (by decide), e2 6 (by decide), e2 7 (by decide), e2 8 (by decide), e2 9 (by decide), e2 10 (by decide), e2 11 (by decide), e2 12 (by decide), e2 43 (by decide), h113 0 (by decide), h113 1 (by decide), h113 2 (by decide), h113 3 (by decide), h113 4 (by decide), h113 5 (by decide), h113 6 (by decide)]); first | done | exact h)
  | 2, h => (simp only [mr] at h ⊢; (try simp (disch := decide) only [e 116 (by decide), e 117 (by decide), e 118 (by decide), e 119 (by decide), e 120 (by decide), e 121 (by decide), e 122 (by decide), e 123 (by decide), e 126 (by decide), e 127 (by decide), e 128 (by decide), e 129 (by decide), e 130 (by decide), e 131 (by decide), e 133 (by decide), e2 6 (by decide), e2 7 (by decide), e2 8 (by decide), e2 9 (by decide), e2 10 (by decide), e2 11 (by decide), e2 12 (by decide), e2 43 (by decide), h113 0 (by decide), h113 1 (by decide), h113 2 (by decide), h113 3 (by decide), h113 4 (by decide), h113 5 (by decide), h113 6 (by decide)]); first | done | exact h)
  | 3, h => (simp only [mr] at h ⊢; (try simp (disch := decide) only [e 116 (by decide), e 117 (by decide), e 118 (by decide), e 119 (by decide), e 120 (by decide), e 121 (by decide), e 122 (by decide), e 123 (by decide), e 126 (by decide), e 127 (by decide), e 128 (by decide), e 129 (by decide), e 130 (by decide), e 131 (by decide), e 133 (by decide), e2 6 (by decide), e2 7 (by decide), e2 8 (by decide), e2 9 (by decide), e2 10 (by decide), e2 11 (by decide), e2 12 (by decide), e2 43 (by decide), h113 0 (by decide), h113 1 (by decide), h113 2 (by decide), h113 3 (by decide), h113 4 (by decide), h113 5 (by decide), h113 6 (by decide)]); first | done | exact h)
  | 4, h => (simp only [mr] at h ⊢; (try simp (disch := decide) only [e 116 (by decide), e 117 (by decide), e 118 (by decide), e 119 (by decide), e 120 (by decide), e 121 (by decide), e 122 (by decide), e 123 (by decide), e 126 (by decide), e 127 (by decide), e 128 (by decide), e 129 (by decide), e 130 (by decide), e 131 (by decide), e 133 (by decide), e2 6 (by decide), e2 7 (by decide), e2 8 (by decide), e2 9 (by decide), e2 10 (by decide), e2 11 (by decide), e2 12 (by decide), e2 43 (by decide), h113 0 (by decide), h113 1 (by decide), h113 2 (by decide), h113 3 (by decide), h113 4 (by decide), h113 5 (by decide), h113 6 (by decide)]); first | done | exact h)
  | 5, h => (simp only [mr] at h ⊢; (try simp (disch := decide) only [e 116 (by decide), e 117 (by decide), e 118 (by decide), e 119 (by decide), e 120 (by decide), e 121 (by decide), e 122 (by decide), e 123 (by decide), e 126 (by decide), e 127 (by decide), e 128 (by decide), e 129 (by decide), e 130 (by decide), e 131 (by decide), e 133 (by decide), e2 6 (by decide), e2 7 (by decide), e2 8 (by decide), e2 9 (by decide), e2 10 (by decide), e2 11 (by decide), e2 12 (by decide), e2 43 (by decide), h113 0 (by decide), h113 1 (by decide), h113 2 (by decide), h113 3 (by decide), h113 4 (by decide), h113 5 (by decide), h113 6 (by decide)]); first | done | exact h)
  | 6, h => (simp only [mr] at h ⊢; (try simp (disch := decide) only [e 116 (by decide), e 117 (by decide), e 118 (by decide), e 119 (by decide), e 120 (by decide), e 121 (by decide), e 122 (by decide), e 123 (by decide), e 126 (by decide), e 127 (by decide), e 128 (by decide), e 129 (by decide), e 130 (by decide), e 131 (by decide), e 133 (by decide), e2 6 (by decide), e2 7 (by decide), e2 8 (by decide), e2 9 (by decide), e2 10 (by decide), e2 11 (by decide), e2 12 (by decide), e2 43 (by decide), h113 0 (by decide), h113 1 (by decide), h113 2 (by decide), h113 3 (by decide), h113 4 (by decide), h113 5 (by decide), h113 6 (by decide)]); first | done | exact h)
  | 7, h => (simp only [mr] at h ⊢; (try simp (disch := decide) only [e 116 (by decide), e 117 (by decide), e 118 (by decide), e 119 (by decide), e 120 (by decide), e 121 (by decide), e 122 (by decide), e 123 (by decide), e 126 (by decide), e 127 (by decide), e 128 (by decide), e 129 (by decide), e 130 (by decide), e 131 (by decide), e 133 (by decide), e2 6 (by decide), e2 7 (by decide), e2 8 (by decide), e2 9 (by decide), e2 10 (by decide), e2 11 (by decide), e2 12 (by decide), e2 43 (by decide), h113 0 (by decide), h113 1 (by decide), h113 2 (by decide), h113 3 (by decide), h113 4 (by decide), h113 5 (by decide), h113 6 (by decide)]); first | done | exact h)
  | 8, h => (simp only [mr] at h ⊢; (try simp (disch := decide) only [e 116 (by decide), e 117 (by decide), e 118 (by decide), e 119 (by decide), e 120 (by decide), e 121 (by decide), e 122 (by decide), e 123 (by decide), e 126 (by decide), e 127 (by decide), e 128 (by decide), e 129 (by decide), e 130 (by decide), e 131 (by decide), e 133 (by decide), e2 6 (by decide), e2 7 (by decide), e2 8 (by decide), e2 9 (by decide), e2 10 (by decide), e2 11 (by decide), e2 12 (by decide), e2 43 (by decide), h113 0 (by decide), h113 1 (by decide), h113 2 (by decide), h113 3 (by decide), h113 4 (by decide), h113 5 (by decide), h113 6 (by decide)]); first | done | exact h)
  | 9, h => (simp only [mr] at h ⊢; (try simp (disch := decide) only [e 116 (by decide), e 117 (by decide), e 118 (by decide), e 119 (by decide), e 120 (by decide), e 121 (by decide), e 122 (by decide), e 123 (by decide), e 126 (by decide), e 127 (by decide), e 128 (by decide), e 129 (by decide), e 130 (by decide), e 131 (by decide), e 133 (by decide), e2 6 (by decide), e2 7 (by decide), e2 8 (by decide), e2 9 (by decide), e2 10 (by decide), e2 11 (by decide), e2 12 (by decide), e2 43 (by decide), h113 0 (by decide), h113 1 (by decide), h113 2 (by decide), h113 3 (by decide), h113 4 (by decide), h113 5 (by decide), h113 6 (by decide)]); first | done | exact h)
  | 10, h => (simp only [mr] at h ⊢; (try simp (disch := decide) only [e 116 (by decide), e 117 (by decide), e 118 (by decide), e 119 (by decide), e 120 (by decide), e 121 (by decide), e 122 (by decide), e 123 (by decide), e 126 (by decide), e 127 (by decide), e 128 (by decide), e 129 (by decide), e 130 (by decide), e 131 (by decide), e 133 (by decide), e2 6 (by decide), e2 7 (by decide), e2 8 (by decide), e2 9 (by decide), e2 10 (by decide), e2 11 (by decide), e2 12 (by decide), e2 43 (by decide), h113 0 (by decide), h113 1 (by decide), h113 2 (by decide), h113 3 (by decide), h113 4 (by decide), h113 5 (by decide), h113 6 (by decide)]); first | done | exact h)
  | 11, h => (simp only [mr] at h ⊢; (try simp (disch := decide) only [e 116 (by decide), e 117 (by decide), e 118 (by decide), e 119 (by decide), e 120 (by decide), e 121 (by decide), e 122 (by decide), e 123 (by decide), e 126 (by decide), e 127 (by decide), e 128 (by decide), e 129 (by decide), e 130 (by decide), e 131 (by decide), e 133 (by decide), e2 6 (by decide), e2 7 (by decide), e2 8 (by decide), e2 9 (by decide), e2 10 (by decide), e2 11 (by decide), e2 12 (by decide), e2 43 (by decide), h113 0 (by decide), h113 1 (by decide), h113 2 (by decide), h113 3 (by decide), h113 4 (by decide), h113 5 (by decide), h113 6 (by decide)]); first | done | exact h)
  | 12, h => (simp only [mr] at h ⊢; (try simp (disch := decide) only [e 116 (by decide), e 117 (by decide), e 118 (by decide), e 119 (by decide), e 120 (by decide), e 121 (by decide), e 122 (by decide), e 123 (by decide), e 126 (by decide), e 127 (by decide), e 128 (by decide), e 129 (by decide), e 130 (by decide), e 131 (by decide), e 133 (by decide), e2 6 (by decide), e2 7 (by decide), e2 8 (by decide), e2 9 (by decide), e2 10 (by decide), e2 11 (by decide), e2 12 (by decide), e2 43 (by decide), h113 0 (by decide), h113 1 (by decide), h113 2 (by decide), h113 3 (by decide), h113 4 (by decide), h113 5 (by decide), h113 6 (by decide)]); first | done | exact h)
  | 13, h => (simp only [mr] at h ⊢; (try simp (disch := decide) only [e 116 (by decide), e 117 (by decide), e 118 (by decide), e 119 (by decide), e 120 (by decide), e 121 (by decide), e 122 (by decide), e 123 (by decide), e 126 (by decide), e 127 (by decide), e 128 (by decide), e 129 (by decide), e 130 (by decide), e 131 (by decide), e 133 (by decide), e2 6 (by decide), e2 7 (by decide), e2 8 (by decide), e2 9 (by decide), e2 10 (by decide), e2 11 (by decide), e2 12 (by decide), e2 43 (by decide), h113 0 (by decide), h113 1 (by decide), h113 2 (by decide), h113 3 (by decide), h113 4 (by decide), h113 5 (by decide), h113 6 (by decide)]); first | done | exact h)
  | 14, h => (intro p hp; rw [h113 _ (by omega)]; exact h p hp)
  | 15, h => (intro p hp; rw [h113 _ (by omega)]; exact h p hp)
  | 16, h => (intro p hp; rw [h113 _ (by omega)]; exact h p hp)
  | 17, h => (simp only [mr] at h ⊢; (try simp (disch := decide) only [e 116 (by decide), e 117 (by decide), e 118 (by decide), e 119 (by decide), e 120 (by decide), e 121 (by decide), e 122 (by decide), e 123 (by decide), e 126 (by decide), e 127 (by decide), e 128 (by decide), e 129 (by decide), e 130 (by decide), e 131 (by decide), e 133 (by decide), e2 6 (by decide), e2 7 (by decide), e2 8 (by decide), e2 9 (by decide), e2 10 (by decide), e2 11 (by decide), e2 12 (by decide), e2 43 (by decide), h113 0 (by decide), h113 1 (by decide), h113 2 (by decide), h113 3 (by decide), h113 4 (by decide), h113 5 (by decide), h113 6 (by decide)]); first | done | exact h)
  | 18, h => (simp only [mr] at h ⊢; (try simp (disch := decide) only [e 116 (by decide), e 117 (by decide), e 118 (by decide), e 119 (by decide), e 120 (by decide), e 121 (by decide), e 122 (by decide), e 123 (by decide), e 126 (by decide), e 127 (by decide), e 128 (by decide), e 129 (by decide), e 130 (by decide), e 131 (by decide), e 133 (by decide), e2 6 (by decide), e2 7 (by decide), e2 8 (by decide), e2 9 (by decide), e2 10 (by decide), e2 11 (by decide), e2 12 (by decide), e2 43 (by decide), h113 0 (by decide), h113 1 (by decide), h113 2 (by decide), h113 3 (by decide), h113 4 (by decide), h113 5 (by decide), h113 6 (by decide)]); first | done | exact h)
  | 19, h => (simp only [mr] at h ⊢; (try simp (disch := decide) only [e 116 (by decide), e 117 (by decide), e 118 (by decide), e 119 (by decide), e 120 (by decide), e 121 (by decide), e 122 (by decide), e 123 (by decide), e 126 (by decide), e 127 (by decide), e 128 (by decide), e 129 (by decide), e 130 (by decide), e 131 (by decide), e 133 (by decide), e2 6 (by decide), e2 7 (by decide), e2 8 (by decide), e2 9 (by decide), e2 10 (by decide), e2 11 (by decide), e2 12 (by decide), e2 43 (by decide), h113 0 (by decide), h113 1 (by decide), h113 2 (by decide), h113 3 (by decide), h113 4 (by decide), h113 5 (by decide), h113 6 (by decide)]); first | done | exact h)
  | 20, h => (simp only [mr] at h ⊢; (try simp (disch := decide) only [e 116 (by decide), e 117 (by decide), e 118 (by decide), e 119 (by decide), e 120 (by decide), e 121 (by decide), e 122 (by decide), e 123 (by decide), e 126 (by decide), e 127 (by decide), e 128 (by decide), e 129 (by decide), e 130 (by decide), e 131 (by decide), e 133 (by decide), e2 6 (by decide), e2 7 (by decide), e2 8 (by decide), e2 9 (by decide), e2 10 (by decide), e2 11 (by decide), e2 12 (by decide), e2 43 (by decide), h113 0 (by decide), h113 1 (by decide), h113 2 (by decide), h113 3 (by decide), h113 4 (by decide), h113 5 (by decide), h113 6 (by decide)]); first | done | exact h)
  | 21, h => (simp only [mr] at h ⊢; (try simp (disch := decide) only [e 116 (by decide), e 117 (by decide), e 118 (by decide), e 119 (by decide), e 120 (by decide), e 121 (by decide), e 122 (by decide), e 123 (by decide), e 126 (by decide), e 127 (by decide), e 128 (by decide), e 129 (by decide), e 130 (by decide), e 131 (by decide), e 133 (by decide), e2 6 (by decide), e2 7 (by decide), e2 8 (by decide), e2 9 (by decide), e2 10 (by decide), e2 11 (by decide), e2 12 (by decide), e2 43 (by decide), h113 0 (by decide), h113 1 (by decide), h113 2 (by decide), h113 3 (by decide), h113 4 (by decide), h113 5 (by decide), h113 6 (by decide)]); first | done | exact h)
  | 22, h => (simp only [mr] at h ⊢; (try simp (disch := decide) only [e 116 (by decide), e 117 (by decide), e 118 (by decide), e 119 (by decide), e 120 (by decide), e 121 (by decide), e 122 (by decide), e 123 (by decide), e 126 (by decide), e 127 (by decide), e 128 (by decide), e 129 (by decide), e 130 (by decide), e 131 (by decide), e 133 (by decide), e2 6 (by decide), e2 7 (by decide), e2 8 (by decide), e2 9 (by decide), e2 10 (by decide), e2 11 (by decide), e2 12 (by decide), e2 43 (by decide), h113 0 (by decide), h113 1 (by decide), h113 2 (by decide), h113 3 (by decide), h113 4 (by decide), h113 5 (by decide), h113 6 (by decide)]); first | done | exact h)
  | 23, h => (simp only [mr] at h ⊢; (try simp (disch := decide) only [e 116 (by decide), e 117 (by decide), e 118 (by decide), e 119 (by decide), e 120 (by decide), e 121 (by decide), e 122 (by decide), e 123 (by decide), e 126 (by decide), e 127 (by decide), e 128 (by decide), e 129 (by decide), e 130 (by decide), e 131 (by decide), e 133 (by decide), e2 6 (by decide), e2 7 (by decide), e2 8 (by decide), e2 9 (by decide), e2 10 (by decide), e2 11 (by decide), e2 12 (by decide), e2 43 (by decide), h113 0 (by decide), h113 1 (by decide), h113 2 (by decide), h113 3 (by decide), h113 4 (by decide), h113 5 (by decide), h113 6 (by decide)]); first | done | exact h)
  | 24, h => (simp only [mr] at h ⊢; (try simp (disch := decide) only [e 116 (by decide), e 117 (by decide), e 118 (by decide), e 119 (by decide), e 120 (by decide), e 121 (by decide), e 122 (by decide), e 123 (by decide), e 126 (by decide), e 127 (by decide), e 128 (by decide), e 129 (by decide), e 130 (by decide), e 131 (by decide), e 133 (by decide), e2 6 (by decide), e2 7 (by decide), e2 8 (by decide), e2 9 (by decide), e2 10 (by decide), e2 11 (by decide), e2 12 (by decide), e2 43 (by decide), h113 0 (by decide), h113 1 (by decide), h113 2 (by decide), h113 3 (by decide), h113 4 (by decide), h113 5 (by decide), h113 6 (by decide)]); first | done | exact h)
  | 25, h => (simp only [mr] at h ⊢; (try simp (disch := decide) only [e 116 (by decide), e 117 (by decide), e 118 (by decide), e 119 (by decide), e 120 (by decide), e 121 (by decide), e 122 (by decide), e 123 (by decide), e 126 (by decide), e 127 (by decide), e 128 (by decide), e 129 (by decide), e 130 (by decide), e 131 (by decide), e 133 (by decide), e2 6 (by decide), e2 7 (by decide), e2 8 (by decide), e2 9 (by decide), e2 10 (by decide), e2 11 (by decide), e2 12 (by decide), e2 43 (by decide), h113 0 (by decide), h113 1 (by decide), h113 2 (by decide), h113 3 (by decide), h113 4 (by decide), h113 5 (by decide), h113 6 (by decide)]); first | done | exact h)
  | 26, h => (simp only [mr] at h ⊢; (try simp (disch := decide) only [e 116 (by decide), e 117 (by decide), e 118 (by decide), e 119 (by decide), e 120 (by decide), e 121 (by decide), e 122 (by decide), e 123 (by decide), e 126 (by decide), e 127 (by decide), e 128 (by decide), e 129 (by decide), e 130 (by decide), e 131 (by decide), e 133 (by decide), e2 6 (by decide), e2 7 (by decide), e2 8 (by decide), e2 9 (by decide), e2 10 (by decide), e2 11 (by decide), e2 12 (by decide), e2 43 (by decide), h113 0 (by decide), h113 1 (by decide), h113 2 (by decide), h113 3 (by decide), h113 4 (by decide), h113 5 (by decide), h113 6 (by decide)]); first | done | exact h)
  | 27, h => (simp only [mr] at h ⊢; (try simp (disch := decide) only [e 116 (by decide), e 117 (by decide), e 118 (by decide), e 119 (by decide), e 120 (by decide), e 121 (by decide), e 122 (by decide), e 123 (by decide), e 126 (by decide), e 127 (by decide), e 128 (by decide), e 129 (by decide), e 130 (by decide), e 131 (by decide), e 133 (by decide), e2 6 (by decide), e2 7 (by decide), e2 8 (by decide), e2 9 (by decide), e2 10 (by decide), e2 11 (by decide), e2 12 (by decide), e2 43 (by decide), h113 0 (by decide), h113 1 (by decide), h113 2 (by decide), h113 3 (by decide), h113 4 (by decide), h113 5 (by decide), h113 6 (by decide)]); first | done | exact h)
  | 28, h => (simp only [mr] at h ⊢; (try simp (disch := decide) only [e 116 (by decide), e 117 (by decide), e 118 (by decide), e 119 (by decide), e 120 (by decide), e 121 (by decide), e 122 (by decide), e 123 (by decide), e 126 (by decide), e 127 (by decide), e 128 (by decide), e 129 (by decide), e 130 (by decide), e 131 (by decide), e 133 (by decide), e2 6 (by decide), e2 7 (by decide), e2 8 (by decide), e2 9 (by decide), e2 10 (by decide), e2 11 (by decide), e2 12 (by decide), e2 43 (by decide), h113 0 (by decide), h113 1 (by decide), h113 2 (by decide), h113 3 (by decide), h113 4 (by decide), h113 5 (by decide), h113 6 (by decide)]); first | done | exact h)
  | 29, h => (simp only [mr] at h ⊢; (try simp (disch := decide) only [e 116 (by decide), e 117 (by decide), e 118 (by decide), e 119 (by decide), e 120 (by decide), e 121 (by decide), e 122 (by decide), e 123 (by decide), e 126 (by decide), e 127 (by decide), e 128 (by decide), e 129 (by decide), e 130 (by decide), e 131 (by decide), e 133 (by decide), e2 6 (by decide), e2 7 (by decide), e2 8 (by decide), e2 9 (by decide), e2 10 (by decide), e2 11 (by decide), e2 12 (by decide), e2 43 (by decide), h113 0 (by decide), h113 1 (by decide), h113 2 (by decide), h113 3 (by decide), h113 4 (by decide), h113 5 (by decide), h113 6 (by decide)]); first | done | exact h)
  | 30, h => (simp only [mr] at h ⊢; (try simp (disch := decide) only [e 116 (by decide), e 117 (by decide), e 118 (by decide), e 119 (by decide), e 120 (by decide), e 121 (by decide), e 122 (by decide), e 123 (by decide), e 126 (by decide), e 127 (by decide), e 128 (by decide), e 129 (by decide), e 130 (by decide), e 131 (by decide), e 133 (by decide), e2 6 (by decide), e2 7 (by decide), e2 8 (by decide), e2 9 (by decide), e2 10 (by decide), e2 11 (by decide), e2 12 (by decide), e2 43 (by decide), h113 0 (by decide), h113 1 (by decide), h113 2 (by decide), h113 3 (by decide), h113 4 (by decide), h113 5 (by decide), h113 6 (by decide)]); first | done | exact h)
  | _ + 31, _ => trivial
def SCF : List Nat := [113, 115, 134, 135, 136, 137, 138]
theorem stW_c {B T : LW} {ω a : Sig} {s : Int32} (hb : bearS B ω s 0) (h : Cq a ω) : Cq (carW B T a s 0 0) (stW B T true ω s 0 0) := by
  have h2 := Cq_car (B := B) (T := T) h s 0 0
  unfold stW
  rw [if_pos hb]
  obtain ⟨c0, c1, c2, c3, c4⟩ := h2
  refine ⟨by rw [pt_k (by decide)]; exact c0, by rw [pt_k (by decide)]; exact c1, by rw [pt_k (by decide)]; exact c2, by rw [pt_k (by decide)]; exact c3, fun q q1 q2 => ?_⟩
  rw [pt_q (by omega)]; exact c4 q q1 q2
theorem Cq_r {a : Sig} : Cq a a := ⟨rfl, rfl, rfl, rfl, fun _ _ _ => rfl⟩
theorem m_farOf (d : Nat) {B T : LW} {ω σ : Sig} (hM : MR B T ω σ) (hW : WI B T ω) (h5 : σ 112 5 = 0) {s : Int32} (hs : bw s (-9) 9) :
    ∃ σ', Ex (d + 7) 250 0 [.ref 112, .int s, .null] [] G0 σ = some (some (.int (nI (farN B T s 2000 ω))), G0, σ') ∧ Fr SCF [(112, 49), (112, 5)] σ σ' ∧ (∀ k, k < 31 → σ' 113 k = σ 113 k) ∧ σ' 112 5 = 0 ∧ MR B T ω σ' := by
  obtain ⟨σ1, e1, f1, k1, t1⟩ := m_thinks (d + 6) σ
  have hM1 : MR B T ω σ1 := MR_S hM f1 (by decide) (by decide)
  simp only [b250_0, e1, Option.bind_some, Option.toList_some, Option.toList_none, List.cons_append, List.nil_append, i01a, i01b, if_true, if_false, b250_4]
  have back : ∀ (σ2 : Sig) (n : Nat), Fr SCF [(112, 49), (112, 5)] σ σ2 → (∀ k, k < 31 → σ2 115 k = σ 113 k) → ∃ σ', (Ex (d + 6) 150 0 [.ref 112] [] G0 σ2).bind (fun o => Ex (d + 6 + 1) 250 34 [.ref 112, .int s, .int (nI n)] (o.1.toList ++ []) o.2.1 o.2.2) = some (some (.int (nI n)), G0, σ') ∧ Fr SCF [(112, 49), (112, 5)] σ σ' ∧ (∀ k, k < 31 → σ' 113 k = σ 113 k) ∧ σ' 112 5 = 0 ∧ MR B T ω σ' := by
    intro σ2 n f hk
    obtain ⟨σ3, e3, f3, k3, t3, j3⟩ := m_ends (d + 5) σ2
    rw [e3]
    simp only [Option.bind_some, Option.toList_some, Option.toList_none, List.cons_append, List.nil_append, i01a, i01b, if_true, if_false, b250_34]
    have f4 : Fr SCF [(112, 49), (112, 5)] σ σ3 := Fr_t f (Fr_m f3 (by decide) (by decide))
    have h113 : ∀ k, k < 31 → σ3 113 k = σ 113 k := fun k c => by rw [k3 k c, hk k c]
    refine ⟨σ3, rfl, f4, h113, t3, MR_back hM h113 (fun q hq => Fr_q f4 (by revert hq; unfold SCF; simp; omega) (by revert hq; simp; omega)) (fun k hk => f4 112 k (by decide) (by revert hk; simp; omega))⟩
  have main : ∀ k n (ω2 σ2 : Sig), n + k = 2000 → WI B T ω2 → MR B T ω2 σ2 → σ2 112 5 = 1 → Fr SCF [(112, 49), (112, 5)] σ σ2 → (∀ k, k < 31 → σ2 115 k = σ 113 k) → ∃ σ', Ex (d + 7) 250 6 [.ref 112, .int s, .int (nI n)] [] G0 σ2 = some (some (.int (nI (n + farN B T s k ω2))), G0, σ') ∧ Fr SCF [(112, 49), (112, 5)] σ σ' ∧ (∀ k, k < 31 → σ' 113 k = σ 113 k) ∧ σ' 112 5 = 0 ∧ MR B T ω σ' := by
    intro k
    induction k with
    | zero =>
      intro n ω2 σ2 hn hW2 hM2 t f h1
      rw [b250_6]
      have q : ((2000 : Int32) ≤ nI n) = True := by
        have : ((2000 : Int32) ≤ nI n) = (2000 ≤ n) := nJ_le (a := 2000) (by omega) (by omega)
        rw [this]; exact eq_true (by omega)
      simp only [q, i10, i01, eq_self, if_true, if_false, true_and, false_and, and_true, and_false, not_true, not_false_iff, true_or, or_true, false_or, or_false, ne_eq, not_true_eq_false, not_false_eq_true]
      exact back σ2 n f h1
    | succ k ih =>
      intro n ω2 σ2 hn hW2 hM2 t f h1
      rw [b250_6]
      have q : ((2000 : Int32) ≤ nI n) = False := by
        have : ((2000 : Int32) ≤ nI n) = (2000 ≤ n) := nJ_le (a := 2000) (by omega) (by omega)
        rw [this]; exact eq_false (by omega)
      obtain ⟨σ3, e3, _, m3, g3⟩ := m_steps d hM2 hW2 true (by rw [t]; rfl) hs 0 0
      have f3 := g3 rfl
      have fr3 : Fr SCF [(112, 49), (112, 5)] σ σ3 := Fr_t f (Fr_m f3 (by decide) (by decide))
      have k15 : ∀ k, k < 31 → σ3 115 k = σ 113 k := fun k hk => by rw [f3 115 k (by decide) (by simp)]; exact h1 k hk
      simp only [q, i10, i01, eq_self, if_true, if_false, true_and, false_and, and_true, and_false, not_true, not_false_iff, true_or, or_true, false_or, or_false, ne_eq, not_true_eq_false, not_false_eq_true, e3, Option.bind_some, Option.toList_some, Option.toList_none, List.cons_append, List.nil_append, i01a, i01b, if_true, if_false, b250_20, bI_z, bI_o, bI_em, ite_not]
      by_cases hb : bearS B ω2 s 0
      · simp only [eq_true hb, i10, i01, eq_self, if_true, if_false, true_and, false_and, and_true, and_false, not_true, not_false_iff, true_or, or_true, false_or, or_false, ne_eq, not_true_eq_false, not_false_eq_true, nI_s]
        obtain ⟨σ', e', w'⟩ := ih (n + 1) (stW B T true ω2 s 0 0) σ3 (by omega) (WI_st hW2 true s 0 0) m3 (by rw [f3 112 5 (by decide) (by simp)]; exact t) fr3 k15
        refine ⟨σ', ?_, w'⟩
        rw [e', farN, if_pos hb, farN_c k (stW_c hb Cq_r), show n + 1 + farN B T s k (carW B T ω2 s 0 0) = n + (farN B T s k (carW B T ω2 s 0 0) + 1) by omega]
      · simp only [eq_false hb, i10, i01, eq_self, if_true, if_false, true_and, false_and, and_true, and_false, not_true, not_false_iff, true_or, or_true, false_or, or_false, ne_eq, not_true_eq_false, not_false_eq_true]
        rw [farN, if_neg hb, Nat.add_zero]
        exact back σ3 n fr3 k15
  have f1' : Fr SCF [(112, 49), (112, 5)] σ σ1 := Fr_m f1 (by decide) (by decide)
  obtain ⟨σ', e', w'⟩ := main 2000 0 ω σ1 rfl hW hM1 t1 f1' k1
  rw [Nat.zero_add] at e'
  exact ⟨σ', e', w'⟩
