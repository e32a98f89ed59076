/-! L3: lines without paces -/
def nx (ω : Sig) : Nat := (ω 1 9).toNatClampNeg
def lnB (th : Bool) (ω : Sig) (l : Nat) : Sig :=
  if ω 21 l = 23 then noW th (eaS ω (ω 1 3 * ω 22 l)) 3 (ω 22 l) (-1)
  else if ¬ (0 ≤ ω 22 l ∧ ω 22 l < 2 * ω 8 0) then ω
  else if ω 21 l = 4 then pt ω 10 (ω 22 l).toNatClampNeg (ω 23 l)
  else noW th (putW ω (ω 22 l).toNatClampNeg (ω 23 l)) 2 (ω 22 l) (ω 23 l)
def lnW (th : Bool) (ω : Sig) : Sig := pt (lnB th ω (nx ω)) 1 9 (nI (nx ω + 1))
theorem WI_nx {B T : LW} {ω : Sig} (hW : WI B T ω) : ω 1 9 = nI (nx ω) ∧ nx ω ≤ wl ω ∧ wl ω ≤ 40 := by
  have h : wi B T ω 16 := hW 16
  have h15 : wi B T ω 15 := hW 15
  have h1 := h.1
  have h2 := h.2
  have hc : (ω 1 9).toNatClampNeg = (ω 1 9).toInt.toNat := rfl
  exact ⟨nI_of0 h.1, by unfold nx; omega, h15.2⟩
/-- what a line without paces holds -/
theorem ln_k {B T : LW} {ω : Sig} (hW : WI B T ω) {l : Nat} (hl : l < wl ω) (hp : ¬ paced ω l) : (ω 21 l = 23 ∧ bw (ω 22 l) 1 99) ∨ (ω 21 l = 24 ∧ bw (ω 22 l) 0 7 ∧ ∃ b, b < sz ω ∧ ω 23 l = nI b) ∨ (ω 21 l = 4 ∧ bw (ω 22 l) 0 7 ∧ bw (ω 23 l) 0 6) := by
  have h18 : wi B T ω 18 := hW 18
  rcases h18 l hl with h | h
  · exact absurd h.1 hp
  · exact h
theorem ease_b {B T : LW} {ω : Sig} (hW : WI B T ω) {x : Int32} (hx : bw x 1 99) : bw (ω 1 3 * x) 0 100000 := by
  have h2 : bw (ω 1 3) 0 1000 := hW 2
  obtain ⟨a, ea, _, la, _⟩ := bwN (a := 0) (b := 1000) h2
  obtain ⟨b, eb, _, lb, _⟩ := bwN (a := 1) (b := 99) hx
  have : a * b ≤ 1000 * 99 := Nat.mul_le_mul la lb
  rw [ea, eb, nI_mul']
  unfold bw; rw [nI_i (by omega)]; omega
theorem WI_10 {B T : LW} {ω : Sig} (hW : WI B T ω) {p : Nat} {v : Int32} (hv : bw v 0 6) : WI B T (pt ω 10 p v) := by
  intro i
  have h := hW i
  match i, h with
  | 0, h => (simp only [wi, np, pr, sz, wl, paced] at h ⊢; (try simp (disch := decide) only [pt_q]); first | done | exact h)
  | 1, h => (simp only [wi, np, pr, sz, wl, paced] at h ⊢; (try simp (disch := decide) only [pt_q]); first | done | exact h)
  | 2, h => (simp only [wi, np, pr, sz, wl, paced] at h ⊢; (try simp (disch := decide) only [pt_q]); first | done | exact h)
  | 3, h => (simp only [wi, np, pr, sz, wl, paced] at h ⊢; (try simp (disch := decide) only [pt_q]); first | done | exact h)
  | 4, h => (simp only [wi, np, pr, sz, wl, paced] at h ⊢; (try simp (disch := decide) only [pt_q]); first | done | exact h)
  | 5, h => (simp only [wi, np, pr, sz, wl, paced] at h ⊢; (try simp (disch := decide) only [pt_q]); first | done | exact h)
  | 6, h => (simp only [wi, np, pr, sz, wl, paced] at h ⊢; (try simp (disch := decide) only [pt_q]); first | done | exact h)
  | 7, h => (simp only [wi, np, pr, sz, wl, paced] at h ⊢; (try simp (disch := decide) only [pt_q]); first | done | exact h)
  | 8, h => (show ∀ q, q < 8 → bw (pt ω 10 p v 10 q) 0 6; intro q hq; by_cases e : q = p; (subst e; rw [pt_e]; exact hv); (rw [pt_k e]; exact h q hq))
  | 9, h => (simp only [wi, np, pr, sz, wl, paced] at h ⊢; (try simp (disch := decide) only [pt_q]); first | done | exact h)
  | 10, h => (simp only [wi, np, pr, sz, wl, paced] at h ⊢; (try simp (disch := decide) only [pt_q]); first | done | exact h)
  | 11, h => (simp only [wi, np, pr, sz, wl, paced] at h ⊢; (try simp (disch := decide) only [pt_q]); first | done | exact h)
  | 12, h => (simp only [wi, np, pr, sz, wl, paced] at h ⊢; (try simp (disch := decide) only [pt_q]); first | done | exact h)
  | 13, h => (simp only [wi, np, pr, sz, wl, paced] at h ⊢; (try simp (disch := decide) only [pt_q]); first | done | exact h)
  | 14, h => (simp only [wi, np, pr, sz, wl, paced] at h ⊢; (try simp (disch := decide) only [pt_q]); first | done | exact h)
  | 15, h => (simp only [wi, np, pr, sz, wl, paced] at h ⊢; (try simp (disch := decide) only [pt_q]); first | done | exact h)
  | 16, h => (simp only [wi, np, pr, sz, wl, paced] at h ⊢; (try simp (disch := decide) only [pt_q]); first | done | exact h)
  | 17, h => (simp only [wi, np, pr, sz, wl, paced] at h ⊢; (try simp (disch := decide) only [pt_q]); first | done | exact h)
  | 18, h => (simp only [wi, np, pr, sz, wl, paced] at h ⊢; (try simp (disch := decide) only [pt_q]); first | done | exact h)
  | 19, h => (simp only [wi, np, pr, sz, wl, paced] at h ⊢; (try simp (disch := decide) only [pt_q]); first | done | exact h)
  | 20, h => (simp only [wi, np, pr, sz, wl, paced] at h ⊢; (try simp (disch := decide) only [pt_q]); first | done | exact h)
  | 21, h => (simp only [wi, np, pr, sz, wl, paced] at h ⊢; (try simp (disch := decide) only [pt_q]); first | done | exact h)
  | 22, h => (simp only [wi, np, pr, sz, wl, paced] at h ⊢; (try simp (disch := decide) only [pt_q]); first | done | exact h)
  | _ + 23, _ => trivial
theorem WI_nxt {B T : LW} {ω : Sig} (hW : WI B T ω) {n : Nat} (hn : n ≤ wl ω) : WI B T (pt ω 1 9 (nI n)) := by
  have hl : wl ω ≤ 40 := (WI_nx hW).2.2
  have e : wl (pt ω 1 9 (nI n)) = wl ω := by unfold wl; rw [pt_q (by decide)]
  intro i
  have h := hW i
  match i, h with
  | 0, h => (simp only [wi, np, pr, sz, wl, paced] at h ⊢; (try simp (disch := decide) only [pt_q, pt_k]); first | done | exact h)
  | 1, h => (simp only [wi, np, pr, sz, wl, paced] at h ⊢; (try simp (disch := decide) only [pt_q, pt_k]); first | done | exact h)
  | 2, h => (simp only [wi, np, pr, sz, wl, paced] at h ⊢; (try simp (disch := decide) only [pt_q, pt_k]); first | done | exact h)
  | 3, h => (simp only [wi, np, pr, sz, wl, paced] at h ⊢; (try simp (disch := decide) only [pt_q, pt_k]); first | done | exact h)
  | 4, h => (simp only [wi, np, pr, sz, wl, paced] at h ⊢; (try simp (disch := decide) only [pt_q, pt_k]); first | done | exact h)
  | 5, h => (simp only [wi, np, pr, sz, wl, paced] at h ⊢; (try simp (disch := decide) only [pt_q, pt_k]); first | done | exact h)
  | 6, h => (simp only [wi, np, pr, sz, wl, paced] at h ⊢; (try simp (disch := decide) only [pt_q, pt_k]); first | done | exact h)
  | 7, h => (simp only [wi, np, pr, sz, wl, paced] at h ⊢; (try simp (disch := decide) only [pt_q, pt_k]); first | done | exact h)
  | 8, h => (simp only [wi, np, pr, sz, wl, paced] at h ⊢; (try simp (disch := decide) only [pt_q, pt_k]); first | done | exact h)
  | 9, h => (simp only [wi, np, pr, sz, wl, paced] at h ⊢; (try simp (disch := decide) only [pt_q, pt_k]); first | done | exact h)
  | 10, h => (simp only [wi, np, pr, sz, wl, paced] at h ⊢; (try simp (disch := decide) only [pt_q, pt_k]); first | done | exact h)
  | 11, h => (simp only [wi, np, pr, sz, wl, paced] at h ⊢; (try simp (disch := decide) only [pt_q, pt_k]); first | done | exact h)
  | 12, h => (simp only [wi, np, pr, sz, wl, paced] at h ⊢; (try simp (disch := decide) only [pt_q, pt_k]); first | done | exact h)
  | 13, h => (simp only [wi, np, pr, sz, wl, paced] at h ⊢; (try simp (disch := decide) only [pt_q, pt_k]); first | done | exact h)
  | 14, h => (simp only [wi, np, pr, sz, wl, paced] at h ⊢; (try simp (disch := decide) only [pt_q, pt_k]); first | done | exact h)
  | 15, h => (simp only [wi, np, pr, sz, wl, paced] at h ⊢; (try simp (disch := decide) only [pt_q, pt_k]); first | done | exact h)
  | 16, h => (show 0 ≤ (pt ω 1 9 (nI n) 1 9).toInt ∧ (pt ω 1 9 (nI n) 1 9).toInt ≤ wl (pt ω 1 9 (nI n)); rw [pt_e, e, nI_i (by omega)]; omega)
  | 17, h => (simp only [wi, np, pr, sz, wl, paced] at h ⊢; (try simp (disch := decide) only [pt_q, pt_k]); first | done | exact h)
  | 18, h => (simp only [wi, np, pr, sz, wl, paced] at h ⊢; (try simp (disch := decide) only [pt_q, pt_k]); first | done | exact h)
  | 19, h => (simp only [wi, np, pr, sz, wl, paced] at h ⊢; (try simp (disch := decide) only [pt_q, pt_k]); first | done | exact h)
  | 20, h => (simp only [wi, np, pr, sz, wl, paced] at h ⊢; (try simp (disch := decide) only [pt_q, pt_k]); first | done | exact h)
  | 21, h => (simp only [wi, np, pr, sz, wl, paced] at h ⊢; (try simp (disch := decide) only [pt_q, pt_k]); first | done | exact h)
  | 22, h => (simp only [wi, np, pr, sz, wl, paced] at h ⊢; (try simp (disch := decide) only [pt_q, pt_k]); first | done | exact h)
  | _ + 23, _ => trivial
theorem lnB_q {th : Bool} {ω : Sig} {l q : Nat} (h : q ∉ [7, 9, 10, 25, 26]) : lnB th ω l q = ω q := by
  simp at h
  unfold lnB
  split
  · rw [noW_q (by omega) (by omega), eaS_q (by omega)]
  · split
    · rfl
    · split
      · rw [pt_q (by omega)]
      · rw [noW_q (by omega) (by omega), putW_q (by omega)]
theorem pl_n {B T : LW} {ω : Sig} (hW : WI B T ω) {a : Int32} (h : 0 ≤ a ∧ a < 2 * ω 8 0) : a.toNatClampNeg < np ω ∧ a = nI a.toNatClampNeg := by
  obtain ⟨p, hp, hp8, e⟩ := pl_ix hW h
  subst e; rw [nI_c (by omega)]; exact ⟨hp, rfl⟩
theorem WI_lnB {B T : LW} {th : Bool} {ω : Sig} (hW : WI B T ω) {l : Nat} (hl : l < wl ω) (hp : ¬ paced ω l) : WI B T (lnB th ω l) := by
  rcases ln_k hW hl hp with ⟨k, h1⟩ | ⟨k, h1, h2⟩ | ⟨k, h1, h2⟩
  · unfold lnB; rw [if_pos k]; exact WI_noW (WI_ea hW (ease_b hW h1)) th _ _ _
  · unfold lnB; rw [if_neg (by rw [k]; decide)]
    split
    · exact hW
    · rename_i c
      have c' := Classical.not_not.mp c
      rw [if_neg (by rw [k]; decide)]
      exact WI_noW (WI_putW hW (pl_n hW c').1 (Or.inr h2)) th _ _ _
  · unfold lnB; rw [if_neg (by rw [k]; decide)]
    split
    · exact hW
    · first | exact WI_10 hW h2 | (rw [if_pos k]; exact WI_10 hW h2)
theorem WI_lnW {B T : LW} {th : Bool} {ω : Sig} (hW : WI B T ω) (hl : nx ω < wl ω) (hp : ¬ paced ω (nx ω)) : WI B T (lnW th ω) := by
  unfold lnW
  refine WI_nxt (WI_lnB hW hl hp) ?_
  have : wl (lnB th ω (nx ω)) = wl ω := by unfold wl; rw [lnB_q (by decide)]
  omega
theorem c_passLine (d : Nat) {B T : LW} {th : Bool} {ω σ : Sig} (hW : WI B T ω) (h : RW th ω σ) {l : Nat} (hl : l < wl ω) (hp : ¬ paced ω l) :
    ∃ σ', Ex (d + 2) 74 0 [.ref 74, .int (ω 21 l), .int (ω 22 l), .int (ω 23 l)] [] G0 σ = some (none, G0, σ') ∧ RW th (lnB th ω l) σ' ∧ Fr SCV [] σ σ' := by
  have hWs := RW_WI h hW
  have e1 := RW_q h (q := 1) (by omega) (by omega) (by omega) (by omega)
  have e8 := RW_q h (q := 8) (by omega) (by omega) (by omega) (by omega)
  have e2 := RW_q h (q := 2) (by omega) (by omega) (by omega) (by omega)
  have frq : ∀ σ', (∀ q, q ∉ [7, 9, 10, 25, 26] → σ' q = σ q) → Fr SCV [] σ σ' := fun σ' hq q k h1 _ => by rw [hq q (fun e => h1 (by revert e; unfold SCV; simp; omega))]
  rcases ln_k hW hl hp with ⟨k, h1⟩ | ⟨k, h1, b, hb, h2⟩ | ⟨k, h1, h2⟩
  · have r1 := RW_ea h (ω 1 3 * ω 22 l)
    have hWe : WI B T (eaS ω (ω 1 3 * ω 22 l)) := WI_ea hW (ease_b hW h1)
    have hb : bw (eaS σ (ω 1 3 * ω 22 l) 25 0) 0 150 := (RW_WI r1 hWe) 14
    have ew := c_write (d + 1) hb 3 (ω 22 l) (-1)
    have emul : ω 22 l * σ 1 3 = ω 1 3 * ω 22 l := by rw [e1, Int32.mul_comm]
    simp only [b74_0, k, i10, i01, eq_self, if_true, if_false, true_and, false_and, and_true, and_false, not_true, not_false_iff, true_or, or_true, false_or, or_false, ne_eq, not_true_eq_false, not_false_eq_true, emul, c_ease d hWs, Option.bind_some, Option.toList_some, Option.toList_none, List.cons_append, List.nil_append, i01a, i01b, if_true, if_false, b74_25, ew, b74_45, b74_130]
    refine ⟨_, rfl, ?_, frq _ (fun q hq => ?_)⟩
    · unfold lnB; rw [if_pos k]; exact RW_note hWe r1 3 (ω 22 l) (-1)
    · simp at hq; rw [noW_q (by omega) (by omega), eaS_q (by omega)]
  · have c23 : (ω 21 l = 23) = False := eq_false (by rw [k]; decide)
    have c4 : (ω 21 l = 4) = False := eq_false (by rw [k]; decide)
    simp only [b74_0, c23, i10, i01, eq_self, if_true, if_false, true_and, false_and, and_true, and_false, not_true, not_false_iff, true_or, or_true, false_or, or_false, ne_eq, not_true_eq_false, not_false_eq_true, c_placesHas, e8, Option.bind_some, Option.toList_some, Option.toList_none, List.cons_append, List.nil_append, i01a, i01b, if_true, if_false, b74_59, bI_z, bI_o, bI_em, ite_not]
    unfold lnB
    simp only [c23, c4, i10, i01, eq_self, if_true, if_false, true_and, false_and, and_true, and_false, not_true, not_false_iff, true_or, or_true, false_or, or_false, ne_eq, not_true_eq_false, not_false_eq_true, ite_not]
    by_cases c : 0 ≤ ω 22 l ∧ ω 22 l < 2 * ω 8 0
    · obtain ⟨hpn, ep⟩ := pl_n hW c
      have hp8 : (ω 22 l).toNatClampNeg < 8 := by have := (WI_np hW).2.1; omega
      have s5 : wi B T ω 5 := hW 5
      have hhas : (0 ≤ ω 23 l ∧ ω 23 l < σ 2 0) = True := eq_true (by
        rw [e2, h2, s5.1, nJ_lt (by have := s5.2; omega) (by have := s5.2; omega)]
        exact ⟨by have := nJ_le (a := 0) (b := b) (by omega) (by have := s5.2; omega); exact this.mpr (by omega), hb⟩)
      have r1 := RW_put h (ω 22 l).toNatClampNeg (ω 23 l)
      have hWp : WI B T (putW ω (ω 22 l).toNatClampNeg (ω 23 l)) := WI_putW hW hpn (Or.inr ⟨b, hb, h2⟩)
      have hbk : bw (putW σ (ω 22 l).toNatClampNeg (ω 23 l) 25 0) 0 150 := (RW_WI r1 hWp) 14
      have ew := c_write (d + 1) hbk 2 (ω 22 l) (ω 23 l)
      have cp := c_put d hWs hp8 (ω 23 l)
      rw [← ep] at cp
      simp only [eq_true c, i10, i01, eq_self, if_true, if_false, true_and, false_and, and_true, and_false, not_true, not_false_iff, true_or, or_true, false_or, or_false, ne_eq, not_true_eq_false, not_false_eq_true, c4, c_crewHas, hhas, Option.bind_some, Option.toList_some, Option.toList_none, List.cons_append, List.nil_append, i01a, i01b, if_true, if_false, b74_95, bI_z, bI_o, bI_em, ite_not, cp, b74_110, ew, b74_130]
      refine ⟨_, rfl, RW_note hWp r1 2 (ω 22 l) (ω 23 l), frq _ (fun q hq => ?_)⟩
      simp at hq; rw [noW_q (by omega) (by omega), putW_q (by omega)]
    · simp only [c, i10, i01, eq_self, if_true, if_false, true_and, false_and, and_true, and_false, not_true, not_false_iff, true_or, or_true, false_or, or_false, ne_eq, not_true_eq_false, not_false_eq_true]
      exact ⟨σ, rfl, h, Fr_r⟩
  · have c23 : (ω 21 l = 23) = False := eq_false (by rw [k]; decide)
    have c4 : (ω 21 l = 4) = True := eq_true k
    simp only [b74_0, c23, i10, i01, eq_self, if_true, if_false, true_and, false_and, and_true, and_false, not_true, not_false_iff, true_or, or_true, false_or, or_false, ne_eq, not_true_eq_false, not_false_eq_true, c_placesHas, e8, Option.bind_some, Option.toList_some, Option.toList_none, List.cons_append, List.nil_append, i01a, i01b, if_true, if_false, b74_59, bI_z, bI_o, bI_em, ite_not]
    unfold lnB
    simp only [c23, c4, i10, i01, eq_self, if_true, if_false, true_and, false_and, and_true, and_false, not_true, not_false_iff, true_or, or_true, false_or, or_false, ne_eq, not_true_eq_false, not_false_eq_true, ite_not]
    by_cases c : 0 ≤ ω 22 l ∧ ω 22 l < 2 * ω 8 0
    · obtain ⟨hpn, ep⟩ := pl_n hW c
      have hp8 : (ω 22 l).toNatClampNeg < 8 := by have := (WI_np hW).2.1; omega
      have hin : inb (ω 22 l) 8 = true := by rw [ep]; exact i8 hp8
      simp only [eq_true c, i10, i01, eq_self, if_true, if_false, true_and, false_and, and_true, and_false, not_true, not_false_iff, true_or, or_true, false_or, or_false, ne_eq, not_true_eq_false, not_false_eq_true, hin, b74_130]
      refine ⟨_, rfl, RW_pt h (by decide) (by decide), frq _ (fun q hq => ?_)⟩
      simp at hq; rw [pt_q (by omega)]
    · simp only [c, i10, i01, eq_self, if_true, if_false, true_and, false_and, and_true, and_false, not_true, not_false_iff, true_or, or_true, false_or, or_false, ne_eq, not_true_eq_false, not_false_eq_true]
      exact ⟨σ, rfl, h, Fr_r⟩
/-- all lines up to the next one with paces -/
noncomputable def psW (th : Bool) : Nat → Sig → Sig
  | 0, ω => ω
  | k + 1, ω => @ite Sig (paced ω (nx ω)) (Classical.propDecidable _) ω (psW th k (lnW th ω))
noncomputable def psS (th : Bool) (ω : Sig) : Sig := psW th (wl ω - nx ω) ω
theorem psW_p {th : Bool} {k : Nat} {ω : Sig} (h : paced ω (nx ω)) : psW th (k + 1) ω = ω := by rw [psW]; exact if_pos h
theorem psW_n {th : Bool} {k : Nat} {ω : Sig} (h : ¬ paced ω (nx ω)) : psW th (k + 1) ω = psW th k (lnW th ω) := by rw [psW]; exact if_neg h
theorem lnW_w {th : Bool} {ω : Sig} (h : nx ω < 40) : wl (lnW th ω) = wl ω ∧ nx (lnW th ω) = nx ω + 1 ∧ (∀ q, q ∉ [1, 7, 9, 10, 25, 26] → lnW th ω q = ω q) ∧ (∀ k, k ≠ 9 → lnW th ω 1 k = ω 1 k) := by
  unfold lnW
  refine ⟨?_, ?_, fun q hq => ?_, fun k hk => ?_⟩
  · unfold wl; rw [pt_q (by decide), lnB_q (by decide)]
  · show (pt (lnB th ω (nx ω)) 1 9 (nI (nx ω + 1)) 1 9).toNatClampNeg = nx ω + 1
    rw [pt_e, nI_c (by omega)]
  · simp at hq; rw [pt_q (by omega), lnB_q (by simp; omega)]
  · rw [pt_k hk, lnB_q (by decide)]
theorem psW_spec {B T : LW} {th : Bool} : ∀ k (ω : Sig), WI B T ω → nx ω + k = wl ω → WI B T (psW th k ω) ∧ wl (psW th k ω) = wl ω ∧ nx ω ≤ nx (psW th k ω) ∧ nx (psW th k ω) ≤ wl ω ∧ (nx (psW th k ω) < wl ω → paced (psW th k ω) (nx (psW th k ω))) ∧ (∀ l, nx ω ≤ l → l < nx (psW th k ω) → ¬ paced ω l) ∧ (∀ q, q ∉ [1, 7, 9, 10, 25, 26] → psW th k ω q = ω q) ∧ (∀ k', k' ≠ 9 → psW th k ω 1 k' = ω 1 k') := by
  intro k
  induction k with
  | zero =>
    intro ω hW hk
    refine ⟨hW, rfl, Nat.le_refl _, by show nx ω ≤ wl ω; omega, fun h => ?_, fun l h1 h2 => ?_, fun _ _ => rfl, fun _ _ => rfl⟩
    · have h' : nx ω < wl ω := h; omega
    · have h2' : l < nx ω := h2; omega
  | succ k ih =>
    intro ω hW hk
    have h40 := (WI_nx hW).2.2
    by_cases hp : paced ω (nx ω)
    · rw [psW_p hp]
      exact ⟨hW, rfl, Nat.le_refl _, by omega, fun _ => hp, fun l h1 h2 => by omega, fun _ _ => rfl, fun _ _ => rfl⟩
    · rw [psW_n hp]
      obtain ⟨w1, w2, w3, w4⟩ := lnW_w (th := th) (ω := ω) (by omega)
      obtain ⟨a1, a2, a3, a4, a5, a6, a7, a8⟩ := ih (lnW th ω) (WI_lnW hW (by omega) hp) (by omega)
      refine ⟨a1, a2.trans w1, by omega, by omega, fun h => a5 (by omega), fun l h1 h2 => ?_, fun q hq => (a7 q hq).trans (w3 q hq), fun k' hk' => (a8 k' hk').trans (w4 k' hk')⟩
      by_cases e : l = nx ω
      · subst e; exact hp
      · have := a6 l (by omega) h2
        unfold paced at this ⊢; rw [w3 21 (by decide)] at this; exact this
theorem c_passLines (d : Nat) {B T : LW} {th : Bool} {ω σ : Sig} (hW : WI B T ω) (h : RW th ω σ) :
    ∃ σ', Ex (d + 3) 73 0 [.ref 74, .null] [] G0 σ = some (none, G0, σ') ∧ RW th (psS th ω) σ' ∧ Fr SCV [] σ σ' := by
  rw [b73_0]
  have main : ∀ k (ω1 σ1 : Sig), WI B T ω1 → nx ω1 + k = wl ω1 → RW th ω1 σ1 → Fr SCV [] σ σ1 → ∃ σ', Ex (d + 3) 73 8 [.ref 74, .ref 20] [] G0 σ1 = some (none, G0, σ') ∧ RW th (psW th k ω1) σ' ∧ Fr SCV [] σ σ' := by
    intro k
    induction k with
    | zero =>
      intro ω1 σ1 hW1 hk r f
      have e1 := RW_q r (q := 1) (by omega) (by omega) (by omega) (by omega)
      have e20 := RW_q r (q := 20) (by omega) (by omega) (by omega) (by omega)
      have h15 : wi B T ω1 15 := hW1 15
      have hn := WI_nx hW1
      rw [b73_8]
      have q : (nI (wl ω1) ≤ nI (nx ω1)) = True := by rw [nJ_le (by omega) (by omega)]; exact eq_true (by omega)
      simp only [e1, e20, h15.1, hn.1, q, i10, i01, eq_self, if_true, if_false, true_and, false_and, and_true, and_false, not_true, not_false_iff, true_or, or_true, false_or, or_false, ne_eq, not_true_eq_false, not_false_eq_true]
      exact ⟨σ1, rfl, r, f⟩
    | succ k ih =>
      intro ω1 σ1 hW1 hk r f
      have e1 := RW_q r (q := 1) (by omega) (by omega) (by omega) (by omega)
      have e20 := RW_q r (q := 20) (by omega) (by omega) (by omega) (by omega)
      have e21 := RW_q r (q := 21) (by omega) (by omega) (by omega) (by omega)
      have e22 := RW_q r (q := 22) (by omega) (by omega) (by omega) (by omega)
      have e23 := RW_q r (q := 23) (by omega) (by omega) (by omega) (by omega)
      have h15 : wi B T ω1 15 := hW1 15
      have hn := WI_nx hW1
      rw [b73_8]
      have q : (nI (wl ω1) ≤ nI (nx ω1)) = False := by rw [nJ_le (by omega) (by omega)]; exact eq_false (by omega)
      simp only [e1, e20, e21, e22, e23, h15.1, hn.1, q, i10, i01, eq_self, if_true, if_false, true_and, false_and, and_true, and_false, not_true, not_false_iff, true_or, or_true, false_or, or_false, ne_eq, not_true_eq_false, not_false_eq_true, inb_n (show nx ω1 < 40 by omega) (show nx ω1 < 2 ^ 31 by omega), nI_c (show nx ω1 < 2 ^ 31 by omega)]
      by_cases k1 : ω1 21 (nx ω1) = 21
      · simp only [eq_true k1, i10, i01, eq_self, if_true, if_false, true_and, false_and, and_true, and_false, not_true, not_false_iff, true_or, or_true, false_or, or_false, ne_eq, not_true_eq_false, not_false_eq_true]
        rw [psW_p (Or.inl k1)]
        exact ⟨σ1, rfl, r, f⟩
      · by_cases k2 : ω1 21 (nx ω1) = 22
        · simp only [eq_false k1, eq_true k2, i10, i01, eq_self, if_true, if_false, true_and, false_and, and_true, and_false, not_true, not_false_iff, true_or, or_true, false_or, or_false, ne_eq, not_true_eq_false, not_false_eq_true]
          rw [psW_p (Or.inr k2)]
          exact ⟨σ1, rfl, r, f⟩
        · have hp : ¬ paced ω1 (nx ω1) := fun e => e.elim k1 k2
          obtain ⟨σ2, e2, r2, f2⟩ := c_passLine d hW1 r (show nx ω1 < wl ω1 by omega) hp
          simp only [eq_false k1, eq_false k2, i10, i01, eq_self, if_true, if_false, true_and, false_and, and_true, and_false, not_true, not_false_iff, true_or, or_true, false_or, or_false, ne_eq, not_true_eq_false, not_false_eq_true, e2, Option.bind_some, Option.toList_some, Option.toList_none, List.cons_append, List.nil_append, i01a, i01b, if_true, if_false, b73_96]
          rw [psW_n hp]
          have es : σ2 1 9 + 1 = nI (nx ω1 + 1) := by
            rw [RW_q r2 (q := 1) (by omega) (by omega) (by omega) (by omega), lnB_q (by decide), hn.1, nI_s]
          rw [es]
          obtain ⟨w1, w2, _, _⟩ := lnW_w (th := th) (ω := ω1) (by omega)
          exact ih (lnW th ω1) _ (WI_lnW hW1 (by omega) hp) (by omega) (RW_pt r2 (by decide) (by decide)) (Fr_p (Fr_t f f2) (Or.inl (by decide)))
  have hn := WI_nx hW
  exact main (wl ω - nx ω) ω σ hW (by omega) h Fr_r
