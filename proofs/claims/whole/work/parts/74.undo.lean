/-! L3: what a pace may change, and what undo gives back -/
def lns (ω : Sig) : Nat := (ω 25 0).toNatClampNeg
def Td (ω w : Sig) : Prop := Th ω w ∧ lns ω ≤ lns w
theorem Td_r {ω : Sig} : Td ω ω := ⟨Th_r, Nat.le_refl _⟩
theorem Td_t {a b c : Sig} (h : Td a b) (k : Td b c) : Td a c := ⟨Th_t h.1 k.1 h.2, Nat.le_trans h.2 k.2⟩
theorem Td_Ts {ω w : Sig} (h : Ts ω w) : Td ω w := by
  have e25 := h.1 25 (by decide)
  have e26 := h.1 26 (by decide)
  refine ⟨⟨fun q h1 h2 h3 => h.1 q (by simp at h3 ⊢; omega), h.2.1, h.2.2, fun k _ => by rw [e25], fun i _ => by rw [e26]⟩, by unfold lns; rw [e25]; exact Nat.le_refl _⟩
theorem Td_no {th : Bool} {ω : Sig} {w a b : Int32} : Td ω (noW th ω w a b) := by
  unfold noW
  split
  · exact Td_r
  · rename_i c
    have c2 : lns ω < 150 := Classical.byContradiction (fun h => c (Or.inr h))
    have qq : ∀ q, q ≠ 25 → q ≠ 26 → noR ω (ω 25 0).toNatClampNeg w a b q = ω q := fun q h h2 => noR_q h h2
    refine ⟨⟨fun q h1 h2 h3 => qq q (by simp at h3; omega) (by simp at h3; omega), fun k _ => by rw [qq 1 (by decide) (by decide)], fun k _ => ⟨by rw [qq 7 (by decide) (by decide)], by rw [qq 9 (by decide) (by decide)], by rw [qq 10 (by decide) (by decide)]⟩, fun k hk => ?_, fun i hi => ?_⟩, ?_⟩
    · unfold noR; rw [pt_k (by omega), pt_q (by decide), pt_q (by decide), pt_q (by decide), pt_q (by decide)]
    · unfold noR; rw [pt_q (by decide), pt_k (by omega), pt_k (by omega), pt_k (by omega), pt_k (by omega)]
    · show lns ω ≤ (noR ω (ω 25 0).toNatClampNeg w a b 25 0).toNatClampNeg
      unfold noR; rw [pt_e, nI_c (by unfold lns at c2; omega)]; unfold lns; omega
theorem Td_ln {B T : LW} {th : Bool} {ω : Sig} (hW : WI B T ω) (hl : nx ω < wl ω) : Td ω (lnW th ω) := by
  refine Td_t ?_ (Td_Ts (Ts_1 (by decide)))
  unfold lnB
  split
  · exact Td_t (Td_Ts (Ts_ea hW _)) Td_no
  · split
    · exact Td_r
    · rename_i c
      have c' := Classical.not_not.mp c
      have hp := (pl_n hW c').1
      have n8' := (WI_np hW).2.1
      split
      · refine Td_Ts ⟨fun q hq => pt_q (by simp at hq; omega), fun k _ => by rw [pt_q (by decide)], fun k hk => ⟨by rw [pt_q (by decide)], by rw [pt_q (by decide)], pt_k (by omega)⟩⟩
      · exact Td_t (Td_Ts (Ts_put (B := B) (T := T) (by omega) _)) Td_no
theorem Td_psW {B T : LW} {th : Bool} : ∀ k (ω : Sig), WI B T ω → nx ω + k = wl ω → Td ω (psW th k ω) := by
  intro k
  induction k with
  | zero => intro ω _ _; exact Td_r
  | succ k ih =>
    intro ω hW hk
    have h40 := (WI_nx hW).2.2
    by_cases hp : paced ω (nx ω)
    · rw [psW_p hp]; exact Td_r
    · rw [psW_n hp]
      obtain ⟨w1, w2, _, _⟩ := lnW_w (th := th) (ω := ω) (by omega)
      exact Td_t (Td_ln hW (by omega)) (ih _ (WI_lnW hW (by omega) hp) (by omega))
theorem Td_ps {B T : LW} {th : Bool} {ω : Sig} (hW : WI B T ω) : Td ω (psS th ω) := by
  have hn := WI_nx hW
  exact Td_psW _ ω hW (by omega)
theorem Td_st {B T : LW} {th : Bool} {ω : Sig} (hW : WI B T ω) (s gr g : Int32) : Td ω (stW B T th ω s gr g) := by
  unfold stW
  refine Td_t ?_ (Td_Ts (Ts_1 (by decide)))
  split
  · refine Td_Ts ⟨fun q hq => carW_q (by simp at hq; omega) (by simp at hq; omega), fun k hk => carW_1 (by simp at hk; omega), fun k hk => ⟨?_, by rw [carW_q (by decide) (by decide)], by rw [carW_q (by decide) (by decide)]⟩⟩
    exact (Th_car hW).2.2.1 k hk |>.1
  · unfold fallW
    exact Td_t (Td_Ts (Ts_t (Ts_t (Ts_1 (by decide)) (Ts_1 (by decide))) (Ts_ea (WI_18 (WI_17 hW _) _) _))) Td_no
theorem Td_lg {th : Bool} {ω : Sig} {l : Nat} : Td ω (lgS th ω l).1 := by
  unfold lgS; split
  · exact Td_r
  · dsimp only
    unfold slS
    split
    · exact Td_Ts (Ts_1 (by decide))
    · dsimp only
      split
      · exact Td_Ts (Ts_1 (by decide))
      · exact Td_t (Td_Ts (Ts_1 (by decide))) Td_no
theorem Td_pc {B T : LW} {th : Bool} {ω : Sig} (hW : WI B T ω) : Td ω (pcW B T th ω) := by
  unfold pcW
  dsimp only
  have h := Td_t (Td_lg (th := th) (ω := ω) (l := nx ω)) (Td_st (B := B) (T := T) (th := th) (WI_lg hW (nx ω)) (ω 23 (nx ω)) (ω 24 (nx ω)) (lgS th ω (nx ω)).2)
  split
  · exact Td_t h (Td_Ts (Ts_1 (by decide)))
  · exact Td_t h (Td_Ts (Ts_t (Ts_1 (by decide)) (Ts_1 (by decide))))
theorem Td_go {B T : LW} {th : Bool} {ω : Sig} (hW : WI B T ω) (hp : hasP ω) : Td ω (goW B T th ω) := by
  obtain ⟨p1, p2, p3⟩ := ps_ok (th := th) hW hp
  have h := Td_t (Td_ps (th := th) hW) (Td_pc (th := th) p1)
  unfold goW
  split
  · exact h
  · exact Td_t h (Td_ps (WI_pc p1 p2 p3))
/-- the model's rows of an earlier world, among what has not changed since -/
theorem MR_un {B T : LW} {ω ω' ρ σ σ' : Sig} (hM : MR B T ω' σ) (hr : MR B T ω ρ) (t : Td ω ω') (h113 : ∀ k, k < 31 → σ' 113 k = ρ 113 k) (e : ∀ q, q ∈ [116, 117, 118, 119, 120, 121, 122, 123, 126, 127, 128, 129, 130, 131, 133] → σ' q = σ q) (e2 : ∀ k, k ∈ [6, 7, 8, 9, 10, 11, 12, 43] → σ' 112 k = σ 112 k) : MR B T ω σ' := by
  obtain ⟨⟨t1, t2, t3, t4, t5⟩, tl⟩ := t
  have oq : ∀ q, q ∈ [2, 3, 4, 5, 6, 8, 11, 12, 13, 14, 17, 20, 21, 22, 23, 24] → ω' q = ω q := fun q hq => t1 q (by simp at hq; omega) (by simp at hq; omega) (by simp at hq ⊢; omega)
  have ewl : wl ω' = wl ω := by unfold wl; rw [oq 20 (by decide)]
  intro i
  match i with
  | 0 => exact (e2 6 (by decide)).trans ((hM 0).trans (by rw [t2 0 (by decide)]))
  | 1 => exact (e2 7 (by decide)).trans ((hM 1).trans (by rw [oq 8 (by decide)]))
  | 2 => exact (e2 8 (by decide)).trans ((hM 2).trans (by rw [t2 2 (by decide)]))
  | 3 => exact (e2 9 (by decide)).trans ((hM 3).trans (by rw [t2 3 (by decide)]))
  | 4 => exact (e2 10 (by decide)).trans ((hM 4).trans (by rw [t2 1 (by decide)]))
  | 5 => exact (e2 11 (by decide)).trans ((hM 5).trans (by rw [t2 4 (by decide)]))
  | 6 => exact (e2 12 (by decide)).trans ((hM 6).trans (by rw [oq 2 (by decide)]))
  | 7 => exact (h113 0 (by omega)).trans (hr 7)
  | 8 => exact (h113 1 (by omega)).trans (hr 8)
  | 9 => exact (h113 2 (by omega)).trans (hr 9)
  | 10 => exact (h113 3 (by omega)).trans (hr 10)
  | 11 => exact (h113 4 (by omega)).trans (hr 11)
  | 12 => exact (h113 5 (by omega)).trans (hr 12)
  | 13 => exact (h113 6 (by omega)).trans (hr 13)
  | 14 => exact fun p hp => (h113 (7 + p) (by omega)).trans (hr 14 p hp)
  | 15 => exact fun p hp => (h113 (15 + p) (by omega)).trans (hr 15 p hp)
  | 16 => exact fun p hp => (h113 (23 + p) (by omega)).trans (hr 16 p hp)
  | 17 => exact fun b hb => (congrFun (e 116 (by decide)) b).trans ((hM 17 b hb).trans (by rw [oq 3 (by decide)]))
  | 18 => exact fun b hb => (congrFun (e 117 (by decide)) b).trans ((hM 18 b hb).trans (by rw [oq 4 (by decide)]))
  | 19 => exact fun b hb => (congrFun (e 118 (by decide)) b).trans ((hM 19 b hb).trans (by rw [oq 5 (by decide)]))
  | 20 => exact fun b hb => (congrFun (e 119 (by decide)) b).trans ((hM 20 b hb).trans (by rw [oq 6 (by decide)]))
  | 21 => exact fun b hb => (congrFun (e 120 (by decide)) b).trans ((hM 21 b hb).trans (by rw [oq 11 (by decide)]))
  | 22 => exact fun b hb => (congrFun (e 121 (by decide)) b).trans ((hM 22 b hb).trans (by rw [oq 12 (by decide)]))
  | 23 => exact fun b hb => (congrFun (e 122 (by decide)) b).trans ((hM 23 b hb).trans (by rw [oq 13 (by decide)]))
  | 24 => exact (e2 43 (by decide)).trans ((hM 24).trans (by rw [oq 20 (by decide)]))
  | 25 =>
    intro l hl
    have h : mr B T ω' σ 25 := hM 25
    have h := h l (by rw [ewl]; exact hl)
    unfold paced at *
    rw [oq 21 (by decide), oq 22 (by decide), oq 23 (by decide), oq 24 (by decide)] at h
    rw [e 133 (by decide)]
    exact h
  | 26 =>
    intro i hi
    have h : mr B T ω' σ 26 := hM 26
    unfold lns at tl
    rw [e 123 (by decide), h i (by omega)]
    exact t5 i hi
  | 27 => exact (congrFun (e 126 (by decide)) 0).trans ((hM 27).trans (by rw [oq 14 (by decide)]))
  | 28 => exact (congrFun (e 126 (by decide)) 1).trans ((hM 28).trans (by rw [oq 17 (by decide)]))
  | 29 =>
    show modLaw (σ' 127) (σ' 128) (σ' 129) (σ' 130) (σ' 131) 0 0 B
    rw [e 127 (by decide), e 128 (by decide), e 129 (by decide), e 130 (by decide), e 131 (by decide)]; exact hM 29
  | 30 =>
    show modLaw (σ' 127) (σ' 128) (σ' 129) (σ' 130) (σ' 131) 16 400 T
    rw [e 127 (by decide), e 128 (by decide), e 129 (by decide), e 130 (by decide), e 131 (by decide)]; exact hM 30
  | n + 31 => trivial
