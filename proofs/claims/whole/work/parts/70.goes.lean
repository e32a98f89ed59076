/-! L3: a way in thought -/
def Ts (ω w : Sig) : Prop := (∀ q, q ∉ [1, 7, 9, 10] → w q = ω q) ∧ (∀ k, k ∉ [5, 6, 7, 8, 9, 10] → w 1 k = ω 1 k) ∧ ∀ k, 8 ≤ k → w 7 k = ω 7 k ∧ w 9 k = ω 9 k ∧ w 10 k = ω 10 k
theorem Ts_r {ω : Sig} : Ts ω ω := ⟨fun _ _ => rfl, fun _ _ => rfl, fun _ _ => ⟨rfl, rfl, rfl⟩⟩
theorem Ts_t {a b c : Sig} (h : Ts a b) (k : Ts b c) : Ts a c := ⟨fun q hq => (k.1 q hq).trans (h.1 q hq), fun q hq => (k.2.1 q hq).trans (h.2.1 q hq), fun q hq => ⟨(k.2.2 q hq).1.trans (h.2.2 q hq).1, (k.2.2 q hq).2.1.trans (h.2.2 q hq).2.1, (k.2.2 q hq).2.2.trans (h.2.2 q hq).2.2⟩⟩
theorem Ts_7 {ω w : Sig} (h : ∀ q, q ≠ 7 → w q = ω q) (k : ∀ j, 8 ≤ j → w 7 j = ω 7 j) : Ts ω w := ⟨fun q hq => h q (by simp at hq; omega), fun j _ => by rw [h 1 (by decide)], fun j hj => ⟨k j hj, by rw [h 9 (by decide)], by rw [h 10 (by decide)]⟩⟩
theorem Ts_1 {ω : Sig} {k : Nat} {v : Int32} (hk : k ∈ [5, 6, 7, 8, 9, 10]) : Ts ω (pt ω 1 k v) := ⟨fun q hq => pt_q (by simp at hq; omega), fun j hj => pt_k (fun e => hj (e ▸ hk)), fun j _ => ⟨by rw [pt_q (by decide)], by rw [pt_q (by decide)], by rw [pt_q (by decide)]⟩⟩
theorem Ts_ea {B T : LW} {ω : Sig} (hW : WI B T ω) (x : Int32) : Ts ω (eaS ω x) := Ts_7 (fun q hq => eaS_q hq) (fun j hj => by
  have s5 : wi B T ω 5 := hW 5
  have := s5.2
  unfold eaS; rw [eaN_b, if_neg (by omega)])
theorem Ts_put {B T : LW} {ω : Sig} {p : Nat} (hp : p < 8) (x : Int32) : Ts ω (putW ω p x) := by
  refine ⟨fun q hq => putW_q (by simp at hq; omega), fun k _ => by rw [putW_q (by decide)], fun k hk => ⟨by rw [putW_q (by decide)], ?_, by rw [putW_q (by decide)]⟩⟩
  unfold putW
  split
  · rw [pt_k (by omega)]
  · rename_i c
    have c2 : plS ω x ≠ -1 := fun e => c (Or.inr e)
    obtain ⟨q, hq, eq, _⟩ := pl_b c2
    rw [pt_k (by omega), eq, nI_c (by omega), pt_k (by omega)]
theorem no_t {ω : Sig} {w a b : Int32} : noW true ω w a b = ω := by unfold noW; rw [if_pos (Or.inl rfl)]
theorem Ts_ln {B T : LW} {ω : Sig} (hW : WI B T ω) (hl : nx ω < wl ω) : Ts ω (lnW true ω) := by
  refine Ts_t ?_ (Ts_1 (by decide))
  unfold lnB
  split
  · rw [no_t]; exact Ts_ea hW _
  · split
    · exact Ts_r
    · rename_i c
      have c' := Classical.not_not.mp c
      have hp := (pl_n hW c').1
      have n8' := (WI_np hW).2.1
      split
      · exact ⟨fun q hq => pt_q (by simp at hq; omega), fun k _ => by rw [pt_q (by decide)], fun k hk => ⟨by rw [pt_q (by decide)], by rw [pt_q (by decide)], pt_k (by omega)⟩⟩
      · rw [no_t]; exact Ts_put (B := B) (T := T) (by omega) _
theorem Ts_psW {B T : LW} : ∀ k (ω : Sig), WI B T ω → nx ω + k = wl ω → Ts ω (psW true k ω) := by
  intro k
  induction k with
  | zero => intro ω _ _; exact Ts_r
  | succ k ih =>
    intro ω hW hk
    have h40 := (WI_nx hW).2.2
    by_cases hp : paced ω (nx ω)
    · rw [psW_p hp]; exact Ts_r
    · rw [psW_n hp]
      obtain ⟨w1, w2, _, _⟩ := lnW_w (th := true) (ω := ω) (by omega)
      exact Ts_t (Ts_ln hW (by omega)) (ih _ (WI_lnW hW (by omega) hp) (by omega))
theorem Ts_ps {B T : LW} {ω : Sig} (hW : WI B T ω) : Ts ω (psS true ω) := by
  have hn := WI_nx hW
  exact Ts_psW _ ω hW (by omega)
theorem Ts_st {B T : LW} {ω : Sig} (hW : WI B T ω) (s gr g : Int32) : Ts ω (stW B T true ω s gr g) := by
  unfold stW
  refine Ts_t ?_ (Ts_1 (by decide))
  split
  · refine ⟨fun q hq => carW_q (by simp at hq; omega) (by simp at hq; omega), fun k hk => carW_1 (by simp at hk; omega), fun k hk => ⟨?_, by rw [carW_q (by decide) (by decide)], by rw [carW_q (by decide) (by decide)]⟩⟩
    exact (Th_car hW).2.2.1 k hk |>.1
  · unfold fallW
    rw [no_t]
    exact Ts_t (Ts_t (Ts_1 (by decide)) (Ts_1 (by decide))) (Ts_ea (WI_18 (WI_17 hW _) _) _)
theorem Ts_pc {B T : LW} {ω : Sig} (hW : WI B T ω) : Ts ω (pcW B T true ω) := by
  unfold pcW lgS
  simp only [true_or, if_true]
  split
  · exact Ts_t (Ts_st hW _ _ _) (Ts_1 (by decide))
  · exact Ts_t (Ts_st hW _ _ _) (Ts_t (Ts_1 (by decide)) (Ts_1 (by decide)))
/-- thought behind RW and Ts -/
theorem RW_Th {σ0 w σ : Sig} (h : RW true w σ) (t : Ts σ0 w) : Th σ0 σ := by
  obtain ⟨r1, _, r3⟩ := h
  obtain ⟨b, l, k25, k26⟩ := r3 rfl
  have e25 : w 25 = σ0 25 := t.1 25 (by decide)
  have e26 : w 26 = σ0 26 := t.1 26 (by decide)
  refine ⟨fun q h1 h2 h3 => ?_, fun k hk => ?_, fun k hk => ?_, fun k hk => ?_, fun i hi => ?_⟩
  · rw [r1 q h1 h2 (by simp at h3 ⊢; omega)]; exact t.1 q (by simp at h3 ⊢; omega)
  · rw [r1 1 (by omega) (by omega) (by decide)]; exact t.2.1 k hk
  · rw [r1 7 (by omega) (by omega) (by decide), r1 9 (by omega) (by omega) (by decide), r1 10 (by omega) (by omega) (by decide)]; exact t.2.2 k hk
  · rw [k25 k hk, e25]
  · rw [k26 i (by rw [e25]; exact hi), e26]
noncomputable def ppW (B T : LW) (ω : Sig) : Sig := pcW B T true (psS true ω)
def dn (ω : Sig) : Nat := (ω 1 10).toNatClampNeg
def mu (ω : Sig) : Nat := 200 * (wl ω - nx ω) - min (dn ω) 199
theorem pc_nx {B T : LW} {th : Bool} {ω : Sig} (hW : WI B T ω) (hl : nx ω < wl ω) (hp : paced ω (nx ω)) : wl (pcW B T th ω) = wl ω ∧ ((nx (pcW B T th ω) = nx ω ∧ dn (pcW B T th ω) = dn ω + 1 ∧ dn ω + 1 ≤ 199) ∨ (nx (pcW B T th ω) = nx ω + 1 ∧ dn (pcW B T th ω) = 0)) := by
  have hn := WI_nx hW
  have h17 : bw (ω 1 10) 0 200 := hW 17
  obtain ⟨n, en, _, ln, cn⟩ := bwN (a := 0) (b := 200) h17
  have hc := (pcd hW hl hp).1
  obtain ⟨f, ef, _, lf, _⟩ := bwN (a := 1) (b := 200) hc
  generalize hA : stW B T th (lgS th ω (nx ω)).1 (ω 23 (nx ω)) (ω 24 (nx ω)) (lgS th ω (nx ω)).2 = A
  have a9 : A 1 9 = nI (nx ω) := by rw [← hA, st_1 (by decide), lg_1 (by decide)]; exact hn.1
  have awl : wl A = wl ω := by unfold wl; rw [← hA, st_q (by decide), lg_q (by decide)]
  have hpc : pcW B T th ω = if ω 1 10 + 1 < ω 22 (nx ω) then pt A 1 10 (ω 1 10 + 1) else pt (pt A 1 9 (nI (nx ω + 1))) 1 10 0 := by
    unfold pcW; dsimp only; rw [hA]
  have hdn : dn ω = n := by unfold dn; exact cn
  rw [hpc]
  by_cases c : ω 1 10 + 1 < ω 22 (nx ω)
  · rw [if_pos c]
    rw [en, nI_s] at c
    rw [ef, nJ_lt (by omega) (by omega)] at c
    refine ⟨by unfold wl at *; rw [pt_q (by decide)]; exact awl, Or.inl ⟨?_, ?_, by omega⟩⟩
    · show (pt A 1 10 (ω 1 10 + 1) 1 9).toNatClampNeg = nx ω
      rw [pt_k (by decide), a9, nI_c (by omega)]
    · show (pt A 1 10 (ω 1 10 + 1) 1 10).toNatClampNeg = dn ω + 1
      rw [pt_e, en, nI_s, nI_c (by omega), hdn]
  · rw [if_neg c]
    refine ⟨by unfold wl at *; rw [pt_q (by decide), pt_q (by decide)]; exact awl, Or.inr ⟨?_, ?_⟩⟩
    · show (pt (pt A 1 9 (nI (nx ω + 1))) 1 10 0 1 9).toNatClampNeg = nx ω + 1
      rw [pt_k (by decide), pt_e, nI_c (by omega)]
    · show (pt (pt A 1 9 (nI (nx ω + 1))) 1 10 0 1 10).toNatClampNeg = 0
      rw [pt_e]; rfl
theorem mu_has {B T : LW} {ω : Sig} (hW : WI B T ω) (hp : hasP ω) : 1 ≤ mu ω := by
  obtain ⟨l, a, b, _⟩ := hp
  unfold mu; omega
theorem mu_pp {B T : LW} {ω : Sig} (hW : WI B T ω) (hp : hasP ω) : mu (ppW B T ω) + 1 ≤ mu ω := by
  have hn := WI_nx hW
  obtain ⟨p1, p2, p3⟩ := ps_ok (th := true) hW hp
  obtain ⟨_, a2, a3, a4, _, _, _, a8⟩ := psW_spec (th := true) (wl ω - nx ω) ω hW (by omega)
  have hd : dn (psS true ω) = dn ω := by unfold dn; rw [show psS true ω 1 10 = ω 1 10 from a8 10 (by decide)]
  have hw : wl (psS true ω) = wl ω := a2
  have hx : nx ω ≤ nx (psS true ω) := a3
  obtain ⟨b1, b2⟩ := pc_nx (th := true) p1 p2 p3
  unfold mu ppW
  rw [b1]
  rcases b2 with ⟨c1, c2, c3⟩ | ⟨c1, c2⟩
  · rw [c1, c2]; omega
  · rw [c1, c2]; omega
noncomputable def tjN (B T : LW) : Nat → Sig → Nat
  | 0, _ => 0
  | k + 1, ω => @ite Nat (hasP ω) (Classical.propDecidable _) (tjN B T k (ppW B T ω) + 1) 0
noncomputable def tjW (B T : LW) : Nat → Sig → Sig
  | 0, ω => ω
  | k + 1, ω => @ite Sig (hasP ω) (Classical.propDecidable _) (tjW B T k (ppW B T ω)) ω
theorem tj_y {B T : LW} {k : Nat} {ω : Sig} (h : hasP ω) : tjN B T (k + 1) ω = tjN B T k (ppW B T ω) + 1 ∧ tjW B T (k + 1) ω = tjW B T k (ppW B T ω) := ⟨by rw [tjN]; exact if_pos h, by rw [tjW]; exact if_pos h⟩
theorem tj_n {B T : LW} {k : Nat} {ω : Sig} (h : ¬ hasP ω) : tjN B T k ω = 0 ∧ tjW B T k ω = ω := by
  cases k with
  | zero => exact ⟨rfl, rfl⟩
  | succ k => exact ⟨by rw [tjN]; exact if_neg h, by rw [tjW]; exact if_neg h⟩
/-- the world at the end of a way in thought -/
noncomputable def fnW (B T : LW) (ω : Sig) : Sig := if tjN B T 8000 ω = 0 then ω else psS true (tjW B T 8000 ω)
def mtS (ω : Sig) : Int32 := fo (fun b a => mx a (ω 7 b)) (sz ω) 0
noncomputable def goesA (B T : LW) (ω : Sig) (a : Int32) : Int32 := if 0 ≤ a ∧ a ≤ 2 then (if a = 0 then nI (tjN B T 8000 ω) else if a = 1 then fnW B T ω 1 7 - ω 1 7 else mtS (fnW B T ω)) else -1
theorem c_mostTired (d : Nat) {B T : LW} {ω σ : Sig} (hW : WI B T ω) (e2 : σ 2 = ω 2) (e7 : σ 7 = ω 7) : Ex (d + 1) 19 0 [.ref 2, .null, .null] [] G0 σ = some (some (.int (mtS ω)), G0, σ) := by
  obtain ⟨es, s8⟩ : wi B T ω 5 := hW 5
  rw [b19_0]
  have e := loop_fo (fun b (x : Int32) => Ex (d + 1) 19 4 [.ref 2, .int x, .int (nI b)] [] G0 σ) (fun b a => mx a (ω 7 b)) (sz ω) 0 (by
    intro b x hb
    show Ex (d + 1) 19 4 [.ref 2, .int x, .int (nI b)] [] G0 σ = _
    rw [b19_4]
    have q : (nI (sz ω) ≤ nI b) = False := by rw [nJ_le (by omega) (by omega)]; exact eq_false (by omega)
    simp only [e2, es, q, i10, i01, eq_self, if_true, if_false, true_and, false_and, and_true, and_false, not_true, not_false_iff, true_or, or_true, false_or, or_false, ne_eq, not_true_eq_false, not_false_eq_true, i8 (show b < 8 by omega), c8 (show b < 8 by omega), c_max, e7, Option.bind_some, Option.toList_some, Option.toList_none, List.cons_append, List.nil_append, i01a, i01b, if_true, if_false, b19_22, nI_s])
  rw [show Ex (d + 1) 19 4 [.ref 2, .int 0, .int 0] [] G0 σ = _ from e]
  show Ex (d + 1) 19 4 [.ref 2, .int (mtS ω), .int (nI (sz ω))] [] G0 σ = _
  rw [b19_4]
  have q : (nI (sz ω) ≤ nI (sz ω)) = True := by rw [nJ_le (by omega) (by omega)]; exact eq_true (Nat.le_refl _)
  simp only [e2, es, q, i10, i01, eq_self, if_true, if_false, true_and, false_and, and_true, and_false, not_true, not_false_iff, true_or, or_true, false_or, or_false, ne_eq, not_true_eq_false, not_false_eq_true]
theorem m_mostTired (d : Nat) {B T : LW} {ω σ : Sig} (hM : MR B T ω σ) (hW : WI B T ω) : Ex (d + 1) 256 0 [.ref 112, .null, .null] [] G0 σ = some (some (.int (mtS ω)), G0, σ) := by
  obtain ⟨es, s8⟩ : wi B T ω 5 := hW 5
  have h16 : mr B T ω σ 16 := hM 16
  have e12 : σ 112 12 = nI (sz ω) := (hM 6).trans es
  rw [b256_0]
  have e := loop_fo (fun b (x : Int32) => Ex (d + 1) 256 4 [.ref 112, .int x, .int (nI b)] [] G0 σ) (fun b a => mx a (ω 7 b)) (sz ω) 0 (by
    intro b x hb
    show Ex (d + 1) 256 4 [.ref 112, .int x, .int (nI b)] [] G0 σ = _
    rw [b256_4]
    have q : (nI (sz ω) ≤ nI b) = False := by rw [nJ_le (by omega) (by omega)]; exact eq_false (by omega)
    have e23 : (23 : Int32) + nI b = nI (23 + b) := nI_add 23 b
    simp only [e12, q, i10, i01, eq_self, if_true, if_false, true_and, false_and, and_true, and_false, not_true, not_false_iff, true_or, or_true, false_or, or_false, ne_eq, not_true_eq_false, not_false_eq_true, e23, inb_n (show 23 + b < 31 by omega) (show 23 + b < 2 ^ 31 by omega), nI_c (show 23 + b < 2 ^ 31 by omega), h16 b (by omega), m_greater, Option.bind_some, Option.toList_some, Option.toList_none, List.cons_append, List.nil_append, i01a, i01b, if_true, if_false, b256_26, nI_s])
  rw [show Ex (d + 1) 256 4 [.ref 112, .int 0, .int 0] [] G0 σ = _ from e]
  show Ex (d + 1) 256 4 [.ref 112, .int (mtS ω), .int (nI (sz ω))] [] G0 σ = _
  rw [b256_4]
  have q : (nI (sz ω) ≤ nI (sz ω)) = True := by rw [nJ_le (by omega) (by omega)]; exact eq_true (Nat.le_refl _)
  simp only [e12, q, i10, i01, eq_self, if_true, if_false, true_and, false_and, and_true, and_false, not_true, not_false_iff, true_or, or_true, false_or, or_false, ne_eq, not_true_eq_false, not_false_eq_true]
