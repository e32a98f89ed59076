/-! L3: how far -/
def Cq (a b : Sig) : Prop := b 1 0 = a 1 0 ∧ b 1 1 = a 1 1 ∧ b 1 2 = a 1 2 ∧ b 1 8 = a 1 8 ∧ ∀ q, 3 ≤ q → q ≤ 10 → b q = a q
theorem Cq_B {a b : Sig} (h : Cq a b) : Bq a b := ⟨h.1, h.2.1, h.2.2.2.2 3 (by omega) (by omega), h.2.2.2.2 4 (by omega) (by omega), h.2.2.2.2 6 (by omega) (by omega), h.2.2.2.2 7 (by omega) (by omega), h.2.2.2.2 8 (by omega) (by omega), h.2.2.2.2 9 (by omega) (by omega), h.2.2.2.2 10 (by omega) (by omega)⟩
theorem sp_tire {B T : LW} {a b : Sig} (h : Cq a b) (s gr g : Int32) (p : Nat) : tireS B T b s gr g p = tireS B T a s gr g p := by
  have hb := Cq_B h
  unfold tireS tireF
  rw [sp_loadS hb, sp_canB hb, sp_wN hb, sp_fxX hb, h.2.2.2.1, h.2.2.2.2 10 (by omega) (by omega)]
theorem sp_wrong {a b : Sig} (h : Cq a b) (g : Int32) : wrongS b g = wrongS a g := by
  have hb := Cq_B h
  have : wrongF b g = wrongF a g := by
    funext p x; unfold wrongF
    simp only [sp_hold hb, sp_wN hb, h.2.2.2.2 5 (by omega) (by omega)]
  unfold wrongS; rw [this]
theorem sp_carT {B T : LW} {a b : Sig} (h : Cq a b) (s gr g : Int32) : ∀ n, carT B T b s gr g n 7 = carT B T a s gr g n 7 := by
  have hb := Cq_B h
  intro n
  induction n with
  | zero => exact h.2.2.2.2 7 (by omega) (by omega)
  | succ n ih =>
    show carF B T b s gr g n (carT B T b s gr g n) 7 = carF B T a s gr g n (carT B T a s gr g n) 7
    unfold carF
    rw [sp_tire h, sp_wN hb, h.2.2.2.2 7 (by omega) (by omega)]
    simp only [sp_hold hb]
    split
    · funext k
      rw [pt_ap, pt_ap, ih]
    · exact ih
theorem Cq_car {B T : LW} {a b : Sig} (h : Cq a b) (s gr g : Int32) : Cq (carW B T a s gr g) (carW B T b s gr g) := by
  refine ⟨?_, ?_, ?_, ?_, fun q h1 h2 => ?_⟩
  · rw [carW_1 (by decide), carW_1 (by decide)]; exact h.1
  · rw [carW_1 (by decide), carW_1 (by decide)]; exact h.2.1
  · rw [carW_1 (by decide), carW_1 (by decide)]; exact h.2.2.1
  · rw [carW_8, carW_8]; unfold swN; rw [sp_wrong h, h.2.2.1, h.2.2.2.1]
  · by_cases e : q = 7
    · subst e; rw [carW_7, carW_7]; exact sp_carT h s gr g 8
    · rw [carW_q e (by omega), carW_q e (by omega)]; exact h.2.2.2.2 q h1 h2
def farN (B T : LW) (s : Int32) : Nat → Sig → Nat
  | 0, _ => 0
  | k + 1, ω => if bearS B ω s 0 then farN B T s k (carW B T ω s 0 0) + 1 else 0
theorem farN_c {B T : LW} {s : Int32} : ∀ k {a b : Sig}, Cq a b → farN B T s k b = farN B T s k a := by
  intro k
  induction k with
  | zero => intro a b _; rfl
  | succ k ih =>
    intro a b h
    rw [farN, farN, ih (Cq_car h s 0 0)]
    simp only [sp_bearS (Cq_B h)]
theorem farN_fix {B T : LW} {s : Int32} {ω : Sig} (hb : bearS B ω s 0) (hf : carW B T ω s 0 0 = ω) : ∀ k, farN B T s k ω = k := by
  intro k
  induction k with
  | zero => rfl
  | succ k ih => rw [farN, if_pos hb, hf, ih]
theorem farN_le {B T : LW} {s : Int32} : ∀ k (ω : Sig), farN B T s k ω ≤ k := by
  intro k
  induction k with
  | zero => intro _; exact Nat.le_refl _
  | succ k ih => intro ω; rw [farN]; split; have := ih (carW B T ω s 0 0); omega; omega
def SCW : List Nat := [1, 2, 3, 4, 5, 6, 7, 8, 9, 10, 11, 12, 13, 14, 15, 16, 17, 18, 19, 20, 21, 22, 23, 24, 25, 26, 68, 69, 70, 71, 72, 73, 75, 76, 77, 78]
theorem Th_fr {a b c : Sig} {S : List Nat} {U : List (Nat × Nat)} (h : Th a b) (f : Fr S U b c) (hS : ∀ q ∈ S, q = 16 ∨ q = 19 ∨ 27 ≤ q ∨ q = 0) (hU : ∀ x ∈ U, x.1 = 16 ∨ x.1 = 19 ∨ 27 ≤ x.1 ∨ x.1 = 0) : Th a c := by
  have q : ∀ q, 1 ≤ q → q ≤ 26 → q ≠ 16 → q ≠ 19 → c q = b q := fun q h1 h2 h3 h4 => Fr_q f (fun e => by have := hS q e; omega) (fun x hx e => by have := hU x hx; omega)
  obtain ⟨h1, h2, h3, h4, h5⟩ := h
  refine ⟨fun r a b c => ?_, fun k hk => ?_, fun k hk => ?_, fun k hk => ?_, fun i hi => ?_⟩
  · rw [q r a b (by simp at c; omega) (by simp at c; omega)]; exact h1 r a b c
  · rw [q 1 (by omega) (by omega) (by omega) (by omega)]; exact h2 k hk
  · rw [q 7 (by omega) (by omega) (by omega) (by omega), q 9 (by omega) (by omega) (by omega) (by omega), q 10 (by omega) (by omega) (by omega) (by omega)]; exact h3 k hk
  · rw [q 25 (by omega) (by omega) (by omega) (by omega)]; exact h4 k hk
  · rw [q 26 (by omega) (by omega) (by omega) (by omega)]; exact h5 i hi
theorem Th_car {B T : LW} {σ : Sig} {s gr g : Int32} (hW : WI B T σ) : Th σ (carW B T σ s gr g) := by
  refine ⟨fun q a b c => carW_q (by simp at c; omega) (by simp at c; omega), fun k hk => carW_1 (by simp at hk; omega), fun k hk => ⟨?_, by rw [carW_q (by decide) (by decide)], by rw [carW_q (by decide) (by decide)]⟩, fun k hk => by rw [carW_q (by decide) (by decide)], fun i hi => by rw [carW_q (by decide) (by decide)]⟩
  rw [carW_7]
  refine carT_b hW 8 (Nat.le_refl 8) (fun p hp hh e => ?_)
  have := WI_who hW hp hh.2.1
  omega
theorem car_lines {B T : LW} {σ : Sig} {s gr g : Int32} : carW B T σ s gr g 25 = σ 25 := carW_q (by decide) (by decide)
theorem c_farOn (d : Nat) {B T : LW} {σ : Sig} {s : Int32} (hW : WI B T σ) (hs : bw s (-9) 9) (h0 : σ 67 8 = 0) :
    ∃ σ', Ex (d + 5) 81 0 [.ref 74, .int s, .null] [] G0 σ = some (some (.int (nI (farN B T s 2000 σ))), G0, σ') ∧ Wb σ σ' ∧ Fr SCW SLC σ σ' := by
  obtain ⟨σ1, e1, f1, m1⟩ := c_take75 (d + 2) σ
  rw [b81_0, e1]
  simp only [Option.bind_some, Option.toList_some, Option.toList_none, List.cons_append, List.nil_append, i01a, i01b, if_true, if_false, b81_11]
  have back : ∀ (σ2 : Sig) (n : Nat), Th σ σ2 → MM σ 75 σ2 → Fr SCW SLC σ σ2 → ∃ σ', (Ex (d + 4) 29 0 [.ref 75, .ref 1] [] G0 σ2).bind (fun o => Ex (d + 4 + 1) 81 61 [.ref 74, .int s, .int (nI n)] (o.1.toList ++ []) o.2.1 o.2.2) = some (some (.int (nI n)), G0, σ') ∧ Wb σ σ' ∧ Fr SCW SLC σ σ' := by
    intro σ2 n t m f
    obtain ⟨σ3, e3, f3, m3, k3⟩ := c_give75 (d + 2) σ2
    rw [e3]
    simp only [Option.bind_some, Option.toList_some, Option.toList_none, List.cons_append, List.nil_append, i01a, i01b, if_true, if_false, b81_61]
    exact ⟨σ3, rfl, Th_end t m f3 m3 k3, Fr_t f (Fr_m f3 (by decide) (by decide))⟩
  have main : ∀ k n (σ2 : Sig), n + k = 2000 → WI B T σ2 → σ2 67 8 = 0 → Th σ σ2 → MM σ 75 σ2 → Fr SCW SLC σ σ2 → σ2 25 = σ 25 → ∃ σ', Ex (d + 5) 81 13 [.ref 74, .int s, .int (nI n)] [] G0 σ2 = some (some (.int (nI (n + farN B T s k σ2))), G0, σ') ∧ Wb σ σ' ∧ Fr SCW SLC σ σ' := by
    intro k
    induction k with
    | zero =>
      intro n σ2 hn hW2 r0 t m f hl
      rw [b81_13]
      have q : ((2000 : Int32) ≤ nI n) = True := by
        have : ((2000 : Int32) ≤ nI n) = (2000 ≤ n) := nJ_le (a := 2000) (by omega) (by omega)
        rw [this]; exact eq_true (by omega)
      simp only [q, i10, i01, eq_self, if_true, if_false, true_and, false_and, and_true, and_false, not_true, not_false_iff, true_or, or_true, false_or, or_false, ne_eq, not_true_eq_false, not_false_eq_true]
      exact back σ2 n t m f
    | succ k ih =>
      intro n σ2 hn hW2 r0 t m f hl
      rw [b81_13]
      have q : ((2000 : Int32) ≤ nI n) = False := by
        have : ((2000 : Int32) ≤ nI n) = (2000 ≤ n) := nJ_le (a := 2000) (by omega) (by omega)
        rw [this]; exact eq_false (by omega)
      obtain ⟨σ3, e3, b3, nb3⟩ := c_carry d 0 0 hW2 hs r0
      simp only [q, i10, i01, eq_self, if_true, if_false, true_and, false_and, and_true, and_false, not_true, not_false_iff, true_or, or_true, false_or, or_false, ne_eq, not_true_eq_false, not_false_eq_true, e3, Option.bind_some, Option.toList_some, Option.toList_none, List.cons_append, List.nil_append, i01a, i01b, if_true, if_false, b81_27, bI_z, bI_o, bI_em, ite_not]
      by_cases hb : bearS B σ2 s 0
      · obtain ⟨f3, c3⟩ := b3 hb
        have hfr : Fr SCW SLC σ2 σ3 := by
          intro q k h1 h2
          rw [f3 q k (fun e => h1 (by revert e; unfold SCC SCW; simp; omega)) h2]
          unfold SCW at h1; simp at h1
          rw [carW_q (by omega) (by omega)]
        have tc := Th_car (s := s) (gr := 0) (g := 0) hW2
        have t3 : Th σ σ3 := Th_fr (Th_t t tc (by rw [hl]; exact Nat.le_refl _)) f3 (by decide) (by decide)
        have m3 : MM σ 75 σ3 := MM_fr m (by rw [Fr_q f3 (by decide) (by decide), carW_q (by decide) (by decide)]) (by rw [Fr_q f3 (by decide) (by decide), carW_q (by decide) (by decide)]) (by rw [Fr_q f3 (by decide) (by decide), carW_q (by decide) (by decide)]) (by rw [Fr_q f3 (by decide) (by decide), carW_q (by decide) (by decide)])
        simp only [eq_true hb, i10, i01, eq_self, if_true, if_false, true_and, false_and, and_true, and_false, not_true, not_false_iff, true_or, or_true, false_or, or_false, ne_eq, not_true_eq_false, not_false_eq_true]
        rw [farN, if_pos hb]
        by_cases ch : σ3 74 6 = 0
        · simp only [ch, i10, i01, eq_self, if_true, if_false, true_and, false_and, and_true, and_false, not_true, not_false_iff, true_or, or_true, false_or, or_false, ne_eq, not_true_eq_false, not_false_eq_true]
          have hfix := c3 ch
          rw [hfix, farN_fix hb hfix, show n + (k + 1) = 2000 by omega]
          rw [b81_13]
          have q2 : ((2000 : Int32) ≤ 2000) = True := eq_true (by decide)
          simp only [q2, i10, i01, eq_self, if_true, if_false, true_and, false_and, and_true, and_false, not_true, not_false_iff, true_or, or_true, false_or, or_false, ne_eq, not_true_eq_false, not_false_eq_true]
          exact back σ3 2000 t3 m3 (Fr_t f hfr)
        · simp only [ch, i10, i01, eq_self, if_true, if_false, true_and, false_and, and_true, and_false, not_true, not_false_iff, true_or, or_true, false_or, or_false, ne_eq, not_true_eq_false, not_false_eq_true, nI_s]
          have hcq : Cq (carW B T σ2 s 0 0) σ3 := ⟨f3 1 0 (by decide) (by decide), f3 1 1 (by decide) (by decide), f3 1 2 (by decide) (by decide), f3 1 8 (by decide) (by decide), fun q h1 h2 => Fr_q f3 (by unfold SCC; simp; omega) (by unfold SLC; simp; omega)⟩
          have hW3 : WI B T σ3 := WI_fr (WI_car hW2) (fun q h1 h2 h3 h4 => Fr_q f3 (by unfold SCC; simp; omega) (by unfold SLC; simp; omega))
          obtain ⟨σ', e', w', g'⟩ := ih (n + 1) σ3 (by omega) hW3 (by rw [f3 67 8 (by decide) (by decide), carW_q (by decide) (by decide)]; exact r0) t3 m3 (Fr_t f hfr) (by rw [Fr_q f3 (by decide) (by decide), car_lines]; exact hl)
          refine ⟨σ', ?_, w', g'⟩
          rw [e', farN_c k hcq, show n + 1 + farN B T s k (carW B T σ2 s 0 0) = n + (farN B T s k (carW B T σ2 s 0 0) + 1) by omega]
      · have f3 := nb3 hb
        have t3 : Th σ σ3 := Th_fr t f3 (by decide) (by decide)
        have m3 : MM σ 75 σ3 := MM_fr m (Fr_q f3 (by decide) (by decide)) (Fr_q f3 (by decide) (by decide)) (Fr_q f3 (by decide) (by decide)) (Fr_q f3 (by decide) (by decide))
        simp only [eq_false hb, i10, i01, eq_self, if_true, if_false, true_and, false_and, and_true, and_false, not_true, not_false_iff, true_or, or_true, false_or, or_false, ne_eq, not_true_eq_false, not_false_eq_true]
        rw [farN, if_neg hb, Nat.add_zero]
        exact back σ3 n t3 m3 (Fr_t f (Fr_m f3 (by decide) (fun x hx => Or.inl hx)))
  have f1' : Fr SCW SLC σ σ1 := Fr_m f1 (by decide) (by simp)
  have hq1 : Wq σ σ1 := Wq_fr Wq_r f1 (by decide) (by simp)
  obtain ⟨σ', e', w', g'⟩ := main 2000 0 σ1 rfl (Wq_WI hq1 hW) (by rw [f1 67 8 (by decide) (by simp)]; exact h0) (Th_fr Th_r f1 (by decide) (by simp)) m1 f1' (hq1 25 (by omega) (by omega) (by omega) (by omega))
  refine ⟨σ', ?_, w', g'⟩
  have hcq : Cq σ σ1 := ⟨f1 1 0 (by decide) (by simp), f1 1 1 (by decide) (by simp), f1 1 2 (by decide) (by simp), f1 1 8 (by decide) (by simp), fun q h1 h2 => hq1 q (by omega) (by omega) (by omega) (by omega)⟩
  rw [farN_c 2000 hcq, Nat.zero_add] at e'
  exact e'
