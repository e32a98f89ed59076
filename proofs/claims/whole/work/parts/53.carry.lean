/-! L3: a pace is carried -/
def tireF (B : LW) (σ : Sig) (s gr g : Int32) (p : Nat) : Nat → Int32 := fun k => if k = 11 then nI (loadS B σ s g p) else if k = 12 then canB σ (wN σ p) else if k = 13 then gr else if k = 14 then σ 1 8 else fxX σ s p (wN σ p) (σ 10 p) k
def tireS (B T : LW) (σ : Sig) (s gr g : Int32) (p : Nat) : Int32 := mx 0 (mn 99 (lawS (tireF B σ s gr g p) T (nI (loadS B σ s g p) / 20)))
def wrongF (σ : Sig) (g : Int32) : Nat → Int32 → Int32 := fun p a => if hold σ g p ∧ σ 5 (wN σ p) = nI p &&& 1 then a + 1 else a
def wrongS (σ : Sig) (g : Int32) : Int32 := fo (wrongF σ g) 8 0
def carF (B T : LW) (σ : Sig) (s gr g : Int32) : Nat → Sig → Sig := fun p a => if hold σ g p then pt a 7 (wN σ p) (mn 1000 (σ 7 (wN σ p) + tireS B T σ s gr g p)) else a
def carT (B T : LW) (σ : Sig) (s gr g : Int32) (n : Nat) : Sig := fo (carF B T σ s gr g) n σ
def swN (σ : Sig) (w : Int32) : Int32 := mn 999 (σ 1 8 * σ 1 2 / 100 + w)
def carW (B T : LW) (σ : Sig) (s gr g : Int32) : Sig := pt (carT B T σ s gr g 8) 1 8 (swN σ (wrongS σ g))
def SCC : List Nat := [16, 19, 68, 69, 70, 71, 72, 73]
def SLC : List (Nat × Nat) := [(67, 2), (67, 3), (74, 6)]
theorem Fr_pp {S : List Nat} {U : List (Nat × Nat)} {a b : Sig} {q k : Nat} {v : Int32} (h : Fr S U a b) : Fr S U (pt a q k v) (pt b q k v) := by
  intro q' k' h1 h2
  rw [pt_ap, pt_ap, h q' k' h1 h2]
theorem pt_self (σ : Sig) (q k : Nat) : pt σ q k (σ q k) = σ := by
  funext a b; rw [pt_ap]; split
  · rename_i h; rw [h.1, h.2]
  · rfl
theorem carT_q {B T : LW} {σ : Sig} {s gr g : Int32} {q : Nat} (h : q ≠ 7) : ∀ n, carT B T σ s gr g n q = σ q := by
  intro n
  induction n with
  | zero => rfl
  | succ n ih =>
    show carF B T σ s gr g n (carT B T σ s gr g n) q = σ q
    unfold carF; split
    · rw [pt_q h, ih]
    · exact ih
/-- nobody is at two places -/
theorem WI_inj {B T : LW} {σ : Sig} (h : WI B T σ) {p q : Nat} (hp : p < 8) (hq : q < 8) (h1 : σ 9 p ≠ -1) (h2 : σ 9 q ≠ -1) (e : wN σ p = wN σ q) : p = q := by
  have a := WI_who h hp h1
  have b := WI_who h hq h2
  have h7 : wi B T σ 7 := h 7
  exact h7 p q hp hq (by rw [a.2.2.2, b.2.2.2, e]) h1
theorem carT_b {B T : LW} {σ : Sig} {s gr g : Int32} (hW : WI B T σ) {b : Nat} : ∀ n, n ≤ 8 → (∀ p, p < n → hold σ g p → wN σ p ≠ b) → carT B T σ s gr g n 7 b = σ 7 b := by
  intro n
  induction n with
  | zero => intro _ _; rfl
  | succ n ih =>
    intro hn h
    show carF B T σ s gr g n (carT B T σ s gr g n) 7 b = σ 7 b
    unfold carF; split
    · rename_i hh
      rw [pt_k (Ne.symm (h n (by omega) hh))]; exact ih (by omega) (fun p hp => h p (by omega))
    · exact ih (by omega) (fun p hp => h p (by omega))
theorem carT_h {B T : LW} {σ : Sig} {s gr g : Int32} (hW : WI B T σ) {p : Nat} (hp : p < 8) (hh : hold σ g p) : ∀ n, p < n → n ≤ 8 → carT B T σ s gr g n 7 (wN σ p) = mn 1000 (σ 7 (wN σ p) + tireS B T σ s gr g p) := by
  intro n
  induction n with
  | zero => intro h; omega
  | succ n ih =>
    intro h hn
    show carF B T σ s gr g n (carT B T σ s gr g n) 7 (wN σ p) = _
    unfold carF
    by_cases e : p = n
    · subst e; rw [if_pos hh, pt_e]
    · split
      · rename_i h2
        rw [pt_k (fun e' => e (WI_inj hW hp (by omega) hh.2.1 h2.2.1 e'))]; exact ih (by omega) (by omega)
      · exact ih (by omega) (by omega)
theorem c_tiring (d : Nat) {B T : LW} {ω σ : Sig} {s : Int32} (gr g : Int32) {p : Nat} (hW : WI B T ω) (hs : bw s (-9) 9) (hp : p < 8) (hh : hold ω g p)
    (hq : ∀ q, 1 ≤ q → q ≤ 26 → q ≠ 7 → q ≠ 16 → q ≠ 19 → σ q = ω q) (h7 : σ 7 (wN ω p) = ω 7 (wN ω p)) (hb : Bd B ω s g σ) :
    ∃ σ', Ex (d + 2) 80 0 [.ref 74, .int (nI p), .int s, .int gr, .null] [] G0 σ = some (some (.int (tireS B T ω s gr g p)), G0, σ') ∧ Fr [19, 69] [] σ σ' := by
  obtain ⟨hc21, hk21, hf21⟩ : wi B T ω 21 := hW 21
  obtain ⟨hpn, _, hb8, ew⟩ := WI_who hW hp hh.2.1
  have hld : σ 68 p = nI (loadS B ω s g p) := hb.2.2.1 p hpn
  have hcn : σ 72 p = canB ω (wN ω p) := hb.2.2.2 p hp hh
  have hlb := load_bd hW (s := s) (g := g) hp
  have e17 := hq 17 (by omega) (by omega) (by omega) (by omega) (by omega)
  rw [b80_0]
  simp only [i8 hp, c8 hp, hld, e17, i10, i01, eq_self, if_true, if_false, true_and, false_and, and_true, and_false, not_true, not_false_iff, true_or, or_true, false_or, or_false, ne_eq, not_true_eq_false, not_false_eq_true]
  by_cases z : ω 17 0 = 0
  · have hT : T = [] := by
      have := hc21.1
      rw [z] at this
      have h16 := hk21.1
      have h2 := (nJ_e (a := 0) (b := T.length) (by omega) (by omega)).mp this
      exact List.eq_nil_of_length_eq_zero h2.symm
    simp only [z, i10, i01, eq_self, if_true, if_false, true_and, false_and, and_true, and_false, not_true, not_false_iff, true_or, or_true, false_or, or_false, ne_eq, not_true_eq_false, not_false_eq_true, c_heldTo, Option.bind_some, Option.toList_some, Option.toList_none, List.cons_append, List.nil_append, i01a, i01b, if_true, if_false, b80_35]
    refine ⟨σ, ?_, Fr_r⟩
    unfold tireS; rw [hT, lawS_0]
  · obtain ⟨σ1, e1, f1, g1, g1'⟩ := c_describe d σ p (wN ω p) s hp hb8 (by rw [hq 9 (by omega) (by omega) (by omega) (by omega) (by omega)]; exact ew)
    have e68 : σ1 68 p = nI (loadS B ω s g p) := by rw [f1 68 p (by decide) (by simp)]; exact hld
    have e72 : ∀ v, (pt σ1 69 11 v) 72 p = canB ω (wN ω p) := fun v => by rw [pt_q (by decide), f1 72 p (by decide) (by simp)]; exact hcn
    simp only [z, i10, i01, eq_self, if_true, if_false, true_and, false_and, and_true, and_false, not_true, not_false_iff, true_or, or_true, false_or, or_false, ne_eq, not_true_eq_false, not_false_eq_true, e1, Option.bind_some, Option.toList_some, Option.toList_none, List.cons_append, List.nil_append, i01a, i01b, if_true, if_false, b80_49, i8 hp, c8 hp, e68]
    rw [b6_0]
    simp only [i8 hp, c8 hp, i10, i01, eq_self, if_true, if_false, true_and, false_and, and_true, and_false, not_true, not_false_iff, true_or, or_true, false_or, or_false, ne_eq, not_true_eq_false, not_false_eq_true, Option.bind_some, Option.toList_some, Option.toList_none, List.cons_append, List.nil_append, i01a, i01b, if_true, if_false, e72, b80_85]
    generalize hσ2 : pt (pt (pt (pt σ1 69 11 (nI (loadS B ω s g p))) 69 12 (canB ω (wN ω p))) 69 13 gr) 69 14 (pt (pt (pt σ1 69 11 (nI (loadS B ω s g p))) 69 12 (canB ω (wN ω p))) 69 13 gr 1 8) = σ2
    have f2 : Fr [69] [] σ σ2 := by
      rw [← hσ2]
      exact Fr_p (Fr_p (Fr_p (Fr_p f1 (Or.inl (by simp))) (Or.inl (by simp))) (Or.inl (by simp))) (Or.inl (by simp))
    have e8 : pt (pt (pt σ1 69 11 (nI (loadS B ω s g p))) 69 12 (canB ω (wN ω p))) 69 13 gr 1 8 = ω 1 8 := by
      rw [pt_q (by decide), pt_q (by decide), pt_q (by decide), f1 1 8 (by decide) (by simp), hq 1 (by omega) (by omega) (by omega) (by omega) (by omega)]
    have q2 : ∀ q, q ≠ 69 → σ2 q = σ q := fun q hq => Fr_q f2 (by simp [hq]) (by simp)
    obtain ⟨σ3, e3, f3⟩ := c_askt d σ2 (nI (loadS B ω s g p) / 20) T (by
      rw [q2 18 (by decide), q2 17 (by decide), hq 18 (by omega) (by omega) (by omega) (by omega) (by omega), e17]; exact hc21) hk21
    have hfx : ∀ k, k < 10 → fxX σ s p (wN ω p) (σ 10 p) k = fxX ω s p (wN ω p) (ω 10 p) k := by
      intro k hk
      have : k = 0 ∨ k = 1 ∨ k = 2 ∨ k = 3 ∨ k = 4 ∨ k = 5 ∨ k = 6 ∨ k = 7 ∨ k = 8 ∨ k = 9 := by omega
      rcases this with e | e | e | e | e | e | e | e | e | e <;> subst e <;> simp only [fxX]
      · rw [hq 3 (by omega) (by omega) (by omega) (by omega) (by omega)]
      · rw [hq 4 (by omega) (by omega) (by omega) (by omega) (by omega)]
      · rw [hq 6 (by omega) (by omega) (by omega) (by omega) (by omega)]
      · exact h7
      · rw [hq 10 (by omega) (by omega) (by omega) (by omega) (by omega)]
      · rw [hq 1 (by omega) (by omega) (by omega) (by omega) (by omega)]
    have hl : lawS (σ2 69) T (nI (loadS B ω s g p) / 20) = lawS (tireF B ω s gr g p) T (nI (loadS B ω s g p) / 20) := by
      refine lawS_f (j := 1) (fun k hk => ?_) T _ hf21
      have k10 := hk.2.2 rfl
      have k15 := hk.1
      unfold tireF
      rw [← hσ2, e8]
      by_cases c11 : k = 11
      · subst c11; rw [pt_k (by decide), pt_k (by decide), pt_k (by decide), pt_e, if_pos rfl]
      · by_cases c12 : k = 12
        · subst c12; rw [pt_k (by decide), pt_k (by decide), pt_e, if_neg (by decide), if_pos rfl]
        · by_cases c13 : k = 13
          · subst c13; rw [pt_k (by decide), pt_e, if_neg (by decide), if_neg (by decide), if_pos rfl]
          · by_cases c14 : k = 14
            · subst c14; rw [pt_e, if_neg (by decide), if_neg (by decide), if_neg (by decide), if_pos rfl]
            · rw [pt_k c14, pt_k c13, pt_k c12, pt_k c11, if_neg c11, if_neg c12, if_neg c13, if_neg c14, g1 k (by omega), hfx k (by omega)]
    rw [hl] at e3
    simp only [e3, Option.bind_some, Option.toList_some, Option.toList_none, List.cons_append, List.nil_append, i01a, i01b, if_true, if_false, b80_133, c_heldTo, b80_139]
    exact ⟨σ3, rfl, Fr_t (Fr_m f2 (by simp) (by simp)) (Fr_m f3 (by simp) (by simp))⟩
theorem c_wrong (d : Nat) {B T : LW} {ω σ : Sig} {g m : Int32} (hW : WI B T ω) (hq : σ 5 = ω 5 ∧ σ 8 = ω 8 ∧ σ 9 = ω 9) (hm : isM m (fun p => decide (hold ω g p))) : Ex (d + 1) 96 0 [.ref 1, .int m, .null, .null] [] G0 σ = some (some (.int (wrongS ω g)), G0, σ) := by
  obtain ⟨_, n8', en⟩ := WI_np hW
  obtain ⟨e5, e8, e9⟩ := hq
  have en' : 2 * σ 8 0 = nI (np ω) := by rw [e8]; exact en
  rw [b96_0]
  have e := loop_fo (fun p (x : Int32) => Ex (d + 1) 96 4 [.ref 1, .int m, .int x, .int (nI p)] [] G0 σ) (wrongF ω g) (np ω) 0 (by
    intro p x hp
    have hp8 : p < 8 := by omega
    have q8 : (nI (np ω) ≤ nI p) = False := by rw [nJ_le (by omega) (by omega)]; exact eq_false (by omega)
    show Ex (d + 1) 96 4 [.ref 1, .int m, .int x, .int (nI p)] [] G0 σ = _
    rw [b96_4]
    simp only [c_count, en', Option.bind_some, Option.toList_some, Option.toList_none, List.cons_append, List.nil_append, i01a, i01b, if_true, if_false, b96_12, q8, i10, i01, eq_self, if_true, if_false, true_and, false_and, and_true, and_false, not_true, not_false_iff, true_or, or_true, false_or, or_false, ne_eq, not_true_eq_false, not_false_eq_true, M_t1 hm hp8, decide_eq_true_eq, i8 hp8, c8 hp8, nI_s]
    unfold wrongF
    by_cases hh : hold ω g p
    · obtain ⟨_, _, hb8, ew⟩ := WI_who hW hp8 hh.2.1
      simp only [eq_true hh, i10, i01, eq_self, if_true, if_false, true_and, false_and, and_true, and_false, not_true, not_false_iff, true_or, or_true, false_or, or_false, ne_eq, not_true_eq_false, not_false_eq_true, e9, ew, i8 hb8, c8 hb8, e5]
      by_cases k : ω 5 (wN ω p) = nI p &&& 1
      · simp only [k, i10, i01, eq_self, if_true, if_false, true_and, false_and, and_true, and_false, not_true, not_false_iff, true_or, or_true, false_or, or_false, ne_eq, not_true_eq_false, not_false_eq_true]
      · simp only [k, i10, i01, eq_self, if_true, if_false, true_and, false_and, and_true, and_false, not_true, not_false_iff, true_or, or_true, false_or, or_false, ne_eq, not_true_eq_false, not_false_eq_true]
    · simp only [eq_false hh, i10, i01, eq_self, if_true, if_false, true_and, false_and, and_true, and_false, not_true, not_false_iff, true_or, or_true, false_or, or_false, ne_eq, not_true_eq_false, not_false_eq_true])
  rw [show Ex (d + 1) 96 4 [.ref 1, .int m, .int 0, .int 0] [] G0 σ = _ from e]
  show Ex (d + 1) 96 4 [.ref 1, .int m, .int (fo (wrongF ω g) (np ω) 0), .int (nI (np ω))] [] G0 σ = _
  rw [b96_4]
  have q8 : (nI (np ω) ≤ nI (np ω)) = True := by rw [nJ_le (by omega) (by omega)]; exact eq_true (Nat.le_refl _)
  simp only [c_count, en', Option.bind_some, Option.toList_some, Option.toList_none, List.cons_append, List.nil_append, i01a, i01b, if_true, if_false, b96_12, q8, i10, i01, eq_self, if_true, if_false, true_and, false_and, and_true, and_false, not_true, not_false_iff, true_or, or_true, false_or, or_false, ne_eq, not_true_eq_false, not_false_eq_true]
  unfold wrongS
  rw [fo_ext (f := wrongF ω g) n8' (fun p a h1 _ => by unfold wrongF; rw [if_neg (fun h => by have := h.1.1; omega)])]
theorem c_swayNext (d : Nat) (σ : Sig) (a w : Int32) : Ex (d + 1) 97 0 [.ref 1, .int a, .int w] [] G0 σ = some (some (.int (mn 999 (a * σ 1 2 / 100 + w))), G0, σ) := by
  simp only [b97_0, b97_17, c_min, Option.bind_some, Option.toList_some, Option.toList_none, List.cons_append, List.nil_append, i01a, i01b, if_true, if_false]
theorem c_carry (d : Nat) {B T : LW} {σ : Sig} {s : Int32} (gr g : Int32) (hW : WI B T σ) (hs : bw s (-9) 9) (h0 : σ 67 8 = 0) :
    ∃ σ', Ex (d + 4) 79 0 [.ref 74, .int s, .int gr, .int g, .null, .null, .null] [] G0 σ = some (some (.int (bI (bearS B σ s g))), G0, σ')
      ∧ (bearS B σ s g → Fr SCC SLC (carW B T σ s gr g) σ' ∧ (σ' 74 6 = 0 → carW B T σ s gr g = σ)) ∧ (¬ bearS B σ s g → Fr SCC SLC σ σ') := by
  obtain ⟨σ1, e1, f1, _, w1, b1⟩ := c_bearsW d g (Wq_r (σ := σ)) hW hs (Or.inl h0) (fun h => absurd h0 h)
  have f1' : Fr SCC SLC σ σ1 := Fr_m f1 (by decide) (by decide)
  simp only [b79_0, e1, Option.bind_some, Option.toList_some, Option.toList_none, List.cons_append, List.nil_append, i01a, i01b, if_true, if_false, b79_13, bI_z, bI_o, bI_em, ite_not]
  by_cases hb : bearS B σ s g
  · simp only [eq_true hb, i10, i01, eq_self, if_true, if_false, true_and, false_and, and_true, and_false, not_true, not_false_iff, true_or, or_true, false_or, or_false, ne_eq, not_true_eq_false, not_false_eq_true, bI_T hb]
    have bd_fr : ∀ σ2, Fr [7, 19, 69] [(74, 6)] σ1 σ2 → Bd B σ s g σ2 := by
      intro σ2 f
      obtain ⟨k1, k2, k3, k4⟩ := b1
      refine ⟨?_, ?_, ?_, ?_⟩
      · rw [f 67 2 (by decide) (by simp)]; exact k1
      · rw [f 67 3 (by decide) (by simp)]; exact k2
      · intro p hp; rw [f 68 p (by decide) (by simp)]; exact k3 p hp
      · intro p hp hh; rw [f 72 p (by decide) (by simp)]; exact k4 p hp hh
    obtain ⟨⟨σ2, v5, v6⟩, e2, i2⟩ := loop_ex (fun p (x : Sig × Value × Value) => Ex (d + 4) 79 26 [.ref 74, .int s, .int gr, .int g, .int (nI p), x.2.1, x.2.2] [] G0 (x.1))
      (fun p x => Fr SCC SLC (carT B T σ s gr g p) x.1 ∧ Fr [7, 19, 69] [(74, 6)] σ1 x.1 ∧ (x.1 74 6 = 0 ∨ x.1 74 6 = 1) ∧ (x.1 74 6 = 0 → carT B T σ s gr g p = σ)) 8 (pt σ1 74 6 0, .null, .null)
      ⟨Fr_p f1' (Or.inr (by decide)), Fr_p Fr_r (Or.inr (by simp)), Or.inl (by dsimp only; rw [pt_e]), fun _ => rfl⟩ (by
      intro p ⟨σ2, v5, v6⟩ hp ⟨i1, i2, i3, i4⟩
      dsimp only at i1 i2 i3 i4
      have bd2 := bd_fr σ2 i2
      have cT : carT B T σ s gr g (p + 1) = carF B T σ s gr g p (carT B T σ s gr g p) := rfl
      rw [cT]
      show ∃ a', Ex (d + 4) 79 26 [.ref 74, .int s, .int gr, .int g, .int (nI p), v5, v6] [] G0 σ2 = _ ∧ _
      rw [b79_26]
      simp only [n8 hp, i10, i01, eq_self, if_true, if_false, true_and, false_and, and_true, and_false, not_true, not_false_iff, true_or, or_true, false_or, or_false, ne_eq, not_true_eq_false, not_false_eq_true, M_t1 bd2.1 hp, decide_eq_true_eq, nI_s]
      unfold carF
      by_cases hh : hold σ g p
      · obtain ⟨_, _, hb8, ew⟩ := WI_who hW hp hh.2.1
        have hq : ∀ q, 1 ≤ q → q ≤ 26 → q ≠ 7 → q ≠ 16 → q ≠ 19 → σ2 q = σ q := fun q h1 h2 h3 h4 h5 => by
          rw [Fr_q i1 (by unfold SCC; simp; omega) (by unfold SLC; simp; omega)]; exact carT_q h3 p
        have h7 : σ2 7 (wN σ p) = σ 7 (wN σ p) := by
          rw [i1 7 (wN σ p) (by decide) (by unfold SLC; simp)]
          exact carT_b hW p (by omega) (fun q hq hh2 e => by have := WI_inj hW (by omega) hp hh2.2.1 hh.2.1 e; omega)
        obtain ⟨σ3, e3, f3⟩ := c_tiring (d + 1) gr g hW hs hp hh hq h7 bd2
        have h7' : σ3 7 (wN σ p) = σ 7 (wN σ p) := by rw [f3 7 _ (by decide) (by simp)]; exact h7
        have e46 : σ3 74 6 = σ2 74 6 := f3 74 6 (by decide) (by simp)
        have g1 : Fr SCC SLC (carT B T σ s gr g p) σ3 := Fr_t i1 (Fr_m f3 (by decide) (by simp))
        have g2 : Fr [7, 19, 69] [(74, 6)] σ1 σ3 := Fr_t i2 (Fr_m f3 (by simp) (by simp))
        generalize htv : tireS B T σ s gr g p = tv at e3
        simp only [eq_true hh, i10, i01, eq_self, if_true, if_false, true_and, false_and, and_true, and_false, not_true, not_false_iff, true_or, or_true, false_or, or_false, ne_eq, not_true_eq_false, not_false_eq_true, b79_49, i8 hp, c8 hp, hq 9 (by omega) (by omega) (by omega) (by omega) (by omega), ew, i8 hb8, c8 hb8, h7, e3, Option.bind_some, Option.toList_some, Option.toList_none, List.cons_append, List.nil_append, i01a, i01b, if_true, if_false, b79_88, c_min, b79_92, e46, h7', nI_s]
        have fin : ∀ v : Int32, Fr SCC SLC (pt (carT B T σ s gr g p) 7 (wN σ p) (mn 1000 (σ 7 (wN σ p) + tv))) (pt (pt σ3 74 6 v) 7 (wN σ p) (mn 1000 (σ 7 (wN σ p) + tv))) ∧ Fr [7, 19, 69] [(74, 6)] σ1 (pt (pt σ3 74 6 v) 7 (wN σ p) (mn 1000 (σ 7 (wN σ p) + tv))) ∧ (pt (pt σ3 74 6 v) 7 (wN σ p) (mn 1000 (σ 7 (wN σ p) + tv))) 74 6 = v := by
          intro v
          refine ⟨?_, ?_, ?_⟩
          · exact Fr_pp (Fr_p g1 (Or.inr (by decide)))
          · exact Fr_p (Fr_p g2 (Or.inr (by simp))) (Or.inl (by simp))
          · rw [pt_q (by decide), pt_e]
        rcases i3 with z | z
        · by_cases same : mn 1000 (σ 7 (wN σ p) + tv) = σ 7 (wN σ p)
          · simp only [z, i10, i01, eq_self, if_true, if_false, true_and, false_and, and_true, and_false, not_true, not_false_iff, true_or, or_true, false_or, or_false, ne_eq, not_true_eq_false, not_false_eq_true, same, i01a, b79_143, nI_s]
            have := fin 0
            rw [same] at this
            refine ⟨(_, .int (nI (wN σ p)), .int (σ 7 (wN σ p))), rfl, this.1, this.2.1, Or.inl this.2.2, fun _ => ?_⟩
            rw [i4 z]; exact pt_self σ 7 _
          · simp only [z, i10, i01, eq_self, if_true, if_false, true_and, false_and, and_true, and_false, not_true, not_false_iff, true_or, or_true, false_or, or_false, ne_eq, not_true_eq_false, not_false_eq_true, same, i01b, b79_143, nI_s]
            have := fin 1
            refine ⟨(_, .int (nI (wN σ p)), .int _), rfl, this.1, this.2.1, Or.inr this.2.2, fun e => absurd (this.2.2.symm.trans e) (by decide)⟩
        · simp only [z, i10, i01, eq_self, if_true, if_false, true_and, false_and, and_true, and_false, not_true, not_false_iff, true_or, or_true, false_or, or_false, ne_eq, not_true_eq_false, not_false_eq_true, i01b, b79_143, nI_s]
          have := fin 1
          refine ⟨(_, .int (nI (wN σ p)), .int _), rfl, this.1, this.2.1, Or.inr this.2.2, fun e => absurd (this.2.2.symm.trans e) (by decide)⟩
      · simp only [eq_false hh, i10, i01, eq_self, if_true, if_false, true_and, false_and, and_true, and_false, not_true, not_false_iff, true_or, or_true, false_or, or_false, ne_eq, not_true_eq_false, not_false_eq_true, b79_143, nI_s]
        exact ⟨(σ2, v5, v6), rfl, i1, i2, i3, i4⟩)
    obtain ⟨i1, i2, i3, i4⟩ := i2
    dsimp only at i1 i2 i3 i4
    have bd2 := bd_fr σ2 i2
    have hq : ∀ q, 1 ≤ q → q ≤ 26 → q ≠ 7 → q ≠ 16 → q ≠ 19 → σ2 q = σ q := fun q h1 h2 h3 h4 h5 => by
      rw [Fr_q i1 (by unfold SCC; simp; omega) (by unfold SLC; simp; omega)]; exact carT_q h3 8
    rw [show Ex (d + 4) 79 26 [.ref 74, .int s, .int gr, .int g, .int 0, .null, .null] [] G0 (pt σ1 74 6 0) = _ from e2]
    show ∃ σ', Ex (d + 4) 79 26 [.ref 74, .int s, .int gr, .int g, .int (nI 8), v5, v6] [] G0 σ2 = _ ∧ _
    rw [b79_26]
    have hsw : σ2 1 = σ 1 := hq 1 (by omega) (by omega) (by omega) (by omega) (by omega)
    simp only [n88, i10, i01, eq_self, if_true, if_false, true_and, false_and, and_true, and_false, not_true, not_false_iff, true_or, or_true, false_or, or_false, ne_eq, not_true_eq_false, not_false_eq_true, c_wrong (d + 2) hW ⟨hq 5 (by omega) (by omega) (by omega) (by omega) (by omega), hq 8 (by omega) (by omega) (by omega) (by omega) (by omega), hq 9 (by omega) (by omega) (by omega) (by omega) (by omega)⟩ bd2.1, Option.bind_some, Option.toList_some, Option.toList_none, List.cons_append, List.nil_append, i01a, i01b, if_true, if_false, b79_174, c_swayNext, b79_177, hsw]
    have fin : ∀ v : Int32, Fr SCC SLC (carW B T σ s gr g) (pt (pt σ2 74 6 v) 1 8 (swN σ (wrongS σ g))) ∧ (pt (pt σ2 74 6 v) 1 8 (swN σ (wrongS σ g))) 74 6 = v := by
      intro v
      refine ⟨?_, ?_⟩
      · exact Fr_pp (Fr_p i1 (Or.inr (by decide)))
      · rw [pt_q (by decide), pt_e]
    show ∃ σ', (if σ2 74 6 = 0 then if swN σ (wrongS σ g) = σ 1 8 then some (some (.int 1), G0, pt (pt σ2 74 6 0) 1 8 (swN σ (wrongS σ g))) else some (some (.int 1), G0, pt (pt σ2 74 6 1) 1 8 (swN σ (wrongS σ g))) else some (some (.int 1), G0, pt (pt σ2 74 6 1) 1 8 (swN σ (wrongS σ g))) : Option Out) = _ ∧ _
    rcases i3 with z | z
    · by_cases same : swN σ (wrongS σ g) = σ 1 8
      · simp only [z, same, i10, i01, eq_self, if_true, if_false, true_and, false_and, and_true, and_false, not_true, not_false_iff, true_or, or_true, false_or, or_false, ne_eq, not_true_eq_false, not_false_eq_true]
        have := fin 0
        rw [same] at this
        refine ⟨_, rfl, fun _ => ⟨this.1, fun _ => ?_⟩, fun h => h.elim⟩
        unfold carW; rw [i4 z, same]; exact pt_self σ 1 8
      · simp only [z, same, i10, i01, eq_self, if_true, if_false, true_and, false_and, and_true, and_false, not_true, not_false_iff, true_or, or_true, false_or, or_false, ne_eq, not_true_eq_false, not_false_eq_true]
        have := fin 1
        refine ⟨_, rfl, fun _ => ⟨this.1, fun e => ?_⟩, fun h => h.elim⟩
        rw [this.2] at e; exact absurd e (by decide)
    · simp only [z, i10, i01, eq_self, if_true, if_false, true_and, false_and, and_true, and_false, not_true, not_false_iff, true_or, or_true, false_or, or_false, ne_eq, not_true_eq_false, not_false_eq_true]
      have := fin 1
      refine ⟨_, rfl, fun _ => ⟨this.1, fun e => ?_⟩, fun h => h.elim⟩
      rw [this.2] at e; exact absurd e (by decide)
  · simp only [eq_false hb, i10, i01, eq_self, if_true, if_false, true_and, false_and, and_true, and_false, not_true, not_false_iff, true_or, or_true, false_or, or_false, ne_eq, not_true_eq_false, not_false_eq_true, bI_F hb]
    exact ⟨σ1, rfl, fun h => h.elim, fun _ => f1'⟩
