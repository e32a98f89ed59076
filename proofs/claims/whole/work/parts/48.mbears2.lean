/-! L3: the model bears, all rounds -/
theorem m_findsShares (d : Nat) {B T : LW} {ω σ : Sig} (hM : MR B T ω σ) (hW : WI B T ω) {s : Int32} (hs : bw s (-9) 9) (g : Int32) :
    ∃ σ' r, Ex (d + 4) 210 0 [.ref 112, .int s, .int g, .null, .null, .null] [] G0 σ = some (some (.int r), G0, σ') ∧ Fr SCM [] σ σ' ∧ (∀ p, p < 8 → σ' 137 p = nI (sh B ω s g p)) ∧ (∀ p, p < 8 → σ' 136 p = 0) := by
  have np8 := (WI_np hW).2.1
  rw [b210_0]
  -- the least TOP
  have e1 := loop_fo (fun p (a : Int32) => Ex (d + 4) 210 7 [.ref 112, .int s, .int g, .int a, .int (nI p), .null] [] G0 σ) (leastF ω s g) 8 1000000 (by
    intro p a hp
    show Ex (d + 4) 210 7 [.ref 112, .int s, .int g, .int a, .int (nI p), .null] [] G0 σ = _
    rw [b210_7]
    simp only [n8 hp, i10, i01, eq_self, if_true, if_false, true_and, false_and, and_true, and_false, not_true, not_false_iff, true_or, or_true, false_or, or_false, ne_eq, not_true_eq_false, not_false_eq_true, m_holds d hM hW g hp, Option.bind_some, Option.toList_some, Option.toList_none, List.cons_append, List.nil_append, i01a, i01b, if_true, if_false, b210_21, bI_z, bI_o, bI_em, ite_not, nI_s]
    unfold leastF
    by_cases hh : hold ω g p
    · obtain ⟨_, _, hb8, ew⟩ := WI_who hW hp hh.2.1
      simp only [eq_true hh, i10, i01, eq_self, if_true, if_false, true_and, false_and, and_true, and_false, not_true, not_false_iff, true_or, or_true, false_or, or_false, ne_eq, not_true_eq_false, not_false_eq_true, m_topOf (d + 2) hM s hp hb8 ew, Option.bind_some, Option.toList_some, Option.toList_none, List.cons_append, List.nil_append, i01a, i01b, if_true, if_false, b210_33, m_lesser, b210_36, nI_s]
      rfl
    · simp only [hh, i10, i01, eq_self, if_true, if_false, true_and, false_and, and_true, and_false, not_true, not_false_iff, true_or, or_true, false_or, or_false, ne_eq, not_true_eq_false, not_false_eq_true])
  rw [show Ex (d + 4) 210 7 [.ref 112, .int s, .int g, .int 1000000, .int 0, .null] [] G0 σ = _ from e1]
  show ∃ σ' r, Ex (d + 4) 210 7 [.ref 112, .int s, .int g, .int (leastS ω s g), .int (nI 8), .null] [] G0 σ = _ ∧ _
  rw [b210_7]
  simp only [n88, i10, i01, eq_self, if_true, if_false, true_and, false_and, and_true, and_false, not_true, not_false_iff, true_or, or_true, false_or, or_false, ne_eq, not_true_eq_false, not_false_eq_true]
  have sh0_le : ∀ p, sh0 B ω s g p ≤ 999 := by
    intro p; unfold sh0
    split
    · exact (shareX_n B ω s p (wN ω p) (ω 10 p) (leastS ω s g)).2
    · omega
  have step : ∀ (p : Nat) (f : Nat → Nat) (σ1 σ2 : Sig) (c : Nat), (∀ q, q < p → σ1 c q = nI (f q)) → σ2 c p = nI (f p) → (∀ q, q ≠ p → σ2 c q = σ1 c q) → ∀ q, q < p + 1 → σ2 c q = nI (f q) := by
    intro p f σ1 σ2 c h1 h2 h3 q hq
    by_cases e : q = p
    · subst e; exact h2
    · rw [h3 q e]; exact h1 q (by omega)
  obtain ⟨⟨σ1, a⟩, e2, i2⟩ := loop_ex (fun p (x : Sig × Int32) => Ex (d + 4) 210 49 [.ref 112, .int s, .int g, .int (leastS ω s g), .int x.2, .int (nI p)] [] G0 (x.1))
    (fun p x => Fr SCM [] σ x.1 ∧ x.2 = nI (su (sh0 B ω s g) p) ∧ (∀ q, q < p → x.1 137 q = nI (sh0 B ω s g q)) ∧ (∀ q, q < p → x.1 136 q = nI 0)) 8 (σ, 0)
    ⟨Fr_r, rfl, fun q hq => by omega, fun q hq => by omega⟩ (by
    intro p ⟨σ1, a⟩ hp ⟨j1, j2, j3, j4⟩
    dsimp only at j1 j2 j3 j4
    subst j2
    have f2 : Fr SCM [] σ (pt σ1 136 p 0) := Fr_p j1 (Or.inl (by decide))
    have hM2 : MR B T ω (pt σ1 136 p 0) := MR_S hM f2 (by decide) (by simp)
    show ∃ a', Ex (d + 4) 210 49 [.ref 112, .int s, .int g, .int (leastS ω s g), .int (nI (su (sh0 B ω s g) p)), .int (nI p)] [] G0 σ1 = _ ∧ _
    rw [b210_49]
    simp only [n8 hp, i8 hp, c8 hp, i10, i01, eq_self, if_true, if_false, true_and, false_and, and_true, and_false, not_true, not_false_iff, true_or, or_true, false_or, or_false, ne_eq, not_true_eq_false, not_false_eq_true, m_holds d hM2 hW g hp, Option.bind_some, Option.toList_some, Option.toList_none, List.cons_append, List.nil_append, i01a, i01b, if_true, if_false, b210_77, bI_z, bI_o, bI_em, ite_not, pt_e, nI_s]
    by_cases hh : hold ω g p
    · obtain ⟨_, _, hb8, ew⟩ := WI_who hW hp hh.2.1
      obtain ⟨σ3, e3, f3⟩ := m_shareOf d hM2 hW hs (leastS ω s g) hp hb8 ew
      have ev : shareX B ω s p (wN ω p) (ω 10 p) (leastS ω s g) = nI (sh0 B ω s g p) := by
        unfold sh0; rw [if_pos hh]; exact (shareX_n B ω s p (wN ω p) (ω 10 p) (leastS ω s g)).1
      rw [ev] at e3
      simp only [eq_true hh, i10, i01, eq_self, if_true, if_false, true_and, false_and, and_true, and_false, not_true, not_false_iff, true_or, or_true, false_or, or_false, ne_eq, not_true_eq_false, not_false_eq_true, e3, Option.bind_some, Option.toList_some, Option.toList_none, List.cons_append, List.nil_append, i01a, i01b, if_true, if_false, b210_88, i8 hp, c8 hp, pt_e, nI_s]
      refine ⟨(pt σ3 137 p (nI (sh0 B ω s g p)), _), rfl, Fr_p (Fr_t f2 (Fr_m f3 (by decide) (by simp))) (Or.inl (by decide)), ?_, ?_, ?_⟩
      · dsimp only; rw [nI_add, su]
      · refine step p _ σ1 _ 137 j3 (by dsimp only; rw [pt_e]) (fun q hq => ?_)
        dsimp only; rw [pt_k hq, f3 137 q (by decide) (by simp), pt_q (by decide)]
      · refine step p (fun _ => 0) σ1 _ 136 j4 ?_ (fun q hq => ?_)
        · dsimp only; rw [pt_q (by decide), f3 136 p (by decide) (by simp), pt_e]; rfl
        · dsimp only; rw [pt_q (by decide), f3 136 q (by decide) (by simp), pt_k hq]
    · have ev : sh0 B ω s g p = 0 := by unfold sh0; rw [if_neg hh]
      simp only [hh, i10, i01, eq_self, if_true, if_false, true_and, false_and, and_true, and_false, not_true, not_false_iff, true_or, or_true, false_or, or_false, ne_eq, not_true_eq_false, not_false_eq_true]
      refine ⟨(pt (pt σ1 136 p 0) 137 p 0, _), rfl, Fr_p f2 (Or.inl (by decide)), ?_, ?_, ?_⟩
      · dsimp only; rw [su, ev]
        show nI (su (sh0 B ω s g) p) + nI 0 = _
        rw [nI_add]
      · refine step p _ σ1 _ 137 j3 (by dsimp only; rw [pt_e, ev]; rfl) (fun q hq => ?_)
        dsimp only; rw [pt_k hq, pt_q (by decide)]
      · refine step p (fun _ => 0) σ1 _ 136 j4 ?_ (fun q hq => ?_)
        · dsimp only; rw [pt_q (by decide), pt_e]; rfl
        · dsimp only; rw [pt_q (by decide), pt_k hq])
  obtain ⟨j1, j2, j3, j4⟩ := i2
  dsimp only at j1 j2 j3 j4
  subst j2
  have hle := su_bd (n := 8) (fun p _ => sh0_le p)
  rw [show Ex (d + 4) 210 49 [.ref 112, .int s, .int g, .int (leastS ω s g), .int 0, .int 0] [] G0 σ = _ from e2]
  show ∃ σ' r, Ex (d + 4) 210 49 [.ref 112, .int s, .int g, .int (leastS ω s g), .int (nI (su (sh0 B ω s g) 8)), .int (nI 8)] [] G0 σ1 = _ ∧ _
  rw [b210_49]
  simp only [n88, i10, i01, eq_self, if_true, if_false, true_and, false_and, and_true, and_false, not_true, not_false_iff, true_or, or_true, false_or, or_false, ne_eq, not_true_eq_false, not_false_eq_true]
  have hz : (nI (su (sh0 B ω s g) 8) = 0) = (su (sh0 B ω s g) 8 = 0) := nI_z (by omega)
  by_cases z : su (sh0 B ω s g) 8 = 0
  · obtain ⟨σ2, e3, i3⟩ := loop_ex (fun p (x : Sig) => Ex (d + 4) 210 114 [.ref 112, .int s, .int g, .int (leastS ω s g), .int (nI (su (sh0 B ω s g) 8)), .int (nI p)] [] G0 x)
      (fun p x => Fr [137] [] σ1 x ∧ (∀ q, q < p → x 137 q = nI (sh B ω s g q))) 8 σ1
      ⟨Fr_r, fun q hq => by omega⟩ (by
      intro p σ2 hp ⟨k1, k2⟩
      have hM2 : MR B T ω σ2 := MR_S hM (Fr_t j1 (Fr_m k1 (by decide) (by simp))) (by decide) (by simp)
      show ∃ a', Ex (d + 4) 210 114 [.ref 112, .int s, .int g, .int (leastS ω s g), .int (nI (su (sh0 B ω s g) 8)), .int (nI p)] [] G0 σ2 = _ ∧ _
      rw [b210_114]
      simp only [n8 hp, i10, i01, eq_self, if_true, if_false, true_and, false_and, and_true, and_false, not_true, not_false_iff, true_or, or_true, false_or, or_false, ne_eq, not_true_eq_false, not_false_eq_true, hz, eq_true z, m_holds d hM2 hW g hp, Option.bind_some, Option.toList_some, Option.toList_none, List.cons_append, List.nil_append, i01a, i01b, if_true, if_false, b210_139, bI_z, bI_o, bI_em, ite_not, i8 hp, c8 hp, nI_s]
      by_cases hh : hold ω g p
      · simp only [eq_true hh, i10, i01, eq_self, if_true, if_false, true_and, false_and, and_true, and_false, not_true, not_false_iff, true_or, or_true, false_or, or_false, ne_eq, not_true_eq_false, not_false_eq_true]
        refine ⟨pt σ2 137 p 1, rfl, Fr_p k1 (Or.inl (by simp)), step p _ σ2 _ 137 k2 ?_ (fun q hq => pt_k hq)⟩
        rw [pt_e]; unfold sh; rw [if_pos z, if_pos hh]; rfl
      · simp only [hh, i10, i01, eq_self, if_true, if_false, true_and, false_and, and_true, and_false, not_true, not_false_iff, true_or, or_true, false_or, or_false, ne_eq, not_true_eq_false, not_false_eq_true]
        refine ⟨pt σ2 137 p 0, rfl, Fr_p k1 (Or.inl (by simp)), step p _ σ2 _ 137 k2 ?_ (fun q hq => pt_k hq)⟩
        rw [pt_e]; unfold sh; rw [if_pos z, if_neg hh]; rfl)
    obtain ⟨k1, k2⟩ := i3
    rw [show Ex (d + 4) 210 114 [.ref 112, .int s, .int g, .int (leastS ω s g), .int (nI (su (sh0 B ω s g) 8)), .int 0] [] G0 σ1 = _ from e3]
    show ∃ σ' r, Ex (d + 4) 210 114 [.ref 112, .int s, .int g, .int (leastS ω s g), .int (nI (su (sh0 B ω s g) 8)), .int (nI 8)] [] G0 σ2 = _ ∧ _
    rw [b210_114]
    simp only [n88, i10, i01, eq_self, if_true, if_false, true_and, false_and, and_true, and_false, not_true, not_false_iff, true_or, or_true, false_or, or_false, ne_eq, not_true_eq_false, not_false_eq_true]
    exact ⟨σ2, _, rfl, Fr_t j1 (Fr_m k1 (by decide) (by simp)), k2, fun p hp => by rw [k1 136 p (by decide) (by simp), j4 p hp]; rfl⟩
  · rw [b210_114]
    have h80 : ((8 : Int32) ≤ 0) = False := eq_false (by decide)
    simp only [h80, i10, i01, eq_self, if_true, if_false, true_and, false_and, and_true, and_false, not_true, not_false_iff, true_or, or_true, false_or, or_false, ne_eq, not_true_eq_false, not_false_eq_true, hz, eq_false z]
    refine ⟨σ1, _, rfl, j1, fun p hp => ?_, fun p hp => j4 p hp⟩
    rw [j3 p hp]; unfold sh; rw [if_neg z]
/-- handing out ends at nothing -/
theorem hnd_0 {am : Nat → Bool} {r : Nat} {ld : Nat → Nat} : ∀ n, (hnd am n (r, ld)).1 = r - su (fun p => if am p = true then 1 else 0) n := by
  intro n
  induction n with
  | zero => rfl
  | succ n ih =>
    rw [hnd, su]
    by_cases k : am n = true
    · by_cases z : 0 < (hnd am n (r, ld)).1
      · rw [if_pos ⟨k, z⟩]; dsimp only; rw [ih, if_pos k]; omega
      · rw [if_neg (fun e => z e.2), if_pos k]; omega
    · rw [if_neg (fun e => k e.1), if_neg k, ih]; rfl
def cnt (s : Nat → Nat) : Nat := su (fun p => if 0 < s p then 1 else 0) 8
theorem stp_cnt {c : Nat → Nat} {l : Nat} {s ld : Nat → Nat} (h : anyB (byd c l s) = true) : cnt (stp c l s ld).2.1 < cnt s ∧ su (stp c l s ld).2.1 8 < su s 8 := by
  obtain ⟨p, hp, hb⟩ := anyB_t.mp h
  have hpos : 0 < s p := by
    have := of_decide_eq_true hb
    apply Nat.pos_of_ne_zero
    intro e
    unfold qt at this; rw [e, Nat.mul_zero, Nat.zero_div] at this; omega
  have key : ∀ n, (su (fun p => if 0 < (stp c l s ld).2.1 p then 1 else 0) n ≤ su (fun p => if 0 < s p then 1 else 0) n ∧ su (stp c l s ld).2.1 n ≤ su s n) ∧ (p < n → su (fun p => if 0 < (stp c l s ld).2.1 p then 1 else 0) n < su (fun p => if 0 < s p then 1 else 0) n ∧ su (stp c l s ld).2.1 n < su s n) := by
    intro n
    induction n with
    | zero => exact ⟨⟨Nat.le_refl _, Nat.le_refl _⟩, fun h => by omega⟩
    | succ n ih =>
      have e : (stp c l s ld).2.1 n = if byd c l s n = true then 0 else s n := rfl
      simp only [su, e]
      obtain ⟨⟨i1, i2⟩, i3⟩ := ih
      by_cases k : byd c l s n = true
      · simp only [k, if_true]
        refine ⟨⟨by simp; omega, by omega⟩, fun hn => ?_⟩
        by_cases e' : p = n
        · subst e'; simp [hpos]; omega
        · have := i3 (by omega); simp; omega
      · simp only [k]
        refine ⟨⟨by simp; omega, by simp; omega⟩, fun hn => ?_⟩
        have e' : p ≠ n := fun e' => k (e' ▸ hb)
        have := i3 (by omega)
        simp; omega
  exact (key 8).2 hp
theorem m_bears (d : Nat) {B T : LW} {ω σ : Sig} (hM : MR B T ω σ) (hW : WI B T ω) {s : Int32} (hs : bw s (-9) 9) (g : Int32) :
    ∃ σ', Ex (d + 5) 213 0 [.ref 112, .int s, .int g, .null, .null, .null, .null, .null] [] G0 σ = some (some (.int (bI (bearS B ω s g))), G0, σ') ∧ Fr SCM [(112, 49)] σ σ' ∧ MR B T ω σ' ∧ (∀ p, p < 8 → σ' 136 p = nI (loadS B ω s g p)) ∧ σ' 112 49 = bI (askdS B ω s g) := by
  obtain ⟨σ1, r, e1, f1, g1, g2⟩ := m_findsShares d hM hW hs g
  have h0 : mr B T ω (pt σ1 112 49 0) 0 := (MR_S hM (Fr_p (Fr_m f1 (fun _ h => h) (by simp)) (Or.inr (by simp)) : Fr SCM [(112, 49)] σ (pt σ1 112 49 0)) (by decide) (by simp)) 0
  obtain ⟨_, ep, p1, p9, _⟩ := bwN (a := 1) (b := 999) (show bw (ω 1 0) 1 999 from hW 0)
  have hpd : ω 1 0 = nI (pdN ω) := by unfold pdN; rw [ep, nI_c (by omega)]
  have hpd9 : 1 ≤ pdN ω ∧ pdN ω ≤ 999 := by unfold pdN; rw [ep, nI_c (by omega)]; exact ⟨p1, p9⟩
  have hlft : (pt σ1 112 49 0) 112 6 + 400 = nI (pdN ω) := by
    rw [show (pt σ1 112 49 0) 112 6 = ω 1 0 - 400 from h0, Int32.sub_add_cancel, hpd]
  have shl : ∀ p, p < 8 → sh B ω s g p ≤ 999 ∧ (0 < sh B ω s g p → ω 9 p ≠ -1) := by
    intro p hp
    unfold sh
    by_cases z : su (sh0 B ω s g) 8 = 0
    · rw [if_pos z]
      by_cases hh : hold ω g p
      · rw [if_pos hh]; exact ⟨by omega, fun _ => hh.2.1⟩
      · rw [if_neg hh]; exact ⟨by omega, fun e => by omega⟩
    · rw [if_neg z]
      unfold sh0
      by_cases hh : hold ω g p
      · rw [if_pos hh]; exact ⟨(shareX_n B ω s p (wN ω p) (ω 10 p) (leastS ω s g)).2, fun _ => hh.2.1⟩
      · rw [if_neg hh]; exact ⟨by omega, fun e => by omega⟩
  rw [b213_0, e1]
  simp only [Option.bind_some, Option.toList_some, Option.toList_none, List.cons_append, List.nil_append, i01a, i01b, if_true, if_false, b213_6, m_pounds, b213_16, hlft]
  rw [m_sharesLeft _ _ (sh B ω s g) (fun p hp => by rw [pt_q (by decide)]; exact g1 p hp)]
  simp only [Option.bind_some, Option.toList_some, Option.toList_none, List.cons_append, List.nil_append, i01a, i01b, if_true, if_false, b213_21]
  have f2 : Fr SCM [(112, 49)] σ (pt σ1 112 49 0) := Fr_p (Fr_m f1 (fun _ h => h) (by simp)) (Or.inr (by simp))
  -- the sum of what is borne is taken off
  have sumL : ∀ (σ2 : Sig) (l : Nat) (ss ld : Nat → Nat) (all a5 : Int32) (v7 : Value), (∀ p, p < 8 → σ2 137 p = nI (ss p) ∧ ss p ≤ 999) → (∀ p, p < 8 → 0 < ss p → σ2 136 p = nI (ld p)) → su (fun p => if 0 < ss p then ld p else 0) 8 ≤ l →
      Ex (d + 5) 213 89 [.ref 112, .int s, .int g, .int (nI l), .int all, .int a5, .int 0, v7] [] G0 σ2 = Ex (d + 5) 213 129 [.ref 112, .int s, .int g, .int (nI (l - su (fun p => if 0 < ss p then ld p else 0) 8)), .int all, .int a5, .int 0, v7] [] G0 σ2 := by
    intro σ2 l ss ld all a5 v7 h1 h2 h3
    obtain ⟨a, e, i⟩ := loop_ex (fun p (a : Int32) => Ex (d + 5) 213 89 [.ref 112, .int s, .int g, .int a, .int all, .int a5, .int (nI p), v7] [] G0 σ2) (fun p a => a = nI (l - su (fun p => if 0 < ss p then ld p else 0) p)) 8 (nI l) rfl (by
      intro p a hp i
      subst i
      have m := su_mono (f := fun p => if 0 < ss p then ld p else 0) (show p + 1 ≤ 8 by omega)
      rw [su] at m
      rw [b213_89]
      simp only [n8 hp, i8 hp, c8 hp, i10, i01, eq_self, if_true, if_false, true_and, false_and, and_true, and_false, not_true, not_false_iff, true_or, or_true, false_or, or_false, ne_eq, not_true_eq_false, not_false_eq_true, (h1 p hp).1, nI_le0 (show ss p < 2 ^ 31 by have := (h1 p hp).2; omega)]
      by_cases z : ss p = 0
      · simp only [z, i10, i01, eq_self, if_true, if_false, true_and, false_and, and_true, and_false, not_true, not_false_iff, true_or, or_true, false_or, or_false, ne_eq, not_true_eq_false, not_false_eq_true, b213_118, nI_s]
        refine ⟨_, rfl, ?_⟩
        rw [su, if_neg (by omega)]; rfl
      · simp only [z, i10, i01, eq_self, if_true, if_false, true_and, false_and, and_true, and_false, not_true, not_false_iff, true_or, or_true, false_or, or_false, ne_eq, not_true_eq_false, not_false_eq_true, b213_106, i8 hp, c8 hp, h2 p hp (by omega), nI_s]
        refine ⟨_, rfl, ?_⟩
        rw [if_pos (by omega)] at m
        rw [su, if_pos (by omega), nI_sub' (by omega), Nat.sub_sub])
    rw [show Ex (d + 5) 213 89 [.ref 112, .int s, .int g, .int (nI l), .int all, .int a5, .int 0, v7] [] G0 σ2 = _ from e, b213_89]
    simp only [n88, i10, i01, eq_self, if_true, if_false, true_and, false_and, and_true, and_false, not_true, not_false_iff, true_or, or_true, false_or, or_false, ne_eq, not_true_eq_false, not_false_eq_true, i]
  have zeroL : ∀ (σ2 : Sig) (a3 a4 a5 : Int32) (v7 : Value), ∃ σ', Ex (d + 5) 213 193 [.ref 112, .int s, .int g, .int a3, .int a4, .int a5, .int 0, v7] [] G0 σ2 = some (some (.int 0), G0, σ') ∧ Fr [136] [] σ2 σ' ∧ ∀ p, p < 8 → σ' 136 p = 0 := by
    intro σ2 a3 a4 a5 v7
    obtain ⟨σ3, e, i1, i2⟩ := loop_ex (fun p (x : Sig) => Ex (d + 5) 213 193 [.ref 112, .int s, .int g, .int a3, .int a4, .int a5, .int (nI p), v7] [] G0 x) (fun p x => Fr [136] [] σ2 x ∧ ∀ q, q < p → x 136 q = 0) 8 σ2 ⟨Fr_r, fun q hq => by omega⟩ (by
      intro p x hp ⟨i1, i2⟩
      show ∃ a', Ex (d + 5) 213 193 [.ref 112, .int s, .int g, .int a3, .int a4, .int a5, .int (nI p), v7] [] G0 x = _ ∧ _
      rw [b213_193]
      simp only [n8 hp, i8 hp, c8 hp, i10, i01, eq_self, if_true, if_false, true_and, false_and, and_true, and_false, not_true, not_false_iff, true_or, or_true, false_or, or_false, ne_eq, not_true_eq_false, not_false_eq_true, b213_208, nI_s]
      refine ⟨pt x 136 p 0, rfl, Fr_p i1 (Or.inl (by simp)), fun q hq => ?_⟩
      by_cases e : q = p
      · subst e; rw [pt_e]
      · rw [pt_k e]; exact i2 q (by omega))
    refine ⟨σ3, ?_, i1, i2⟩
    rw [show Ex (d + 5) 213 193 [.ref 112, .int s, .int g, .int a3, .int a4, .int a5, .int 0, v7] [] G0 σ2 = _ from e]
    show Ex (d + 5) 213 193 [.ref 112, .int s, .int g, .int a3, .int a4, .int a5, .int (nI 8), v7] [] G0 σ3 = _
    rw [b213_193]
    simp only [n88, i10, i01, eq_self, if_true, if_false, true_and, false_and, and_true, and_false, not_true, not_false_iff, true_or, or_true, false_or, or_false, ne_eq, not_true_eq_false, not_false_eq_true]
  have noneL : ∀ (σ2 : Sig) (l : Nat) (ss : Nat → Nat) (v6 v7 : Value), 0 < l → l ≤ 999 → (∀ p, p < 8 → σ2 137 p = nI (ss p)) → su ss 8 = 0 → ∃ σ', Ex (d + 5) 213 35 [.ref 112, .int s, .int g, .int (nI l), .int (nI (su ss 8)), .int 0, v6, v7] [] G0 σ2 = some (some (.int 0), G0, σ') ∧ Fr [136] [] σ2 σ' ∧ ∀ p, p < 8 → σ' 136 p = 0 := by
    intro σ2 l ss v6 v7 hl hl9 h1 hz
    have hss := su_z.mp hz
    have hsum : su (fun p => if 0 < ss p then 0 else 0) 8 = 0 := su_z.mpr (fun p hp => by simp)
    have e := sumL σ2 l ss (fun _ => 0) (nI (su ss 8)) 0 v7 (fun p hp => ⟨h1 p hp, by rw [hss p hp]; omega⟩) (fun p hp k => by have := hss p hp; omega) (by rw [hsum]; omega)
    rw [b213_35]
    simp only [i10, i01, eq_self, if_true, if_false, true_and, false_and, and_true, and_false, not_true, not_false_iff, true_or, or_true, false_or, or_false, ne_eq, not_true_eq_false, not_false_eq_true]
    rw [e, hsum, b213_129, hz]
    have h80 : ((8 : Int32) ≤ 0) = False := eq_false (by decide)
    have h00 : (nI 0 ≤ 0) = True := eq_true (by decide)
    have hl0 : (nI (l - 0) = 0) = False := by rw [nI_z (by omega)]; exact eq_false (by omega)
    simp only [h80, h00, hl0, i10, i01, eq_self, if_true, if_false, true_and, false_and, and_true, and_false, not_true, not_false_iff, true_or, or_true, false_or, or_false, ne_eq, not_true_eq_false, not_false_eq_true]
    exact zeroL σ2 _ _ _ _
  have main : ∀ f (l : Nat) (ss ld : Nat → Nat) (σ2 : Sig) (t : Bool) (v6 v7 : Value), cnt ss < f → 0 < l → l ≤ 999 → 0 < su ss 8 → (∀ p, p < 8 → σ2 137 p = nI (ss p) ∧ ss p ≤ 999) → (∀ p, p < 8 → σ2 136 p = nI (ld p)) → (∀ p, p < 8 → 0 < ss p → ω 9 p ≠ -1) → Fr SCM [(112, 49)] σ σ2 → σ2 112 49 = bI (t = true) →
      ∃ σ', Ex (d + 5) 213 35 [.ref 112, .int s, .int g, .int (nI l), .int (nI (su ss 8)), .int 1, v6, v7] [] G0 σ2 = some (some (.int (bI ((partS (canN ω) f l ss ld).isSome = true))), G0, σ') ∧ Fr SCM [(112, 49)] σ σ' ∧ (∀ p, p < 8 → σ' 136 p = nI (match partS (canN ω) f l ss ld with
        | some f => f p
        | none => 0)) ∧ σ' 112 49 = bI (t = true ∨ anyB (byd (canN ω) l ss) = true) := by
    intro f
    induction f with
    | zero => intro l ss ld σ2 t v6 v7 h; omega
    | succ f ih =>
      intro l ss ld σ2 t v6 v7 hc hl hl9 hpos h1 h2 h3 fr ht
      have hM2 : MR B T ω σ2 := MR_S hM fr (by decide) (by simp)
      obtain ⟨σ3, e3, f3, q1, q2, q3⟩ := m_fills (d + 3) hM2 hW l ss ld hl9 h1 h2 h3 hpos
      have fr3 : Fr SCM [(112, 49)] σ σ3 := Fr_t fr (Fr_m f3 (by decide) (by simp))
      rw [b213_35, e3]
      simp only [i10, i01, eq_self, if_true, if_false, true_and, false_and, and_true, and_false, not_true, not_false_iff, true_or, or_true, false_or, or_false, ne_eq, not_true_eq_false, not_false_eq_true, Option.bind_some, Option.toList_some, Option.toList_none, List.cons_append, List.nil_append, i01a, i01b, if_true, if_false, b213_47]
      rw [m_sharesLeft _ σ3 (stp (canN ω) l ss ld).2.1 q1]
      simp only [Option.bind_some, Option.toList_some, Option.toList_none, List.cons_append, List.nil_append, i01a, i01b, if_true, if_false, b213_53]
      have hall : su ss 8 ≤ 7992 := su_bd (fun p hp => (h1 p hp).2)
      by_cases any : anyB (byd (canN ω) l ss) = true
      · have hcs := stp_cnt (ld := ld) any
        have hbl := byd_lt any hpos
        have ne : (nI (su (stp (canN ω) l ss ld).2.1 8) = nI (su ss 8)) = False := by rw [nJ_e (by omega) (by omega)]; exact eq_false (by omega)
        have hl' : nI l - nI (su (fun p => if byd (canN ω) l ss p = true then canN ω p else 0) 8) = nI (stp (canN ω) l ss ld).1 := by rw [nI_sub' (by omega)]; rfl
        have hlp : 0 < (stp (canN ω) l ss ld).1 ∧ (stp (canN ω) l ss ld).1 ≤ 999 := by unfold stp; dsimp only; omega
        have ps : partS (canN ω) (f + 1) l ss ld = partS (canN ω) f (stp (canN ω) l ss ld).1 (stp (canN ω) l ss ld).2.1 (stp (canN ω) l ss ld).2.2 := by
          rw [partS, if_neg (by omega), if_pos any]
        have t3 : σ3 112 49 = bI (true = true) := by rw [q3, if_pos any]; rfl
        simp only [ne, i10, i01, eq_self, if_true, if_false, true_and, false_and, and_true, and_false, not_true, not_false_iff, true_or, or_true, false_or, or_false, ne_eq, not_true_eq_false, not_false_eq_true, nI_le0 (show su (stp (canN ω) l ss ld).2.1 8 < 2 ^ 31 by omega), hl']
        rw [ps]
        by_cases z : su (stp (canN ω) l ss ld).2.1 8 = 0
        · simp only [eq_true z, i10, i01, eq_self, if_true, if_false, true_and, false_and, and_true, and_false, not_true, not_false_iff, true_or, or_true, false_or, or_false, ne_eq, not_true_eq_false, not_false_eq_true]
          obtain ⟨σ4, e4, f4, g4⟩ := noneL σ3 (stp (canN ω) l ss ld).1 (stp (canN ω) l ss ld).2.1 (.int (nI (su (fun p => if byd (canN ω) l ss p = true then canN ω p else 0) 8))) (.int (nI (su (stp (canN ω) l ss ld).2.1 8))) hlp.1 hlp.2 q1 z
          have pn : partS (canN ω) f (stp (canN ω) l ss ld).1 (stp (canN ω) l ss ld).2.1 (stp (canN ω) l ss ld).2.2 = none := by
            cases f with
            | zero => rfl
            | succ f => rw [partS, if_pos z]
          rw [pn]
          refine ⟨σ4, e4, Fr_t fr3 (Fr_m f4 (by decide) (by simp)), g4, ?_⟩
          rw [f4 112 49 (by decide) (by simp), t3, bI_T rfl, bI_T (Or.inr any)]
        · simp only [eq_false z, i10, i01, eq_self, if_true, if_false, true_and, false_and, and_true, and_false, not_true, not_false_iff, true_or, or_true, false_or, or_false, ne_eq, not_true_eq_false, not_false_eq_true]
          obtain ⟨σ4, e4, f4, g4, k4⟩ := ih (stp (canN ω) l ss ld).1 (stp (canN ω) l ss ld).2.1 (stp (canN ω) l ss ld).2.2 σ3 true (.int (nI (su (fun p => if byd (canN ω) l ss p = true then canN ω p else 0) 8))) (.int (nI (su (stp (canN ω) l ss ld).2.1 8))) (by omega) hlp.1 hlp.2 (by omega) (fun p hp => ⟨q1 p hp, by
              unfold stp; dsimp only; split
              · omega
              · exact (h1 p hp).2⟩) q2 (fun p hp k => h3 p hp (by
              unfold stp at k; dsimp only at k
              by_cases b : byd (canN ω) l ss p = true
              · rw [if_pos b] at k; omega
              · rw [if_neg b] at k; exact k)) fr3 t3
          refine ⟨σ4, e4, f4, g4, ?_⟩
          rw [k4, bI_T (Or.inl rfl), bI_T (Or.inr any)]
      · have nany : ∀ p, p < 8 → byd (canN ω) l ss p = false := anyB_f.mp (by simpa using any)
        have s1 : su (stp (canN ω) l ss ld).2.1 8 = su ss 8 := su_c (fun p hp => by unfold stp; dsimp only; rw [nany p hp]; rfl)
        have s2 : su (fun p => if byd (canN ω) l ss p = true then canN ω p else 0) 8 = 0 := su_z.mpr (fun p hp => by rw [nany p hp]; rfl)
        have ps : partS (canN ω) (f + 1) l ss ld = some (fin l ss ld) := by
          rw [partS, if_neg (by omega), if_neg any]
        have hd3 := su_div8 (l := l) hpos
        have hsum : su (fun p => if 0 < ss p then qt l ss p else 0) 8 = su (qt l ss) 8 := su_c (fun p hp => by
          by_cases k : 0 < ss p
          · rw [if_pos k]
          · rw [if_neg k]; unfold qt; rw [show ss p = 0 by omega, Nat.mul_zero, Nat.zero_div])
        have ld3 : ∀ p, p < 8 → σ3 136 p = nI (if 0 < ss p then qt l ss p else ld p) := fun p hp => by
          rw [q2 p hp]; unfold stp; dsimp only; rw [nany p hp]; rfl
        have sh3 : ∀ p, p < 8 → σ3 137 p = nI (ss p) ∧ ss p ≤ 999 := fun p hp => ⟨by rw [q1 p hp]; unfold stp; dsimp only; rw [nany p hp]; rfl, (h1 p hp).2⟩
        rw [s1, s2, ps]
        have hl0 : nI l - nI 0 = nI l := by rw [nI_sub' (by omega)]; rfl
        simp only [i10, i01, eq_self, if_true, if_false, true_and, false_and, and_true, and_false, not_true, not_false_iff, true_or, or_true, false_or, or_false, ne_eq, not_true_eq_false, not_false_eq_true, hl0]
        rw [b213_35]
        simp only [i10, i01, eq_self, if_true, if_false, true_and, false_and, and_true, and_false, not_true, not_false_iff, true_or, or_true, false_or, or_false, ne_eq, not_true_eq_false, not_false_eq_true]
        rw [sumL σ3 l ss (qt l ss) (nI (su ss 8)) 0 _ sh3 (fun p hp k => by rw [ld3 p hp, if_pos k]) (by rw [hsum]; exact hd3.1), hsum]
        have hap : (nI (su ss 8) ≤ 0) = False := by rw [nI_le0 (by omega)]; exact eq_false (by omega)
        generalize hr : l - su (qt l ss) 8 = r
        have hr9 : r ≤ 999 := by omega
        -- handing out
        obtain ⟨⟨σ4, a⟩, e4, i4⟩ := loop_ex (fun p (x : Sig × Int32) => Ex (d + 5) 213 129 [.ref 112, .int s, .int g, .int x.2, .int (nI (su ss 8)), .int 0, .int (nI p), .int (nI (su ss 8))] [] G0 (x.1))
          (fun p x => Fr [136] [] σ3 x.1 ∧ x.2 = nI (hnd (fun p => decide (0 < ss p)) p (r, fun p => if 0 < ss p then qt l ss p else ld p)).1 ∧ ∀ q, q < 8 → x.1 136 q = nI ((hnd (fun p => decide (0 < ss p)) p (r, fun p => if 0 < ss p then qt l ss p else ld p)).2 q)) 8 (σ3, nI r)
          ⟨Fr_r, rfl, ld3⟩ (by
          intro p ⟨σ4, a⟩ hp ⟨i1, i2, i3⟩
          dsimp only at i1 i2 i3
          subst i2
          have e137 : σ4 137 p = nI (ss p) := by rw [i1 137 p (by decide) (by simp)]; exact (sh3 p hp).1
          have hb := hnd_0 (am := fun p => decide (0 < ss p)) (r := r) (ld := fun p => if 0 < ss p then qt l ss p else ld p) p
          show ∃ a', Ex (d + 5) 213 129 [.ref 112, .int s, .int g, .int (nI (hnd (fun p => decide (0 < ss p)) p (r, fun p => if 0 < ss p then qt l ss p else ld p)).1), .int (nI (su ss 8)), .int 0, .int (nI p), .int (nI (su ss 8))] [] G0 σ4 = _ ∧ _
          rw [b213_129]
          simp only [n8 hp, i8 hp, c8 hp, hap, i10, i01, eq_self, if_true, if_false, true_and, false_and, and_true, and_false, not_true, not_false_iff, true_or, or_true, false_or, or_false, ne_eq, not_true_eq_false, not_false_eq_true, e137, nI_z (show ss p < 2 ^ 31 by have := (h1 p hp).2; omega)]
          generalize hx : hnd (fun p => decide (0 < ss p)) p (r, fun p => if 0 < ss p then qt l ss p else ld p) = X at hb i3 ⊢
          have hn : hnd (fun p => decide (0 < ss p)) (p + 1) (r, fun p => if 0 < ss p then qt l ss p else ld p) = if decide (0 < ss p) = true ∧ 0 < X.1 then (X.1 - 1, fun q => if q = p then X.2 p + 1 else X.2 q) else X := by rw [hnd, hx]
          by_cases z : ss p = 0
          · simp only [z, i10, i01, eq_self, if_true, if_false, true_and, false_and, and_true, and_false, not_true, not_false_iff, true_or, or_true, false_or, or_false, ne_eq, not_true_eq_false, not_false_eq_true, b213_178, nI_s]
            rw [if_neg (by rw [z]; simp)] at hn
            rw [hn]
            exact ⟨(σ4, nI X.1), rfl, i1, rfl, i3⟩
          · simp only [z, i10, i01, eq_self, if_true, if_false, true_and, false_and, and_true, and_false, not_true, not_false_iff, true_or, or_true, false_or, or_false, ne_eq, not_true_eq_false, not_false_eq_true, b213_151, nI_z (show X.1 < 2 ^ 31 by omega)]
            by_cases z2 : X.1 = 0
            · simp only [z2, i10, i01, eq_self, if_true, if_false, true_and, false_and, and_true, and_false, not_true, not_false_iff, true_or, or_true, false_or, or_false, ne_eq, not_true_eq_false, not_false_eq_true, b213_178, nI_s]
              rw [if_neg (by rw [z2]; simp)] at hn
              rw [hn]
              exact ⟨(σ4, nI X.1), by rw [z2], i1, rfl, i3⟩
            · simp only [z2, i10, i01, eq_self, if_true, if_false, true_and, false_and, and_true, and_false, not_true, not_false_iff, true_or, or_true, false_or, or_false, ne_eq, not_true_eq_false, not_false_eq_true, i8 hp, c8 hp, b213_178, nI_s, nI_p1 (show 1 ≤ X.1 by omega), i3 p hp]
              rw [if_pos ⟨decide_eq_true (by omega), by omega⟩] at hn
              rw [hn]
              refine ⟨(pt σ4 136 p (nI (X.2 p + 1)), nI (X.1 - 1)), rfl, Fr_p i1 (Or.inl (by simp)), rfl, fun q hq => ?_⟩
              dsimp only
              by_cases e : q = p
              · subst e; rw [pt_e, if_pos rfl]
              · rw [pt_k e, if_neg e]; exact i3 q hq)
        obtain ⟨i1, i2, i3⟩ := i4
        dsimp only at i1 i2 i3
        rw [show Ex (d + 5) 213 129 [.ref 112, .int s, .int g, .int (nI r), .int (nI (su ss 8)), .int 0, .int 0, .int (nI (su ss 8))] [] G0 σ3 = _ from e4]
        show ∃ σ', Ex (d + 5) 213 129 [.ref 112, .int s, .int g, .int a, .int (nI (su ss 8)), .int 0, .int (nI 8), .int (nI (su ss 8))] [] G0 σ4 = _ ∧ _
        rw [b213_129]
        have hz0 : (hnd (fun p => decide (0 < ss p)) 8 (r, fun p => if 0 < ss p then qt l ss p else ld p)).1 = 0 := by
          rw [hnd_0]
          have : su (fun p => if decide (0 < ss p) = true then 1 else 0) 8 = su (fun p => if 0 < ss p then 1 else 0) 8 := su_c (fun p _ => by simp)
          rw [this]
          have h5 : l < su (qt l ss) 8 + su (fun p => if 0 < ss p then 1 else 0) 8 := hd3.2
          omega
        have ha : a = 0 := by rw [i2, hz0]; rfl
        simp only [n88, i10, i01, eq_self, if_true, if_false, true_and, false_and, and_true, and_false, not_true, not_false_iff, true_or, or_true, false_or, or_false, ne_eq, not_true_eq_false, not_false_eq_true, ha]
        refine ⟨σ4, rfl, Fr_t fr3 (Fr_m i1 (by decide) (by simp)), fun p hp => ?_, ?_⟩
        · rw [i3 p hp, ← hr]; rfl
        · rw [i1 112 49 (by decide) (by simp), q3, if_neg any, ht]
          exact bI_c ⟨fun h => Or.inl h, fun h => h.elim id (fun h => absurd h any)⟩
  have hshall : su (sh B ω s g) 8 ≤ 7992 := su_bd (fun p hp => (shl p hp).1)
  simp only [nI_le0 (show su (sh B ω s g) 8 < 2 ^ 31 by omega)]
  by_cases z : su (sh B ω s g) 8 = 0
  · simp only [eq_true z, i10, i01, eq_self, if_true, if_false, true_and, false_and, and_true, and_false, not_true, not_false_iff, true_or, or_true, false_or, or_false, ne_eq, not_true_eq_false, not_false_eq_true]
    obtain ⟨σ3, e3, f3, g3⟩ := noneL (pt σ1 112 49 0) (pdN ω) (sh B ω s g) .null .null (by omega) hpd9.2 (fun p hp => by rw [pt_q (by decide)]; exact g1 p hp) z
    have hO : loadO B ω s g = none := by unfold loadO; rw [partS, if_pos z]
    have f3' : Fr SCM [(112, 49)] σ σ3 := Fr_t f2 (Fr_m f3 (by decide) (by simp))
    refine ⟨σ3, ?_, f3', MR_S hM f3' (by decide) (by simp), fun p hp => ?_, ?_⟩
    · rw [e3, bI_F (by show ¬ (loadO B ω s g).isSome = true; rw [hO]; decide)]
    · unfold loadS; rw [hO]; exact g3 p hp
    · rw [f3 112 49 (by decide) (by simp), pt_e, bI_F (fun h => h.1 z)]
  · simp only [eq_false z, i10, i01, eq_self, if_true, if_false, true_and, false_and, and_true, and_false, not_true, not_false_iff, true_or, or_true, false_or, or_false, ne_eq, not_true_eq_false, not_false_eq_true]
    have hc8 : cnt (sh B ω s g) < 9 := by
      have := su_bd (f := fun p => if 0 < sh B ω s g p then 1 else 0) (n := 8) (b := 1) (fun p _ => by split <;> omega)
      unfold cnt; omega
    obtain ⟨σ3, e3, f3, g3, k3⟩ := main 9 (pdN ω) (sh B ω s g) (fun _ => 0) (pt σ1 112 49 0) false .null .null hc8 (by omega) hpd9.2 (by omega) (fun p hp => ⟨by rw [pt_q (by decide)]; exact g1 p hp, (shl p hp).1⟩) (fun p hp => by rw [pt_q (by decide)]; exact g2 p hp) (fun p hp => (shl p hp).2) f2 (by rw [pt_e]; rfl)
    refine ⟨σ3, e3, f3, MR_S hM f3 (by decide) (by simp), g3, ?_⟩
    rw [k3]
    exact bI_c ⟨fun h => ⟨z, h.elim (fun e => by cases e) id⟩, fun h => Or.inr h.2⟩
