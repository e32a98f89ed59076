/-! L3: TOKENS: where they lie -/
def sr (c : Nat) : Nat := if c = 32 ∨ c = 10 then 0 else if (97 ≤ c ∧ c ≤ 122) ∨ (65 ≤ c ∧ c ≤ 90) then 1 else if 48 ≤ c ∧ c ≤ 57 then 2 else 3
theorem sr_3 (c : Nat) : sr c ≤ 3 := by
  unfold sr; split <;> (try split) <;> (try split) <;> omega
theorem in_le {a b c : Nat} (ha : a < 2 ^ 31) (hb : b < 2 ^ 31) (hc : c < 2 ^ 31) : (nI a ≤ nI c ∧ nI c ≤ nI b) = (a ≤ c ∧ c ≤ b) := by
  rw [nJ_le ha hc, nJ_le hc hb]
theorem c_sortOf (d : Nat) (σ : Sig) {c : Nat} (hc : c < 256) : Ex (d + 1) 43 0 [.int (nI c)] [] G0 σ = some (some (.int (nI (sr c))), G0, σ) := by
  have q1 : (nI c = 32) = (c = 32) := nJ_e (b := 32) (by omega) (by omega)
  have q2 : (nI c = 10) = (c = 10) := nJ_e (b := 10) (by omega) (by omega)
  have q3 : ((97 : Int32) ≤ nI c ∧ nI c ≤ 122) = (97 ≤ c ∧ c ≤ 122) := in_le (a := 97) (b := 122) (by omega) (by omega) (by omega)
  have q4 : ((65 : Int32) ≤ nI c ∧ nI c ≤ 90) = (65 ≤ c ∧ c ≤ 90) := in_le (a := 65) (b := 90) (by omega) (by omega) (by omega)
  have q5 : ((48 : Int32) ≤ nI c ∧ nI c ≤ 57) = (48 ≤ c ∧ c ≤ 57) := in_le (a := 48) (b := 57) (by omega) (by omega) (by omega)
  simp only [b43_0, q1, q2, c_within, Option.bind_some, Option.toList_some, Option.toList_none, List.cons_append, List.nil_append, i01a, i01b, if_true, if_false, b43_22, bI_z, bI_o, bI_em, ite_not, q3, q4, b43_33, q5, b43_46]
  unfold sr
  by_cases c1 : c = 32
  · simp only [eq_true c1, i10, i01, eq_self, if_true, if_false, true_and, false_and, and_true, and_false, not_true, not_false_iff, true_or, or_true, false_or, or_false, ne_eq, not_true_eq_false, not_false_eq_true]; rfl
  · by_cases c2 : c = 10
    · simp only [eq_false c1, eq_true c2, i10, i01, eq_self, if_true, if_false, true_and, false_and, and_true, and_false, not_true, not_false_iff, true_or, or_true, false_or, or_false, ne_eq, not_true_eq_false, not_false_eq_true]; rfl
    · by_cases c3 : 97 ≤ c ∧ c ≤ 122
      · simp only [eq_false c1, eq_false c2, eq_true c3, i10, i01, eq_self, if_true, if_false, true_and, false_and, and_true, and_false, not_true, not_false_iff, true_or, or_true, false_or, or_false, ne_eq, not_true_eq_false, not_false_eq_true]; rfl
      · by_cases c4 : 65 ≤ c ∧ c ≤ 90
        · simp only [eq_false c1, eq_false c2, eq_false c3, eq_true c4, i10, i01, eq_self, if_true, if_false, true_and, false_and, and_true, and_false, not_true, not_false_iff, true_or, or_true, false_or, or_false, ne_eq, not_true_eq_false, not_false_eq_true]; rfl
        · by_cases c5 : 48 ≤ c ∧ c ≤ 57
          · simp only [eq_false c1, eq_false c2, eq_false c3, eq_false c4, eq_true c5, i10, i01, eq_self, if_true, if_false, true_and, false_and, and_true, and_false, not_true, not_false_iff, true_or, or_true, false_or, or_false, ne_eq, not_true_eq_false, not_false_eq_true]; rfl
          · simp only [eq_false c1, eq_false c2, eq_false c3, eq_false c4, eq_false c5, i10, i01, eq_self, if_true, if_false, true_and, false_and, and_true, and_false, not_true, not_false_iff, true_or, or_true, false_or, or_false, ne_eq, not_true_eq_false, not_false_eq_true]; rfl
def TPe (b : Nat → Nat) (n : Nat) (σ : Sig) : Prop := n ≤ 400 ∧ σ 53 0 = nI n ∧ (∀ i, i < n → b i < 256 ∧ σ 62 i &&& 255 = nI (b i) ∧ (b i < 128 → σ 62 i = nI (b i)))
def lo (E : Nat → Nat) : Nat → Nat
  | 0 => 0
  | t + 1 => E t
def upN (f : Nat → Nat) (k v : Nat) : Nat → Nat := fun t => if t = k then v else f t
theorem upN_e {f : Nat → Nat} {k v : Nat} : upN f k v k = v := if_pos rfl
theorem upN_n {f : Nat → Nat} {k v t : Nat} (h : t ≠ k) : upN f k v t = f t := if_neg h
theorem lo_u {E : Nat → Nat} {k v t : Nat} (h : t ≤ k) : lo (upN E k v) t = lo E t := by
  cases t with
  | zero => rfl
  | succ t => exact upN_n (by omega)
/-- token t lies from F t to E t, p the end so far -/
def tok1 (s : Nat → Nat) (p : Nat) (F E : Nat → Nat) (t : Nat) : Prop :=
  lo E t ≤ F t ∧ F t < E t ∧ E t ≤ p ∧ (∀ i, lo E t ≤ i → i < F t → s i = 0) ∧ s (F t) ≠ 0 ∧ (s (F t) = 3 → E t = F t + 1) ∧ (s (F t) ≠ 3 → (∀ i, F t ≤ i → i < E t → s i = s (F t)) ∧ (E t = p ∨ s (E t) ≠ s (F t)))
def TOK (s : Nat → Nat) (p N : Nat) (F E : Nat → Nat) : Prop := (∀ t, t < N → tok1 s p F E t) ∧ (∀ i, lo E N ≤ i → i < p → s i = 0) ∧ lo E N ≤ p ∧ N ≤ p
def CUT (s : Nat → Nat) (p last N : Nat) (F E : Nat → Nat) : Prop := (p = 0 → last = 0) ∧ (0 < p → last = s (p - 1)) ∧ TOK s p N F E
theorem cut_b {s : Nat → Nat} {p last N : Nat} {F E : Nat → Nat} (h : CUT s p last N F E) (hs : s p = 0) : CUT s (p + 1) 0 N F E := by
  obtain ⟨h1, h2, h3, h4, h5, h6⟩ := h
  refine ⟨fun _ => rfl, fun _ => by simp [hs], fun t ht => ?_, fun i i1 i2 => ?_, by omega, by omega⟩
  · obtain ⟨a1, a2, a3, a4, a5, a6, a7⟩ := h3 t ht
    refine ⟨a1, a2, by omega, a4, a5, a6, fun k => ⟨(a7 k).1, Or.inr ?_⟩⟩
    rcases (a7 k).2 with e | e
    · rw [e, hs]; exact fun f => a5 f.symm
    · exact e
  · by_cases e : i = p
    · rw [e]; exact hs
    · exact h4 i i1 (by omega)
theorem cut_x {s : Nat → Nat} {p last N : Nat} {F E : Nat → Nat} (h : CUT s p last N F E) (h0 : s p ≠ 0) (hn3 : s p ≠ 3) (hl : s p = last) : 0 < N ∧ CUT s (p + 1) (s p) N F (upN E (N - 1) (p + 1)) := by
  obtain ⟨h1, h2, h3, h4, h5, h6⟩ := h
  have hp : 0 < p := by
    rcases Nat.eq_zero_or_pos p with e | e
    · exact absurd (hl.trans (h1 e)) h0
    · exact e
  have e1 : s (p - 1) = s p := by rw [hl]; exact (h2 hp).symm
  have hlo : lo E N = p := by
    by_cases c : lo E N ≤ p - 1
    · exact absurd ((e1.symm.trans (h4 (p - 1) c (by omega)))) h0
    · omega
  have hN : 0 < N := by
    rcases Nat.eq_zero_or_pos N with e | e
    · rw [e] at hlo; exact absurd hlo (by show ¬ 0 = p; omega)
    · exact e
  have eN : lo E N = E (N - 1) := by
    have : N = (N - 1) + 1 := by omega
    rw [this]; rfl
  have hE : E (N - 1) = p := by omega
  refine ⟨hN, fun e => by omega, fun _ => by simp, fun t ht => ?_, fun i i1 i2 => ?_, ?_, by omega⟩
  · obtain ⟨a1, a2, a3, a4, a5, a6, a7⟩ := h3 t ht
    by_cases e : t = N - 1
    · subst e
      have f3 : s (F (N - 1)) ≠ 3 := by
        intro f
        have : F (N - 1) = p - 1 := by have := a6 f; omega
        rw [this] at f
        exact hn3 (e1.symm.trans f)
      have run := (a7 f3).1
      have e2 := run (p - 1) (by omega) (by omega)
      refine ⟨by rw [lo_u (Nat.le_refl _)]; exact a1, by rw [upN_e]; omega, by rw [upN_e]; exact Nat.le_refl _, by rw [lo_u (Nat.le_refl _)]; exact a4, a5, fun f => absurd f f3, fun _ => ⟨fun i i1 i2 => ?_, Or.inl upN_e⟩⟩
      rw [upN_e] at i2
      by_cases ei : i = p
      · rw [ei, ← e1]; exact e2
      · exact run i i1 (by omega)
    · have ht2 : t + 1 < N := by omega
      have nx := h3 (t + 1) ht2
      have : lo E (t + 1) = E t := rfl
      have lt : E t < p := by have := nx.1; have := nx.2.1; have := nx.2.2.1; omega
      unfold tok1
      rw [lo_u (show t ≤ N - 1 by omega), upN_n e]
      refine ⟨a1, a2, by omega, a4, a5, a6, fun k => ⟨(a7 k).1, Or.inr ?_⟩⟩
      rcases (a7 k).2 with e | e
      · omega
      · exact e
  · have : lo (upN E (N - 1) (p + 1)) N = p + 1 := by
      have e : N = (N - 1) + 1 := by omega
      rw [e]; exact upN_e
    omega
  · have : lo (upN E (N - 1) (p + 1)) N = p + 1 := by
      have e : N = (N - 1) + 1 := by omega
      rw [e]; exact upN_e
    omega
theorem cut_n {s : Nat → Nat} {p last N : Nat} {F E : Nat → Nat} (h : CUT s p last N F E) (h0 : s p ≠ 0) (hn : s p ≠ last ∨ s p = 3) : CUT s (p + 1) (s p) (N + 1) (upN F N p) (upN E N (p + 1)) := by
  obtain ⟨h1, h2, h3, h4, h5, h6⟩ := h
  have eL : lo (upN E N (p + 1)) (N + 1) = p + 1 := upN_e
  refine ⟨fun e => by omega, fun _ => by simp, fun t ht => ?_, fun i i1 i2 => by omega, by omega, by omega⟩
  by_cases e : t = N
  · subst e
    unfold tok1
    rw [lo_u (Nat.le_refl _), upN_e, upN_e]
    refine ⟨h5, by omega, Nat.le_refl _, h4, h0, fun _ => rfl, fun _ => ⟨fun i i1 i2 => ?_, Or.inl rfl⟩⟩
    rw [show i = p by omega]
  · obtain ⟨a1, a2, a3, a4, a5, a6, a7⟩ := h3 t (by omega)
    unfold tok1
    rw [lo_u (show t ≤ N by omega), upN_n e, upN_n e]
    refine ⟨a1, a2, by omega, a4, a5, a6, fun k => ⟨(a7 k).1, Or.inr ?_⟩⟩
    rcases (a7 k).2 with ep | ep
    · have hp : 0 < p := by omega
      have e2 := (a7 k).1 (p - 1) (by omega) (by omega)
      rw [ep]
      rcases hn with hn | hn
      · rw [← e2, ← h2 hp]; exact hn
      · rw [hn]; exact fun f => k f.symm
    · exact ep
theorem c_cut (d : Nat) {σ : Sig} {b : Nat → Nat} {n : Nat} (h : TPe b n σ) (z : σ 53 10 = 0) : ∃ (σ' : Sig) (N : Nat) (F E : Nat → Nat), Ex (d + 2) 42 0 [.ref 53, .null, .null, .null] [] G0 σ = some (none, G0, σ') ∧ TOK (fun i => sr (b i)) n N F E ∧ σ' 53 10 = nI N ∧ (∀ t, t < N → σ' 65 t = nI (F t) ∧ σ' 66 t = nI (E t)) ∧ Fr [65, 66] [(53, 10)] σ σ' := by
  obtain ⟨hn, h0, hb⟩ := h
  rw [b42_0]
  obtain ⟨⟨s, last, v3⟩, e, f, N, F, E, c, hN, hFE⟩ := loop_ex (fun p (x : Sig × Nat × Value) => Ex (d + 2) 42 4 [.ref 53, .int (nI x.2.1), .int (nI p), x.2.2] [] G0 (x.1)) (fun p x => Fr [65, 66] [(53, 10)] σ x.1 ∧ ∃ (N : Nat) (F E : Nat → Nat), CUT (fun i => sr (b i)) p x.2.1 N F E ∧ x.1 53 10 = nI N ∧ (∀ t, t < N → x.1 65 t = nI (F t) ∧ x.1 66 t = nI (E t))) n (σ, 0, .null) ⟨Fr_r, 0, fun _ => 0, fun _ => 0, ⟨fun _ => rfl, fun e => absurd e (Nat.lt_irrefl 0), fun t ht => by omega, fun i _ hi => by omega, Nat.le_refl _, Nat.le_refl _⟩, z, fun t ht => by omega⟩ (by
    rintro p ⟨s, last, v3⟩ hp ⟨f, N, F, E, c, hN, hFE⟩
    show ∃ x' : Sig × Nat × Value, Ex (d + 2) 42 4 [.ref 53, .int (nI last), .int (nI p), v3] [] G0 s = _ ∧ _
    have hN' : N ≤ p := c.2.2.2.2.2
    have hN2 : s 53 10 = nI N := hN
    have f' : Fr [65, 66] [(53, 10)] σ s := f
    have e0 : s 53 0 = nI n := by rw [f' 53 0 (by decide) (by simp)]; exact h0
    have e62 : s 62 p = σ 62 p := f' 62 p (by decide) (by simp)
    obtain ⟨b1, b2, b3⟩ := hb p hp
    have q : (nI n ≤ nI p) = False := by rw [nJ_le (by omega) (by omega)]; exact eq_false (by omega)
    have hl3 : last ≤ 3 := by
      rcases Nat.eq_zero_or_pos p with k | k
      · have := c.1 k; have : last = 0 := this; omega
      · have := c.2.1 k; have e : last = sr (b (p - 1)) := this; rw [e]; exact sr_3 _
    have hs3 := sr_3 (b p)
    have q0 : (nI (sr (b p)) = 0) = (sr (b p) = 0) := nI_z (by omega)
    have q1 : (nI (sr (b p)) = nI last) = (sr (b p) = last) := nJ_e (by omega) (by omega)
    have q2 : (nI (sr (b p)) = 3) = (sr (b p) = 3) := nJ_e (b := 3) (by omega) (by omega)
    have nx : sr (b p) ≠ 0 → (sr (b p) ≠ last ∨ sr (b p) = 3) → ∃ x' : Sig × Nat × Value, Ex (d + 2) 42 40 [.ref 53, .int (nI last), .int (nI p), .int (nI (sr (b p)))] [] G0 s = Ex (d + 2) 42 4 [.ref 53, .int (nI x'.2.1), .int (nI (p + 1)), x'.2.2] [] G0 (x'.1) ∧ (Fr [65, 66] [(53, 10)] σ x'.1 ∧ ∃ (N : Nat) (F E : Nat → Nat), CUT (fun i => sr (b i)) (p + 1) x'.2.1 N F E ∧ x'.1 53 10 = nI N ∧ (∀ t, t < N → x'.1 65 t = nI (F t) ∧ x'.1 66 t = nI (E t))) := by
      intro k0 k1
      have g1 : pt s 65 N (nI p) 53 10 = nI N := by rw [pt_q (by decide)]; exact hN2
      have g2 : pt (pt s 65 N (nI p)) 53 10 (nI (N + 1)) 53 10 - 1 = nI N := by rw [pt_e]; exact nI_p1 (by omega)
      rw [b42_40]
      simp only [hN2, inb_n (show N < 401 by omega) (show N < 2 ^ 31 by omega), nI_c (show N < 2 ^ 31 by omega), g1, nI_s, g2, i10, i01, eq_self, if_true, if_false, true_and, false_and, and_true, and_false, not_true, not_false_iff, true_or, or_true, false_or, or_false, ne_eq, not_true_eq_false, not_false_eq_true, b42_79]
      refine ⟨(_, sr (b p), .int (nI (sr (b p)))), rfl, Fr_p (Fr_p (Fr_p f' (Or.inl (by simp))) (Or.inr (by simp))) (Or.inl (by simp)), N + 1, _, _, cut_n c k0 k1, ?_, fun t ht => ?_⟩
      · show pt (pt (pt s 65 N (nI p)) 53 10 (nI (N + 1))) 66 N (nI (p + 1)) 53 10 = _
        rw [pt_q (by decide), pt_e]
      · show pt (pt (pt s 65 N (nI p)) 53 10 (nI (N + 1))) 66 N (nI (p + 1)) 65 t = _ ∧ pt (pt (pt s 65 N (nI p)) 53 10 (nI (N + 1))) 66 N (nI (p + 1)) 66 t = _
        by_cases e : t = N
        · subst e; rw [upN_e, upN_e, pt_q (by decide), pt_q (by decide), pt_e, pt_e]; exact ⟨rfl, rfl⟩
        · rw [upN_n e, upN_n e, pt_q (by decide), pt_q (by decide), pt_k e, pt_k e, pt_q (by decide), pt_q (by decide)]
          exact hFE t (by omega)
    rw [b42_4]
    simp only [e0, q, i10, i01, eq_self, if_true, if_false, true_and, false_and, and_true, and_false, not_true, not_false_iff, true_or, or_true, false_or, or_false, ne_eq, not_true_eq_false, not_false_eq_true, inb_n (show p < 400 by omega) (show p < 2 ^ 31 by omega), nI_c (show p < 2 ^ 31 by omega), e62, b2, c_sortOf d s b1, Option.bind_some, Option.toList_some, Option.toList_none, List.cons_append, List.nil_append, i01a, i01b, if_true, if_false, b42_25, q0, q1, q2]
    by_cases k0 : sr (b p) = 0
    · simp only [eq_true k0, i10, i01, eq_self, if_true, if_false, true_and, false_and, and_true, and_false, not_true, not_false_iff, true_or, or_true, false_or, or_false, ne_eq, not_true_eq_false, not_false_eq_true, b42_79, nI_s]
      have k0' : nI (sr (b p)) = nI 0 := by rw [k0]
      refine ⟨(s, 0, .int (nI 0)), by rw [k0'], f', N, F, E, cut_b c k0, hN, hFE⟩
    · simp only [eq_false k0, i10, i01, eq_self, if_true, if_false, true_and, false_and, and_true, and_false, not_true, not_false_iff, true_or, or_true, false_or, or_false, ne_eq, not_true_eq_false, not_false_eq_true]
      by_cases k1 : sr (b p) = last
      · simp only [eq_true k1, i10, i01, eq_self, if_true, if_false, true_and, false_and, and_true, and_false, not_true, not_false_iff, true_or, or_true, false_or, or_false, ne_eq, not_true_eq_false, not_false_eq_true]
        by_cases k2 : sr (b p) = 3
        · have k2' : last = 3 := k1.symm.trans k2
          have := nx k0 (Or.inr k2)
          simp only [eq_true k2', eq_true k2, i10, i01, eq_self, if_true, if_false, true_and, false_and, and_true, and_false, not_true, not_false_iff, true_or, or_true, false_or, or_false, ne_eq, not_true_eq_false, not_false_eq_true]
          exact this
        · obtain ⟨hN0, cx⟩ := cut_x c k0 k2 k1
          have k2' : ¬ last = 3 := fun e => k2 (k1.trans e)
          have g3 : nI N - 1 = nI (N - 1) := nI_p1 (by omega)
          simp only [eq_false k2', eq_false k2, i10, i01, eq_self, if_true, if_false, true_and, false_and, and_true, and_false, not_true, not_false_iff, true_or, or_true, false_or, or_false, ne_eq, not_true_eq_false, not_false_eq_true, hN2, g3, inb_n (show N - 1 < 401 by omega) (show N - 1 < 2 ^ 31 by omega), nI_c (show N - 1 < 2 ^ 31 by omega), nI_s, b42_79]
          refine ⟨(_, sr (b p), .int (nI (sr (b p)))), rfl, Fr_p f' (Or.inl (by simp)), N, _, _, cx, ?_, fun t ht => ?_⟩
          · show pt s 66 (N - 1) (nI (p + 1)) 53 10 = _
            rw [pt_q (by decide)]; exact hN2
          · show pt s 66 (N - 1) (nI (p + 1)) 65 t = _ ∧ pt s 66 (N - 1) (nI (p + 1)) 66 t = _
            by_cases e : t = N - 1
            · subst e; rw [upN_e, pt_q (by decide), pt_e]; exact ⟨(hFE (N - 1) (by omega)).1, rfl⟩
            · rw [upN_n e, pt_q (by decide), pt_k e]; exact hFE t ht
      · simp only [eq_false k1, i10, i01, eq_self, if_true, if_false, true_and, false_and, and_true, and_false, not_true, not_false_iff, true_or, or_true, false_or, or_false, ne_eq, not_true_eq_false, not_false_eq_true]
        exact nx k0 (Or.inl k1))
  rw [show Ex (d + 2) 42 4 [.ref 53, .int 0, .int 0, .null] [] G0 σ = _ from e]
  show ∃ (σ' : Sig) (N : Nat) (F E : Nat → Nat), Ex (d + 2) 42 4 [.ref 53, .int (nI last), .int (nI n), v3] [] G0 s = _ ∧ _
  have f' : Fr [65, 66] [(53, 10)] σ s := f
  have e0 : s 53 0 = nI n := by rw [f' 53 0 (by decide) (by simp)]; exact h0
  have q : (nI n ≤ nI n) = True := by rw [nJ_le (by omega) (by omega)]; exact eq_true (by omega)
  rw [b42_4]
  simp only [e0, q, i10, i01, eq_self, if_true, if_false, true_and, false_and, and_true, and_false, not_true, not_false_iff, true_or, or_true, false_or, or_false, ne_eq, not_true_eq_false, not_false_eq_true]
  exact ⟨s, N, F, E, rfl, c.2.2, hN, hFE, f'⟩
