/-! L3: ORDER, the model -/
theorem m_beginsWays (d : Nat) {B T : LW} {ω σ : Sig} {h : Nat → Bool} {a : Int32} (hM : MR B T ω σ) (ha : isM a h) : ∃ σ', Ex (d + 1) 237 0 [.ref 112, .int a, .null] [] G0 σ = some (none, G0, σ') ∧ TS ω h [] 0 σ' ∧ σ' 112 53 = 0 ∧ Fr [139, 140] [(112, 53)] σ σ' := by
  rw [b237_0]
  obtain ⟨s, e, f, i1, i2⟩ := loop_ex (fun p (s : Sig) => Ex (d + 1) 237 2 [.ref 112, .int a, .int (nI p)] [] G0 s) (fun p s => Fr [139, 140] [(112, 53)] σ s ∧ (∀ q, q < p → s 139 q = if h q = true then ω 9 q else -1) ∧ (∀ q, q < p → s 140 q = -1)) 8 σ ⟨Fr_r, fun q hq => by omega, fun q hq => by omega⟩ (by
    rintro p s hp ⟨f, i1, i2⟩
    show ∃ s', Ex (d + 1) 237 2 [.ref 112, .int a, .int (nI p)] [] G0 s = _ ∧ _
    have hMs : MR B T ω s := MR_S hM f (by decide) (by decide)
    rw [b237_2]
    simp only [n8 hp, i10, i01, eq_self, if_true, if_false, true_and, false_and, and_true, and_false, not_true, not_false_iff, true_or, or_true, false_or, or_false, ne_eq, not_true_eq_false, not_false_eq_true, b237_8, M_t1 ha hp, m_who d hMs hp, Option.bind_some, Option.toList_some, Option.toList_none, List.cons_append, List.nil_append, i01a, i01b, if_true, if_false, b237_27, i8 hp, c8 hp, nI_s]
    have nx : ∀ v, v = (if h p = true then ω 9 p else -1) → Fr [139, 140] [(112, 53)] σ (pt (pt s 139 p v) 140 p (-1)) ∧ (∀ q, q < p + 1 → pt (pt s 139 p v) 140 p (-1) 139 q = if h q = true then ω 9 q else -1) ∧ (∀ q, q < p + 1 → pt (pt s 139 p v) 140 p (-1) 140 q = -1) := by
      intro v ev
      refine ⟨Fr_p (Fr_p f (Or.inl (by simp))) (Or.inl (by simp)), fun q hq => ?_, fun q hq => ?_⟩
      · rw [pt_q (by decide)]
        by_cases e : q = p
        · subst e; rw [pt_e]; exact ev
        · rw [pt_k e]; exact i1 q (by omega)
      · by_cases e : q = p
        · subst e; rw [pt_e]
        · rw [pt_k e, pt_q (by decide)]; exact i2 q (by omega)
    by_cases k : h p = true
    · simp only [eq_true k, i10, i01, eq_self, if_true, if_false, true_and, false_and, and_true, and_false, not_true, not_false_iff, true_or, or_true, false_or, or_false, ne_eq, not_true_eq_false, not_false_eq_true]
      exact ⟨_, rfl, nx _ (by rw [if_pos k])⟩
    · simp only [eq_false k, i10, i01, eq_self, if_true, if_false, true_and, false_and, and_true, and_false, not_true, not_false_iff, true_or, or_true, false_or, or_false, ne_eq, not_true_eq_false, not_false_eq_true]
      exact ⟨_, rfl, nx _ (by rw [if_neg k])⟩)
  rw [show Ex (d + 1) 237 2 [.ref 112, .int a, .int 0] [] G0 σ = _ from e]
  show ∃ σ', Ex (d + 1) 237 2 [.ref 112, .int a, .int (nI 8)] [] G0 s = _ ∧ _
  rw [b237_2]
  simp only [n88, i10, i01, eq_self, if_true, if_false, true_and, false_and, and_true, and_false, not_true, not_false_iff, true_or, or_true, false_or, or_false, ne_eq, not_true_eq_false, not_false_eq_true, b237_45]
  refine ⟨_, rfl, ⟨?_, ?_, by rw [pt_q (by decide)]; exact i1, fun p hp => by simp at hp, fun p _ hp => by rw [pt_q (by decide)]; exact i2 p hp⟩, pt_e, Fr_p f (Or.inr (by simp))⟩
  · rw [pt_k (by decide), f 112 7 (by decide) (by decide)]; exact hM 1
  · rw [pt_k (by decide), f 112 12 (by decide) (by decide)]; exact hM 6
/-- worlds that differ in who is at the places alone -/
def Tq (ω w : Sig) : Prop := (∀ q, q ≠ 9 → w q = ω q) ∧ ∀ p, np ω ≤ p → w 9 p = ω 9 p
theorem Tq_r {ω : Sig} : Tq ω ω := ⟨fun _ _ => rfl, fun _ _ => rfl⟩
theorem Tq_w {ω : Sig} {pre : List Nat} : Tq ω (tw ω pre) := ⟨fun _ h => tw_q h, fun _ h => tw_o h⟩
theorem MR_w9 {B T : LW} {ω ω' σ σ' : Sig} (hM : MR B T ω σ) (q : ∀ q, q ≠ 9 → ω' q = ω q) (e : ∀ q, q ≠ 113 → σ' q = σ q) (e13 : ∀ k, k < 7 ∨ 15 ≤ k → σ' 113 k = σ 113 k) (h14 : ∀ p, p < 8 → σ' 113 (7 + p) = ω' 9 p + 1) : MR B T ω' σ' := by
  have q1 := q 1 (by decide)
  have q2 := q 2 (by decide)
  have q3 := q 3 (by decide)
  have q4 := q 4 (by decide)
  have q5 := q 5 (by decide)
  have q6 := q 6 (by decide)
  have q7 := q 7 (by decide)
  have q8 := q 8 (by decide)
  have q10 := q 10 (by decide)
  have q11 := q 11 (by decide)
  have q12 := q 12 (by decide)
  have q13 := q 13 (by decide)
  have q14 := q 14 (by decide)
  have q17 := q 17 (by decide)
  have q20 := q 20 (by decide)
  have q21 := q 21 (by decide)
  have q22 := q 22 (by decide)
  have q23 := q 23 (by decide)
  have q24 := q 24 (by decide)
  have q25 := q 25 (by decide)
  have q26 := q 26 (by decide)
  have f0 := e13 0 (by omega)
  have f1 := e13 1 (by omega)
  have f2 := e13 2 (by omega)
  have f3 := e13 3 (by omega)
  have f4 := e13 4 (by omega)
  have f5 := e13 5 (by omega)
  have f6 := e13 6 (by omega)
  intro i
  have h := hM i
  match i, h with
  | 0, h => (simp only [mr] at h ⊢; (try simp (disch := decide) only [q1, q2, q3, q4, q5, q6, q7, q8, q10, q11, q12, q13, q14, q17, q20, q21, q22, q23, q24, q25, q26, f0, f1, f2, f3, f4, f5, f6, e, wl, paced]); first | done | exact h)
  | 1, h => (simp only [mr] at h ⊢; (try simp (disch := decide) only [q1, q2, q3, q4, q5, q6, q7, q8, q10, q11, q12, q13, q14, q17, q20, q21, q22, q23, q24, q25, q26, f0, f1, f2, f3, f4, f5, f6, e, wl, paced]); first | done | exact h)
  | 2, h => (simp only [mr] at h ⊢; (try simp (disch := decide) only [q1, q2, q3, q4, q5, q6, q7, q8, q10, q11, q12, q13, q14, q17, q20, q21, q22, q23, q24, q25, q26, f0, f1, f2, f3, f4, f5, f6, e, wl, paced]); first | done | exact h)
  | 3, h => (simp only [mr] at h ⊢; (try simp (disch := decide) only [q1, q2, q3, q4, q5, q6, q7, q8, q10, q11, q12, q13, q14, q17, q20, q21, q22, q23, q24, q25, q26, f0, f1, f2, f3, f4, f5, f6, e, wl, paced]); first | done | exact h)
  | 4, h => (simp only [mr] at h ⊢; (try simp (disch := decide) only [q1, q2, q3, q4, q5, q6, q7, q8, q10, q11, q12, q13, q14, q17, q20, q21, q22, q23, q24, q25, q26, f0, f1, f2, f3, f4, f5, f6, e, wl, paced]); first | done | exact h)
  | 5, h => (simp only [mr] at h ⊢; (try simp (disch := decide) only [q1, q2, q3, q4, q5, q6, q7, q8, q10, q11, q12, q13, q14, q17, q20, q21, q22, q23, q24, q25, q26, f0, f1, f2, f3, f4, f5, f6, e, wl, paced]); first | done | exact h)
  | 6, h => (simp only [mr] at h ⊢; (try simp (disch := decide) only [q1, q2, q3, q4, q5, q6, q7, q8, q10, q11, q12, q13, q14, q17, q20, q21, q22, q23, q24, q25, q26, f0, f1, f2, f3, f4, f5, f6, e, wl, paced]); first | done | exact h)
  | 7, h => (simp only [mr] at h ⊢; (try simp (disch := decide) only [q1, q2, q3, q4, q5, q6, q7, q8, q10, q11, q12, q13, q14, q17, q20, q21, q22, q23, q24, q25, q26, f0, f1, f2, f3, f4, f5, f6, e, wl, paced]); first | done | exact h)
  | 8, h => (simp only [mr] at h ⊢; (try simp (disch := decide) only [q1, q2, q3, q4, q5, q6, q7, q8, q10, q11, q12, q13, q14, q17, q20, q21, q22, q23, q24, q25, q26, f0, f1, f2, f3, f4, f5, f6, e, wl, paced]); first | done | exact h)
  | 9, h => (simp only [mr] at h ⊢; (try simp (disch := decide) only [q1, q2, q3, q4, q5, q6, q7, q8, q10, q11, q12, q13, q14, q17, q20, q21, q22, q23, q24, q25, q26, f0, f1, f2, f3, f4, f5, f6, e, wl, paced]); first | done | exact h)
  | 10, h => (simp only [mr] at h ⊢; (try simp (disch := decide) only [q1, q2, q3, q4, q5, q6, q7, q8, q10, q11, q12, q13, q14, q17, q20, q21, q22, q23, q24, q25, q26, f0, f1, f2, f3, f4, f5, f6, e, wl, paced]); first | done | exact h)
  | 11, h => (simp only [mr] at h ⊢; (try simp (disch := decide) only [q1, q2, q3, q4, q5, q6, q7, q8, q10, q11, q12, q13, q14, q17, q20, q21, q22, q23, q24, q25, q26, f0, f1, f2, f3, f4, f5, f6, e, wl, paced]); first | done | exact h)
  | 12, h => (simp only [mr] at h ⊢; (try simp (disch := decide) only [q1, q2, q3, q4, q5, q6, q7, q8, q10, q11, q12, q13, q14, q17, q20, q21, q22, q23, q24, q25, q26, f0, f1, f2, f3, f4, f5, f6, e, wl, paced]); first | done | exact h)
  | 13, h => (simp only [mr] at h ⊢; (try simp (disch := decide) only [q1, q2, q3, q4, q5, q6, q7, q8, q10, q11, q12, q13, q14, q17, q20, q21, q22, q23, q24, q25, q26, f0, f1, f2, f3, f4, f5, f6, e, wl, paced]); first | done | exact h)
  | 14, h => (exact h14)
  | 15, h => (intro p hp; rw [e13 (15 + p) (by omega), q10]; exact h p hp)
  | 16, h => (intro p hp; rw [e13 (23 + p) (by omega), q7]; exact h p hp)
  | 17, h => (simp only [mr] at h ⊢; (try simp (disch := decide) only [q1, q2, q3, q4, q5, q6, q7, q8, q10, q11, q12, q13, q14, q17, q20, q21, q22, q23, q24, q25, q26, f0, f1, f2, f3, f4, f5, f6, e, wl, paced]); first | done | exact h)
  | 18, h => (simp only [mr] at h ⊢; (try simp (disch := decide) only [q1, q2, q3, q4, q5, q6, q7, q8, q10, q11, q12, q13, q14, q17, q20, q21, q22, q23, q24, q25, q26, f0, f1, f2, f3, f4, f5, f6, e, wl, paced]); first | done | exact h)
  | 19, h => (simp only [mr] at h ⊢; (try simp (disch := decide) only [q1, q2, q3, q4, q5, q6, q7, q8, q10, q11, q12, q13, q14, q17, q20, q21, q22, q23, q24, q25, q26, f0, f1, f2, f3, f4, f5, f6, e, wl, paced]); first | done | exact h)
  | 20, h => (simp only [mr] at h ⊢; (try simp (disch := decide) only [q1, q2, q3, q4, q5, q6, q7, q8, q10, q11, q12, q13, q14, q17, q20, q21, q22, q23, q24, q25, q26, f0, f1, f2, f3, f4, f5, f6, e, wl, paced]); first | done | exact h)
  | 21, h => (simp only [mr] at h ⊢; (try simp (disch := decide) only [q1, q2, q3, q4, q5, q6, q7, q8, q10, q11, q12, q13, q14, q17, q20, q21, q22, q23, q24, q25, q26, f0, f1, f2, f3, f4, f5, f6, e, wl, paced]); first | done | exact h)
  | 22, h => (simp only [mr] at h ⊢; (try simp (disch := decide) only [q1, q2, q3, q4, q5, q6, q7, q8, q10, q11, q12, q13, q14, q17, q20, q21, q22, q23, q24, q25, q26, f0, f1, f2, f3, f4, f5, f6, e, wl, paced]); first | done | exact h)
  | 23, h => (simp only [mr] at h ⊢; (try simp (disch := decide) only [q1, q2, q3, q4, q5, q6, q7, q8, q10, q11, q12, q13, q14, q17, q20, q21, q22, q23, q24, q25, q26, f0, f1, f2, f3, f4, f5, f6, e, wl, paced]); first | done | exact h)
  | 24, h => (simp only [mr] at h ⊢; (try simp (disch := decide) only [q1, q2, q3, q4, q5, q6, q7, q8, q10, q11, q12, q13, q14, q17, q20, q21, q22, q23, q24, q25, q26, f0, f1, f2, f3, f4, f5, f6, e, wl, paced]); first | done | exact h)
  | 25, h => (simp only [mr] at h ⊢; (try simp (disch := decide) only [q1, q2, q3, q4, q5, q6, q7, q8, q10, q11, q12, q13, q14, q17, q20, q21, q22, q23, q24, q25, q26, f0, f1, f2, f3, f4, f5, f6, e, wl, paced]); first | done | exact h)
  | 26, h => (simp only [mr] at h ⊢; (try simp (disch := decide) only [q1, q2, q3, q4, q5, q6, q7, q8, q10, q11, q12, q13, q14, q17, q20, q21, q22, q23, q24, q25, q26, f0, f1, f2, f3, f4, f5, f6, e, wl, paced]); first | done | exact h)
  | 27, h => (simp only [mr] at h ⊢; (try simp (disch := decide) only [q1, q2, q3, q4, q5, q6, q7, q8, q10, q11, q12, q13, q14, q17, q20, q21, q22, q23, q24, q25, q26, f0, f1, f2, f3, f4, f5, f6, e, wl, paced]); first | done | exact h)
  | 28, h => (simp only [mr] at h ⊢; (try simp (disch := decide) only [q1, q2, q3, q4, q5, q6, q7, q8, q10, q11, q12, q13, q14, q17, q20, q21, q22, q23, q24, q25, q26, f0, f1, f2, f3, f4, f5, f6, e, wl, paced]); first | done | exact h)
  | 29, h => (simp only [mr] at h ⊢; (try simp (disch := decide) only [q1, q2, q3, q4, q5, q6, q7, q8, q10, q11, q12, q13, q14, q17, q20, q21, q22, q23, q24, q25, q26, f0, f1, f2, f3, f4, f5, f6, e, wl, paced]); first | done | exact h)
  | 30, h => (simp only [mr] at h ⊢; (try simp (disch := decide) only [q1, q2, q3, q4, q5, q6, q7, q8, q10, q11, q12, q13, q14, q17, q20, q21, q22, q23, q24, q25, q26, f0, f1, f2, f3, f4, f5, f6, e, wl, paced]); first | done | exact h)
  | _ + 31, _ => trivial
theorem m_sets (d : Nat) {B T : LW} {ω w0 σ : Sig} {h : Nat → Bool} {w : List Nat} (hW : WI B T ω) (q0 : Tq ω w0) (hM : MR B T w0 σ) (hl : w.length = np ω) (t : TS ω h w (np ω) σ) : ∃ σ', Ex (d + 2) 240 0 [.ref 112, .null] [] G0 σ = some (none, G0, σ') ∧ MR B T (tw ω w) σ' ∧ Fr [113] [] σ σ' := by
  obtain ⟨n4, n8', en⟩ := WI_np hW
  rw [b240_0]
  obtain ⟨s, e, f, i1, i2⟩ := loop_ex (fun p (s : Sig) => Ex (d + 2) 240 2 [.ref 112, .int (nI p)] [] G0 s) (fun p s => Fr [113] [] σ s ∧ (∀ q, q < p → s 113 (7 + q) = nI (wv w q + 1)) ∧ (∀ k, k < 7 ∨ 7 + p ≤ k → s 113 k = σ 113 k)) (np ω) σ ⟨Fr_r, fun q hq => by omega, fun q hq => rfl⟩ (by
    rintro p s hp ⟨f, i1, i2⟩
    show ∃ s', Ex (d + 2) 240 2 [.ref 112, .int (nI p)] [] G0 s = _ ∧ _
    have p8 : p < 8 := by omega
    have ts : TS ω h w (np ω) s := TS_fr t f (by decide) (by simp)
    have qq : (nI (np ω) ≤ nI p) = False := by rw [nJ_le (by omega) (by omega)]; exact eq_false (by omega)
    have e7 : (7 : Int32) + nI p = nI (7 + p) := (Int32.ofNat_add 7 p).symm
    rw [b240_2, m_places, TS_pl hW ts]
    simp only [Option.bind_some, Option.toList_some, Option.toList_none, List.cons_append, List.nil_append, i01a, i01b, if_true, if_false, b240_7, qq, i10, i01, eq_self, if_true, if_false, true_and, false_and, and_true, and_false, not_true, not_false_iff, true_or, or_true, false_or, or_false, ne_eq, not_true_eq_false, not_false_eq_true, i8 p8, c8 p8, e7, inb_n (show 7 + p < 31 by omega) (by omega), nI_c (show 7 + p < 2 ^ 31 by omega), nI_s]
    refine ⟨_, rfl, Fr_p f (Or.inl (by simp)), fun q hq => ?_, fun k hk => ?_⟩
    · by_cases e : q = p
      · subst e; rw [pt_e, ts.2.2.2.1 q (by omega), nI_s]
      · rw [pt_k (by omega)]; exact i1 q (by omega)
    · rw [pt_k (by omega)]; exact i2 k (by omega))
  rw [show Ex (d + 2) 240 2 [.ref 112, .int 0] [] G0 σ = _ from e]
  show ∃ σ', Ex (d + 2) 240 2 [.ref 112, .int (nI (np ω))] [] G0 s = _ ∧ _
  have ts : TS ω h w (np ω) s := TS_fr t f (by decide) (by simp)
  have q : (nI (np ω) ≤ nI (np ω)) = True := by rw [nJ_le (by omega) (by omega)]; exact eq_true (by omega)
  rw [b240_2, m_places, TS_pl hW ts]
  simp only [Option.bind_some, Option.toList_some, Option.toList_none, List.cons_append, List.nil_append, i01a, i01b, if_true, if_false, b240_7, q, i10, i01, eq_self, if_true, if_false, true_and, false_and, and_true, and_false, not_true, not_false_iff, true_or, or_true, false_or, or_false, ne_eq, not_true_eq_false, not_false_eq_true]
  refine ⟨s, rfl, MR_w9 hM (fun q hq => by rw [tw_q hq, q0.1 q hq]) (fun q hq => Fr_q f (by simp; omega) (by simp)) (fun k hk => i2 k (by omega)) (fun p hp => ?_), f⟩
  by_cases k : p < np ω
  · rw [i1 p k, tw_k k, nI_s]
  · rw [i2 (7 + p) (by omega), tw_o (by omega), ← q0.2 p (by omega)]
    exact hM 14 p hp
def moA (st : Option (Nat × List Nat)) : Int32 := match st with
  | none => 1000000
  | some x => nI x.1
def KB (ω : Sig) (st : Option (Nat × List Nat)) (σ : Sig) : Prop := ∀ x, st = some x → x.1 ≤ 1000 ∧ ∀ p, p < np ω → σ 141 p = nI (wv x.2 p)
theorem KB_q {ω : Sig} {st : Option (Nat × List Nat)} {σ σ' : Sig} (k : KB ω st σ) (e : σ' 141 = σ 141) : KB ω st σ' := fun x hx => ⟨(k x hx).1, by rw [e]; exact (k x hx).2⟩
theorem moA_lt {st : Option (Nat × List Nat)} {n : Nat} (hn : n ≤ 1000) (hb : ∀ x, st = some x → x.1 ≤ 1000) : (nI n < moA st) = (∀ x, st = some x → n < x.1) := by
  cases st with
  | none =>
    have : (nI n < moA none) = (n < 1000000) := nJ_lt (b := 1000000) (by omega) (by omega)
    rw [this]; exact propext ⟨fun _ x hx => (by cases hx), fun _ => by omega⟩
  | some x =>
    have hx := hb x rfl
    have : (nI n < moA (some x)) = (n < x.1) := nJ_lt (by omega) (by omega)
    rw [this]; exact propext ⟨fun h y hy => by cases hy; exact h, fun h => h x rfl⟩
def SCN : List Nat := [113, 134, 135, 136, 137, 140, 141]
def SLN : List (Nat × Nat) := [(112, 49), (112, 53)]
theorem RemS_fr {ω : Sig} {h : Nat → Bool} {L : List (List Nat)} {σ σ' : Sig} {S : List Nat} {U : List (Nat × Nat)} (r : RemS ω h L σ) (f : Fr S U σ σ') (h1 : 112 ∉ S ∧ 139 ∉ S ∧ 140 ∉ S) (h2 : (112, 7) ∉ U ∧ (112, 12) ∉ U ∧ ∀ x ∈ U, x.1 ≠ 139 ∧ x.1 ≠ 140) (h3 : (112, 53) ∉ U) : RemS ω h L σ' := by
  have e53 := f 112 53 h1.1 h3
  rcases r with ⟨t, a, b⟩ | ⟨w, a, b, t, c, e⟩
  · exact Or.inl ⟨TS_fr t f h1 h2, by rw [e53]; exact a, b⟩
  · exact Or.inr ⟨w, a, b, TS_fr t f h1 h2, by rw [e53]; exact c, e⟩
theorem m_leastL {B T : LW} {ω : Sig} {h : Nat → Bool} (hW : WI B T ω) (hh : ∀ o, o < 8 → h o = true → ω 9 o ≠ -1) (a1 : Int32) (d : Nat) (R : Int32 → Value → Sig → Option Out) (hR : ∀ a v s, Ex (d + 6) 242 17 [.ref 112, .int a1, .int a, v] [.int 0] G0 s = R a v s) : ∀ L st σ w0 a3, RemS ω h L σ → Tq ω w0 → MR B T w0 σ → KB ω st σ → ∃ σ' a3', Ex (d + 6) 242 13 [.ref 112, .int a1, .int (moA st), a3] [] G0 σ = R (moA (fdl (jO B ω) L st)) a3' σ' ∧ KB ω (fdl (jO B ω) L st) σ' ∧ Fr SCN SLN σ σ' := by
  obtain ⟨n4, n8', en⟩ := WI_np hW
  intro L
  induction L with
  | nil =>
    intro st σ w0 a3 r q0 hM kb
    obtain ⟨σ1, e1, f1⟩ := (m_nextWay (d + 2) hW hh r).1 rfl
    have e1' : Ex (d + 5) 239 0 [.ref 112, .null] [] G0 σ = some (some (.int 0), G0, σ1) := e1
    rw [b242_13, e1']
    simp only [Option.bind_some, Option.toList_some, Option.toList_none, List.cons_append, List.nil_append, i01a, i01b, if_true, if_false]
    exact ⟨σ1, a3, hR _ _ _, KB_q kb (Fr_q f1 (by decide) (by decide)), Fr_m f1 (by decide) (by decide)⟩
  | cons w L ih =>
    intro st σ w0 a3 r q0 hM kb
    obtain ⟨σ1, e1, hl, hv, t1, r1, f1⟩ := (m_nextWay (d + 2) hW hh r).2 w L rfl
    have e1' : Ex (d + 5) 239 0 [.ref 112, .null] [] G0 σ = some (some (.int 1), G0, σ1) := e1
    have hM1 : MR B T w0 σ1 := MR_S hM f1 (by decide) (by decide)
    obtain ⟨σ2, e2, hM2, f2⟩ := m_sets (d + 3) hW q0 hM1 hl t1
    have e2' : Ex (d + 5) 240 0 [.ref 112, .null] [] G0 σ1 = some (none, G0, σ2) := e2
    have hWt := WI_tw hW hl hv
    obtain ⟨σ3, e3, f3, hM3, l3, k3⟩ := m_bears d hM2 hWt bw0 0
    obtain ⟨v, ev, hvs⟩ := m_spread (d + 1) (s := 0) (g := 0) hM3 hWt l3
    have ev' : Ex (d + 5) 214 0 [.ref 112, .int 0, .null, .null, .null] [] G0 σ3 = some (some (.int v), G0, σ3) := ev
    have r3 : RemS ω h L σ3 := RemS_fr (RemS_fr r1 f2 (by decide) (by simp) (by simp)) f3 (by decide) (by simp) (by simp)
    have t3 : TS ω h w (np ω) σ3 := TS_fr (TS_fr t1 f2 (by decide) (by simp)) f3 (by decide) (by simp)
    have F3 : Fr SCN SLN σ σ3 := Fr_t (Fr_m f1 (by decide) (by decide)) (Fr_t (Fr_m f2 (by decide) (by simp)) (Fr_m f3 (by decide) (by decide)))
    have kb3 : KB ω st σ3 := KB_q kb (by rw [Fr_q f3 (by decide) (by decide), Fr_q f2 (by decide) (by simp), Fr_q f1 (by decide) (by decide)])
    have skip : jO B ω w st = st → ∃ σ' a3', Ex (d + 6) 242 13 [.ref 112, .int a1, .int (moA st), a3] [] G0 σ3 = R (moA (fdl (jO B ω) (w :: L) st)) a3' σ' ∧ KB ω (fdl (jO B ω) (w :: L) st) σ' ∧ Fr SCN SLN σ σ' := by
      intro ej
      obtain ⟨σ', a3', g1, g2, g3⟩ := ih st σ3 (tw ω w) a3 r3 Tq_w hM3 kb3
      have : fdl (jO B ω) (w :: L) st = fdl (jO B ω) L st := by show fdl (jO B ω) L (jO B ω w st) = _; rw [ej]
      rw [this]
      exact ⟨σ', a3', g1, g2, Fr_t F3 g3⟩
    rw [b242_13, e1']
    simp only [Option.bind_some, Option.toList_some, Option.toList_none, List.cons_append, List.nil_append, i01a, i01b, if_true, if_false, b242_17, i10, i10, i01, eq_self, if_true, if_false, true_and, false_and, and_true, and_false, not_true, not_false_iff, true_or, or_true, false_or, or_false, ne_eq, not_true_eq_false, not_false_eq_true, e2', b242_24, e3, b242_30, bI_z, bI_o, bI_em, ite_not, k3]
    by_cases hb : bearS B (tw ω w) 0 0
    · by_cases ha : askdS B (tw ω w) 0 0
      · simp only [eq_true hb, eq_true ha, i10, i01, eq_self, if_true, if_false, true_and, false_and, and_true, and_false, not_true, not_false_iff, true_or, or_true, false_or, or_false, ne_eq, not_true_eq_false, not_false_eq_true]
        exact skip (jO_n (fun e => e.2.1 ha))
      · obtain ⟨es, hs⟩ := spread_n hWt hb
        have evs := hvs hb
        rw [es] at evs
        simp only [eq_true hb, eq_false ha, i10, i01, eq_self, if_true, if_false, true_and, false_and, and_true, and_false, not_true, not_false_iff, true_or, or_true, false_or, or_false, ne_eq, not_true_eq_false, not_false_eq_true, ev', Option.bind_some, Option.toList_some, Option.toList_none, List.cons_append, List.nil_append, i01a, i01b, if_true, if_false, b242_45, evs, moA_lt hs (fun x hx => (kb x hx).1)]
        by_cases c : ∀ x, st = some x → spN B (tw ω w) < x.1
        · have ej := jO_y (st := st) ⟨hb, ha, c⟩
          simp only [eq_true c, i10, i01, eq_self, if_true, if_false, true_and, false_and, and_true, and_false, not_true, not_false_iff, true_or, or_true, false_or, or_false, ne_eq, not_true_eq_false, not_false_eq_true, ev', evs, Option.bind_some, Option.toList_some, Option.toList_none, List.cons_append, List.nil_append, i01a, i01b, if_true, if_false, b242_57]
          obtain ⟨s, e, f, i1⟩ := loop_ex (fun p (s : Sig) => Ex (d + 6) 242 60 [.ref 112, .int a1, .int (nI (spN B (tw ω w))), .int (nI p)] [] G0 s) (fun p s => Fr [141] [] σ3 s ∧ (∀ q, q < p → s 141 q = nI (wv w q))) (np ω) σ3 ⟨Fr_r, fun q hq => by omega⟩ (by
            rintro p s hp ⟨f, i1⟩
            show ∃ s', Ex (d + 6) 242 60 [.ref 112, .int a1, .int (nI (spN B (tw ω w))), .int (nI p)] [] G0 s = _ ∧ _
            have p8 : p < 8 := by omega
            have ts : TS ω h w (np ω) s := TS_fr t3 f (by decide) (by simp)
            have qq : (nI (np ω) ≤ nI p) = False := by rw [nJ_le (by omega) (by omega)]; exact eq_false (by omega)
            rw [b242_60, m_places, TS_pl hW ts]
            simp only [Option.bind_some, Option.toList_some, Option.toList_none, List.cons_append, List.nil_append, i01a, i01b, if_true, if_false, b242_65, qq, i10, i01, eq_self, if_true, if_false, true_and, false_and, and_true, and_false, not_true, not_false_iff, true_or, or_true, false_or, or_false, ne_eq, not_true_eq_false, not_false_eq_true, i8 p8, c8 p8, nI_s]
            refine ⟨_, rfl, Fr_p f (Or.inl (by simp)), fun q hq => ?_⟩
            by_cases e : q = p
            · subst e; rw [pt_e, ts.2.2.2.1 q (by omega)]
            · rw [pt_k (by omega)]; exact i1 q (by omega))
          rw [show Ex (d + 6) 242 60 [.ref 112, .int a1, .int (nI (spN B (tw ω w))), .int 0] [] G0 σ3 = _ from e]
          show ∃ σ' a3', Ex (d + 6) 242 60 [.ref 112, .int a1, .int (nI (spN B (tw ω w))), .int (nI (np ω))] [] G0 s = _ ∧ _
          have ts : TS ω h w (np ω) s := TS_fr t3 f (by decide) (by simp)
          have q : (nI (np ω) ≤ nI (np ω)) = True := by rw [nJ_le (by omega) (by omega)]; exact eq_true (by omega)
          rw [b242_60, m_places, TS_pl hW ts]
          simp only [Option.bind_some, Option.toList_some, Option.toList_none, List.cons_append, List.nil_append, i01a, i01b, if_true, if_false, b242_65, q, i10, i01, eq_self, if_true, if_false, true_and, false_and, and_true, and_false, not_true, not_false_iff, true_or, or_true, false_or, or_false, ne_eq, not_true_eq_false, not_false_eq_true]
          have kbs : KB ω (jO B ω w st) s := by
            rw [ej]; intro x hx; cases hx; exact ⟨hs, i1⟩
          obtain ⟨σ', a3', g1, g2, g3⟩ := ih (jO B ω w st) s (tw ω w) (.int (nI (np ω))) (RemS_fr r3 f (by decide) (by simp) (by simp)) Tq_w (MR_S hM3 f (by decide) (by simp)) kbs
          have em : moA (jO B ω w st) = nI (spN B (tw ω w)) := by rw [ej]; rfl
          rw [em] at g1
          exact ⟨σ', a3', g1, g2, Fr_t F3 (Fr_t (Fr_m f (by decide) (by simp)) g3)⟩
        · simp only [eq_false c, i10, i01, eq_self, if_true, if_false, true_and, false_and, and_true, and_false, not_true, not_false_iff, true_or, or_true, false_or, or_false, ne_eq, not_true_eq_false, not_false_eq_true]
          exact skip (jO_n (fun e => c e.2.2))
    · simp only [eq_false hb, i10, i01, eq_self, if_true, if_false, true_and, false_and, and_true, and_false, not_true, not_false_iff, true_or, or_true, false_or, or_false, ne_eq, not_true_eq_false, not_false_eq_true]
      exact skip (jO_n (fun e => hb e.1))
def SCX : List Nat := [113, 115, 134, 135, 136, 137, 139, 140, 141]
def SLX : List (Nat × Nat) := [(112, 5), (112, 49), (112, 53)]
theorem m_leastSpread (d : Nat) {B T : LW} {ω σ : Sig} {h : Nat → Bool} {a : Int32} (hM : MR B T ω σ) (hW : WI B T ω) (hh : ∀ o, o < 8 → h o = true → ω 9 o ≠ -1) (ha : isM a h) :
    ∃ σ', Ex (d + 6) 242 0 [.ref 112, .int a, .null, .null] [] G0 σ = some (some (.int (moA (orS B ω h))), G0, σ') ∧ MR B T ω σ' ∧ (∀ k, k < 31 → σ' 113 k = σ 113 k) ∧ σ' 112 5 = 0 ∧ KB ω (orS B ω h) σ' ∧ Fr SCX SLX σ σ' := by
  obtain ⟨σ1, e1, t1, d1, f1⟩ := m_beginsWays (d + 4) hM ha
  have e1' : Ex (d + 5) 237 0 [.ref 112, .int a, .null] [] G0 σ = some (none, G0, σ1) := e1
  have hM1 : MR B T ω σ1 := MR_S hM f1 (by decide) (by decide)
  obtain ⟨σ2, e2, f2, k2, z2⟩ := m_thinks (d + 5) σ1
  have e2' : Ex (d + 5) 148 0 [.ref 112, .null] [] G0 σ1 = some (none, G0, σ2) := e2
  have hM2 : MR B T ω σ2 := MR_S hM1 f2 (by decide) (by decide)
  have r2 : RemS ω h (exL (cnW ω h (np ω)) (sz ω) (np ω) []) σ2 := Or.inl ⟨TS_fr t1 f2 (by decide) (by simp), by rw [f2 112 53 (by decide) (by decide)]; exact d1, rfl⟩
  obtain ⟨σ3, a3, e3, k3, f3⟩ := m_leastL hW hh a d (fun x v s => Ex (d + 6) 242 17 [.ref 112, .int a, .int x, v] [.int 0] G0 s) (fun _ _ _ => rfl) _ none σ2 ω .null r2 Tq_r hM2 (fun x hx => by cases hx)
  obtain ⟨σ4, e4, f4, k4, z4, _⟩ := m_ends (d + 4) σ3
  have e4' : Ex (d + 5) 150 0 [.ref 112] [] G0 σ3 = some (none, G0, σ4) := e4
  have e0 : moA none = 1000000 := rfl
  rw [e0] at e3
  simp only [b242_0, e1', Option.bind_some, Option.toList_some, Option.toList_none, List.cons_append, List.nil_append, i01a, i01b, if_true, if_false, b242_9, e2', e3, b242_17, i10, i01, eq_self, if_true, if_false, true_and, false_and, and_true, and_false, not_true, not_false_iff, true_or, or_true, false_or, or_false, ne_eq, not_true_eq_false, not_false_eq_true, e4', b242_93]
  have h113 : ∀ k, k < 31 → σ4 113 k = σ 113 k := fun k hk => by
    rw [k4 k hk, f3 115 k (by decide) (by unfold SLN; simp), k2 k hk, f1 113 k (by decide) (by simp)]
  have F : Fr SCX SLX σ σ4 := Fr_t (Fr_m f1 (by decide) (by decide)) (Fr_t (Fr_m f2 (by decide) (by decide)) (Fr_t (Fr_m f3 (by decide) (by decide)) (Fr_m f4 (by decide) (by decide))))
  refine ⟨σ4, rfl, MR_back hM h113 (fun q hq => Fr_q F (by revert q; decide) (by revert q; decide)) (fun k hk => F 112 k (by decide) (by revert k; decide)), h113, z4, KB_q k3 (Fr_q f4 (by decide) (by decide)), F⟩
