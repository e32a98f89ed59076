/-! L3: ease, the book -/
def eaF (ω : Sig) (by' : Int32) : Nat → Sig → Sig := fun b a => pt a 7 b (mx 0 (ω 7 b - by'))
def eaS (ω : Sig) (by' : Int32) : Sig := fo (eaF ω by') (sz ω) ω
theorem eaN_q {ω : Sig} {by' : Int32} {q : Nat} (h : q ≠ 7) : ∀ n, fo (eaF ω by') n ω q = ω q := by
  intro n
  induction n with
  | zero => rfl
  | succ n ih => show pt (fo (eaF ω by') n ω) 7 n _ q = ω q; rw [pt_q h, ih]
theorem eaN_b {ω : Sig} {by' : Int32} {b : Nat} : ∀ n, fo (eaF ω by') n ω 7 b = if b < n then mx 0 (ω 7 b - by') else ω 7 b := by
  intro n
  induction n with
  | zero => rw [if_neg (by omega)]; rfl
  | succ n ih =>
    show pt (fo (eaF ω by') n ω) 7 n (mx 0 (ω 7 n - by')) 7 b = _
    by_cases e : b = n
    · subst e; rw [pt_e, if_pos (by omega)]
    · rw [pt_k e, ih]
      by_cases k : b < n
      · rw [if_pos k, if_pos (by omega)]
      · rw [if_neg k, if_neg (by omega)]
theorem eaS_q {ω : Sig} {by' : Int32} {q : Nat} (h : q ≠ 7) : eaS ω by' q = ω q := eaN_q h _
theorem c_ease (d : Nat) {B T : LW} {σ : Sig} (hW : WI B T σ) (by' : Int32) : Ex (d + 1) 18 0 [.ref 2, .int by', .null] [] G0 σ = some (none, G0, eaS σ by') := by
  obtain ⟨e2, h8⟩ : wi B T σ 5 := hW 5
  rw [b18_0]
  have e := loop_foI (fun b (x : Sig) => Ex (d + 1) 18 2 [.ref 2, .int by', .int (nI b)] [] G0 x) (fun b x => x = fo (eaF σ by') b σ) (eaF σ by') (sz σ) σ rfl (by
    intro b x hb i
    subst i
    show Ex (d + 1) 18 2 [.ref 2, .int by', .int (nI b)] [] G0 (fo (eaF σ by') b σ) = _ ∧ _
    rw [b18_2]
    have q8 : (nI (sz σ) ≤ nI b) = False := by rw [nJ_le (by omega) (by omega)]; exact eq_false (by omega)
    have e7 : fo (eaF σ by') b σ 7 b = σ 7 b := by rw [eaN_b, if_neg (by omega)]
    simp only [eaN_q (show (2 : Nat) ≠ 7 by decide), e2, q8, i10, i01, eq_self, if_true, if_false, true_and, false_and, and_true, and_false, not_true, not_false_iff, true_or, or_true, false_or, or_false, ne_eq, not_true_eq_false, not_false_eq_true, i8 (show b < 8 by omega), c8 (show b < 8 by omega), e7, c_max, Option.bind_some, Option.toList_some, Option.toList_none, List.cons_append, List.nil_append, i01a, i01b, if_true, if_false, b18_27, nI_s]
    exact ⟨rfl, rfl⟩)
  rw [show Ex (d + 1) 18 2 [.ref 2, .int by', .int 0] [] G0 σ = _ from e.1]
  show Ex (d + 1) 18 2 [.ref 2, .int by', .int (nI (sz σ))] [] G0 (eaS σ by') = _
  rw [b18_2]
  have q8 : (nI (sz σ) ≤ nI (sz σ)) = True := by rw [nJ_le (by omega) (by omega)]; exact eq_true (Nat.le_refl _)
  simp only [eaS_q (show (2 : Nat) ≠ 7 by decide), e2, q8, i10, i01, eq_self, if_true, if_false, true_and, false_and, and_true, and_false, not_true, not_false_iff, true_or, or_true, false_or, or_false, ne_eq, not_true_eq_false, not_false_eq_true]
/-- easing stays within bounds -/
theorem ease_v {B T : LW} {ω : Sig} (hW : WI B T ω) {b : Nat} (hb : b < 8) {x : Int32} (hx : bw x 0 100000) : bw (mx 0 (ω 7 b - x)) 0 1000 ∧ mx 0 (mn 1000 (ω 7 b - x)) = mx 0 (ω 7 b - x) := by
  have h13 : wi B T ω 13 := hW 13
  have h := h13 b hb
  have e : (ω 7 b - x).toInt = (ω 7 b).toInt - x.toInt := by
    rw [Int32.toInt_sub]; unfold bw at h hx; exact Int.bmod_eq_of_le (by omega) (by omega)
  have z : (0 : Int32).toInt = 0 := rfl
  have k : (1000 : Int32).toInt = 1000 := rfl
  refine ⟨?_, ?_⟩
  · unfold mx
    by_cases c : 0 < ω 7 b - x
    · rw [if_pos c]
      rw [Int32.lt_iff_toInt_lt, e] at c
      unfold bw at *; rw [e]; omega
    · rw [if_neg c]; unfold bw; rw [z]; omega
  · have : mn 1000 (ω 7 b - x) = ω 7 b - x := by
      unfold mn
      by_cases c : ω 7 b - x < 1000
      · rw [if_pos c]
      · rw [if_neg c]
        apply Int32.toInt_inj.mp
        rw [Int32.lt_iff_toInt_lt, e] at c
        unfold bw at *; rw [e, k]; omega
    rw [this]
theorem WI_ea {B T : LW} {ω : Sig} (hW : WI B T ω) {x : Int32} (hx : bw x 0 100000) : WI B T (eaS ω x) := by
  refine WI_7 hW (fun q hq => eaS_q hq) (fun b hb => ?_)
  unfold eaS
  rw [eaN_b]
  split
  · exact (ease_v hW hb hx).1
  · have h13 : wi B T ω 13 := hW 13; exact h13 b hb
theorem m_eases (d : Nat) {B T : LW} {ω σ : Sig} (hM : MR B T ω σ) (hW : WI B T ω) (a : Int32) (ha : bw (ω 1 3 * a) 0 100000) : ∃ σ', Ex (d + 1) 216 0 [.ref 112, .int a, .null] [] G0 σ = some (none, G0, σ') ∧ Fr [113] [] σ σ' ∧ MR B T (eaS ω (ω 1 3 * a)) σ' := by
  obtain ⟨e2, h8⟩ : wi B T ω 5 := hW 5
  rw [b216_0]
  obtain ⟨σ1, e1, i1, i2⟩ := loop_ex (fun b (x : Sig) => Ex (d + 1) 216 2 [.ref 112, .int a, .int (nI b)] [] G0 x) (fun b x => MR B T (fo (eaF ω (ω 1 3 * a)) b ω) x ∧ Fr [113] [] σ x) (sz ω) σ ⟨hM, Fr_r⟩ (by
    intro b x hb ⟨i1, i2⟩
    have hb8 : b < 8 := by omega
    have e12 : x 112 12 = nI (sz ω) := by rw [i2 112 12 (by decide) (by simp)]; exact (hM 6).trans e2
    have e9 : x 112 9 + 100 = ω 1 3 := by
      rw [i2 112 9 (by decide) (by simp), show σ 112 9 = ω 1 3 - 100 from hM 3, Int32.sub_add_cancel]
    have h16 : mr B T (fo (eaF ω (ω 1 3 * a)) b ω) x 16 := i1 16
    have e7 : x 113 (23 + b) = ω 7 b := by rw [h16 b hb8, eaN_b, if_neg (by omega)]
    have e23 : (23 : Int32) + nI b = nI (23 + b) := nI_add 23 _
    have q8 : (nI (sz ω) ≤ nI b) = False := by rw [nJ_le (by omega) (by omega)]; exact eq_false (by omega)
    show ∃ a', Ex (d + 1) 216 2 [.ref 112, .int a, .int (nI b)] [] G0 x = _ ∧ _
    rw [b216_2]
    simp only [e12, q8, i10, i01, eq_self, if_true, if_false, true_and, false_and, and_true, and_false, not_true, not_false_iff, true_or, or_true, false_or, or_false, ne_eq, not_true_eq_false, not_false_eq_true, e23, inb_n (show 23 + b < 31 by omega) (show 23 + b < 2 ^ 31 by omega), nI_c (show 23 + b < 2 ^ 31 by omega), e7, m_ease, e9, Option.bind_some, Option.toList_some, Option.toList_none, List.cons_append, List.nil_append, i01a, i01b, if_true, if_false, b216_32, (fun d => m_held d x (ω 7 b - ω 1 3 * a) 0 1000 (by decide)), (ease_v hW hb8 ha).2, b216_42, nI_s]
    exact ⟨_, rfl, MR_ti i1 hb8 _, Fr_p i2 (Or.inl (by simp))⟩)
  rw [show Ex (d + 1) 216 2 [.ref 112, .int a, .int 0] [] G0 σ = _ from e1, b216_2]
  have e12 : σ1 112 12 = nI (sz ω) := by rw [i2 112 12 (by decide) (by simp)]; exact (hM 6).trans e2
  have q8 : (nI (sz ω) ≤ nI (sz ω)) = True := by rw [nJ_le (by omega) (by omega)]; exact eq_true (Nat.le_refl _)
  simp only [e12, q8, i10, i01, eq_self, if_true, if_false, true_and, false_and, and_true, and_false, not_true, not_false_iff, true_or, or_true, false_or, or_false, ne_eq, not_true_eq_false, not_false_eq_true]
  exact ⟨σ1, rfl, i2, i1⟩
/-- a line of the book, not in thought -/
def noR (ω : Sig) (n : Nat) (w a b : Int32) : Sig := pt (pt (pt (pt (pt ω 26 (4 * n) (ω 1 6)) 26 (4 * n + 1) w) 26 (4 * n + 2) a) 26 (4 * n + 3) b) 25 0 (nI (n + 1))
def noW (th : Bool) (ω : Sig) (w a b : Int32) : Sig := if th = true ∨ ¬ (ω 25 0).toNatClampNeg < 150 then ω else noR ω (ω 25 0).toNatClampNeg w a b
theorem noR_q {ω : Sig} {n q : Nat} {w a b : Int32} (h : q ≠ 25) (h2 : q ≠ 26) : noR ω n w a b q = ω q := by
  unfold noR; rw [pt_q h, pt_q h2, pt_q h2, pt_q h2, pt_q h2]
theorem noW_q {th : Bool} {ω : Sig} {q : Nat} {w a b : Int32} (h : q ≠ 25) (h2 : q ≠ 26) : noW th ω w a b q = ω q := by
  unfold noW; split
  · rfl
  · exact noR_q h h2
theorem bkN {B T : LW} {ω : Sig} (hW : WI B T ω) : ∃ n, n ≤ 150 ∧ ω 25 0 = nI n ∧ (ω 25 0).toNatClampNeg = n := by
  obtain ⟨n, e, _, h, c⟩ := bwN (a := 0) (b := 150) (show bw (ω 25 0) 0 150 from hW 14)
  exact ⟨n, h, e, c⟩
theorem c_write (d : Nat) {σ : Sig} (hb : bw (σ 25 0) 0 150) (w a b : Int32) : Ex d 13 0 [.ref 25, .int (σ 1 6), .int w, .int a, .int b, .null] [] G0 σ = some (none, G0, noW false σ w a b) := by
  obtain ⟨n, e, _, h, c⟩ := bwN (a := 0) (b := 150) hb
  simp only [b13_0, b13_47, e]
  unfold noW
  rw [c]
  have q : (nI n < 150) = (n < 150) := nJ_lt (b := 150) (by omega) (by omega)
  by_cases k : n < 150
  · have m4 : nI n * 4 = nI (n * 4) := nI_mul' n 4
    have a1 : nI (n * 4) + 1 = nI (4 * n + 1) := by rw [nI_s]; congr 1; omega
    have a2 : nI (n * 4) + 2 = nI (4 * n + 2) := by
      have : nI (n * 4) + 2 = nI (n * 4 + 2) := nI_add _ 2
      rw [this]; congr 1; omega
    have a3 : nI (n * 4) + 3 = nI (4 * n + 3) := by
      have : nI (n * 4) + 3 = nI (n * 4 + 3) := nI_add _ 3
      rw [this]; congr 1; omega
    simp only [q, eq_true k, i10, i01, eq_self, if_true, if_false, true_and, false_and, and_true, and_false, not_true, not_false_iff, true_or, or_true, false_or, or_false, ne_eq, not_true_eq_false, not_false_eq_true, m4, a1, a2, a3, inb_n (show n * 4 < 600 by omega) (show n * 4 < 2 ^ 31 by omega), inb_n (show 4 * n + 1 < 600 by omega) (show 4 * n + 1 < 2 ^ 31 by omega), inb_n (show 4 * n + 2 < 600 by omega) (show 4 * n + 2 < 2 ^ 31 by omega), inb_n (show 4 * n + 3 < 600 by omega) (show 4 * n + 3 < 2 ^ 31 by omega), nI_c (show n * 4 < 2 ^ 31 by omega), nI_c (show 4 * n + 1 < 2 ^ 31 by omega), nI_c (show 4 * n + 2 < 2 ^ 31 by omega), nI_c (show 4 * n + 3 < 2 ^ 31 by omega)]
    rw [if_neg (by simp [k])]
    unfold noR
    rw [show n * 4 = 4 * n by omega]
    simp (disch := decide) only [pt_q]
    rw [e, nI_s]
  · simp only [q, eq_false k, i10, i01, eq_self, if_true, if_false, true_and, false_and, and_true, and_false, not_true, not_false_iff, true_or, or_true, false_or, or_false, ne_eq, not_true_eq_false, not_false_eq_true]
theorem MR_note {B T : LW} {ω σ : Sig} (hM : MR B T ω σ) {n : Nat} (hn : n < 150) (h25 : ω 25 0 = nI n) (w a b : Int32) : MR B T (noR ω n w a b) (pt (pt (pt (pt (pt σ 123 (4 * n) (ω 1 6)) 123 (4 * n + 1) w) 123 (4 * n + 2) a) 123 (4 * n + 3) b) 113 2 (nI (n + 1))) := by
  have q : ∀ q, q ≠ 25 → q ≠ 26 → noR ω n w a b q = ω q := fun q h h2 => noR_q h h2
  have e25 : noR ω n w a b 25 0 = nI (n + 1) := by unfold noR; rw [pt_e]
  intro i
  have h := hM i
  match i, h with
  | 0, h => (simp only [mr] at h ⊢; (try simp (disch := decide) only [q, pt_q, pt_k, pt_e, e25, wl, paced]); first | done | exact h)
  | 1, h => (simp only [mr] at h ⊢; (try simp (disch := decide) only [q, pt_q, pt_k, pt_e, e25, wl, paced]); first | done | exact h)
  | 2, h => (simp only [mr] at h ⊢; (try simp (disch := decide) only [q, pt_q, pt_k, pt_e, e25, wl, paced]); first | done | exact h)
  | 3, h => (simp only [mr] at h ⊢; (try simp (disch := decide) only [q, pt_q, pt_k, pt_e, e25, wl, paced]); first | done | exact h)
  | 4, h => (simp only [mr] at h ⊢; (try simp (disch := decide) only [q, pt_q, pt_k, pt_e, e25, wl, paced]); first | done | exact h)
  | 5, h => (simp only [mr] at h ⊢; (try simp (disch := decide) only [q, pt_q, pt_k, pt_e, e25, wl, paced]); first | done | exact h)
  | 6, h => (simp only [mr] at h ⊢; (try simp (disch := decide) only [q, pt_q, pt_k, pt_e, e25, wl, paced]); first | done | exact h)
  | 7, h => (simp only [mr] at h ⊢; (try simp (disch := decide) only [q, pt_q, pt_k, pt_e, e25, wl, paced]); first | done | exact h)
  | 8, h => (simp only [mr] at h ⊢; (try simp (disch := decide) only [q, pt_q, pt_k, pt_e, e25, wl, paced]); first | done | exact h)
  | 9, h => (simp only [mr] at h ⊢; (try simp (disch := decide) only [q, pt_q, pt_k, pt_e, e25, wl, paced]); first | done | exact h)
  | 10, h => (simp only [mr] at h ⊢; (try simp (disch := decide) only [q, pt_q, pt_k, pt_e, e25, wl, paced]); first | done | exact h)
  | 11, h => (simp only [mr] at h ⊢; (try simp (disch := decide) only [q, pt_q, pt_k, pt_e, e25, wl, paced]); first | done | exact h)
  | 12, h => (simp only [mr] at h ⊢; (try simp (disch := decide) only [q, pt_q, pt_k, pt_e, e25, wl, paced]); first | done | exact h)
  | 13, h => (simp only [mr] at h ⊢; (try simp (disch := decide) only [q, pt_q, pt_k, pt_e, e25, wl, paced]); first | done | exact h)
  | 14, h => (intro p hp; rw [pt_k (by omega), pt_q (by decide), pt_q (by decide), pt_q (by decide), pt_q (by decide), q 9 (by decide) (by decide)]; exact h p hp)
  | 15, h => (intro p hp; rw [pt_k (by omega), pt_q (by decide), pt_q (by decide), pt_q (by decide), pt_q (by decide), q 10 (by decide) (by decide)]; exact h p hp)
  | 16, h => (intro p hp; rw [pt_k (by omega), pt_q (by decide), pt_q (by decide), pt_q (by decide), pt_q (by decide), q 7 (by decide) (by decide)]; exact h p hp)
  | 17, h => (simp only [mr] at h ⊢; (try simp (disch := decide) only [q, pt_q, pt_k, pt_e, e25, wl, paced]); first | done | exact h)
  | 18, h => (simp only [mr] at h ⊢; (try simp (disch := decide) only [q, pt_q, pt_k, pt_e, e25, wl, paced]); first | done | exact h)
  | 19, h => (simp only [mr] at h ⊢; (try simp (disch := decide) only [q, pt_q, pt_k, pt_e, e25, wl, paced]); first | done | exact h)
  | 20, h => (simp only [mr] at h ⊢; (try simp (disch := decide) only [q, pt_q, pt_k, pt_e, e25, wl, paced]); first | done | exact h)
  | 21, h => (simp only [mr] at h ⊢; (try simp (disch := decide) only [q, pt_q, pt_k, pt_e, e25, wl, paced]); first | done | exact h)
  | 22, h => (simp only [mr] at h ⊢; (try simp (disch := decide) only [q, pt_q, pt_k, pt_e, e25, wl, paced]); first | done | exact h)
  | 23, h => (simp only [mr] at h ⊢; (try simp (disch := decide) only [q, pt_q, pt_k, pt_e, e25, wl, paced]); first | done | exact h)
  | 24, h => (simp only [mr] at h ⊢; (try simp (disch := decide) only [q, pt_q, pt_k, pt_e, e25, wl, paced]); first | done | exact h)
  | 25, h => (simp only [mr] at h ⊢; (try simp (disch := decide) only [q, pt_q, pt_k, pt_e, e25, wl, paced]); first | done | exact h)
  | 26, h => (show ∀ i, i < 4 * (noR ω n w a b 25 0).toNatClampNeg → _; rw [e25, nI_c (by omega)]; intro i hi; have h' : i < 4 * (ω 25 0).toNatClampNeg → σ 123 i = ω 26 i := h i; rw [h25, nI_c (by omega)] at h'; unfold noR; simp only [pt_ap]; simp only [Nat.reduceEqDiff, false_and, true_and, if_false]; (repeat' split) <;> first | rfl | omega | (exact h' (by omega)))
  | 27, h => (simp only [mr] at h ⊢; (try simp (disch := decide) only [q, pt_q, pt_k, pt_e, e25, wl, paced]); first | done | exact h)
  | 28, h => (simp only [mr] at h ⊢; (try simp (disch := decide) only [q, pt_q, pt_k, pt_e, e25, wl, paced]); first | done | exact h)
  | 29, h => (simp only [mr] at h ⊢; (try simp (disch := decide) only [q, pt_q, pt_k, pt_e, e25, wl, paced]); first | done | exact h)
  | 30, h => (simp only [mr] at h ⊢; (try simp (disch := decide) only [q, pt_q, pt_k, pt_e, e25, wl, paced]); first | done | exact h)
  | _ + 31, _ => trivial
theorem m_notes (d : Nat) {B T : LW} {ω σ : Sig} (hM : MR B T ω σ) (hW : WI B T ω) (th : Bool) (ht : σ 112 5 = bI (th = true)) (w a b : Int32) : ∃ σ', Ex d 215 0 [.ref 112, .int w, .int a, .int b, .null] [] G0 σ = some (none, G0, σ') ∧ Fr [113, 123] [] σ σ' ∧ MR B T (noW th ω w a b) σ' ∧ (th = true → σ' = σ) := by
  obtain ⟨n, hn, e, c⟩ := bkN hW
  have e2 : σ 113 2 = nI n := (hM 9).trans e
  have e0 : σ 113 0 = ω 1 6 := hM 7
  simp only [b215_0, b215_53, ht, bI_z, bI_o, bI_em, ite_not, e2]
  unfold noW
  rw [c]
  cases th with
  | true =>
    simp only [i10, i01, eq_self, if_true, if_false, true_and, false_and, and_true, and_false, not_true, not_false_iff, true_or, or_true, false_or, or_false, ne_eq, not_true_eq_false, not_false_eq_true]
    exact ⟨σ, rfl, Fr_r, hM, fun _ => rfl⟩
  | false =>
    have q : (nI n = 150) = (n = 150) := nJ_e (b := 150) (by omega) (by omega)
    by_cases k : n = 150
    · have k2 : ¬ n < 150 := by omega
      simp only [q, eq_true k, eq_false k2, i10, i01, eq_self, if_true, if_false, true_and, false_and, and_true, and_false, not_true, not_false_iff, true_or, or_true, false_or, or_false, ne_eq, not_true_eq_false, not_false_eq_true, Bool.false_eq_true]
      exact ⟨σ, rfl, Fr_r, hM, fun _ => rfl⟩
    · have k2 : n < 150 := by omega
      have m4 : (4 : Int32) * nI n = nI (4 * n) := nI_mul' 4 n
      have a1 : nI (4 * n) + 1 = nI (4 * n + 1) := nI_s
      have a2 : nI (4 * n) + 2 = nI (4 * n + 2) := nI_add _ 2
      have a3 : nI (4 * n) + 3 = nI (4 * n + 3) := nI_add _ 3
      simp only [q, eq_false k, eq_true k2, i10, i01, eq_self, if_true, if_false, true_and, false_and, and_true, and_false, not_true, not_false_iff, true_or, or_true, false_or, or_false, ne_eq, not_true_eq_false, not_false_eq_true, Bool.false_eq_true, m4, a1, a2, a3, inb_n (show 4 * n < 600 by omega) (show 4 * n < 2 ^ 31 by omega), inb_n (show 4 * n + 1 < 600 by omega) (show 4 * n + 1 < 2 ^ 31 by omega), inb_n (show 4 * n + 2 < 600 by omega) (show 4 * n + 2 < 2 ^ 31 by omega), inb_n (show 4 * n + 3 < 600 by omega) (show 4 * n + 3 < 2 ^ 31 by omega), nI_c (show 4 * n < 2 ^ 31 by omega), nI_c (show 4 * n + 1 < 2 ^ 31 by omega), nI_c (show 4 * n + 2 < 2 ^ 31 by omega), nI_c (show 4 * n + 3 < 2 ^ 31 by omega), e0, e2]
      simp (disch := decide) only [pt_q, e2, nI_s]
      refine ⟨_, rfl, ?_, MR_note hM k2 e w a b, fun h => by cases h⟩
      exact Fr_p (Fr_p (Fr_p (Fr_p (Fr_p Fr_r (Or.inl (by simp))) (Or.inl (by simp))) (Or.inl (by simp))) (Or.inl (by simp))) (Or.inl (by simp))
