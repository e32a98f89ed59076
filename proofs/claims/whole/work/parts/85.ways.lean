/-! L3: all ways, in their order (a way is told backwards: its last place first) -/
def wv : List Nat → Nat → Nat
  | [], _ => 0
  | b :: r, p => if p = r.length then b else wv r p
def exB (c : List Nat → Nat → Bool) (S : Nat) (g : List Nat → List (List Nat)) (pre : List Nat) : Nat → List (List Nat)
  | 0 => []
  | m + 1 => (if c pre (S - (m + 1)) = true then g ((S - (m + 1)) :: pre) else []) ++ exB c S g pre m
def exL (c : List Nat → Nat → Bool) (S : Nat) : Nat → List Nat → List (List Nat)
  | 0, pre => [pre]
  | k + 1, pre => exB c S (exL c S k) pre S
def upR (c : List Nat → Nat → Bool) (S : Nat) : Nat → List Nat → List (List Nat)
  | _, [] => []
  | k, x :: pre => exB c S (exL c S k) pre (S - (x + 1)) ++ upR c S (k + 1) pre
theorem wv_n {b : Nat} {r : List Nat} : wv (b :: r) r.length = b := if_pos rfl
theorem wv_o {b : Nat} {r : List Nat} {p : Nat} (h : p < r.length) : wv (b :: r) p = wv r p := if_neg (by omega)
theorem wv_m {b : Nat} : ∀ {r : List Nat}, b ∈ r → ∃ p, p < r.length ∧ wv r p = b := by
  intro r
  induction r with
  | nil => intro h; cases h
  | cons x r ih =>
    intro h
    rcases List.mem_cons.mp h with e | h
    · exact ⟨r.length, by simp, by rw [wv_n, e]⟩
    · obtain ⟨p, hp, e⟩ := ih h
      exact ⟨p, by simp; omega, by rw [wv_o hp, e]⟩
theorem wv_i : ∀ {r : List Nat} {p : Nat}, p < r.length → wv r p ∈ r := by
  intro r
  induction r with
  | nil => intro p h; simp at h
  | cons x r ih =>
    intro p h
    by_cases e : p = r.length
    · subst e; rw [wv_n]; simp
    · have : p < r.length := by simp at h; omega
      rw [wv_o this]; exact List.mem_cons_of_mem _ (ih this)
/-- a step over all ways of a row -/
theorem exB_len {c : List Nat → Nat → Bool} {S n : Nat} {g : List Nat → List (List Nat)} {pre : List Nat} (h : ∀ b, (g (b :: pre)).length ≤ n) : ∀ m, (exB c S g pre m).length ≤ m * n := by
  intro m
  induction m with
  | zero => rw [exB]; simp
  | succ m ih =>
    rw [exB, List.length_append, Nat.succ_mul]
    have h1 := h (S - (m + 1))
    split
    · omega
    · simp only [List.length_nil]; omega
theorem exL_len {c : List Nat → Nat → Bool} {S : Nat} : ∀ k pre, (exL c S k pre).length ≤ S ^ k := by
  intro k
  induction k with
  | zero => intro pre; rw [exL]; simp
  | succ k ih =>
    intro pre
    rw [exL, Nat.pow_succ, Nat.mul_comm]
    exact exB_len (fun b => ih (b :: pre)) S
theorem exB_0 {c : List Nat → Nat → Bool} {S : Nat} {g : List Nat → List (List Nat)} {pre : List Nat} : ∀ m, m ≤ S → (∀ b, S - m ≤ b → b < S → c pre b = false) → exB c S g pre m = [] := by
  intro m
  induction m with
  | zero => intro _ _; rfl
  | succ m ih =>
    intro hm h
    rw [exB, ih (by omega) (fun b h1 h2 => h b (by omega) h2), h _ (Nat.le_refl _) (by omega)]
    rfl
theorem exB_s {c : List Nat → Nat → Bool} {S : Nat} {g : List Nat → List (List Nat)} {pre : List Nat} {m b : Nat} (e : S - (m + 1) = b) : exB c S g pre (m + 1) = (if c pre b = true then g (b :: pre) else []) ++ exB c S g pre m := by
  rw [exB, e]
/-- who may stand where: h the kept places -/
def cnW (ω : Sig) (h : Nat → Bool) (N : Nat) (pre : List Nat) (b : Nat) : Bool :=
  if h pre.length = true then decide (b = wN ω pre.length) else decide (∀ o, o < N → ¬ (h o = true ∧ wN ω o = b)) && decide (b ∉ pre)
/-- ways that are so -/
def vld (ω : Sig) (h : Nat → Bool) (N : Nat) (pre : List Nat) : Prop :=
  (∀ p, p < pre.length → wv pre p < sz ω) ∧ (∀ p q, p < pre.length → q < pre.length → wv pre p = wv pre q → p = q) ∧ (∀ p, p < pre.length → h p = true → wv pre p = wN ω p) ∧ (∀ p o, p < pre.length → o < N → h p = false → h o = true → wv pre p ≠ wN ω o)
theorem vld_0 {ω : Sig} {h : Nat → Bool} {N : Nat} : vld ω h N [] := by
  refine ⟨fun p hp => ?_, fun p q hp => ?_, fun p hp => ?_, fun p o hp => ?_⟩ <;> simp at hp
theorem vld_s {B T : LW} {ω : Sig} {h : Nat → Bool} {N b : Nat} {pre : List Nat} (hW : WI B T ω) (hN : N ≤ 8) (hh : ∀ o, o < 8 → h o = true → ω 9 o ≠ -1) (hv : vld ω h N pre) (hl : pre.length < N) (hb : b < sz ω) (hc : cnW ω h N pre b = true) : vld ω h N (b :: pre) := by
  obtain ⟨v1, v2, v3, v4⟩ := hv
  have nin : ∀ p, p < pre.length → wv pre p ≠ b := by
    intro p hp e
    unfold cnW at hc
    by_cases hd : h pre.length = true
    · rw [if_pos hd] at hc
      have hc := of_decide_eq_true hc
      by_cases k : h p = true
      · have := v3 p hp k
        have w := WI_inj hW (p := p) (q := pre.length) (by omega) (by omega) (hh p (by omega) k) (hh _ (by omega) hd) (by rw [← this, e, hc])
        omega
      · exact v4 p pre.length hp hl (by simpa using k) hd (by rw [e, hc])
    · rw [if_neg hd] at hc
      have hc := of_decide_eq_true (Bool.and_eq_true_iff.mp hc).2
      exact hc (e ▸ wv_i hp)
  refine ⟨fun p hp => ?_, fun p q hp hq e => ?_, fun p hp k => ?_, fun p o hp ho k j => ?_⟩
  · by_cases e : p = pre.length
    · subst e; rw [wv_n]; exact hb
    · have : p < pre.length := by simp at hp; omega
      rw [wv_o this]; exact v1 p this
  · simp at hp hq
    by_cases e1 : p = pre.length
    · by_cases e2 : q = pre.length
      · omega
      · subst e1
        rw [wv_n, wv_o (by omega)] at e
        exact absurd e.symm (nin q (by omega))
    · by_cases e2 : q = pre.length
      · subst e2
        rw [wv_n, wv_o (by omega)] at e
        exact absurd e (nin p (by omega))
      · rw [wv_o (by omega), wv_o (by omega)] at e
        exact v2 p q (by omega) (by omega) e
  · by_cases e : p = pre.length
    · subst e
      rw [wv_n]
      unfold cnW at hc
      rw [if_pos k] at hc
      exact of_decide_eq_true hc
    · have : p < pre.length := by simp at hp; omega
      rw [wv_o this]; exact v3 p this k
  · by_cases e : p = pre.length
    · subst e
      rw [wv_n]
      unfold cnW at hc
      rw [if_neg (by rw [k]; decide)] at hc
      have hc := of_decide_eq_true (Bool.and_eq_true_iff.mp hc).1
      exact fun e => hc o ho ⟨j, e.symm⟩
    · have : p < pre.length := by simp at hp; omega
      rw [wv_o this]; exact v4 p o this ho k j
/-- the world of a way -/
def tw (ω : Sig) (pre : List Nat) : Sig := fun q k => if q = 9 ∧ k < np ω then nI (wv pre k) else ω q k
theorem tw_q {ω : Sig} {pre : List Nat} {q : Nat} (h : q ≠ 9) : tw ω pre q = ω q := by
  funext k; unfold tw; rw [if_neg (fun e => h e.1)]
theorem tw_k {ω : Sig} {pre : List Nat} {k : Nat} (h : k < np ω) : tw ω pre 9 k = nI (wv pre k) := if_pos ⟨rfl, h⟩
theorem tw_o {ω : Sig} {pre : List Nat} {k : Nat} (h : np ω ≤ k) : tw ω pre 9 k = ω 9 k := if_neg (fun e => by omega)
theorem WI_tw {B T : LW} {ω : Sig} {h : Nat → Bool} {pre : List Nat} (hW : WI B T ω) (hl : pre.length = np ω) (hv : vld ω h (np ω) pre) : WI B T (tw ω pre) := by
  have n8' := (WI_np hW).2.1
  obtain ⟨e2, s8⟩ : wi B T ω 5 := hW 5
  have h6 : wi B T ω 6 := hW 6
  have h7 : wi B T ω 7 := hW 7
  refine WI_9 hW (fun q hq => tw_q hq) (fun p hp => ?_) (fun p r hp hr e ne => ?_)
  · by_cases k : p < np ω
    · rw [tw_k k]
      exact Or.inr ⟨k, _, hv.1 p (by omega), rfl⟩
    · rw [tw_o (by omega)]
      rcases h6 p hp with c | c
      · exact Or.inl c
      · omega
  · have out : ∀ p, p < 8 → ¬ p < np ω → tw ω pre 9 p = -1 := fun p hp k => by
      rw [tw_o (by omega)]
      rcases h6 p hp with c | c
      · exact c
      · omega
    by_cases k : p < np ω
    · by_cases j : r < np ω
      · rw [tw_k k, tw_k j] at e
        have b1 := hv.1 p (by omega)
        have b2 := hv.1 r (by omega)
        rw [nJ_e (by omega) (by omega)] at e
        exact hv.2.1 p r (by omega) (by omega) e
      · rw [e, out r hr j] at ne; exact absurd rfl ne
    · rw [out p hp k] at ne; exact absurd rfl ne
/-- SPREAD within its bounds -/
theorem gMx_b {σ : Sig} {g : Int32} {v : Nat → Nat} (hv : ∀ p, v p ≤ 1000) : ∀ n, ∃ m : Nat, m ≤ 1000 ∧ fo (gMx σ g v) n 0 = nI m ∧ ∀ p, p < n → hold σ g p → v p ≤ m := by
  intro n
  induction n with
  | zero => exact ⟨0, by omega, rfl, fun p hp => by omega⟩
  | succ n ih =>
    obtain ⟨m, h1, h2, h3⟩ := ih
    show ∃ m' : Nat, m' ≤ 1000 ∧ gMx σ g v n (fo (gMx σ g v) n 0) = nI m' ∧ _
    rw [h2]
    unfold gMx
    have hvn := hv n
    by_cases k : hold σ g n
    · rw [if_pos k]
      unfold mx
      have q : (nI m < nI (v n)) = (m < v n) := nJ_lt (by omega) (by omega)
      simp only [q]
      by_cases l : m < v n
      · rw [if_pos l]
        refine ⟨v n, hvn, rfl, fun p hp hh => ?_⟩
        by_cases e : p = n
        · subst e; exact Nat.le_refl _
        · have := h3 p (by omega) hh; omega
      · rw [if_neg l]
        refine ⟨m, h1, rfl, fun p hp hh => ?_⟩
        by_cases e : p = n
        · subst e; omega
        · exact h3 p (by omega) hh
    · rw [if_neg k]
      refine ⟨m, h1, rfl, fun p hp hh => ?_⟩
      by_cases e : p = n
      · subst e; exact absurd hh k
      · exact h3 p (by omega) hh
theorem gMn_b {σ : Sig} {g : Int32} {v : Nat → Nat} (hv : ∀ p, v p ≤ 1000) : ∀ n, ∃ m : Nat, m ≤ 1000000 ∧ fo (gMn σ g v) n 1000000 = nI m ∧ ∀ p, p < n → hold σ g p → m ≤ v p := by
  intro n
  induction n with
  | zero => exact ⟨1000000, by omega, rfl, fun p hp => by omega⟩
  | succ n ih =>
    obtain ⟨m, h1, h2, h3⟩ := ih
    show ∃ m' : Nat, m' ≤ 1000000 ∧ gMn σ g v n (fo (gMn σ g v) n 1000000) = nI m' ∧ _
    rw [h2]
    unfold gMn
    have hvn := hv n
    by_cases k : hold σ g n
    · rw [if_pos k]
      unfold mn
      have q : (nI (v n) < nI m) = (v n < m) := nJ_lt (by omega) (by omega)
      simp only [q]
      by_cases l : v n < m
      · rw [if_pos l]
        refine ⟨v n, by omega, rfl, fun p hp hh => ?_⟩
        by_cases e : p = n
        · subst e; exact Nat.le_refl _
        · have := h3 p (by omega) hh; omega
      · rw [if_neg l]
        refine ⟨m, h1, rfl, fun p hp hh => ?_⟩
        by_cases e : p = n
        · subst e; omega
        · exact h3 p (by omega) hh
    · rw [if_neg k]
      refine ⟨m, h1, rfl, fun p hp hh => ?_⟩
      by_cases e : p = n
      · subst e; exact absurd hh k
      · exact h3 p (by omega) hh
theorem load_b0 {B T : LW} {σ : Sig} (hW : WI B T σ) {s g : Int32} : ∀ p, (if p < 8 then loadS B σ s g p else 0) ≤ 1000 := by
  intro p
  split
  · rename_i h; exact load_bd hW h
  · omega
theorem gMx_c {σ : Sig} {g : Int32} {v w : Nat → Nat} {p : Nat} (h : v p = w p) (x : Int32) : gMx σ g v p x = gMx σ g w p x := by
  by_cases k : hold σ g p
  · exact (if_pos k).trans ((congrArg (fun z => mx x (nI z)) h).trans (if_pos k).symm)
  · exact (if_neg k).trans (if_neg k).symm
theorem gMx_8 {σ : Sig} {g : Int32} {v w : Nat → Nat} {i : Int32} {N : Nat} (h : ∀ p, p < N → v p = w p) : ∀ n, n ≤ N → fo (gMx σ g v) n i = fo (gMx σ g w) n i := by
  intro n
  induction n with
  | zero => intro _; exact (rfl : i = i)
  | succ n ih =>
    intro hn
    have e1 : fo (gMx σ g v) (n + 1) i = gMx σ g v n (fo (gMx σ g v) n i) := rfl
    have e2 : fo (gMx σ g w) (n + 1) i = gMx σ g w n (fo (gMx σ g w) n i) := rfl
    rw [e1, e2, ih (Nat.le_of_succ_le hn)]
    exact gMx_c (h n hn) _
theorem gMn_c {σ : Sig} {g : Int32} {v w : Nat → Nat} {p : Nat} (h : v p = w p) (x : Int32) : gMn σ g v p x = gMn σ g w p x := by
  by_cases k : hold σ g p
  · exact (if_pos k).trans ((congrArg (fun z => mn x (nI z)) h).trans (if_pos k).symm)
  · exact (if_neg k).trans (if_neg k).symm
theorem gMn_8 {σ : Sig} {g : Int32} {v w : Nat → Nat} {i : Int32} {N : Nat} (h : ∀ p, p < N → v p = w p) : ∀ n, n ≤ N → fo (gMn σ g v) n i = fo (gMn σ g w) n i := by
  intro n
  induction n with
  | zero => intro _; exact (rfl : i = i)
  | succ n ih =>
    intro hn
    have e1 : fo (gMn σ g v) (n + 1) i = gMn σ g v n (fo (gMn σ g v) n i) := rfl
    have e2 : fo (gMn σ g w) (n + 1) i = gMn σ g w n (fo (gMn σ g w) n i) := rfl
    rw [e1, e2, ih (Nat.le_of_succ_le hn)]
    exact gMn_c (h n hn) _
def spN (B : LW) (σ : Sig) : Nat := (spreadS B σ 0 0).toNatClampNeg
theorem spread_n {B T : LW} {σ : Sig} (hW : WI B T σ) (hb : bearS B σ 0 0) : spreadS B σ 0 0 = nI (spN B σ) ∧ spN B σ ≤ 1000 := by
  obtain ⟨q, hq⟩ := bear_hold hb
  have n8' := (WI_np hW).2.1
  obtain ⟨a, a1, a2, a3⟩ := gMx_b (σ := σ) (g := 0) (load_b0 hW (s := 0) (g := 0)) 8
  obtain ⟨b, b1, b2, b3⟩ := gMn_b (σ := σ) (g := 0) (load_b0 hW (s := 0) (g := 0)) 8
  have q8 : q < 8 := by have := hq.1; omega
  have c1 := a3 q q8 hq
  have c2 := b3 q q8 hq
  have e : spreadS B σ 0 0 = nI (a - b) := by
    unfold spreadS
    rw [gMx_8 (w := fun p => if p < 8 then loadS B σ 0 0 p else 0) (fun p hp => (if_pos hp).symm) 8 (by omega), gMn_8 (w := fun p => if p < 8 then loadS B σ 0 0 p else 0) (fun p hp => (if_pos hp).symm) 8 (by omega), a2, b2, nI_sub' (by omega)]
  have e2 : spN B σ = a - b := by unfold spN; rw [e, nI_c (by omega)]
  rw [e2]
  exact ⟨e, by omega⟩
/-- ORDER and FITS as steps over all ways -/
noncomputable def jO (B : LW) (ω : Sig) (pre : List Nat) (st : Option (Nat × List Nat)) : Option (Nat × List Nat) :=
  @ite (Option (Nat × List Nat)) (bearS B (tw ω pre) 0 0 ∧ ¬ askdS B (tw ω pre) 0 0 ∧ (∀ x, st = some x → spN B (tw ω pre) < x.1)) (Classical.propDecidable _) (some (spN B (tw ω pre), pre)) st
abbrev seenS (B : LW) (ω w : Sig) : Prop := ∀ p, p < np ω → ω 13 p ≠ -1 → ω 13 p = nI (loadS B w 0 0 p)
noncomputable def jF (B : LW) (ω : Sig) (pre : List Nat) (st : Nat × List Nat) : Nat × List Nat :=
  @ite (Nat × List Nat) (bearS B (tw ω pre) 0 0 ∧ seenS B ω (tw ω pre)) (Classical.propDecidable _) (st.1 + 1, if st.1 = 0 then pre else st.2) st
theorem jO_y {B : LW} {ω : Sig} {pre : List Nat} {st : Option (Nat × List Nat)} (h : bearS B (tw ω pre) 0 0 ∧ ¬ askdS B (tw ω pre) 0 0 ∧ (∀ x, st = some x → spN B (tw ω pre) < x.1)) : jO B ω pre st = some (spN B (tw ω pre), pre) := if_pos h
theorem jO_n {B : LW} {ω : Sig} {pre : List Nat} {st : Option (Nat × List Nat)} (h : ¬ (bearS B (tw ω pre) 0 0 ∧ ¬ askdS B (tw ω pre) 0 0 ∧ (∀ x, st = some x → spN B (tw ω pre) < x.1))) : jO B ω pre st = st := if_neg h
theorem jF_y {B : LW} {ω : Sig} {pre : List Nat} {st : Nat × List Nat} (h : bearS B (tw ω pre) 0 0 ∧ seenS B ω (tw ω pre)) : jF B ω pre st = (st.1 + 1, if st.1 = 0 then pre else st.2) := if_pos h
theorem jF_n {B : LW} {ω : Sig} {pre : List Nat} {st : Nat × List Nat} (h : ¬ (bearS B (tw ω pre) 0 0 ∧ seenS B ω (tw ω pre))) : jF B ω pre st = st := if_neg h
def fdl {α : Type} (J : List Nat → α → α) : List (List Nat) → α → α
  | [], st => st
  | w :: r, st => fdl J r (J w st)
theorem fdl_a {α : Type} {J : List Nat → α → α} : ∀ (a b : List (List Nat)) (st : α), fdl J (a ++ b) st = fdl J b (fdl J a st) := by
  intro a
  induction a with
  | nil => intro b st; rfl
  | cons x a ih => intro b st; exact ih b (J x st)
theorem fdl_z {α : Type} {J : List Nat → α → α} {st : α} (h : ∀ w, J w st = st) : ∀ L, fdl J L st = st := by
  intro L
  induction L with
  | nil => rfl
  | cons x L ih => show fdl J L (J x st) = st; rw [h]; exact ih
noncomputable def orS (B : LW) (ω : Sig) (h : Nat → Bool) : Option (Nat × List Nat) := fdl (jO B ω) (exL (cnW ω h (np ω)) (sz ω) (np ω) []) none
noncomputable def fiT (B : LW) (ω : Sig) : Nat × List Nat := fdl (jF B ω) (exL (cnW ω (fun _ => false) (np ω)) (sz ω) (np ω) []) (0, [])
theorem jF_le {B : LW} {ω : Sig} : ∀ (L : List (List Nat)) (st : Nat × List Nat), (fdl (jF B ω) L st).1 ≤ st.1 + L.length := by
  intro L
  induction L with
  | nil => intro st; exact Nat.le_refl _
  | cons x L ih =>
    intro st
    have h := ih (jF B ω x st)
    have : (jF B ω x st).1 ≤ st.1 + 1 := by
      by_cases c : bearS B (tw ω x) 0 0 ∧ seenS B ω (tw ω x)
      · rw [jF_y c]; exact Nat.le_refl _
      · rw [jF_n c]; omega
    show (fdl (jF B ω) L (jF B ω x st)).1 ≤ _
    rw [List.length_cons]; omega
