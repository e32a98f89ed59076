/-! L3: SPREAD, who is idle -/
theorem qt_le {l : Nat} {s : Nat → Nat} {p : Nat} (hp : p < 8) : qt l s p ≤ l := by
  unfold qt
  by_cases z : su s 8 = 0
  · rw [z, Nat.div_zero]; omega
  · have := su_one (f := s) hp
    exact Nat.div_le_of_le_mul (by rw [Nat.mul_comm (su s 8)]; exact Nat.mul_le_mul_left l this)
theorem hnd_bd {am : Nat → Bool} {r : Nat} {ld : Nat → Nat} {p m : Nat} (h : ld p ≤ m) : ∀ n, (p < n → (hnd am n (r, ld)).2 p ≤ m + 1) ∧ (n ≤ p → (hnd am n (r, ld)).2 p ≤ m) := by
  intro n
  induction n with
  | zero => exact ⟨fun h => by omega, fun _ => h⟩
  | succ n ih =>
    rw [hnd]
    by_cases k : am n = true ∧ 0 < (hnd am n (r, ld)).1
    · rw [if_pos k]; dsimp only
      by_cases e : p = n
      · subst e; rw [if_pos rfl]; have := ih.2 (Nat.le_refl _); exact ⟨fun _ => by omega, fun h => by omega⟩
      · rw [if_neg e]; exact ⟨fun h => ih.1 (by omega), fun h => ih.2 (by omega)⟩
    · rw [if_neg k]
      by_cases e : p = n
      · subst e; have := ih.2 (Nat.le_refl _); exact ⟨fun _ => by omega, fun h => by omega⟩
      · exact ⟨fun h => ih.1 (by omega), fun h => ih.2 (by omega)⟩
theorem part_bd {c : Nat → Nat} {p : Nat} (hp : p < 8) (hc : c p ≤ 999) : ∀ (f l : Nat) (s ld g : Nat → Nat), partS c f l s ld = some g → l ≤ 999 → ld p ≤ 999 → g p ≤ 1000 := by
  intro f
  induction f with
  | zero => intro l s ld g h; cases h
  | succ f ih =>
    intro l s ld g h hl hd
    have hq := qt_le (l := l) (s := s) hp
    rw [partS] at h
    by_cases z : su s 8 = 0
    · rw [if_pos z] at h; cases h
    · rw [if_neg z] at h
      by_cases a : anyB (byd c l s) = true
      · rw [if_pos a] at h
        refine ih _ _ _ g h ?_ ?_
        · unfold stp; dsimp only; omega
        · unfold stp; dsimp only
          split
          · exact hc
          · split
            · omega
            · exact hd
      · rw [if_neg a] at h
        cases h
        unfold fin
        refine (hnd_bd (m := 999) ?_ 8).1 hp
        split
        · omega
        · exact hd
theorem load_bd {B T : LW} {σ : Sig} (hW : WI B T σ) {s g : Int32} {p : Nat} (hp : p < 8) : loadS B σ s g p ≤ 1000 := by
  unfold loadS
  cases h : loadO B σ s g with
  | none => exact Nat.zero_le _
  | some f =>
    obtain ⟨_, ep, _, p9, _⟩ := bwN (a := 1) (b := 999) (show bw (σ 1 0) 1 999 from hW 0)
    have hl : pdN σ ≤ 999 := by unfold pdN; rw [ep, nI_c (by omega)]; exact p9
    unfold loadO at h
    by_cases hh : hold σ g p
    · have hw := WI_who hW hp hh.2.1
      exact part_bd hp (by have := (can_n hW hw.2.2.1).2; show canN σ p ≤ 999; unfold canN; omega) 9 _ _ _ f h hl (by omega)
    · have : sh B σ s g p = 0 := by
        unfold sh sh0
        rw [if_neg hh, if_neg hh]; split <;> rfl
      show f p ≤ 1000
      rw [part_out 9 _ _ _ f h this rfl]; omega
theorem bear_hold {B : LW} {σ : Sig} {s g : Int32} (h : bearS B σ s g) : ∃ p, hold σ g p := by
  apply Classical.byContradiction
  intro k
  have hz : su (sh B σ s g) 8 = 0 := su_z.mpr (fun p _ => by
    have : ¬ hold σ g p := fun e => k ⟨p, e⟩
    unfold sh sh0
    rw [if_neg this, if_neg this]; split <;> rfl)
  have : loadO B σ s g = none := by unfold loadO; rw [partS, if_pos hz]
  have h' : (loadO B σ s g).isSome = true := h
  rw [this] at h'; cases h'
def gMn (σ : Sig) (g : Int32) (v : Nat → Nat) : Nat → Int32 → Int32 := fun p a => if hold σ g p then mn a (nI (v p)) else a
def gMx (σ : Sig) (g : Int32) (v : Nat → Nat) : Nat → Int32 → Int32 := fun p a => if hold σ g p then mx a (nI (v p)) else a
def spreadS (B : LW) (σ : Sig) (s g : Int32) : Int32 := fo (gMx σ g (loadS B σ s g)) 8 0 - fo (gMn σ g (loadS B σ s g)) 8 1000000
theorem gMn_s {σ : Sig} {g : Int32} {v : Nat → Nat} {i j : Int32} (hi : ∀ p, hold σ g p → (v p : Int) < i.toInt ∧ (v p : Int) < j.toInt ∧ v p < 2 ^ 31) : ∀ n, (fo (gMn σ g v) n i = fo (gMn σ g v) n j) ∨ ((∀ p, p < n → ¬ hold σ g p) ∧ fo (gMn σ g v) n i = i ∧ fo (gMn σ g v) n j = j) := by
  intro n
  induction n with
  | zero => exact Or.inr ⟨fun p hp => by omega, rfl, rfl⟩
  | succ n ih =>
    rcases ih with e | ⟨h, e1, e2⟩
    · left; rw [fo, fo, e]
    · by_cases k : hold σ g n
      · left
        rw [fo, fo, e1, e2]
        unfold gMn
        rw [if_pos k, if_pos k]
        obtain ⟨a, b, c⟩ := hi n k
        unfold mn
        rw [if_pos (Int32.lt_iff_toInt_lt.mpr (by rw [nI_i c]; exact a)), if_pos (Int32.lt_iff_toInt_lt.mpr (by rw [nI_i c]; exact b))]
      · right
        refine ⟨fun p hp => ?_, ?_, ?_⟩
        · by_cases e : p = n
          · subst e; exact k
          · exact h p (by omega)
        · rw [fo, e1]; unfold gMn; rw [if_neg k]
        · rw [fo, e2]; unfold gMn; rw [if_neg k]
theorem gMx_s {σ : Sig} {g : Int32} {v : Nat → Nat} (hi : ∀ p, hold σ g p → v p < 2 ^ 31) : ∀ n, (fo (gMx σ g v) n (-1) = fo (gMx σ g v) n 0) ∨ ((∀ p, p < n → ¬ hold σ g p) ∧ fo (gMx σ g v) n (-1) = -1 ∧ fo (gMx σ g v) n 0 = 0) := by
  intro n
  induction n with
  | zero => exact Or.inr ⟨fun p hp => by omega, rfl, rfl⟩
  | succ n ih =>
    rcases ih with e | ⟨h, e1, e2⟩
    · left; rw [fo, fo, e]
    · by_cases k : hold σ g n
      · left
        rw [fo, fo, e1, e2]
        unfold gMx
        rw [if_pos k, if_pos k]
        have c := hi n k
        unfold mx
        have m1 : (-1 : Int32).toInt = -1 := rfl
        have z : (0 : Int32).toInt = 0 := rfl
        rw [if_pos (Int32.lt_iff_toInt_lt.mpr (by rw [nI_i c, m1]; omega))]
        by_cases q : v n = 0
        · rw [q]; rfl
        · rw [if_pos (Int32.lt_iff_toInt_lt.mpr (by rw [nI_i c, z]; omega))]
      · right
        refine ⟨fun p hp => ?_, ?_, ?_⟩
        · by_cases e : p = n
          · subst e; exact k
          · exact h p (by omega)
        · rw [fo, e1]; unfold gMx; rw [if_neg k]
        · rw [fo, e2]; unfold gMx; rw [if_neg k]
/-- what is known behind the class's bears -/
def Bd (B : LW) (ω : Sig) (s g : Int32) (σ : Sig) : Prop := isM (σ 67 2) (fun p => decide (hold ω g p)) ∧ σ 67 3 = bI (askdS B ω s g) ∧ (∀ p, p < np ω → σ 68 p = nI (loadS B ω s g p)) ∧ (∀ p, p < 8 → hold ω g p → σ 72 p = canB ω (wN ω p))
theorem c_spread (d : Nat) {B T : LW} {ω σ : Sig} {s g : Int32} (hW : WI B T ω) (hb : Bd B ω s g σ) (hbe : bearS B ω s g) : Ex (d + 1) 11 0 [.ref 67, .null, .null, .null] [] G0 σ = some (some (.int (spreadS B ω s g)), G0, σ) := by
  obtain ⟨h1, _, h3, _⟩ := hb
  have hbit : ∀ p, p < 8 → ((σ 67 2 >>> (nI p &&& 31)) &&& 1 = 1) = hold ω g p := fun p hp => by rw [M_t1 h1 hp]; simp only [decide_eq_true_eq]
  rw [b11_0]
  have e := loop_fo (fun p (x : Int32 × Int32) => Ex (d + 1) 11 7 [.ref 67, .int x.1, .int x.2, .int (nI p)] [] G0 σ) (fun p x => (gMx ω g (loadS B ω s g) p x.1, gMn ω g (loadS B ω s g) p x.2)) 8 (0, 2147483647) (by
    intro p ⟨a, b⟩ hp
    show Ex (d + 1) 11 7 [.ref 67, .int a, .int b, .int (nI p)] [] G0 σ = _
    rw [b11_7]
    unfold gMx gMn
    simp only [n8 hp, hbit p hp, i8 hp, c8 hp, i10, i01, eq_self, if_true, if_false, true_and, false_and, and_true, and_false, not_true, not_false_iff, true_or, or_true, false_or, or_false, ne_eq, not_true_eq_false, not_false_eq_true]
    by_cases hh : hold ω g p
    · simp only [eq_true hh, i10, i01, eq_self, if_true, if_false, true_and, false_and, and_true, and_false, not_true, not_false_iff, true_or, or_true, false_or, or_false, ne_eq, not_true_eq_false, not_false_eq_true, c_max, Option.bind_some, Option.toList_some, Option.toList_none, List.cons_append, List.nil_append, i01a, i01b, if_true, if_false, b11_35, i8 hp, c8 hp, c_min, b11_46, b11_50, h3 p hh.1, nI_s]
    · simp only [hh, i10, i01, eq_self, if_true, if_false, true_and, false_and, and_true, and_false, not_true, not_false_iff, true_or, or_true, false_or, or_false, ne_eq, not_true_eq_false, not_false_eq_true, b11_50, nI_s])
  have key : ∀ n a b, fo (fun p (x : Int32 × Int32) => (gMx ω g (loadS B ω s g) p x.1, gMn ω g (loadS B ω s g) p x.2)) n (a, b) = (fo (gMx ω g (loadS B ω s g)) n a, fo (gMn ω g (loadS B ω s g)) n b) := by
    intro n a b
    induction n with
    | zero => rfl
    | succ n ih => rw [fo, ih]; rfl
  rw [key] at e
  rw [show Ex (d + 1) 11 7 [.ref 67, .int 0, .int 2147483647, .int 0] [] G0 σ = _ from e]
  show Ex (d + 1) 11 7 [.ref 67, .int (fo (gMx ω g (loadS B ω s g)) 8 0), .int (fo (gMn ω g (loadS B ω s g)) 8 2147483647), .int (nI 8)] [] G0 σ = _
  rw [b11_7]
  obtain ⟨q, hq⟩ := bear_hold hbe
  have hn8 := (WI_np hW).2.1
  have nz : (σ 67 2 = 0) = False := by
    rw [M_z h1]
    refine eq_false (fun h => ?_)
    have := of_decide_eq_false (h q (by have := hq.1; omega))
    exact this hq
  simp only [n88, nz, i10, i01, eq_self, if_true, if_false, true_and, false_and, and_true, and_false, not_true, not_false_iff, true_or, or_true, false_or, or_false, ne_eq, not_true_eq_false, not_false_eq_true]
  have a := gMn_s (σ := ω) (g := g) (v := loadS B ω s g) (i := 2147483647) (j := 1000000) (fun p hp => by
    have := load_bd hW (s := s) (g := g) (p := p) (by have := hp.1; omega)
    have h1 : (2147483647 : Int32).toInt = 2147483647 := rfl
    have h2 : (1000000 : Int32).toInt = 1000000 := rfl
    omega) 8
  rcases a with a | ⟨a, _, _⟩
  · unfold spreadS; rw [a]
  · exact absurd hq (a q (by have := hq.1; omega))
theorem m_spread (d : Nat) {B T : LW} {ω σ : Sig} {s g : Int32} (hM : MR B T ω σ) (hW : WI B T ω) (hl : ∀ p, p < 8 → σ 136 p = nI (loadS B ω s g p)) :
    ∃ v, Ex (d + 4) 214 0 [.ref 112, .int g, .null, .null, .null] [] G0 σ = some (some (.int v), G0, σ) ∧ (bearS B ω s g → v = spreadS B ω s g) := by
  rw [b214_0]
  have e := loop_fo (fun p (x : Int32 × Int32) => Ex (d + 4) 214 9 [.ref 112, .int g, .int x.1, .int x.2, .int (nI p)] [] G0 σ) (fun p x => (gMx ω g (loadS B ω s g) p x.1, gMn ω g (loadS B ω s g) p x.2)) 8 (-1, 1000000) (by
    intro p ⟨a, b⟩ hp
    show Ex (d + 4) 214 9 [.ref 112, .int g, .int a, .int b, .int (nI p)] [] G0 σ = _
    rw [b214_9]
    unfold gMx gMn
    simp only [n8 hp, m_holds d hM hW g hp, i10, i01, eq_self, if_true, if_false, true_and, false_and, and_true, and_false, not_true, not_false_iff, true_or, or_true, false_or, or_false, ne_eq, not_true_eq_false, not_false_eq_true, Option.bind_some, Option.toList_some, Option.toList_none, List.cons_append, List.nil_append, i01a, i01b, if_true, if_false, b214_23, bI_z, bI_o, bI_em, ite_not]
    by_cases hh : hold ω g p
    · simp only [eq_true hh, i10, i01, eq_self, if_true, if_false, true_and, false_and, and_true, and_false, not_true, not_false_iff, true_or, or_true, false_or, or_false, ne_eq, not_true_eq_false, not_false_eq_true, i8 hp, c8 hp, m_greater, Option.bind_some, Option.toList_some, Option.toList_none, List.cons_append, List.nil_append, i01a, i01b, if_true, if_false, b214_41, m_lesser, b214_54, hl p hp, nI_s]
    · simp only [hh, i10, i01, eq_self, if_true, if_false, true_and, false_and, and_true, and_false, not_true, not_false_iff, true_or, or_true, false_or, or_false, ne_eq, not_true_eq_false, not_false_eq_true, nI_s])
  have key : ∀ n a b, fo (fun p (x : Int32 × Int32) => (gMx ω g (loadS B ω s g) p x.1, gMn ω g (loadS B ω s g) p x.2)) n (a, b) = (fo (gMx ω g (loadS B ω s g)) n a, fo (gMn ω g (loadS B ω s g)) n b) := by
    intro n a b
    induction n with
    | zero => rfl
    | succ n ih => rw [fo, ih]; rfl
  rw [key] at e
  rw [show Ex (d + 4) 214 9 [.ref 112, .int g, .int (-1), .int 1000000, .int 0] [] G0 σ = _ from e]
  show ∃ v, Ex (d + 4) 214 9 [.ref 112, .int g, .int (fo (gMx ω g (loadS B ω s g)) 8 (-1)), .int (fo (gMn ω g (loadS B ω s g)) 8 1000000), .int (nI 8)] [] G0 σ = _ ∧ _
  rw [b214_9]
  simp only [n88, i10, i01, eq_self, if_true, if_false, true_and, false_and, and_true, and_false, not_true, not_false_iff, true_or, or_true, false_or, or_false, ne_eq, not_true_eq_false, not_false_eq_true]
  refine ⟨_, rfl, fun hbe => ?_⟩
  obtain ⟨q, hq⟩ := bear_hold hbe
  have hn8 := (WI_np hW).2.1
  have a := gMx_s (σ := ω) (g := g) (v := loadS B ω s g) (fun p hp => by
    have := load_bd hW (s := s) (g := g) (p := p) (by have := hp.1; omega)
    omega) 8
  rcases a with a | ⟨a, _, _⟩
  · unfold spreadS; rw [a]
  · exact absurd hq (a q (by have := hq.1; omega))
/-- the set of those who HOLD and bear nothing -/
def idleB (B : LW) (σ : Sig) (s : Int32) (p : Nat) : Bool := decide (hold σ 0 p ∧ loadS B σ s 0 p = 0)
theorem c_idleSet (d : Nat) {B T : LW} {ω σ : Sig} {s : Int32} (hW : WI B T ω) (hb : Bd B ω s 0 σ) : ∃ v, Ex d 10 0 [.ref 67, .null, .null] [] G0 σ = some (some (.int v), G0, σ) ∧ isM v (idleB B ω s) := by
  obtain ⟨h1, _, h3, _⟩ := hb
  have hbit : ∀ p, p < 8 → ((σ 67 2 >>> (nI p &&& 31)) &&& 1 = 1) = hold ω 0 p := fun p hp => by rw [M_t1 h1 hp]; simp only [decide_eq_true_eq]
  rw [b10_0]
  obtain ⟨a, e, i⟩ := loop_ex (fun p (a : Int32) => Ex d 10 4 [.ref 67, .int a, .int (nI p)] [] G0 σ) (fun p a => isM a (fun q => decide (q < p) && idleB B ω s q)) 8 0 (M_ext M_0 (fun q _ => by simp)) (by
    intro p a hp i
    show ∃ a', Ex d 10 4 [.ref 67, .int a, .int (nI p)] [] G0 σ = _ ∧ _
    rw [b10_4]
    simp only [n8 hp, i10, i01, eq_self, if_true, if_false, true_and, false_and, and_true, and_false, not_true, not_false_iff, true_or, or_true, false_or, or_false, ne_eq, not_true_eq_false, not_false_eq_true, b10_10, hbit p hp, i8 hp, c8 hp, nI_s]
    have ext : idleB B ω s p = false → isM a (fun q => decide (q < p + 1) && idleB B ω s q) := fun k => M_ext i (fun q hq => by
      by_cases e : q = p
      · subst e; simp [k]
      · have : (q < p + 1) = (q < p) := propext (by omega)
        simp only [this])
    by_cases hh : hold ω 0 p
    · have hlb := load_bd hW (s := s) (g := 0) hp
      simp only [eq_true hh, i10, i01, eq_self, if_true, if_false, true_and, false_and, and_true, and_false, not_true, not_false_iff, true_or, or_true, false_or, or_false, ne_eq, not_true_eq_false, not_false_eq_true, h3 p hh.1, nI_z (show loadS B ω s 0 p < 2 ^ 31 by omega)]
      by_cases z : loadS B ω s 0 p = 0
      · simp only [eq_true z, i10, i01, eq_self, if_true, if_false, true_and, false_and, and_true, and_false, not_true, not_false_iff, true_or, or_true, false_or, or_false, ne_eq, not_true_eq_false, not_false_eq_true]
        refine ⟨_, rfl, M_ext (M_add i hp) (fun q hq => ?_)⟩
        by_cases e : q = p
        · subst e; unfold idleB; simp [hh, z]
        · have : (q < p + 1) = (q < p) := propext (by omega)
          simp [this, e]
      · simp only [eq_false z, i10, i01, eq_self, if_true, if_false, true_and, false_and, and_true, and_false, not_true, not_false_iff, true_or, or_true, false_or, or_false, ne_eq, not_true_eq_false, not_false_eq_true]
        exact ⟨_, rfl, ext (decide_eq_false (fun h => z h.2))⟩
    · simp only [hh, i10, i01, eq_self, if_true, if_false, true_and, false_and, and_true, and_false, not_true, not_false_iff, true_or, or_true, false_or, or_false, ne_eq, not_true_eq_false, not_false_eq_true]
      exact ⟨_, rfl, ext (decide_eq_false (fun h => hh h.1))⟩)
  rw [show Ex d 10 4 [.ref 67, .int 0, .int 0] [] G0 σ = _ from e, b10_4]
  simp only [n88, i10, i01, eq_self, if_true, if_false, true_and, false_and, and_true, and_false, not_true, not_false_iff, true_or, or_true, false_or, or_false, ne_eq, not_true_eq_false, not_false_eq_true, b10_43]
  exact ⟨a, rfl, M_ext i (fun q hq => by simp [hq])⟩
