/-! L3: how the POUNDS are parted, in natural numbers -/
def su (f : Nat → Nat) : Nat → Nat
  | 0 => 0
  | n + 1 => su f n + f n
theorem su_c {f g : Nat → Nat} {n : Nat} (h : ∀ p, p < n → f p = g p) : su f n = su g n := by
  induction n with
  | zero => rfl
  | succ n ih => rw [su, su, ih (fun p hp => h p (by omega)), h n (by omega)]
theorem su_le {f g : Nat → Nat} {n : Nat} (h : ∀ p, p < n → f p ≤ g p) : su f n ≤ su g n := by
  induction n with
  | zero => exact Nat.le_refl _
  | succ n ih =>
    have a := ih (fun p hp => h p (by omega))
    have b := h n (by omega)
    rw [su, su]; omega
theorem su_z {f : Nat → Nat} {n : Nat} : su f n = 0 ↔ ∀ p, p < n → f p = 0 := by
  induction n with
  | zero => exact ⟨fun _ p hp => absurd hp (by omega), fun _ => rfl⟩
  | succ n ih =>
    rw [su]
    constructor
    · intro h p hp
      have a : su f n = 0 := by omega
      by_cases e : p = n
      · subst e; omega
      · exact ih.mp a p (by omega)
    · intro h
      have a := ih.mpr (fun p hp => h p (by omega))
      have b := h n (by omega)
      omega
theorem su_one {f : Nat → Nat} {n p : Nat} (hp : p < n) : f p ≤ su f n := by
  induction n with
  | zero => omega
  | succ n ih =>
    rw [su]
    by_cases e : p = n
    · subst e; omega
    · have := ih (by omega); omega
theorem su_bd {f : Nat → Nat} {n b : Nat} (h : ∀ p, p < n → f p ≤ b) : su f n ≤ n * b := by
  induction n with
  | zero => simp [su]
  | succ n ih =>
    have a := ih (fun p hp => h p (by omega))
    have c := h n (by omega)
    rw [su, Nat.succ_mul]; omega
/-- what is parted downwards is no more than there is, and less than one for each is left -/
theorem su_div {l a : Nat} {s : Nat → Nat} (ha : 0 < a) {n : Nat} : a * su (fun p => l * s p / a) n ≤ l * su s n ∧ l * su s n ≤ a * su (fun p => l * s p / a) n + a * su (fun p => if 0 < s p then 1 else 0) n ∧ (0 < su s n → l * su s n < a * su (fun p => l * s p / a) n + a * su (fun p => if 0 < s p then 1 else 0) n) := by
  induction n with
  | zero => simp [su]
  | succ n ih =>
    obtain ⟨i1, i2, i3⟩ := ih
    have d1 : a * (l * s n / a) ≤ l * s n := Nat.mul_div_le _ _
    have d2 : l * s n < a * (l * s n / a) + a := by
      have := Nat.lt_mul_div_succ (l * s n) ha
      rw [Nat.mul_add, Nat.mul_one] at this
      exact this
    simp only [su, Nat.mul_add]
    by_cases h : 0 < s n
    · simp only [h, if_true, Nat.mul_one]
      omega
    · have h0 : s n = 0 := by omega
      simp only [h0, Nat.mul_zero, Nat.zero_div, Nat.lt_irrefl, if_false, Nat.add_zero]
      exact ⟨i1, i2, i3⟩
theorem su_div8 {l : Nat} {s : Nat → Nat} (h : 0 < su s 8) : su (fun p => l * s p / su s 8) 8 ≤ l ∧ l < su (fun p => l * s p / su s 8) 8 + su (fun p => if 0 < s p then 1 else 0) 8 := by
  obtain ⟨a, _, c⟩ := su_div (l := l) (s := s) h (n := 8)
  have c := c h
  rw [← Nat.mul_add] at c
  rw [Nat.mul_comm l] at a c
  exact ⟨Nat.le_of_mul_le_mul_left a h, Nat.lt_of_mul_lt_mul_left c⟩
/-- one more for each of the first r in the set -/
def hnd (am : Nat → Bool) : Nat → Nat × (Nat → Nat) → Nat × (Nat → Nat)
  | 0, s => s
  | n + 1, s => let t := hnd am n s; if am n = true ∧ 0 < t.1 then (t.1 - 1, fun p => if p = n then t.2 n + 1 else t.2 p) else t
def qt (l : Nat) (s : Nat → Nat) (p : Nat) : Nat := l * s p / su s 8
def byd (c : Nat → Nat) (l : Nat) (s : Nat → Nat) (p : Nat) : Bool := decide (c p < qt l s p)
def anyB (f : Nat → Bool) : Bool := f 0 || f 1 || f 2 || f 3 || f 4 || f 5 || f 6 || f 7
theorem anyB_f {f : Nat → Bool} : anyB f = false ↔ ∀ p, p < 8 → f p = false := by
  unfold anyB
  constructor
  · intro h p hp
    simp only [Bool.or_eq_false_iff] at h
    match p, hp with
    | 0, _ => exact h.1.1.1.1.1.1.1
    | 1, _ => exact h.1.1.1.1.1.1.2
    | 2, _ => exact h.1.1.1.1.1.2
    | 3, _ => exact h.1.1.1.1.2
    | 4, _ => exact h.1.1.1.2
    | 5, _ => exact h.1.1.2
    | 6, _ => exact h.1.2
    | 7, _ => exact h.2
  · intro h
    simp [h 0, h 1, h 2, h 3, h 4, h 5, h 6, h 7]
theorem anyB_t {f : Nat → Bool} : anyB f = true ↔ ∃ p, p < 8 ∧ f p = true := by
  constructor
  · intro h
    apply Classical.byContradiction
    intro k
    have : anyB f = false := anyB_f.mpr (fun p hp => by
      cases e : f p with
      | false => rfl
      | true => exact absurd ⟨p, hp, e⟩ k)
    rw [this] at h; cases h
  · intro ⟨p, hp, h⟩
    cases e : anyB f with
    | true => rfl
    | false => rw [anyB_f.mp e p hp] at h; cases h
def stp (c : Nat → Nat) (l : Nat) (s ld : Nat → Nat) : Nat × (Nat → Nat) × (Nat → Nat) :=
  (l - su (fun p => if byd c l s p = true then c p else 0) 8, (fun p => if byd c l s p = true then 0 else s p), (fun p => if byd c l s p = true then c p else if 0 < s p then qt l s p else ld p))
def fin (l : Nat) (s ld : Nat → Nat) : Nat → Nat := (hnd (fun p => decide (0 < s p)) 8 (l - su (qt l s) 8, fun p => if 0 < s p then qt l s p else ld p)).2
def partS (c : Nat → Nat) : Nat → Nat → (Nat → Nat) → (Nat → Nat) → Option (Nat → Nat)
  | 0, _, _, _ => none
  | f + 1, l, s, ld =>
    if su s 8 = 0 then none
    else if anyB (byd c l s) = true then partS c f (stp c l s ld).1 (stp c l s ld).2.1 (stp c l s ld).2.2
    else some (fin l s ld)
/-- what the full ones take is less than there is -/
theorem byd_lt {c : Nat → Nat} {l : Nat} {s : Nat → Nat} (h : anyB (byd c l s) = true) (hs : 0 < su s 8) : su (fun p => if byd c l s p = true then c p else 0) 8 < l := by
  have a := (su_div8 (l := l) hs).1
  obtain ⟨p, hp, hb⟩ := anyB_t.mp h
  have key : ∀ n, su (fun p => if byd c l s p = true then c p else 0) n ≤ su (qt l s) n ∧ (p < n → su (fun p => if byd c l s p = true then c p else 0) n < su (qt l s) n) := by
    intro n
    induction n with
    | zero => exact ⟨Nat.le_refl _, fun h => absurd h (by omega)⟩
    | succ n ih =>
      obtain ⟨i1, i2⟩ := ih
      have e : (if byd c l s n = true then c n else 0) ≤ qt l s n := by
        by_cases k : byd c l s n = true
        · rw [if_pos k]; have := of_decide_eq_true k; omega
        · rw [if_neg k]; omega
      simp only [su]
      refine ⟨by omega, fun hn => ?_⟩
      by_cases k : p = n
      · subst k
        rw [if_pos hb]
        have := of_decide_eq_true hb
        omega
      · have := i2 (by omega); omega
  have := (key 8).2 hp
  exact Nat.lt_of_lt_of_le this a
