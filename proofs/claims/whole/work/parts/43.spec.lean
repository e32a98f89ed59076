/-! L3: what is borne: words of its own -/
abbrev hold (σ : Sig) (g : Int32) (p : Nat) : Prop := p < np σ ∧ σ 9 p ≠ -1 ∧ (g >>> (nI p &&& 31)) &&& 1 = 0
def wN (σ : Sig) (p : Nat) : Nat := (σ 9 p).toNatClampNeg
def topX (σ : Sig) (s : Int32) (p b : Nat) (c : Int32) : Int32 := σ 3 b + c + s * (σ 8 0 - 1 - nI p / 2)
def topS (σ : Sig) (s : Int32) (p : Nat) : Int32 := topX σ s p (wN σ p) (σ 10 p)
def leastF (σ : Sig) (s g : Int32) : Nat → Int32 → Int32 := fun p a => if hold σ g p then mn a (topS σ s p) else a
def leastS (σ : Sig) (s g : Int32) : Int32 := fo (leastF σ s g) 8 1000000
def canB (σ : Sig) (b : Nat) : Int32 := σ 4 b * (1000 - σ 7 b) / 1000
def canN (σ : Sig) (p : Nat) : Nat := (canB σ (wN σ p)).toNatClampNeg
def fxX (σ : Sig) (s : Int32) (p b : Nat) (c : Int32) : Nat → Int32
  | 0 => σ 3 b
  | 1 => σ 4 b
  | 2 => σ 6 b
  | 3 => σ 7 b
  | 4 => c
  | 5 => nI p / 2
  | 6 => nI p &&& 1
  | 7 => mx 0 s
  | 8 => mx 0 (-s)
  | _ => σ 1 1
def shareX (B : LW) (σ : Sig) (s : Int32) (p b : Nat) (c l : Int32) : Int32 :=
  mx 0 (mn 999 (lawS (fun k => if k = 10 then topX σ s p b c - l else fxX σ s p b c k) B (if σ 1 1 = 1 then 1 else topX σ s p b c - l)))
def shareS (B : LW) (σ : Sig) (s l : Int32) (p : Nat) : Int32 := shareX B σ s p (wN σ p) (σ 10 p) l
def sh0 (B : LW) (σ : Sig) (s g : Int32) (p : Nat) : Nat := if hold σ g p then (shareS B σ s (leastS σ s g) p).toNatClampNeg else 0
def sh (B : LW) (σ : Sig) (s g : Int32) (p : Nat) : Nat := if su (sh0 B σ s g) 8 = 0 then (if hold σ g p then 1 else 0) else sh0 B σ s g p
def pdN (σ : Sig) : Nat := (σ 1 0).toNatClampNeg
def loadO (B : LW) (σ : Sig) (s g : Int32) : Option (Nat → Nat) := partS (canN σ) 9 (pdN σ) (sh B σ s g) (fun _ => 0)
abbrev bearS (B : LW) (σ : Sig) (s g : Int32) : Prop := (loadO B σ s g).isSome = true
def loadS (B : LW) (σ : Sig) (s g : Int32) (p : Nat) : Nat := match loadO B σ s g with
  | some f => f p
  | none => 0
abbrev askdS (B : LW) (σ : Sig) (s g : Int32) : Prop := su (sh B σ s g) 8 ≠ 0 ∧ anyB (byd (canN σ) (pdN σ) (sh B σ s g)) = true
/-- numbers within bounds -/
theorem bwN {x : Int32} {a b : Nat} (h : bw x a b) : ∃ n : Nat, x = nI n ∧ a ≤ n ∧ n ≤ b ∧ x.toNatClampNeg = n := by
  refine ⟨x.toNatClampNeg, nI_of0 (by have := h.1; omega), ?_, ?_, rfl⟩
  · have h2 : x.toNatClampNeg = x.toInt.toNat := rfl
    have := h.1; omega
  · have h2 : x.toNatClampNeg = x.toInt.toNat := rfl
    have := h.2; omega
theorem mxr (v : Int32) : ∃ n : Nat, n ≤ 999 ∧ mx 0 (mn 999 v) = nI n := by
  rw [mxmn (by decide)]
  by_cases a : 0 ≤ v
  · rw [if_pos a]
    by_cases b : v ≤ 999
    · rw [if_pos b]
      obtain ⟨n, e, _, h, _⟩ := bwN (x := v) (a := 0) (b := 999) ⟨Int32.le_iff_toInt_le.mp a, Int32.le_iff_toInt_le.mp b⟩
      exact ⟨n, h, e⟩
    · rw [if_neg b]; exact ⟨999, by omega, rfl⟩
  · rw [if_neg a]; exact ⟨0, by omega, rfl⟩
theorem shareX_n (B : LW) (σ : Sig) (s : Int32) (p b : Nat) (c l : Int32) : shareX B σ s p b c l = nI (shareX B σ s p b c l).toNatClampNeg ∧ (shareX B σ s p b c l).toNatClampNeg ≤ 999 := by
  obtain ⟨n, h, e⟩ := mxr (lawS (fun k => if k = 10 then topX σ s p b c - l else fxX σ s p b c k) B (if σ 1 1 = 1 then 1 else topX σ s p b c - l))
  unfold shareX
  rw [e, nI_c (by omega)]
  exact ⟨rfl, h⟩
/-- facts that a law doesn't ask for don't matter -/
theorem evR_f {j : Nat} {fx fy : Nat → Int32} (h : ∀ k, alw j k → fx k = fy k) : ∀ (ts : List Int32) (s : List Int32), (∀ c, c ∈ ts → -16 < c → c < 0 → alw j (-1 - c).toNatClampNeg) → evR fx ts s = evR fy ts s
  | [], _, _ => rfl
  | c :: r, s, hc => by
    have e : ev1 fx c s = ev1 fy c s := by
      unfold ev1
      by_cases k : 0 ≤ c
      · rw [if_pos k, if_pos k]
      · rw [if_neg k, if_neg k]
        by_cases m : -16 < c
        · rw [if_pos m, if_pos m, h _ (hc c (by simp) m (Int32.not_le.mp k))]
        · rw [if_neg m, if_neg m]
    rw [evR, evR, e]
    exact evR_f h r _ (fun c' h' => hc c' (by simp [h']))
theorem lawS_f {j : Nat} {fx fy : Nat → Int32} (h : ∀ k, alw j k → fx k = fy k) : ∀ (ls : LW) (o : Int32), okFa j ls → lawS fx ls o = lawS fy ls o
  | [], _, _ => rfl
  | (e, b) :: r, o, hk => by
    have h1 := evR_f h e [] (fun c hc => hk (e, b) (by simp) c (Or.inl hc))
    have h2 := evR_f h b [] (fun c hc => hk (e, b) (by simp) c (Or.inr hc))
    rw [lawS, lawS, h1, h2, lawS_f h r o (fun x hx => hk x (by simp [hx]))]
theorem lawS_0 {fx : Nat → Int32} {o : Int32} : lawS fx [] o = o := rfl
/-- places of the world -/
theorem WI_np {B T : LW} {σ : Sig} (h : WI B T σ) : 4 ≤ np σ ∧ np σ ≤ 8 ∧ 2 * σ 8 0 = nI (np σ) := by
  have h4 : wi B T σ 4 := h 4
  obtain ⟨a, b, c⟩ := h4
  refine ⟨by unfold np; omega, by unfold np; omega, ?_⟩
  have : (2 : Int32) * nI (pr σ) = nI (2 * pr σ) := nI_mul' 2 (pr σ)
  rw [a, this]; rfl
theorem WI_who {B T : LW} {σ : Sig} (h : WI B T σ) {p : Nat} (hp : p < 8) (hw : σ 9 p ≠ -1) : p < np σ ∧ wN σ p < sz σ ∧ wN σ p < 8 ∧ σ 9 p = nI (wN σ p) := by
  have h6 : wi B T σ 6 := h 6
  have h5 : wi B T σ 5 := h 5
  rcases h6 p hp with e | ⟨a, b, hb, e⟩
  · exact absurd e hw
  · have h8 := h5.2
    have : wN σ p = b := by unfold wN; rw [e, nI_c (by omega)]
    exact ⟨a, by omega, by omega, by rw [this]; exact e⟩
theorem can_n {B T : LW} {σ : Sig} (h : WI B T σ) {b : Nat} (hb : b < 8) : canB σ b = nI (canB σ b).toNatClampNeg ∧ (canB σ b).toNatClampNeg ≤ 300 := by
  have h12 : wi B T σ 12 := h 12
  have h13 : wi B T σ 13 := h 13
  obtain ⟨x, e1, _, l1, _⟩ := bwN (a := 0) (b := 300) (h12 b hb)
  obtain ⟨y, e2, _, l2, _⟩ := bwN (a := 0) (b := 1000) (h13 b hb)
  have m1 : x * (1000 - y) ≤ 300 * 1000 := Nat.mul_le_mul l1 (by omega)
  have : canB σ b = nI (x * (1000 - y) / 1000) := by
    unfold canB
    rw [e1, e2]
    have : (1000 : Int32) - nI y = nI (1000 - y) := nI_sub' (a := 1000) l2
    rw [this, nI_mul']
    exact nI_div (b := 1000) (by omega) (by omega)
  rw [this, nI_c (by omega)]
  exact ⟨rfl, by omega⟩
theorem top_b {B T : LW} {σ : Sig} (h : WI B T σ) {s : Int32} (hs : bw s (-9) 9) {p b : Nat} (hp : p < np σ) (hb : b < sz σ) {c : Int32} (hc : bw c 0 6) : bw (topX σ s p b c) 10 120 ∧ (s = 0 → bw (topX σ s p b c) 40 86) := by
  have h4 : wi B T σ 4 := h 4
  have h11 : wi B T σ 11 := h 11
  have ht := h11 b hb
  have hn := (WI_np h).2.1
  obtain ⟨e8, l1, l2⟩ := h4
  have hdv : nI p / 2 = nI (p / 2) := nI_div (b := 2) (by omega) (by omega)
  have hbe : (σ 8 0 - 1 - nI p / 2) = nI (pr σ - 1 - p / 2) := by
    rw [e8, hdv]
    have : nI (pr σ) - 1 = nI (pr σ - 1) := nI_p1 (by omega)
    have hp' : p < 2 * pr σ := hp
    rw [this, nI_sub' (by omega)]
  have hk : pr σ - 1 - p / 2 ≤ 3 := by omega
  have hnk : (nI (pr σ - 1 - p / 2)).toInt = ((pr σ - 1 - p / 2 : Nat) : Int) := nI_i (by omega)
  unfold topX
  rw [hbe]
  generalize pr σ - 1 - p / 2 = k at hk hnk
  unfold bw at *
  have hm : (s * nI k).toInt = s.toInt * k := by
    rw [Int32.toInt_mul, hnk]
    refine Int.bmod_eq_of_le ?_ ?_
    · have : k = 0 ∨ k = 1 ∨ k = 2 ∨ k = 3 := by omega
      rcases this with e | e | e | e <;> subst e <;> omega
    · have : k = 0 ∨ k = 1 ∨ k = 2 ∨ k = 3 := by omega
      rcases this with e | e | e | e <;> subst e <;> omega
  have hm2 : -27 ≤ s.toInt * k ∧ s.toInt * k ≤ 27 := by
    have : k = 0 ∨ k = 1 ∨ k = 2 ∨ k = 3 := by omega
    rcases this with e | e | e | e <;> subst e <;> omega
  have ha : (σ 3 b + c).toInt = (σ 3 b).toInt + c.toInt := by
    rw [Int32.toInt_add]; exact Int.bmod_eq_of_le (by omega) (by omega)
  have ha2 : (σ 3 b + c + s * nI k).toInt = (σ 3 b).toInt + c.toInt + s.toInt * k := by
    rw [Int32.toInt_add, ha, hm]; exact Int.bmod_eq_of_le (by omega) (by omega)
  rw [ha2]
  refine ⟨by omega, fun e => ?_⟩
  have : s.toInt = 0 := by rw [e]; rfl
  rw [this] at hm2 ⊢
  omega
