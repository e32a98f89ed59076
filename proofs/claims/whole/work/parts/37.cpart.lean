/-! L3: the class's parting -/
theorem n8 {p : Nat} (hp : p < 8) : ((8 : Int32) ≤ nI p) = False := by
  have : ((8 : Int32) ≤ nI p) = (8 ≤ p) := nJ_le (a := 8) (by omega) (by omega)
  rw [this]; exact eq_false (by omega)
theorem n88 : ((8 : Int32) ≤ nI 8) = True := eq_true (by decide)
theorem i8 {p : Nat} (hp : p < 8) : inb (nI p) 8 = true := inb_n hp (by omega)
theorem c8 {p : Nat} (hp : p < 8) : (nI p).toNatClampNeg = p := nI_c (by omega)
theorem nI_div {a b : Nat} (ha : a < 2 ^ 31) (hb : b < 2 ^ 31) : nI a / nI b = nI (a / b) := by
  apply Int32.toInt_inj.mp
  have hm : nI a ≠ Int32.minValue := by
    intro e
    have := congrArg Int32.toInt e
    rw [nI_i ha] at this
    have h2 : Int32.minValue.toInt = -2147483648 := rfl
    omega
  rw [Int32.toInt_div_of_ne_left _ _ hm, nI_i ha, nI_i hb, nI_i (Nat.lt_of_le_of_lt (Nat.div_le_self a b) ha)]
  exact (Int.ofNat_tdiv a b)
theorem nI_mul' (a b : Nat) : nI a * nI b = nI (a * b) := (Int32.ofNat_mul a b).symm
theorem nI_sub' {a b : Nat} (h : b ≤ a) : nI a - nI b = nI (a - b) := (Int32.ofNat_sub a b h).symm
theorem nI_z {a : Nat} (h : a < 2 ^ 31) : (nI a = 0) = (a = 0) := nJ_e (b := 0) h (by omega)
theorem nI_le0 {a : Nat} (h : a < 2 ^ 31) : (nI a ≤ 0) = (a = 0) := by
  have := nJ_le (b := 0) h (by omega)
  exact this.trans (propext (by omega))
theorem c_partOnce (d : Nat) (σ : Sig) (l : Nat) (am : Int32) (h : Nat → Bool) (s c : Nat → Nat) (hl : l ≤ 999) (ha : isM am h)
    (hs : ∀ p, p < 8 → h p = true → σ 71 p = nI (s p) ∧ 0 < s p ∧ s p ≤ 999) (hc : ∀ p, p < 8 → h p = true → σ 72 p = nI (c p) ∧ c p ≤ 300)
    (hne : ∃ p, p < 8 ∧ h p = true) :
    ∃ σ' r, Ex d 8 0 [.ref 67, .int (nI l), .int am, .null, .null, .null] [] G0 σ = some (some (.int r), G0, σ') ∧ Fr [68] [] σ σ'
      ∧ isM r (fun p => h p && byd c l (fun p => if h p = true then s p else 0) p)
      ∧ ∀ p, p < 8 → σ' 68 p = if h p = true then nI (qt l (fun p => if h p = true then s p else 0) p) else σ 68 p := by
  have hS : ∀ p, p < 8 → (fun p => if h p = true then s p else 0) p ≤ 999 := by
    intro p hp
    by_cases k : h p = true
    · simp only [k, if_true]; exact (hs p hp k).2.2
    · simp only [k]; exact Nat.zero_le _
  generalize hS' : (fun p => if h p = true then s p else 0) = S at hS ⊢
  have hSp : ∀ p, h p = true → S p = s p := fun p k => by rw [← hS']; simp only [k, if_true]
  have hSn : ∀ p, ¬ h p = true → S p = 0 := fun p k => by rw [← hS']; simp only [k]; rfl
  have hall : su S 8 ≤ 7992 := su_bd hS
  have hpos : 0 < su S 8 := by
    obtain ⟨p, hp, k⟩ := hne
    have := su_one (f := S) hp
    rw [hSp p k] at this
    have := (hs p hp k).2.1
    omega
  rw [b8_0]
  obtain ⟨a, e, i⟩ := loop_ex (fun p (a : Int32) => Ex d 8 5 [.ref 67, .int (nI l), .int am, .int a, .int (nI p), .null] [] G0 σ) (fun p a => a = nI (su S p)) 8 0 rfl (by
    intro p a hp i
    subst i
    rw [b8_5]
    simp only [b8_0, b8_36, b8_45, b8_117, n8 hp, i8 hp, c8 hp, M_t1 ha hp, i10, i01, eq_self, if_true, if_false, true_and, false_and, and_true, and_false, not_true, not_false_iff, true_or, or_true, false_or, or_false, ne_eq, not_true_eq_false, not_false_eq_true, nI_s]
    by_cases k : h p = true
    · simp only [k, i10, i01, eq_self, if_true, if_false, true_and, false_and, and_true, and_false, not_true, not_false_iff, true_or, or_true, false_or, or_false, ne_eq, not_true_eq_false, not_false_eq_true, (hs p hp k).1]
      exact ⟨_, rfl, by rw [nI_add, su, hSp p k]⟩
    · simp only [k, i10, i01, eq_self, if_true, if_false, true_and, false_and, and_true, and_false, not_true, not_false_iff, true_or, or_true, false_or, or_false, ne_eq, not_true_eq_false, not_false_eq_true]
      exact ⟨_, rfl, by
        rw [su, hSn p k]
        show nI (su S p) + nI 0 = _
        rw [nI_add]⟩)
  rw [show Ex d 8 5 [.ref 67, .int (nI l), .int am, .int 0, .int 0, .null] [] G0 σ = _ from e, b8_5]
  simp only [n88, b8_0, b8_36, b8_45, b8_117, i10, i01, eq_self, if_true, if_false, true_and, false_and, and_true, and_false, not_true, not_false_iff, true_or, or_true, false_or, or_false, ne_eq, not_true_eq_false, not_false_eq_true]
  subst i
  have hp2 : (nI (su S 8) ≤ 0) = False := by rw [nI_le0 (by omega)]; exact eq_false (by omega)
  have hp3 : (nI (su S 8) = 0) = False := by rw [nI_z (by omega)]; exact eq_false (by omega)
  obtain ⟨⟨σ', r⟩, e, i⟩ := loop_ex (fun p (x : Sig × Int32) => Ex d 8 48 [.ref 67, .int (nI l), .int am, .int (nI (su S 8)), .int x.2, .int (nI p)] [] G0 (x.1))
    (fun p x => Fr [68] [] σ x.1 ∧ isM x.2 (fun q => decide (q < p) && (h q && byd c l S q)) ∧ ∀ q, q < 8 → x.1 68 q = if q < p ∧ h q = true then nI (qt l S q) else σ 68 q) 8 (σ, 0)
    ⟨Fr_r, M_ext M_0 (fun p hp => by simp), fun q hq => by simp⟩ (by
    intro p ⟨σ1, r1⟩ hp ⟨i1, i2, i3⟩
    dsimp only at i1 i2 i3
    show ∃ a', Ex d 8 48 [.ref 67, .int (nI l), .int am, .int (nI (su S 8)), .int r1, .int (nI p)] [] G0 σ1 = _ ∧ _
    rw [b8_48]
    simp only [b8_0, b8_36, b8_45, b8_117, n8 hp, i8 hp, c8 hp, M_t1 ha hp, i10, i01, eq_self, if_true, if_false, true_and, false_and, and_true, and_false, not_true, not_false_iff, true_or, or_true, false_or, or_false, ne_eq, not_true_eq_false, not_false_eq_true, nI_s, hp2, hp3]
    by_cases k : h p = true
    · have e71 : σ1 71 = σ 71 := Fr_q i1 (by decide) (by simp)
      have e72 : σ1 72 = σ 72 := Fr_q i1 (by decide) (by simp)
      have hq : l * s p / su S 8 = qt l S p := by unfold qt; rw [hSp p k]
      have hm : l * s p < 2 ^ 31 := Nat.lt_of_le_of_lt (Nat.mul_le_mul hl (hs p hp k).2.2) (by decide)
      have hv : (nI l * σ1 71 p) / nI (su S 8) = nI (qt l S p) := by
        rw [e71, (hs p hp k).1, nI_mul', nI_div hm (by omega), hq]
      have hqb : qt l S p < 2 ^ 31 := by rw [← hq]; exact Nat.lt_of_le_of_lt (Nat.div_le_self _ _) hm
      have hle : (nI (qt l S p) ≤ σ1 72 p) = (qt l S p ≤ c p) := by
        rw [e72, (hc p hp k).1, nJ_le hqb (by have := (hc p hp k).2; omega)]
      simp only [k, i10, i01, eq_self, if_true, if_false, true_and, false_and, and_true, and_false, not_true, not_false_iff, true_or, or_true, false_or, or_false, ne_eq, not_true_eq_false, not_false_eq_true, hv, pt_e, pt_q (show (72 : Nat) ≠ 68 by decide), hle, M_or0]
      have hfr : Fr [68] [] σ (pt σ1 68 p (nI (qt l S p))) := Fr_p i1 (Or.inl (by simp))
      have hld : ∀ q, q < 8 → pt σ1 68 p (nI (qt l S p)) 68 q = if q < p + 1 ∧ h q = true then nI (qt l S q) else σ 68 q := by
        intro q hq8
        by_cases eq : q = p
        · subst eq; rw [pt_e, if_pos ⟨by omega, k⟩]
        · rw [pt_k eq, i3 q hq8]
          by_cases l1 : q < p
          · have : q < p + 1 := by omega
            simp only [l1, this]
          · have : ¬ q < p + 1 := by omega
            simp only [l1, this]
      by_cases b : qt l S p ≤ c p
      · simp only [b, i10, i01, eq_self, if_true, if_false, true_and, false_and, and_true, and_false, not_true, not_false_iff, true_or, or_true, false_or, or_false, ne_eq, not_true_eq_false, not_false_eq_true]
        refine ⟨(_, _), rfl, hfr, M_ext i2 (fun q hq8 => ?_), hld⟩
        by_cases eq : q = p
        · subst eq
          have : byd c l S q = false := decide_eq_false (by omega)
          simp [this]
        · have : (q < p + 1) = (q < p) := propext (by omega)
          simp only [this]
      · simp only [b, i10, i01, eq_self, if_true, if_false, true_and, false_and, and_true, and_false, not_true, not_false_iff, true_or, or_true, false_or, or_false, ne_eq, not_true_eq_false, not_false_eq_true]
        refine ⟨(_, _), rfl, hfr, M_ext (M_add i2 hp) (fun q hq8 => ?_), hld⟩
        by_cases eq : q = p
        · subst eq
          have : byd c l S q = true := decide_eq_true (by omega)
          simp [this, k]
        · have : (q < p + 1) = (q < p) := propext (by omega)
          simp [this, eq]
    · simp only [k, i10, i01, eq_self, if_true, if_false, true_and, false_and, and_true, and_false, not_true, not_false_iff, true_or, or_true, false_or, or_false, ne_eq, not_true_eq_false, not_false_eq_true]
      refine ⟨(_, _), rfl, i1, M_ext i2 (fun q hq8 => ?_), fun q hq8 => ?_⟩
      · by_cases eq : q = p
        · subst eq; simp [k]
        · have : (q < p + 1) = (q < p) := propext (by omega)
          simp only [this]
      · show σ1 68 q = _
        rw [i3 q hq8]
        by_cases eq : q = p
        · subst eq; simp [k]
        · have : (q < p + 1) = (q < p) := propext (by omega)
          simp only [this])
  obtain ⟨i1, i2, i3⟩ := i
  dsimp only at i1 i2 i3
  refine ⟨σ', r, ?_, i1, M_ext i2 (fun q hq => by simp [hq]), fun q hq => ?_⟩
  · refine (e : Ex d 8 48 [.ref 67, .int (nI l), .int am, .int (nI (su S 8)), .int 0, .int 0] [] G0 σ = _).trans ?_
    show Ex d 8 48 [.ref 67, .int (nI l), .int am, .int (nI (su S 8)), .int r, .int (nI 8)] [] G0 (σ') = _
    rw [b8_48]
    simp only [n88, i10, i01, eq_self, if_true, if_false, true_and, false_and, and_true, and_false, not_true, not_false_iff, true_or, or_true, false_or, or_false, ne_eq, not_true_eq_false, not_false_eq_true]
  · have := i3 q hq
    rw [this]
    simp [hq]
/-- what is left is handed out -/
theorem c_handOut (d : Nat) (σ : Sig) (l : Nat) (am : Int32) (h : Nat → Bool) (ld : Nat → Nat) (hl : l ≤ 999) (ha : isM am h)
    (hd : ∀ p, p < 8 → h p = true → σ 68 p = nI (ld p)) (hle : su (fun p => if h p = true then ld p else 0) 8 ≤ l) :
    ∃ σ', Ex d 9 0 [.ref 67, .int (nI l), .int am, .null, .null] [] G0 σ = some (none, G0, σ') ∧ Fr [68] [] σ σ'
      ∧ ∀ p, p < 8 → σ' 68 p = if h p = true then nI ((hnd h 8 (l - su (fun p => if h p = true then ld p else 0) 8, ld)).2 p) else σ 68 p := by
  generalize hS' : (fun p => if h p = true then ld p else 0) = S at hle ⊢
  have hSp : ∀ p, h p = true → S p = ld p := fun p k => by rw [← hS']; simp only [k, if_true]
  have hSn : ∀ p, ¬ h p = true → S p = 0 := fun p k => by rw [← hS']; simp only [k]; rfl
  have mono : ∀ n, n ≤ 8 → su S n ≤ l := by
    have key : ∀ k n, su S n ≤ su S (n + k) := by
      intro k n
      induction k with
      | zero => exact Nat.le_refl _
      | succ k ih => show su S n ≤ su S (n + k) + S (n + k); omega
    intro n hn
    have := key (8 - n) n
    rw [show n + (8 - n) = 8 by omega] at this
    omega
  rw [b9_0]
  obtain ⟨a, e, i⟩ := loop_ex (fun p (a : Int32) => Ex d 9 5 [.ref 67, .int (nI l), .int am, .int a, .int (nI p)] [] G0 σ) (fun p a => a = nI (l - su S p)) 8 (nI l) rfl (by
    intro p a hp i
    subst i
    rw [b9_5]
    simp only [b9_0, b9_36, b9_52, b9_86, n8 hp, i8 hp, c8 hp, M_t1 ha hp, i10, i01, eq_self, if_true, if_false, true_and, false_and, and_true, and_false, not_true, not_false_iff, true_or, or_true, false_or, or_false, ne_eq, not_true_eq_false, not_false_eq_true, nI_s]
    have m1 := mono p (by omega)
    have m2 := mono (p + 1) (by omega)
    rw [su] at m2
    by_cases k : h p = true
    · simp only [k, i10, i01, eq_self, if_true, if_false, true_and, false_and, and_true, and_false, not_true, not_false_iff, true_or, or_true, false_or, or_false, ne_eq, not_true_eq_false, not_false_eq_true, hd p hp k]
      rw [hSp p k] at m2
      exact ⟨_, rfl, by rw [nI_sub' (by omega), su, hSp p k, Nat.sub_sub]⟩
    · simp only [k, i10, i01, eq_self, if_true, if_false, true_and, false_and, and_true, and_false, not_true, not_false_iff, true_or, or_true, false_or, or_false, ne_eq, not_true_eq_false, not_false_eq_true]
      exact ⟨_, rfl, by
        rw [su, hSn p k]
        show nI (l - su S p) - nI 0 = _
        rw [nI_sub' (by omega)]; rfl⟩)
  rw [show Ex d 9 5 [.ref 67, .int (nI l), .int am, .int (nI l), .int 0] [] G0 σ = _ from e, b9_5]
  simp only [n88, b9_0, b9_36, b9_52, b9_86, i10, i01, eq_self, if_true, if_false, true_and, false_and, and_true, and_false, not_true, not_false_iff, true_or, or_true, false_or, or_false, ne_eq, not_true_eq_false, not_false_eq_true]
  subst i
  generalize hr : l - su S 8 = r
  -- the second loop may end early: with nothing left nothing changes any more
  have main : ∀ k p, p + k = 8 → ∀ σ1, Fr [68] [] σ σ1 → (∀ q, q < 8 → σ1 68 q = if h q = true then nI ((hnd h p (r, ld)).2 q) else σ 68 q) → ∃ σ', Ex d 9 45 [.ref 67, .int (nI l), .int am, .int (nI (hnd h p (r, ld)).1), .int (nI p)] [] G0 σ1 = some (none, G0, σ') ∧ Fr [68] [] σ σ' ∧ ∀ q, q < 8 → σ' 68 q = if h q = true then nI ((hnd h 8 (r, ld)).2 q) else σ 68 q := by
    have hb : ∀ p, (hnd h p (r, ld)).1 ≤ r := by
      intro p
      induction p with
      | zero => exact Nat.le_refl _
      | succ p ih =>
        rw [hnd]
        split
        · dsimp only; omega
        · exact ih
    have hz : ∀ k p, p + k = 8 → (hnd h p (r, ld)).1 = 0 → hnd h 8 (r, ld) = hnd h p (r, ld) := by
      intro k
      induction k with
      | zero => intro p hp _; rw [show p = 8 by omega]
      | succ k ih =>
        intro p hp h0
        have e1 : hnd h (p + 1) (r, ld) = hnd h p (r, ld) := by
          rw [hnd]; rw [if_neg (by omega)]
        rw [ih (p + 1) (by omega) (by rw [e1]; exact h0), e1]
    intro k
    induction k with
    | zero =>
      intro p hp σ1 f1 f2
      have : p = 8 := by omega
      subst this
      rw [b9_45]
      simp only [n88, b9_0, b9_36, b9_52, b9_86, i10, i01, eq_self, if_true, if_false, true_and, false_and, and_true, and_false, not_true, not_false_iff, true_or, or_true, false_or, or_false, ne_eq, not_true_eq_false, not_false_eq_true]
      exact ⟨σ1, rfl, f1, f2⟩
    | succ k ih =>
      intro p hpk σ1 f1 f2
      have hp : p < 8 := by omega
      have hbp := hb p
      rw [b9_45]
      simp only [b9_0, b9_36, b9_52, b9_86, n8 hp, i8 hp, c8 hp, M_t1 ha hp, i10, i01, eq_self, if_true, if_false, true_and, false_and, and_true, and_false, not_true, not_false_iff, true_or, or_true, false_or, or_false, ne_eq, not_true_eq_false, not_false_eq_true, nI_s, nI_le0 (show (hnd h p (r, ld)).1 < 2 ^ 31 by omega)]
      by_cases z : (hnd h p (r, ld)).1 = 0
      · simp only [z, i10, i01, eq_self, if_true, if_false, true_and, false_and, and_true, and_false, not_true, not_false_iff, true_or, or_true, false_or, or_false, ne_eq, not_true_eq_false, not_false_eq_true]
        refine ⟨σ1, rfl, f1, ?_⟩
        rw [hz (k + 1) p hpk z]; exact f2
      · simp only [z, i10, i01, eq_self, if_true, if_false, true_and, false_and, and_true, and_false, not_true, not_false_iff, true_or, or_true, false_or, or_false, ne_eq, not_true_eq_false, not_false_eq_true]
        by_cases c : h p = true
        · simp only [c, i10, i01, eq_self, if_true, if_false, true_and, false_and, and_true, and_false, not_true, not_false_iff, true_or, or_true, false_or, or_false, ne_eq, not_true_eq_false, not_false_eq_true]
          have e1 : hnd h (p + 1) (r, ld) = ((hnd h p (r, ld)).1 - 1, fun q => if q = p then (hnd h p (r, ld)).2 p + 1 else (hnd h p (r, ld)).2 q) := by
            rw [hnd]; rw [if_pos ⟨c, by omega⟩]
          have e2 : nI (hnd h p (r, ld)).1 + (-1) = nI (hnd h (p + 1) (r, ld)).1 := by
            rw [e1]
            dsimp only
            rw [← nI_sub' (show 1 ≤ (hnd h p (r, ld)).1 by omega), Int32.sub_eq_add_neg]; rfl
          rw [e2]
          refine ih (p + 1) (by omega) _ (Fr_p f1 (Or.inl (by simp))) (fun q hq => ?_)
          by_cases eq : q = p
          · subst eq
            rw [pt_e, f2 q hq, if_pos c, if_pos c, e1]
            dsimp only
            rw [if_pos rfl, nI_s]
          · rw [pt_k eq, f2 q hq, e1]
            dsimp only
            rw [if_neg eq]
        · simp only [c, i10, i01, eq_self, if_true, if_false, true_and, false_and, and_true, and_false, not_true, not_false_iff, true_or, or_true, false_or, or_false, ne_eq, not_true_eq_false, not_false_eq_true]
          have e1 : hnd h (p + 1) (r, ld) = hnd h p (r, ld) := by
            rw [hnd]; rw [if_neg (fun e => c e.1)]
          have := ih (p + 1) (by omega) σ1 f1 (by rw [e1]; exact f2)
          rw [e1] at this
          exact this
  exact main 8 0 rfl σ Fr_r (fun q hq => by
    by_cases c : h q = true
    · rw [if_pos c, hd q hq c]; rfl
    · rw [if_neg c])
