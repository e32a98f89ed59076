/-! L3: the model asks a law -/
theorem m_twoOf (d : Nat) (σ : Sig) (c a b : Int32) (h : isOp c) (hd : c = -48 → b ≠ 0) (hl : c = -20 ∨ c = -19 → (a = 0 ∨ a = 1) ∧ (b = 0 ∨ b = 1)) : Ex d 202 0 [.ref 112, .int (mop c), .int a, .int b] [] G0 σ = some (some (.int (jn c a b)), G0, σ) := by
  simp only [b202_0, b202_105, b202_109]
  unfold isOp at h
  rcases h with h | h | h | h | h | h | h | h | h <;> subst h
  · rfl
  · rfl
  · rfl
  · have z := hd rfl
    show (if b = 0 then none else some (some (.int (a / b)), G0, σ) : Option Out) = some (some (.int (if b = 0 then 0 else a / b)), G0, σ)
    rw [if_neg z, if_neg z]
  · show (if b ≤ a then some (some (.int 0), G0, σ) else some (some (.int 1), G0, σ) : Option Out) = some (some (.int (if b ≤ a then 0 else 1)), G0, σ)
    split <;> rfl
  · show (if a = b then some (some (.int 1), G0, σ) else some (some (.int 0), G0, σ) : Option Out) = some (some (.int (if a = b then 1 else 0)), G0, σ)
    split <;> rfl
  · show (if a ≤ b then some (some (.int 0), G0, σ) else some (some (.int 1), G0, σ) : Option Out) = some (some (.int (if a ≤ b then 0 else 1)), G0, σ)
    split <;> rfl
  · have z := hl (Or.inl rfl)
    show (some (some (.int (a * b)), G0, σ) : Option Out) = some (some (.int (a &&& b)), G0, σ)
    rw [(a01 z.1 z.2).2.2.1]
  · have z := hl (Or.inr rfl)
    show (if a + b ≤ 0 then some (some (.int 0), G0, σ) else some (some (.int 1), G0, σ) : Option Out) = some (some (.int (a ||| b)), G0, σ)
    rw [(a01 z.1 z.2).2.2.2.1]
    split <;> rfl
theorem mopk {c : Int32} (h : isOp c) : ¬ mop c = 0 ∧ ¬ mop c = 1 ∧ ¬ mop c = 9 := by
  unfold isOp at h
  rcases h with h | h | h | h | h | h | h | h | h <;> subst h <;> decide
/-- one token; a1 is the law's number, e the end -/
theorem mrun1 (d : Nat) (σ σ1 : Sig) (a1 a2 a3 : Int32) (e i : Nat) (c : Int32) (s s' : List Nat) (vs : List Int32) (he : 400 * a1 + a3 = nI e) (hb : e ≤ 1200) (hi : i < e)
    (ho : σ 130 i = mop c) (hr : (0 ≤ c → σ 131 i = c) ∧ (-16 < c → c < 0 → σ 131 i = -1 - c))
    (h : chk1 31 c s = some s') (t : ty s vs) (f1 : Fr [135] [] σ σ1) (a1' : AS (σ1 135) vs) (hl : s.length ≤ 31) :
    ∃ σ2, Ex (d + 1) 203 12 [.ref 112, .int a1, .int a2, .int a3, .int (nI vs.length), .int (nI i)] [] G0 σ1 = Ex (d + 1) 203 12 [.ref 112, .int a1, .int a2, .int a3, .int (nI (ev1 (σ 134) c vs).length), .int (nI (i + 1))] [] G0 σ2
      ∧ Fr [135] [] σ σ2 ∧ AS (σ2 135) (ev1 (σ 134) c vs) ∧ s'.length ≤ 31 := by
  have hlen := ty_l t
  have e0 : σ1 130 = σ 130 := Fr_q f1 (by decide) (by simp)
  have e1 : σ1 131 = σ 131 := Fr_q f1 (by decide) (by simp)
  have e4 : σ1 134 = σ 134 := Fr_q f1 (by decide) (by simp)
  have hni : (nI e ≤ nI i) = False := by rw [nJ_le (by omega) (by omega)]; exact eq_false (by omega)
  have ii : inb (nI i) 1200 = true := inb_n (by omega) (by omega)
  rw [b203_12]
  simp only [he, e0, e1, e4, hni, ii, nI_c (show i < 2 ^ 31 by omega), ho, i10, i01, eq_self, if_true, if_false, true_and, false_and, and_true, and_false, not_true, not_false_iff, true_or, or_true, false_or, or_false, ne_eq, not_true_eq_false, not_false_eq_true]
  rcases chk1_c h with ⟨h1, h0, h2⟩ | ⟨h1, s1, e', h2⟩ | ⟨h1, y, x, s1, e', h2⟩
  · have iv : inb (nI vs.length) 420 = true := inb_n (by omega) (by omega)
    have cv : (nI vs.length).toNatClampNeg = vs.length := nI_c (by omega)
    have h1' := Int32.lt_iff_toInt_lt.mp h1
    have m16 : (-16 : Int32).toInt = -16 := rfl
    have z0 : (0 : Int32).toInt = 0 := rfl
    have hs' : s'.length ≤ 31 := by rw [h2]; simp; omega
    by_cases k : 0 ≤ c
    · have q1 : mop c = 0 := by unfold mop; rw [if_pos k]
      have ev : ev1 (σ 134) c vs = c :: vs := by unfold ev1; rw [if_pos k]
      simp only [q1, i10, i01, eq_self, if_true, if_false, true_and, false_and, and_true, and_false, not_true, not_false_iff, true_or, or_true, false_or, or_false, ne_eq, not_true_eq_false, not_false_eq_true, b203_0, b203_45, b203_125, b203_134, b203_169, e0, e1, ho, ii, iv, cv, nI_c (show i < 2 ^ 31 by omega), hr.1 k, nI_s, ev]
      exact ⟨_, rfl, Fr_p f1 (Or.inl (by simp)), AS_n a1', hs'⟩
    · have k' : ¬ (0 : Int32).toInt ≤ c.toInt := fun e => k (Int32.le_iff_toInt_le.mpr e)
      have k2 : c < 0 := Int32.not_le.mp k
      have q1 : mop c = 1 := by unfold mop; rw [if_neg k, if_pos h1]
      have q3 : inb (-1 - c) 15 = true := inb_of (by rw [k1]; omega) (by rw [k1]; omega)
      have ev : ev1 (σ 134) c vs = σ 134 (-1 - c).toNatClampNeg :: vs := by unfold ev1; rw [if_neg k, if_pos h1]
      simp only [q1, i10, i01, eq_self, if_true, if_false, true_and, false_and, and_true, and_false, not_true, not_false_iff, true_or, or_true, false_or, or_false, ne_eq, not_true_eq_false, not_false_eq_true, b203_0, b203_45, b203_125, b203_134, b203_169, e0, e1, e4, ho, ii, iv, cv, nI_c (show i < 2 ^ 31 by omega), hr.2 h1 k2, q3, nI_s, ev]
      exact ⟨_, rfl, Fr_p f1 (Or.inl (by simp)), AS_n a1', hs'⟩
  · subst h1; subst e'
    match vs, t, a1' with
    | [], t, _ => exact t.elim
    | v :: vs, t, a1' =>
      have hl2 : vs.length + 1 ≤ 31 := by rw [← hlen] at hl; exact hl
      have q0 : (mop (-21) = 0) = False := eq_false (by decide)
      have q1 : (mop (-21) = 1) = False := eq_false (by decide)
      have q2 : (mop (-21) = 9) = True := eq_true (by decide)
      have q6 : nI (v :: vs).length - 1 = nI vs.length := by rw [nI_p1 (by simp)]; simp
      have q7 : inb (nI vs.length) 420 = true := inb_n (by omega) (by omega)
      have q8 : (nI vs.length).toNatClampNeg = vs.length := nI_c (by omega)
      have ev : ev1 (σ 134) (-21) (v :: vs) = (1 - v) :: vs := rfl
      simp only [q0, q1, q2, q6, q7, q8, i10, i01, eq_self, if_true, if_false, true_and, false_and, and_true, and_false, not_true, not_false_iff, true_or, or_true, false_or, or_false, ne_eq, not_true_eq_false, not_false_eq_true, b203_0, b203_45, b203_125, b203_134, b203_169, nI_s, ev, a1'.1]
      exact ⟨_, rfl, Fr_p f1 (Or.inl (by simp)), AS_n a1'.2, by rw [h2]; exact hl⟩
  · subst e'
    match vs, t, a1' with
    | [], t, _ => exact t.elim
    | [b], t, _ => exact t.2.2.elim
    | b :: a :: vs, t, a1' =>
      obtain ⟨w1, w2, w3⟩ := mopk h1
      have hl2 : vs.length + 2 ≤ 31 := by rw [← hlen] at hl; exact hl
      have q6 : nI (b :: a :: vs).length - 1 = nI (vs.length + 1) := by rw [nI_p1 (by simp)]; simp
      have q7 : nI (vs.length + 1) - 1 = nI vs.length := by rw [nI_p1 (by omega)]; simp
      have q8 : inb (nI vs.length) 420 = true := inb_n (by omega) (by omega)
      have q9 : inb (nI (vs.length + 1)) 420 = true := inb_n (by omega) (by omega)
      have q10 : (nI vs.length).toNatClampNeg = vs.length := nI_c (by omega)
      have q11 : (nI (vs.length + 1)).toNatClampNeg = vs.length + 1 := nI_c (by omega)
      have r1 : σ1 135 (vs.length + 1) = b := a1'.1
      have r2 : σ1 135 vs.length = a := a1'.2.1
      have hs' : s'.length ≤ 31 := by
        have : s'.length = s1.length + 1 := by rcases h2 with ⟨_, _, _, h2⟩ | ⟨_, _, _, h2⟩ | ⟨_, _, _, h2⟩ | ⟨_, _, _, h2⟩ <;> rw [h2] <;> rfl
        simp at hl; omega
      have t2 := m_twoOf d σ1 c a b h1 (fun e => by
        rcases h2 with ⟨hc, _, _, _⟩ | ⟨hc, hx, hy, _⟩ | ⟨hc, _, _, _⟩ | ⟨hc, _, _, _⟩
        · rw [e] at hc; exact absurd hc (by decide)
        · exact t.2.1 hy
        · rw [e] at hc; exact absurd hc (by decide)
        · rw [e] at hc; exact absurd hc (by decide)) (fun e => by
        rcases h2 with ⟨hc, _, _, _⟩ | ⟨hc, hx, hy, _⟩ | ⟨hc, _, _, _⟩ | ⟨hc, hx, hy, _⟩
        · rcases e with e | e <;> rw [e] at hc <;> exact absurd hc (by decide)
        · rcases e with e | e <;> rw [e] at hc <;> exact absurd hc (by decide)
        · rcases e with e | e <;> rw [e] at hc <;> exact absurd hc (by decide)
        · exact ⟨t.2.2.1 hx, t.1 hy⟩)
      simp only [w1, w2, w3, q6, q7, q8, q9, q10, q11, i10, i01, eq_self, if_true, if_false, true_and, false_and, and_true, and_false, not_true, not_false_iff, true_or, or_true, false_or, or_false, ne_eq, not_true_eq_false, not_false_eq_true, b203_0, b203_45, b203_125, b203_134, b203_169, e0, ho, ii, nI_c (show i < 2 ^ 31 by omega), nI_s, r1, r2, t2, Option.bind_some, Option.toList_some, Option.toList_none, List.cons_append, List.nil_append, i01a, i01b, if_true, if_false, ev1_op h1]
      exact ⟨_, rfl, Fr_p f1 (Or.inl (by simp)), AS_n a1'.2.2, hs'⟩
theorem mrunR (d : Nat) (σ : Sig) (a1 a2 a3 : Int32) (e : Nat) (he : 400 * a1 + a3 = nI e) (hb : e ≤ 1200) : ∀ (ts : List Int32) (i : Nat) (s s' : List Nat) (vs : List Int32) (σ1 : Sig), i + ts.length ≤ e →
    (∀ j, j < ts.length → σ 130 (i + j) = mop (ts.getD j 0) ∧ (0 ≤ ts.getD j 0 → σ 131 (i + j) = ts.getD j 0) ∧ (-16 < ts.getD j 0 → ts.getD j 0 < 0 → σ 131 (i + j) = -1 - ts.getD j 0)) →
    chk 31 ts s = some s' → ty s vs → Fr [135] [] σ σ1 → AS (σ1 135) vs → s.length ≤ 31 →
    ∃ σ2, Ex (d + 1) 203 12 [.ref 112, .int a1, .int a2, .int a3, .int (nI vs.length), .int (nI i)] [] G0 σ1 = Ex (d + 1) 203 12 [.ref 112, .int a1, .int a2, .int a3, .int (nI (evR (σ 134) ts vs).length), .int (nI (i + ts.length))] [] G0 σ2
      ∧ Fr [135] [] σ σ2 ∧ AS (σ2 135) (evR (σ 134) ts vs)
  | [], i, s, s', vs, σ1, _, _, _, _, f1, a1, _ => ⟨σ1, rfl, f1, a1⟩
  | c :: r, i, s, s', vs, σ1, hi, hc, h, t, f1, a1', hl => by
    obtain ⟨s1, h0, h1⟩ := chk_s h
    have hlen : i + (r.length + 1) ≤ e := hi
    have hc0 := hc 0 (by simp)
    obtain ⟨σ2, e1, f2, a2', l2⟩ := mrun1 d σ σ1 a1 a2 a3 e i c s s1 vs he hb (by omega) (by simpa using hc0.1) ⟨fun k => by simpa using hc0.2.1 (by simpa using k), fun k k2 => by simpa using hc0.2.2 (by simpa using k) (by simpa using k2)⟩ h0 t f1 a1' hl
    obtain ⟨σ3, e', f3, a3'⟩ := mrunR d σ a1 a2 a3 e he hb r (i + 1) s1 s' (ev1 (σ 134) c vs) σ2 (by omega) (fun j hj => by
      have := hc (j + 1) (by simp; omega)
      rw [show i + 1 + j = i + (j + 1) by omega]; simpa using this) h1 (ev_1 h0 t).1 f2 a2' l2
    refine ⟨σ3, ?_, f3, a3'⟩
    rw [e1, e', show i + 1 + r.length = i + (c :: r).length by simp; omega]; rfl
/-- a stretch of a law's code -/
theorem m_runs (d : Nat) (σ : Sig) (j a b : Nat) (ts : List Int32) (t : Nat) (hj : j < 2) (hb : b = a + ts.length) (hb2 : b ≤ 400) (hk : chk 30 ts [] = some [t])
    (hc : ∀ i, i < ts.length → σ 130 (400 * j + a + i) = mop (ts.getD i 0) ∧ (0 ≤ ts.getD i 0 → σ 131 (400 * j + a + i) = ts.getD i 0) ∧ (-16 < ts.getD i 0 → ts.getD i 0 < 0 → σ 131 (400 * j + a + i) = -1 - ts.getD i 0)) :
    ∃ σ2, Ex (d + 1) 203 0 [.ref 112, .int (nI j), .int (nI a), .int (nI b), .null, .null] [] G0 σ = some (some (.int ((evR (σ 134) ts []).getD 0 0)), G0, σ2) ∧ Fr [135] [] σ σ2 := by
  have e400 : (400 : Int32) * nI j = nI (400 * j) := nI_mul' 400 j
  have ea : (400 : Int32) * nI j + nI a = nI (400 * j + a) := by rw [e400, nI_add]
  have eb : (400 : Int32) * nI j + nI b = nI (400 * j + b) := by rw [e400, nI_add]
  rw [b203_0, ea]
  obtain ⟨σ2, e, f, a'⟩ := mrunR d σ (nI j) (nI a) (nI b) (400 * j + b) eb (by omega) ts (400 * j + a) [] [t] [] σ (by omega) hc (chk_b (t := 0) hk).2 trivial Fr_r trivial (by simp)
  obtain ⟨v, hv⟩ := ev_ne (fx := σ 134) hk
  rw [hv] at e a' ⊢
  rw [show Ex (d + 1) 203 12 [.ref 112, .int (nI j), .int (nI a), .int (nI b), .int 0, .int (nI (400 * j + a))] [] G0 σ = _ from e, b203_12]
  have : (nI (400 * j + b) ≤ nI (400 * j + a + ts.length)) = True := by rw [nJ_le (by omega) (by omega)]; exact eq_true (by omega)
  simp only [eb, this, i10, i01, eq_self, if_true, if_false, true_and, false_and, and_true, and_false, not_true, not_false_iff, true_or, or_true, false_or, or_false, ne_eq, not_true_eq_false, not_false_eq_true]
  have h0 : σ2 135 0 = v := a'.1
  exact ⟨σ2, by rw [h0]; rfl, f⟩
