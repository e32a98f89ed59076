/-! L3: the class asks a law -/
theorem c_joined (d : Nat) (σ : Sig) (c a b : Int32) (h : isOp c) : Ex d 25 0 [.int (-1 - c), .int a, .int b] [] G0 σ = some (some (.int (jn c a b)), G0, σ) := by
  rw [b25_0]
  unfold isOp at h
  rcases h with h | h | h | h | h | h | h | h | h <;> subst h
  · rfl
  · rfl
  · rfl
  · show (if b = 0 then some (some (.int 0), G0, σ) else if b = 0 then none else some (some (.int (a / b)), G0, σ) : Option Out) = some (some (.int (if b = 0 then 0 else a / b)), G0, σ)
    by_cases z : b = 0
    · rw [if_pos z, if_pos z]
    · rw [if_neg z, if_neg z, if_neg z]
  · show (if b ≤ a then some (some (.int 0), G0, σ) else some (some (.int 1), G0, σ) : Option Out) = some (some (.int (if b ≤ a then 0 else 1)), G0, σ)
    split <;> rfl
  · show (if a = b then some (some (.int 1), G0, σ) else some (some (.int 0), G0, σ) : Option Out) = some (some (.int (if a = b then 1 else 0)), G0, σ)
    split <;> rfl
  · show (if a ≤ b then some (some (.int 0), G0, σ) else some (some (.int 1), G0, σ) : Option Out) = some (some (.int (if a ≤ b then 0 else 1)), G0, σ)
    split <;> rfl
  · rfl
  · rfl
theorem kop {c : Int32} (h : isOp c) : (0 ≤ -1 - c) ∧ (15 ≤ -1 - c) ∧ ¬ (-1 - c = 59) ∧ ¬ (-1 - c = 17) ∧ ¬ (-1 - c = 20) := by
  unfold isOp at h
  rcases h with h | h | h | h | h | h | h | h | h <;> subst h <;> decide
theorem n32 {p : Nat} (hp : p < 32) : ((32 : Int32) ≤ nI p) = False := by
  have : ((32 : Int32) ≤ nI p) = (32 ≤ p) := nJ_le (a := 32) (by omega) (by omega)
  rw [this]; exact eq_false (by omega)
theorem nI_p1 {n : Nat} (h : 1 ≤ n) : nI n - 1 = nI (n - 1) := nI_sub' (b := 1) h
theorem nI_m1 {n : Nat} (h : 1 ≤ n) : nI n + (-1) = nI (n - 1) := by
  rw [← nI_p1 h, Int32.sub_eq_add_neg]
/-- one token -/
theorem ask1b (d : Nat) (σ σ1 : Sig) (o : Int32) (n i : Nat) (c : Int32) (s s' : List Nat) (vs : List Int32) (v5 : Value) (hn : n ≤ 400) (hi : i < n) (hz : σ 14 1 = nI n) (hc : σ 15 i = c)
    (h : chk1 31 c s = some s') (t : ty s vs) (f1 : Fr [16] [] σ σ1) (a1 : AS (σ1 16) vs) (hl : s.length ≤ 31) :
    ∃ σ2 v5', Ex (d + 1) 24 5 [.ref 14, .ref 69, .int o, .int (nI vs.length), .int (nI i), v5] [] G0 σ1 = Ex (d + 1) 24 5 [.ref 14, .ref 69, .int o, .int (nI (ev1 (σ 69) c vs).length), .int (nI (i + 1)), v5'] [] G0 σ2
      ∧ Fr [16] [] σ σ2 ∧ AS (σ2 16) (ev1 (σ 69) c vs) ∧ s'.length ≤ 31 := by
  have hlen := ty_l t
  have eA : σ1 14 = σ 14 := Fr_q f1 (by decide) (by simp)
  have eB : σ1 15 = σ 15 := Fr_q f1 (by decide) (by simp)
  have e69 : σ1 69 = σ 69 := Fr_q f1 (by decide) (by simp)
  have hni : (nI n ≤ nI i) = False := by rw [nJ_le (by omega) (by omega)]; exact eq_false (by omega)
  have ii : inb (nI i) 400 = true := inb_n (by omega) (by omega)
  rw [b24k1_5]
  simp only [eA, eB, e69, hz, hni, n32 (show vs.length < 32 by omega), ii, nI_c (show i < 2 ^ 31 by omega), hc, i10, i01, eq_self, if_true, if_false, true_and, false_and, and_true, and_false, not_true, not_false_iff, true_or, or_true, false_or, or_false, ne_eq, not_true_eq_false, not_false_eq_true]
  rcases chk1_c h with ⟨h1, h0, h2⟩ | ⟨h1, s1, e, h2⟩ | ⟨h1, y, x, s1, e, h2⟩
  · have iv : inb (nI vs.length) 32 = true := inb_n (by omega) (by omega)
    have cv : (nI vs.length).toNatClampNeg = vs.length := nI_c (by omega)
    have h1' := Int32.lt_iff_toInt_lt.mp h1
    have m16 : (-16 : Int32).toInt = -16 := rfl
    have z0 : (0 : Int32).toInt = 0 := rfl
    have z15 : (15 : Int32).toInt = 15 := rfl
    have hs' : s'.length ≤ 31 := by rw [h2]; simp; omega
    by_cases k : 0 ≤ c
    · have k' := Int32.le_iff_toInt_le.mp k
      have q1 : ((0 : Int32) ≤ -1 - c) = False := eq_false (by rw [Int32.le_iff_toInt_le, k1]; omega)
      have ev : ev1 (σ 69) c vs = c :: vs := by unfold ev1; rw [if_pos k]
      simp only [q1, iv, cv, i10, i01, eq_self, if_true, if_false, true_and, false_and, and_true, and_false, not_true, not_false_iff, true_or, or_true, false_or, or_false, ne_eq, not_true_eq_false, not_false_eq_true, b24k1_0, b24k1_52, b24k1_72, b24k1_99, b24k1_120, b24k1_186, nI_s, ev]
      exact ⟨_, _, rfl, Fr_p f1 (Or.inl (by simp)), AS_n a1, hs'⟩
    · have k' : ¬ (0 : Int32).toInt ≤ c.toInt := fun e => k (Int32.le_iff_toInt_le.mpr e)
      have q1 : ((0 : Int32) ≤ -1 - c) = True := eq_true (by rw [Int32.le_iff_toInt_le, k1]; omega)
      have q2 : ((15 : Int32) ≤ -1 - c) = False := eq_false (by rw [Int32.le_iff_toInt_le, k1]; omega)
      have q3 : inb (-1 - c) 15 = true := inb_of (by rw [k1]; omega) (by rw [k1]; omega)
      have ev : ev1 (σ 69) c vs = σ 69 (-1 - c).toNatClampNeg :: vs := by unfold ev1; rw [if_neg k, if_pos h1]
      simp only [q1, q2, q3, iv, cv, i10, i01, eq_self, if_true, if_false, true_and, false_and, and_true, and_false, not_true, not_false_iff, true_or, or_true, false_or, or_false, ne_eq, not_true_eq_false, not_false_eq_true, b24k1_0, b24k1_52, b24k1_72, b24k1_99, b24k1_120, b24k1_186, nI_s, ev]
      exact ⟨_, _, rfl, Fr_p f1 (Or.inl (by simp)), AS_n a1, hs'⟩
  · subst h1; subst e
    match vs, t, a1 with
    | [], t, _ => exact t.elim
    | v :: vs, t, a1 =>
      have hl2 : vs.length + 1 ≤ 31 := by rw [← hlen] at hl; exact hl
      have q : ((-1 : Int32) - (-21)) = 20 := by decide
      have q1 : ((0 : Int32) ≤ 20) = True := eq_true (by decide)
      have q2 : ((15 : Int32) ≤ 20) = True := eq_true (by decide)
      have q3 : ((20 : Int32) = 59) = False := eq_false (by decide)
      have q4 : ((20 : Int32) = 17) = False := eq_false (by decide)
      have q5 : (nI (v :: vs).length ≤ 0) = False := by rw [nI_le0 (by simp; omega)]; exact eq_false (by simp)
      have q6 : nI (v :: vs).length - 1 = nI vs.length := by rw [nI_p1 (by simp)]; simp
      have q7 : inb (nI vs.length) 32 = true := inb_n (by omega) (by omega)
      have q8 : (nI vs.length).toNatClampNeg = vs.length := nI_c (by omega)
      have ev : ev1 (σ 69) (-21) (v :: vs) = (1 - v) :: vs := rfl
      simp only [q, q1, q2, q3, q4, q5, q6, q7, q8, i10, i01, eq_self, if_true, if_false, true_and, false_and, and_true, and_false, not_true, not_false_iff, true_or, or_true, false_or, or_false, ne_eq, not_true_eq_false, not_false_eq_true, b24k1_0, b24k1_52, b24k1_72, b24k1_99, b24k1_120, b24k1_186, nI_s, ev, a1.1]
      exact ⟨_, _, rfl, Fr_p f1 (Or.inl (by simp)), AS_n a1.2, by rw [h2]; exact hl⟩
  · subst e
    match vs, t, a1 with
    | [], t, _ => exact t.elim
    | [b], t, _ => exact t.2.2.elim
    | b :: a :: vs, t, a1 =>
      obtain ⟨w1, w2, w3, w4, w5⟩ := kop h1
      have hl2 : vs.length + 2 ≤ 31 := by rw [← hlen] at hl; exact hl
      have q5 : (nI (b :: a :: vs).length ≤ 1) = False := by
        have : (nI (b :: a :: vs).length ≤ 1) = ((b :: a :: vs).length ≤ 1) := nJ_le (b := 1) (by simp; omega) (by omega)
        rw [this]; exact eq_false (by simp)
      have q6 : nI (b :: a :: vs).length + (-1) = nI (vs.length + 1) := by rw [nI_m1 (by simp)]; simp
      have q7 : nI (vs.length + 1) - 1 = nI vs.length := by rw [nI_p1 (by omega)]; simp
      have q8 : inb (nI vs.length) 32 = true := inb_n (by omega) (by omega)
      have q9 : inb (nI (vs.length + 1)) 32 = true := inb_n (by omega) (by omega)
      have q10 : (nI vs.length).toNatClampNeg = vs.length := nI_c (by omega)
      have q11 : (nI (vs.length + 1)).toNatClampNeg = vs.length + 1 := nI_c (by omega)
      have r1 : σ1 16 (vs.length + 1) = b := a1.1
      have r2 : σ1 16 vs.length = a := a1.2.1
      have hs' : s'.length ≤ 31 := by
        have : s'.length = s1.length + 1 := by rcases h2 with ⟨_, _, _, h2⟩ | ⟨_, _, _, h2⟩ | ⟨_, _, _, h2⟩ | ⟨_, _, _, h2⟩ <;> rw [h2] <;> rfl
        simp at hl; omega
      simp only [w1, w2, w3, w4, w5, q5, q6, q7, q8, q9, q10, q11, i10, i01, eq_self, if_true, if_false, true_and, false_and, and_true, and_false, not_true, not_false_iff, true_or, or_true, false_or, or_false, ne_eq, not_true_eq_false, not_false_eq_true, b24k1_0, b24k1_52, b24k1_72, b24k1_99, b24k1_120, b24k1_186, nI_s, r1, r2, c_joined d σ1 c a b h1, Option.bind_some, Option.toList_some, Option.toList_none, List.cons_append, List.nil_append, i01a, i01b, if_true, if_false, ev1_op h1]
      exact ⟨_, _, rfl, Fr_p f1 (Or.inl (by simp)), AS_n a1.2.2, hs'⟩
theorem askRb (d : Nat) (σ : Sig) (o : Int32) (n : Nat) (hn : n ≤ 400) (hz : σ 14 1 = nI n) : ∀ (ts : List Int32) (i : Nat) (s s' : List Nat) (vs : List Int32) (σ1 : Sig) (v5 : Value), i + ts.length ≤ n → (∀ j, j < ts.length → σ 15 (i + j) = ts.getD j 0) →
    chk 31 ts s = some s' → ty s vs → Fr [16] [] σ σ1 → AS (σ1 16) vs → s.length ≤ 31 →
    ∃ σ2 v5', Ex (d + 1) 24 5 [.ref 14, .ref 69, .int o, .int (nI vs.length), .int (nI i), v5] [] G0 σ1 = Ex (d + 1) 24 5 [.ref 14, .ref 69, .int o, .int (nI (evR (σ 69) ts vs).length), .int (nI (i + ts.length)), v5'] [] G0 σ2
      ∧ Fr [16] [] σ σ2 ∧ AS (σ2 16) (evR (σ 69) ts vs)
  | [], i, s, s', vs, σ1, v5, _, _, _, _, f1, a1, _ => ⟨σ1, v5, rfl, f1, a1⟩
  | c :: r, i, s, s', vs, σ1, v5, hi, hc, h, t, f1, a1, hl => by
    obtain ⟨s1, h0, h1⟩ := chk_s h
    have hlen : i + (r.length + 1) ≤ n := hi
    obtain ⟨σ2, v, e, f2, a2, l2⟩ := ask1b d σ σ1 o n i c s s1 vs v5 hn (by omega) hz (by have := hc 0 (by simp); simpa using this) h0 t f1 a1 hl
    obtain ⟨σ3, v', e', f3, a3⟩ := askRb d σ o n hn hz r (i + 1) s1 s' (ev1 (σ 69) c vs) σ2 v (by omega) (fun j hj => by
      have := hc (j + 1) (by simp; omega)
      rw [show i + 1 + j = i + (j + 1) by omega]; simpa using this) h1 (ev_1 h0 t).1 f2 a2 l2
    refine ⟨σ3, v', ?_, f3, a3⟩
    rw [e, e', show i + 1 + r.length = i + (c :: r).length by simp; omega]; rfl
/-- all lines -/
theorem askLb (d : Nat) (σ : Sig) (o : Int32) (n : Nat) (hn : n ≤ 400) (hz : σ 14 1 = nI n) : ∀ (ls : List (List Int32 × List Int32)) (i : Nat) (σ1 : Sig) (v5 : Value), i + (flt ls).length = n → (∀ j, j < (flt ls).length → σ 15 (i + j) = (flt ls).getD j 0) →
    (∀ x ∈ ls, (∃ t, t ≠ 1 ∧ chk 30 x.1 [] = some [t]) ∧ (x.2 = [] ∨ chk 30 x.2 [] = some [1])) → Fr [16] [] σ σ1 →
    ∃ σ2, Ex (d + 1) 24 5 [.ref 14, .ref 69, .int o, .int 0, .int (nI i), v5] [] G0 σ1 = some (some (.int (lawS (σ 69) ls o)), G0, σ2) ∧ Fr [16] [] σ σ2
  | [], i, σ1, v5, hi, _, _, f1 => by
    have eA : σ1 14 = σ 14 := Fr_q f1 (by decide) (by simp)
    have : (nI n ≤ nI i) = True := by rw [nJ_le (by omega) (by simp [flt] at hi; omega)]; exact eq_true (by simp [flt] at hi; omega)
    rw [b24k1_5]
    simp only [eA, hz, this, i10, i01, eq_self, if_true, if_false, true_and, false_and, and_true, and_false, not_true, not_false_iff, true_or, or_true, false_or, or_false, ne_eq, not_true_eq_false, not_false_eq_true]
    exact ⟨σ1, rfl, f1⟩
  | (e, b) :: r, i, σ1, v5, hi, hc, hk, f1 => by
    obtain ⟨⟨t, _, he⟩, hb⟩ := hk (e, b) (by simp)
    dsimp only at he hb
    obtain ⟨v, hv⟩ := ev_ne (fx := σ 69) he
    have hfl : flt ((e, b) :: r) = e ++ (if b = [] then [-60] else b ++ [-18]) ++ flt r := rfl
    have hl0 : (flt ((e, b) :: r)).length = e.length + (if b = [] then [(-60 : Int32)] else b ++ [-18]).length + (flt r).length := by rw [hfl]; simp; omega
    have hge : ∀ j, j < e.length → σ 15 (i + j) = e.getD j 0 := fun j hj => by
      rw [hc j (by omega), hfl, List.append_assoc, gd_l hj]
    obtain ⟨σ2, v2, e2, f2, a2⟩ := askRb d σ o n hn hz e i [] [t] [] σ1 v5 (by omega) hge (chk_b (t := 0) he).2 trivial f1 trivial (by simp)
    rw [hv] at e2 a2
    have e2' : Ex (d + 1) 24 5 [.ref 14, .ref 69, .int o, .int 0, .int (nI i), v5] [] G0 σ1 = Ex (d + 1) 24 5 [.ref 14, .ref 69, .int o, .int 1, .int (nI (i + e.length)), v2] [] G0 σ2 := e2
    have eA : σ2 14 = σ 14 := Fr_q f2 (by decide) (by simp)
    have eB : σ2 15 = σ 15 := Fr_q f2 (by decide) (by simp)
    by_cases hbe : b = []
    · subst hbe
      have hcs : σ 15 (i + e.length) = -60 := by
        rw [hc e.length (by rw [hl0]; simp; omega), hfl, List.append_assoc, gd_r (Nat.le_refl _)]
        simp
      have hin : i + e.length < n := by rw [hl0] at hi; simp at hi; omega
      have hni : (nI n ≤ nI (i + e.length)) = False := by rw [nJ_le (by omega) (by omega)]; exact eq_false (by omega)
      have ii : inb (nI (i + e.length)) 400 = true := inb_n (by omega) (by omega)
      have u1 : ((32 : Int32) ≤ 1) = False := eq_false (by decide)
      have q : ((-1 : Int32) - (-60)) = 59 := by decide
      have q1 : ((0 : Int32) ≤ 59) = True := eq_true (by decide)
      have q2 : ((15 : Int32) ≤ 59) = True := eq_true (by decide)
      rw [e2', b24k1_5]
      simp only [eA, eB, hz, hni, u1, ii, nI_c (show i + e.length < 2 ^ 31 by omega), hcs, q, q1, q2, i10, i01, eq_self, if_true, if_false, true_and, false_and, and_true, and_false, not_true, not_false_iff, true_or, or_true, false_or, or_false, ne_eq, not_true_eq_false, not_false_eq_true]
      refine ⟨σ2, ?_, f2⟩
      have : σ2 16 0 = v := a2.1
      rw [this]
      rw [lawS, if_pos (Or.inl rfl), hv]; rfl
    · have hb' : chk 30 b [] = some [1] := hb.resolve_left hbe
      rw [if_neg hbe] at hfl hl0
      obtain ⟨w, hw⟩ := ev_ne (fx := σ 69) hb'
      have hgb : ∀ j, j < b.length → σ 15 (i + e.length + j) = b.getD j 0 := fun j hj => by
        rw [Nat.add_assoc, hc (e.length + j) (by rw [hl0]; simp; omega), hfl, List.append_assoc, gd_r (by omega), Nat.add_sub_cancel_left, List.append_assoc, gd_l hj]
      obtain ⟨σ3, v3, e3, f3, a3⟩ := askRb d σ o n hn hz b (i + e.length) [t] [1, t] [v] σ2 v2 (by rw [hl0] at hi; simp at hi; omega) hgb (chk_b (t := t) hb').1 ((ev_ok (fx := σ 69) (vs := []) he trivial).1 |> fun h => by rw [hv] at h; exact h) f2 a2 (by simp)
      have hw2 : evR (σ 69) b [v] = [w, v] := by
        have := (ev_ok (fx := σ 69) (vs := []) hb' trivial).2 [v]
        rw [hw] at this; exact this
      rw [hw2] at e3 a3
      have e3' : Ex (d + 1) 24 5 [.ref 14, .ref 69, .int o, .int 1, .int (nI (i + e.length)), v2] [] G0 σ2 = Ex (d + 1) 24 5 [.ref 14, .ref 69, .int o, .int 2, .int (nI (i + e.length + b.length)), v3] [] G0 σ3 := e3
      have hcs : σ 15 (i + e.length + b.length) = -18 := by
        rw [Nat.add_assoc, hc (e.length + b.length) (by rw [hl0]; simp; omega), hfl, List.append_assoc, gd_r (by omega), Nat.add_sub_cancel_left, List.append_assoc, gd_r (Nat.le_refl _)]
        simp
      have hin : i + e.length + b.length < n := by rw [hl0] at hi; simp at hi; omega
      have hni : (nI n ≤ nI (i + e.length + b.length)) = False := by rw [nJ_le (by omega) (by omega)]; exact eq_false (by omega)
      have ii : inb (nI (i + e.length + b.length)) 400 = true := inb_n (by omega) (by omega)
      have u1 : ((32 : Int32) ≤ 2) = False := eq_false (by decide)
      have q : ((-1 : Int32) - (-18)) = 17 := by decide
      have q1 : ((0 : Int32) ≤ 17) = True := eq_true (by decide)
      have q2 : ((15 : Int32) ≤ 17) = True := eq_true (by decide)
      have q3 : ((17 : Int32) = 59) = False := eq_false (by decide)
      have eA3 : σ3 14 = σ 14 := Fr_q f3 (by decide) (by simp)
      have eB3 : σ3 15 = σ 15 := Fr_q f3 (by decide) (by simp)
      have r1 : σ3 16 1 = w := a3.1
      have r0 : σ3 16 0 = v := a3.2.1
      rw [e2', e3', b24k1_5]
      simp only [eA3, eB3, hz, hni, u1, ii, nI_c (show i + e.length + b.length < 2 ^ 31 by omega), hcs, q, q1, q2, q3, i10, i01, eq_self, if_true, if_false, true_and, false_and, and_true, and_false, not_true, not_false_iff, true_or, or_true, false_or, or_false, ne_eq, not_true_eq_false, not_false_eq_true, b24k1_0, b24k1_52, b24k1_72, b24k1_99, b24k1_120, b24k1_186, r1, r0, nI_s]
      have hls : lawS (σ 69) ((e, b) :: r) o = if w = 0 then lawS (σ 69) r o else v := by
        rw [lawS, hw, hv]
        by_cases z : w = 0
        · subst z; simp [hbe]
        · simp [z]
      rw [hls]
      by_cases z : w = 0
      · simp only [z, i10, i01, eq_self, if_true, if_false, true_and, false_and, and_true, and_false, not_true, not_false_iff, true_or, or_true, false_or, or_false, ne_eq, not_true_eq_false, not_false_eq_true]
        obtain ⟨σ4, e4, f4⟩ := askLb d σ o n hn hz r (i + e.length + b.length + 1) σ3 (.int 17) (by rw [hl0] at hi; simp at hi; omega) (fun j hj => by
          rw [show i + e.length + b.length + 1 + j = i + (e.length + (b.length + 1 + j)) by omega, hc _ (by rw [hl0]; simp only [List.length_append, List.length_cons, List.length_nil]; omega), hfl, List.append_assoc, gd_r (by omega), Nat.add_sub_cancel_left, gd_r (by simp)]
          simp only [List.length_append, List.length_cons, List.length_nil, Nat.zero_add, Nat.add_sub_cancel_left]) (fun x hx => hk x (by simp [hx])) f3
        exact ⟨σ4, e4, f4⟩
      · simp only [z, i10, i01, eq_self, if_true, if_false, true_and, false_and, and_true, and_false, not_true, not_false_iff, true_or, or_true, false_or, or_false, ne_eq, not_true_eq_false, not_false_eq_true]
        exact ⟨σ3, rfl, f3⟩
theorem c_askb (d : Nat) (σ : Sig) (o : Int32) (ls : List (List Int32 × List Int32)) (hl : clsLaw (σ 15) (σ 14 0) (σ 14 1) ls) (hk : okL ls) :
    ∃ σ2, Ex (d + 1) 24 0 [.ref 14, .ref 69, .int o, .null, .null, .null] [] G0 σ = some (some (.int (lawS (σ 69) ls o)), G0, σ2) ∧ Fr [16] [] σ σ2 := by
  rw [b24k1_0]
  exact askLb d σ o (flt ls).length hk.2.1 hl.2.1 ls 0 σ .null (by omega) (fun j hj => by rw [Nat.zero_add]; exact hl.2.2 j hj) hk.2.2.2 Fr_r
/-- one token -/
theorem ask1t (d : Nat) (σ σ1 : Sig) (o : Int32) (n i : Nat) (c : Int32) (s s' : List Nat) (vs : List Int32) (v5 : Value) (hn : n ≤ 400) (hi : i < n) (hz : σ 17 1 = nI n) (hc : σ 18 i = c)
    (h : chk1 31 c s = some s') (t : ty s vs) (f1 : Fr [19] [] σ σ1) (a1 : AS (σ1 19) vs) (hl : s.length ≤ 31) :
    ∃ σ2 v5', Ex (d + 1) 24 5 [.ref 17, .ref 69, .int o, .int (nI vs.length), .int (nI i), v5] [] G0 σ1 = Ex (d + 1) 24 5 [.ref 17, .ref 69, .int o, .int (nI (ev1 (σ 69) c vs).length), .int (nI (i + 1)), v5'] [] G0 σ2
      ∧ Fr [19] [] σ σ2 ∧ AS (σ2 19) (ev1 (σ 69) c vs) ∧ s'.length ≤ 31 := by
  have hlen := ty_l t
  have eA : σ1 17 = σ 17 := Fr_q f1 (by decide) (by simp)
  have eB : σ1 18 = σ 18 := Fr_q f1 (by decide) (by simp)
  have e69 : σ1 69 = σ 69 := Fr_q f1 (by decide) (by simp)
  have hni : (nI n ≤ nI i) = False := by rw [nJ_le (by omega) (by omega)]; exact eq_false (by omega)
  have ii : inb (nI i) 400 = true := inb_n (by omega) (by omega)
  rw [b24k0_5]
  simp only [eA, eB, e69, hz, hni, n32 (show vs.length < 32 by omega), ii, nI_c (show i < 2 ^ 31 by omega), hc, i10, i01, eq_self, if_true, if_false, true_and, false_and, and_true, and_false, not_true, not_false_iff, true_or, or_true, false_or, or_false, ne_eq, not_true_eq_false, not_false_eq_true]
  rcases chk1_c h with ⟨h1, h0, h2⟩ | ⟨h1, s1, e, h2⟩ | ⟨h1, y, x, s1, e, h2⟩
  · have iv : inb (nI vs.length) 32 = true := inb_n (by omega) (by omega)
    have cv : (nI vs.length).toNatClampNeg = vs.length := nI_c (by omega)
    have h1' := Int32.lt_iff_toInt_lt.mp h1
    have m16 : (-16 : Int32).toInt = -16 := rfl
    have z0 : (0 : Int32).toInt = 0 := rfl
    have z15 : (15 : Int32).toInt = 15 := rfl
    have hs' : s'.length ≤ 31 := by rw [h2]; simp; omega
    by_cases k : 0 ≤ c
    · have k' := Int32.le_iff_toInt_le.mp k
      have q1 : ((0 : Int32) ≤ -1 - c) = False := eq_false (by rw [Int32.le_iff_toInt_le, k1]; omega)
      have ev : ev1 (σ 69) c vs = c :: vs := by unfold ev1; rw [if_pos k]
      simp only [q1, iv, cv, i10, i01, eq_self, if_true, if_false, true_and, false_and, and_true, and_false, not_true, not_false_iff, true_or, or_true, false_or, or_false, ne_eq, not_true_eq_false, not_false_eq_true, b24k0_0, b24k0_52, b24k0_72, b24k0_99, b24k0_120, b24k0_186, nI_s, ev]
      exact ⟨_, _, rfl, Fr_p f1 (Or.inl (by simp)), AS_n a1, hs'⟩
    · have k' : ¬ (0 : Int32).toInt ≤ c.toInt := fun e => k (Int32.le_iff_toInt_le.mpr e)
      have q1 : ((0 : Int32) ≤ -1 - c) = True := eq_true (by rw [Int32.le_iff_toInt_le, k1]; omega)
      have q2 : ((15 : Int32) ≤ -1 - c) = False := eq_false (by rw [Int32.le_iff_toInt_le, k1]; omega)
      have q3 : inb (-1 - c) 15 = true := inb_of (by rw [k1]; omega) (by rw [k1]; omega)
      have ev : ev1 (σ 69) c vs = σ 69 (-1 - c).toNatClampNeg :: vs := by unfold ev1; rw [if_neg k, if_pos h1]
      simp only [q1, q2, q3, iv, cv, i10, i01, eq_self, if_true, if_false, true_and, false_and, and_true, and_false, not_true, not_false_iff, true_or, or_true, false_or, or_false, ne_eq, not_true_eq_false, not_false_eq_true, b24k0_0, b24k0_52, b24k0_72, b24k0_99, b24k0_120, b24k0_186, nI_s, ev]
      exact ⟨_, _, rfl, Fr_p f1 (Or.inl (by simp)), AS_n a1, hs'⟩
  · subst h1; subst e
    match vs, t, a1 with
    | [], t, _ => exact t.elim
    | v :: vs, t, a1 =>
      have hl2 : vs.length + 1 ≤ 31 := by rw [← hlen] at hl; exact hl
      have q : ((-1 : Int32) - (-21)) = 20 := by decide
      have q1 : ((0 : Int32) ≤ 20) = True := eq_true (by decide)
      have q2 : ((15 : Int32) ≤ 20) = True := eq_true (by decide)
      have q3 : ((20 : Int32) = 59) = False := eq_false (by decide)
      have q4 : ((20 : Int32) = 17) = False := eq_false (by decide)
      have q5 : (nI (v :: vs).length ≤ 0) = False := by rw [nI_le0 (by simp; omega)]; exact eq_false (by simp)
      have q6 : nI (v :: vs).length - 1 = nI vs.length := by rw [nI_p1 (by simp)]; simp
      have q7 : inb (nI vs.length) 32 = true := inb_n (by omega) (by omega)
      have q8 : (nI vs.length).toNatClampNeg = vs.length := nI_c (by omega)
      have ev : ev1 (σ 69) (-21) (v :: vs) = (1 - v) :: vs := rfl
      simp only [q, q1, q2, q3, q4, q5, q6, q7, q8, i10, i01, eq_self, if_true, if_false, true_and, false_and, and_true, and_false, not_true, not_false_iff, true_or, or_true, false_or, or_false, ne_eq, not_true_eq_false, not_false_eq_true, b24k0_0, b24k0_52, b24k0_72, b24k0_99, b24k0_120, b24k0_186, nI_s, ev, a1.1]
      exact ⟨_, _, rfl, Fr_p f1 (Or.inl (by simp)), AS_n a1.2, by rw [h2]; exact hl⟩
  · subst e
    match vs, t, a1 with
    | [], t, _ => exact t.elim
    | [b], t, _ => exact t.2.2.elim
    | b :: a :: vs, t, a1 =>
      obtain ⟨w1, w2, w3, w4, w5⟩ := kop h1
      have hl2 : vs.length + 2 ≤ 31 := by rw [← hlen] at hl; exact hl
      have q5 : (nI (b :: a :: vs).length ≤ 1) = False := by
        have : (nI (b :: a :: vs).length ≤ 1) = ((b :: a :: vs).length ≤ 1) := nJ_le (b := 1) (by simp; omega) (by omega)
        rw [this]; exact eq_false (by simp)
      have q6 : nI (b :: a :: vs).length + (-1) = nI (vs.length + 1) := by rw [nI_m1 (by simp)]; simp
      have q7 : nI (vs.length + 1) - 1 = nI vs.length := by rw [nI_p1 (by omega)]; simp
      have q8 : inb (nI vs.length) 32 = true := inb_n (by omega) (by omega)
      have q9 : inb (nI (vs.length + 1)) 32 = true := inb_n (by omega) (by omega)
      have q10 : (nI vs.length).toNatClampNeg = vs.length := nI_c (by omega)
      have q11 : (nI (vs.length + 1)).toNatClampNeg = vs.length + 1 := nI_c (by omega)
      have r1 : σ1 19 (vs.length + 1) = b := a1.1
      have r2 : σ1 19 vs.length = a := a1.2.1
      have hs' : s'.length ≤ 31 := by
        have : s'.length = s1.length + 1 := by rcases h2 with ⟨_, _, _, h2⟩ | ⟨_, _, _, h2⟩ | ⟨_, _, _, h2⟩ | ⟨_, _, _, h2⟩ <;> rw [h2] <;> rfl
        simp at hl; omega
      simp only [w1, w2, w3, w4, w5, q5, q6, q7, q8, q9, q10, q11, i10, i01, eq_self, if_true, if_false, true_and, false_and, and_true, and_false, not_true, not_false_iff, true_or, or_true, false_or, or_false, ne_eq, not_true_eq_false, not_false_eq_true, b24k0_0, b24k0_52, b24k0_72, b24k0_99, b24k0_120, b24k0_186, nI_s, r1, r2, c_joined d σ1 c a b h1, Option.bind_some, Option.toList_some, Option.toList_none, List.cons_append, List.nil_append, i01a, i01b, if_true, if_false, ev1_op h1]
      exact ⟨_, _, rfl, Fr_p f1 (Or.inl (by simp)), AS_n a1.2.2, hs'⟩
theorem askRt (d : Nat) (σ : Sig) (o : Int32) (n : Nat) (hn : n ≤ 400) (hz : σ 17 1 = nI n) : ∀ (ts : List Int32) (i : Nat) (s s' : List Nat) (vs : List Int32) (σ1 : Sig) (v5 : Value), i + ts.length ≤ n → (∀ j, j < ts.length → σ 18 (i + j) = ts.getD j 0) →
    chk 31 ts s = some s' → ty s vs → Fr [19] [] σ σ1 → AS (σ1 19) vs → s.length ≤ 31 →
    ∃ σ2 v5', Ex (d + 1) 24 5 [.ref 17, .ref 69, .int o, .int (nI vs.length), .int (nI i), v5] [] G0 σ1 = Ex (d + 1) 24 5 [.ref 17, .ref 69, .int o, .int (nI (evR (σ 69) ts vs).length), .int (nI (i + ts.length)), v5'] [] G0 σ2
      ∧ Fr [19] [] σ σ2 ∧ AS (σ2 19) (evR (σ 69) ts vs)
  | [], i, s, s', vs, σ1, v5, _, _, _, _, f1, a1, _ => ⟨σ1, v5, rfl, f1, a1⟩
  | c :: r, i, s, s', vs, σ1, v5, hi, hc, h, t, f1, a1, hl => by
    obtain ⟨s1, h0, h1⟩ := chk_s h
    have hlen : i + (r.length + 1) ≤ n := hi
    obtain ⟨σ2, v, e, f2, a2, l2⟩ := ask1t d σ σ1 o n i c s s1 vs v5 hn (by omega) hz (by have := hc 0 (by simp); simpa using this) h0 t f1 a1 hl
    obtain ⟨σ3, v', e', f3, a3⟩ := askRt d σ o n hn hz r (i + 1) s1 s' (ev1 (σ 69) c vs) σ2 v (by omega) (fun j hj => by
      have := hc (j + 1) (by simp; omega)
      rw [show i + 1 + j = i + (j + 1) by omega]; simpa using this) h1 (ev_1 h0 t).1 f2 a2 l2
    refine ⟨σ3, v', ?_, f3, a3⟩
    rw [e, e', show i + 1 + r.length = i + (c :: r).length by simp; omega]; rfl
/-- all lines -/
theorem askLt (d : Nat) (σ : Sig) (o : Int32) (n : Nat) (hn : n ≤ 400) (hz : σ 17 1 = nI n) : ∀ (ls : List (List Int32 × List Int32)) (i : Nat) (σ1 : Sig) (v5 : Value), i + (flt ls).length = n → (∀ j, j < (flt ls).length → σ 18 (i + j) = (flt ls).getD j 0) →
    (∀ x ∈ ls, (∃ t, t ≠ 1 ∧ chk 30 x.1 [] = some [t]) ∧ (x.2 = [] ∨ chk 30 x.2 [] = some [1])) → Fr [19] [] σ σ1 →
    ∃ σ2, Ex (d + 1) 24 5 [.ref 17, .ref 69, .int o, .int 0, .int (nI i), v5] [] G0 σ1 = some (some (.int (lawS (σ 69) ls o)), G0, σ2) ∧ Fr [19] [] σ σ2
  | [], i, σ1, v5, hi, _, _, f1 => by
    have eA : σ1 17 = σ 17 := Fr_q f1 (by decide) (by simp)
    have : (nI n ≤ nI i) = True := by rw [nJ_le (by omega) (by simp [flt] at hi; omega)]; exact eq_true (by simp [flt] at hi; omega)
    rw [b24k0_5]
    simp only [eA, hz, this, i10, i01, eq_self, if_true, if_false, true_and, false_and, and_true, and_false, not_true, not_false_iff, true_or, or_true, false_or, or_false, ne_eq, not_true_eq_false, not_false_eq_true]
    exact ⟨σ1, rfl, f1⟩
  | (e, b) :: r, i, σ1, v5, hi, hc, hk, f1 => by
    obtain ⟨⟨t, _, he⟩, hb⟩ := hk (e, b) (by simp)
    dsimp only at he hb
    obtain ⟨v, hv⟩ := ev_ne (fx := σ 69) he
    have hfl : flt ((e, b) :: r) = e ++ (if b = [] then [-60] else b ++ [-18]) ++ flt r := rfl
    have hl0 : (flt ((e, b) :: r)).length = e.length + (if b = [] then [(-60 : Int32)] else b ++ [-18]).length + (flt r).length := by rw [hfl]; simp; omega
    have hge : ∀ j, j < e.length → σ 18 (i + j) = e.getD j 0 := fun j hj => by
      rw [hc j (by omega), hfl, List.append_assoc, gd_l hj]
    obtain ⟨σ2, v2, e2, f2, a2⟩ := askRt d σ o n hn hz e i [] [t] [] σ1 v5 (by omega) hge (chk_b (t := 0) he).2 trivial f1 trivial (by simp)
    rw [hv] at e2 a2
    have e2' : Ex (d + 1) 24 5 [.ref 17, .ref 69, .int o, .int 0, .int (nI i), v5] [] G0 σ1 = Ex (d + 1) 24 5 [.ref 17, .ref 69, .int o, .int 1, .int (nI (i + e.length)), v2] [] G0 σ2 := e2
    have eA : σ2 17 = σ 17 := Fr_q f2 (by decide) (by simp)
    have eB : σ2 18 = σ 18 := Fr_q f2 (by decide) (by simp)
    by_cases hbe : b = []
    · subst hbe
      have hcs : σ 18 (i + e.length) = -60 := by
        rw [hc e.length (by rw [hl0]; simp; omega), hfl, List.append_assoc, gd_r (Nat.le_refl _)]
        simp
      have hin : i + e.length < n := by rw [hl0] at hi; simp at hi; omega
      have hni : (nI n ≤ nI (i + e.length)) = False := by rw [nJ_le (by omega) (by omega)]; exact eq_false (by omega)
      have ii : inb (nI (i + e.length)) 400 = true := inb_n (by omega) (by omega)
      have u1 : ((32 : Int32) ≤ 1) = False := eq_false (by decide)
      have q : ((-1 : Int32) - (-60)) = 59 := by decide
      have q1 : ((0 : Int32) ≤ 59) = True := eq_true (by decide)
      have q2 : ((15 : Int32) ≤ 59) = True := eq_true (by decide)
      rw [e2', b24k0_5]
      simp only [eA, eB, hz, hni, u1, ii, nI_c (show i + e.length < 2 ^ 31 by omega), hcs, q, q1, q2, i10, i01, eq_self, if_true, if_false, true_and, false_and, and_true, and_false, not_true, not_false_iff, true_or, or_true, false_or, or_false, ne_eq, not_true_eq_false, not_false_eq_true]
      refine ⟨σ2, ?_, f2⟩
      have : σ2 19 0 = v := a2.1
      rw [this]
      rw [lawS, if_pos (Or.inl rfl), hv]; rfl
    · have hb' : chk 30 b [] = some [1] := hb.resolve_left hbe
      rw [if_neg hbe] at hfl hl0
      obtain ⟨w, hw⟩ := ev_ne (fx := σ 69) hb'
      have hgb : ∀ j, j < b.length → σ 18 (i + e.length + j) = b.getD j 0 := fun j hj => by
        rw [Nat.add_assoc, hc (e.length + j) (by rw [hl0]; simp; omega), hfl, List.append_assoc, gd_r (by omega), Nat.add_sub_cancel_left, List.append_assoc, gd_l hj]
      obtain ⟨σ3, v3, e3, f3, a3⟩ := askRt d σ o n hn hz b (i + e.length) [t] [1, t] [v] σ2 v2 (by rw [hl0] at hi; simp at hi; omega) hgb (chk_b (t := t) hb').1 ((ev_ok (fx := σ 69) (vs := []) he trivial).1 |> fun h => by rw [hv] at h; exact h) f2 a2 (by simp)
      have hw2 : evR (σ 69) b [v] = [w, v] := by
        have := (ev_ok (fx := σ 69) (vs := []) hb' trivial).2 [v]
        rw [hw] at this; exact this
      rw [hw2] at e3 a3
      have e3' : Ex (d + 1) 24 5 [.ref 17, .ref 69, .int o, .int 1, .int (nI (i + e.length)), v2] [] G0 σ2 = Ex (d + 1) 24 5 [.ref 17, .ref 69, .int o, .int 2, .int (nI (i + e.length + b.length)), v3] [] G0 σ3 := e3
      have hcs : σ 18 (i + e.length + b.length) = -18 := by
        rw [Nat.add_assoc, hc (e.length + b.length) (by rw [hl0]; simp; omega), hfl, List.append_assoc, gd_r (by omega), Nat.add_sub_cancel_left, List.append_assoc, gd_r (Nat.le_refl _)]
        simp
      have hin : i + e.length + b.length < n := by rw [hl0] at hi; simp at hi; omega
      have hni : (nI n ≤ nI (i + e.length + b.length)) = False := by rw [nJ_le (by omega) (by omega)]; exact eq_false (by omega)
      have ii : inb (nI (i + e.length + b.length)) 400 = true := inb_n (by omega) (by omega)
      have u1 : ((32 : Int32) ≤ 2) = False := eq_false (by decide)
      have q : ((-1 : Int32) - (-18)) = 17 := by decide
      have q1 : ((0 : Int32) ≤ 17) = True := eq_true (by decide)
      have q2 : ((15 : Int32) ≤ 17) = True := eq_true (by decide)
      have q3 : ((17 : Int32) = 59) = False := eq_false (by decide)
      have eA3 : σ3 17 = σ 17 := Fr_q f3 (by decide) (by simp)
      have eB3 : σ3 18 = σ 18 := Fr_q f3 (by decide) (by simp)
      have r1 : σ3 19 1 = w := a3.1
      have r0 : σ3 19 0 = v := a3.2.1
      rw [e2', e3', b24k0_5]
      simp only [eA3, eB3, hz, hni, u1, ii, nI_c (show i + e.length + b.length < 2 ^ 31 by omega), hcs, q, q1, q2, q3, i10, i01, eq_self, if_true, if_false, true_and, false_and, and_true, and_false, not_true, not_false_iff, true_or, or_true, false_or, or_false, ne_eq, not_true_eq_false, not_false_eq_true, b24k0_0, b24k0_52, b24k0_72, b24k0_99, b24k0_120, b24k0_186, r1, r0, nI_s]
      have hls : lawS (σ 69) ((e, b) :: r) o = if w = 0 then lawS (σ 69) r o else v := by
        rw [lawS, hw, hv]
        by_cases z : w = 0
        · subst z; simp [hbe]
        · simp [z]
      rw [hls]
      by_cases z : w = 0
      · simp only [z, i10, i01, eq_self, if_true, if_false, true_and, false_and, and_true, and_false, not_true, not_false_iff, true_or, or_true, false_or, or_false, ne_eq, not_true_eq_false, not_false_eq_true]
        obtain ⟨σ4, e4, f4⟩ := askLt d σ o n hn hz r (i + e.length + b.length + 1) σ3 (.int 17) (by rw [hl0] at hi; simp at hi; omega) (fun j hj => by
          rw [show i + e.length + b.length + 1 + j = i + (e.length + (b.length + 1 + j)) by omega, hc _ (by rw [hl0]; simp only [List.length_append, List.length_cons, List.length_nil]; omega), hfl, List.append_assoc, gd_r (by omega), Nat.add_sub_cancel_left, gd_r (by simp)]
          simp only [List.length_append, List.length_cons, List.length_nil, Nat.zero_add, Nat.add_sub_cancel_left]) (fun x hx => hk x (by simp [hx])) f3
        exact ⟨σ4, e4, f4⟩
      · simp only [z, i10, i01, eq_self, if_true, if_false, true_and, false_and, and_true, and_false, not_true, not_false_iff, true_or, or_true, false_or, or_false, ne_eq, not_true_eq_false, not_false_eq_true]
        exact ⟨σ3, rfl, f3⟩
theorem c_askt (d : Nat) (σ : Sig) (o : Int32) (ls : List (List Int32 × List Int32)) (hl : clsLaw (σ 18) (σ 17 0) (σ 17 1) ls) (hk : okL ls) :
    ∃ σ2, Ex (d + 1) 24 0 [.ref 17, .ref 69, .int o, .null, .null, .null] [] G0 σ = some (some (.int (lawS (σ 69) ls o)), G0, σ2) ∧ Fr [19] [] σ σ2 := by
  rw [b24k0_0]
  exact askLt d σ o (flt ls).length hk.2.1 hl.2.1 ls 0 σ .null (by omega) (fun j hj => by rw [Nat.zero_add]; exact hl.2.2 j hj) hk.2.2.2 Fr_r
