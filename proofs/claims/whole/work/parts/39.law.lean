/-! L3: a law is asked -/
def jn (c a b : Int32) : Int32 :=
  if c = -19 then a ||| b else if c = -20 then a &&& b else if c = -43 then a * b else if c = -44 then a + b else if c = -46 then a - b
  else if c = -48 then (if b = 0 then 0 else a / b) else if c = -61 then (if b ≤ a then 0 else 1) else if c = -62 then (if a = b then 1 else 0) else if c = -63 then (if a ≤ b then 0 else 1) else 0
def ev1 (fx : Nat → Int32) (c : Int32) (st : List Int32) : List Int32 :=
  if 0 ≤ c then c :: st
  else if -16 < c then fx (-1 - c).toNatClampNeg :: st
  else if c = -21 then (match st with
    | x :: r => (1 - x) :: r
    | [] => [])
  else match st with
    | b :: a :: r => jn c a b :: r
    | _ => st
def evR (fx : Nat → Int32) : List Int32 → List Int32 → List Int32
  | [], s => s
  | c :: r, s => evR fx r (ev1 fx c s)
def lawS (fx : Nat → Int32) : List (List Int32 × List Int32) → Int32 → Int32
  | [], o => o
  | (e, b) :: r, o => if b = [] ∨ (evR fx b []).getD 0 0 ≠ 0 then (evR fx e []).getD 0 0 else lawS fx r o
/-- the values on the stack are of their kinds -/
def ty : List Nat → List Int32 → Prop
  | [], [] => True
  | t :: s, v :: vs => (t = 1 → v = 0 ∨ v = 1) ∧ (t = 2 → v ≠ 0) ∧ ty s vs
  | _, _ => False
def AS (f : Nat → Int32) : List Int32 → Prop
  | [] => True
  | v :: vs => f vs.length = v ∧ AS f vs
theorem AS_c {f g : Nat → Int32} : ∀ {vs : List Int32}, (∀ i, i < vs.length → f i = g i) → AS f vs → AS g vs
  | [], _, _ => trivial
  | v :: vs, h, a => ⟨(h vs.length (by simp)).symm.trans a.1, AS_c (fun i hi => h i (by simp; omega)) a.2⟩
theorem AS_p {σ : Sig} {q k : Nat} {v : Int32} {vs : List Int32} (hk : vs.length ≤ k) (a : AS (σ q) vs) : AS (pt σ q k v q) vs := AS_c (fun i hi => (pt_k (by omega)).symm) a
theorem AS_n {σ : Sig} {q : Nat} {v : Int32} {vs : List Int32} (a : AS (σ q) vs) : AS (pt σ q vs.length v q) (v :: vs) := ⟨pt_e, AS_p (Nat.le_refl _) a⟩
theorem ty_l : ∀ {s : List Nat} {vs : List Int32}, ty s vs → vs.length = s.length
  | [], [], _ => rfl
  | t :: s, v :: vs, h => by simp [ty_l h.2.2]
  | [], _ :: _, h => h.elim
  | _ :: _, [], h => h.elim
theorem k1 (c : Int32) : ((-1 : Int32) - c).toInt = -1 - c.toInt := by
  rw [Int32.toInt_sub]
  have h1 := c.toInt_lt
  have h2 := c.le_toInt
  have : (-1 : Int32).toInt = -1 := rfl
  rw [this]
  rw [Int.bmod_eq_of_le (by omega) (by omega)]
theorem a01 {a b : Int32} (ha : a = 0 ∨ a = 1) (hb : b = 0 ∨ b = 1) : (a ||| b = 0 ∨ a ||| b = 1) ∧ (a &&& b = 0 ∨ a &&& b = 1) ∧ a &&& b = a * b ∧ (a ||| b = if a + b ≤ 0 then 0 else 1) ∧ (1 - a = 0 ∨ 1 - a = 1) := by
  rcases ha with h | h <;> rcases hb with k | k <;> subst h <;> subst k <;> decide
/-- tokens behind numbers and facts -/
def isOp (c : Int32) : Prop := c = -44 ∨ c = -46 ∨ c = -43 ∨ c = -48 ∨ c = -61 ∨ c = -62 ∨ c = -63 ∨ c = -20 ∨ c = -19
theorem chk1_c {m : Nat} {c : Int32} {s s' : List Nat} (h : chk1 m c s = some s') :
    (-16 < c ∧ s.length < m ∧ s' = (if 0 < c then 2 else 0) :: s)
    ∨ (c = -21 ∧ ∃ s1, s = 1 :: s1 ∧ s' = 1 :: s1)
    ∨ (isOp c ∧ ∃ y x s1, s = y :: x :: s1 ∧ (((c = -44 ∨ c = -46 ∨ c = -43) ∧ x ≠ 1 ∧ y ≠ 1 ∧ s' = 0 :: s1) ∨ (c = -48 ∧ x ≠ 1 ∧ y = 2 ∧ s' = 0 :: s1) ∨ ((c = -61 ∨ c = -62 ∨ c = -63) ∧ x ≠ 1 ∧ y ≠ 1 ∧ s' = 1 :: s1) ∨ ((c = -20 ∨ c = -19) ∧ x = 1 ∧ y = 1 ∧ s' = 1 :: s1))) := by
  unfold chk1 at h
  by_cases h1 : -16 < c
  · rw [if_pos h1] at h
    by_cases h2 : s.length < m
    · rw [if_pos h2] at h; exact Or.inl ⟨h1, h2, (Option.some.inj h).symm⟩
    · rw [if_neg h2] at h; cases h
  · rw [if_neg h1] at h
    match s, h with
    | y :: s0, h =>
      by_cases h2 : c = -21
      · simp only [h2, if_true] at h
        by_cases h3 : y = 1
        · subst h3; rw [if_pos rfl] at h; exact Or.inr (Or.inl ⟨h2, s0, rfl, (Option.some.inj h).symm⟩)
        · rw [if_neg h3] at h; cases h
      · simp only [h2, if_false] at h
        right; right
        match s0, h with
        | x :: s1, h =>
          simp only at h
          by_cases c1 : (c = -44 ∨ c = -46 ∨ c = -43) ∧ x ≠ 1 ∧ y ≠ 1
          · rw [if_pos c1] at h
            exact ⟨by unfold isOp; rcases c1.1 with c1 | c1 | c1 <;> simp [c1], y, x, s1, rfl, Or.inl ⟨c1.1, c1.2.1, c1.2.2, (Option.some.inj h).symm⟩⟩
          · rw [if_neg c1] at h
            by_cases c2 : c = -48 ∧ x ≠ 1 ∧ y = 2
            · rw [if_pos c2] at h
              exact ⟨by unfold isOp; simp [c2.1], y, x, s1, rfl, Or.inr (Or.inl ⟨c2.1, c2.2.1, c2.2.2, (Option.some.inj h).symm⟩)⟩
            · rw [if_neg c2] at h
              by_cases c3 : (c = -61 ∨ c = -62 ∨ c = -63) ∧ x ≠ 1 ∧ y ≠ 1
              · rw [if_pos c3] at h
                exact ⟨by unfold isOp; rcases c3.1 with c3 | c3 | c3 <;> simp [c3], y, x, s1, rfl, Or.inr (Or.inr (Or.inl ⟨c3.1, c3.2.1, c3.2.2, (Option.some.inj h).symm⟩))⟩
              · rw [if_neg c3] at h
                by_cases c4 : (c = -20 ∨ c = -19) ∧ x = 1 ∧ y = 1
                · rw [if_pos c4] at h
                  exact ⟨by unfold isOp; rcases c4.1 with c4 | c4 <;> simp [c4], y, x, s1, rfl, Or.inr (Or.inr (Or.inr ⟨c4.1, c4.2.1, c4.2.2, (Option.some.inj h).symm⟩))⟩
                · rw [if_neg c4] at h; cases h
theorem isOp_neg {c : Int32} (h : isOp c) : ¬ 0 ≤ c ∧ ¬ -16 < c ∧ c ≠ -21 ∧ ¬ 0 < c := by
  unfold isOp at h
  rcases h with h | h | h | h | h | h | h | h | h <;> subst h <;> decide
theorem ev1_op {fx : Nat → Int32} {c a b : Int32} {r : List Int32} (h : isOp c) : ev1 fx c (b :: a :: r) = jn c a b :: r := by
  have k := isOp_neg h
  unfold ev1
  rw [if_neg k.1, if_neg k.2.1, if_neg k.2.2.1]
theorem jn_ty {c a b : Int32} (h : c = -61 ∨ c = -62 ∨ c = -63) : jn c a b = 0 ∨ jn c a b = 1 := by
  rcases h with h | h | h <;> subst h
  · show (if b ≤ a then (0 : Int32) else 1) = 0 ∨ (if b ≤ a then (0 : Int32) else 1) = 1
    split <;> simp
  · show (if a = b then (1 : Int32) else 0) = 0 ∨ (if a = b then (1 : Int32) else 0) = 1
    split <;> simp
  · show (if a ≤ b then (0 : Int32) else 1) = 0 ∨ (if a ≤ b then (0 : Int32) else 1) = 1
    split <;> simp
theorem jn_ty2 {c a b : Int32} (h : c = -20 ∨ c = -19) (ha : a = 0 ∨ a = 1) (hb : b = 0 ∨ b = 1) : jn c a b = 0 ∨ jn c a b = 1 := by
  have := a01 ha hb
  rcases h with h | h <;> subst h
  · exact this.2.1
  · exact this.1
/-- one token, typed -/
theorem ev_1 {m : Nat} {fx : Nat → Int32} {c : Int32} {s s' : List Nat} {vs : List Int32} (h : chk1 m c s = some s') (t : ty s vs) :
    ty s' (ev1 fx c vs) ∧ ∀ base, ev1 fx c (vs ++ base) = ev1 fx c vs ++ base := by
  rcases chk1_c h with ⟨h1, _, h2⟩ | ⟨h1, s1, e, h2⟩ | ⟨h1, y, x, s1, e, h2⟩
  · subst h2
    refine ⟨?_, ?_⟩
    · unfold ev1
      by_cases k : 0 ≤ c
      · rw [if_pos k]
        refine ⟨fun e => ?_, fun e => ?_, t⟩
        · by_cases z : 0 < c
          · rw [if_pos z] at e; cases e
          · rw [if_neg z] at e; cases e
        · by_cases z : 0 < c
          · intro e0; subst e0; exact absurd z (by decide)
          · rw [if_neg z] at e; cases e
      · rw [if_neg k, if_pos h1]
        have z : ¬ 0 < c := fun z => k (Int32.le_iff_lt_or_eq.mpr (Or.inl z))
        rw [if_neg z]
        exact ⟨fun e => (by cases e), fun e => (by cases e), t⟩
    · intro base
      unfold ev1
      by_cases k : 0 ≤ c
      · rw [if_pos k, if_pos k]; rfl
      · rw [if_neg k, if_neg k, if_pos h1, if_pos h1]; rfl
  · subst h1; subst e; subst h2
    match vs, t with
    | [], t => exact t.elim
    | v :: vs, t =>
      refine ⟨?_, fun base => rfl⟩
      show ty (1 :: s1) ((1 - v) :: vs)
      exact ⟨fun _ => (a01 (t.1 rfl) (t.1 rfl)).2.2.2.2, fun e => (by cases e), t.2.2⟩
  · subst e
    match vs, t with
    | [], t => exact t.elim
    | [b], t => exact t.2.2.elim
    | b :: a :: vs, t =>
      have hb : ∀ base, ev1 fx c ((b :: a :: vs) ++ base) = ev1 fx c (b :: a :: vs) ++ base := by
        intro base
        show ev1 fx c (b :: a :: (vs ++ base)) = _
        rw [ev1_op h1, ev1_op h1]; rfl
      refine ⟨?_, hb⟩
      rw [ev1_op h1]
      rcases h2 with ⟨_, _, _, h2⟩ | ⟨_, _, _, h2⟩ | ⟨hc, _, _, h2⟩ | ⟨hc, hx, hy, h2⟩ <;> subst h2
      · exact ⟨fun e => (by cases e), fun e => (by cases e), t.2.2.2.2⟩
      · exact ⟨fun e => (by cases e), fun e => (by cases e), t.2.2.2.2⟩
      · exact ⟨fun _ => jn_ty hc, fun e => (by cases e), t.2.2.2.2⟩
      · exact ⟨fun _ => jn_ty2 hc (t.2.2.1 hx) (t.1 hy), fun e => (by cases e), t.2.2.2.2⟩
theorem chk_s {m : Nat} {c : Int32} {r : List Int32} {s s' : List Nat} (h : chk m (c :: r) s = some s') : ∃ s1, chk1 m c s = some s1 ∧ chk m r s1 = some s' := by
  rw [chk] at h
  cases e : chk1 m c s with
  | none => rw [e] at h; cases h
  | some s1 => rw [e] at h; exact ⟨s1, rfl, h⟩
theorem ev_ok {m : Nat} {fx : Nat → Int32} : ∀ {ts : List Int32} {s s' : List Nat} {vs : List Int32}, chk m ts s = some s' → ty s vs → ty s' (evR fx ts vs) ∧ ∀ base, evR fx ts (vs ++ base) = evR fx ts vs ++ base
  | [], s, s', vs, h, t => by
    rw [chk] at h; cases h
    exact ⟨t, fun _ => rfl⟩
  | c :: r, s, s', vs, h, t => by
    obtain ⟨s1, h0, h1⟩ := chk_s h
    obtain ⟨t1, b1⟩ := ev_1 (fx := fx) h0 t
    obtain ⟨t2, b2⟩ := ev_ok h1 t1
    refine ⟨t2, fun base => ?_⟩
    rw [evR, b1 base, b2 base]; rfl
/-- with one more below -/
theorem chk1_b {m t : Nat} {c : Int32} {s s' : List Nat} (h : chk1 m c s = some s') : chk1 (m + 1) c (s ++ [t]) = some (s' ++ [t]) ∧ chk1 (m + 1) c s = some s' := by
  rcases chk1_c h with ⟨h1, h0, h2⟩ | ⟨h1, s1, e, h2⟩ | ⟨h1, y, x, s1, e, h2⟩
  · subst h2
    unfold chk1
    have l1 : (s ++ [t]).length < m + 1 := by simp; omega
    have l2 : s.length < m + 1 := by omega
    rw [if_pos h1, if_pos h1, if_pos l1, if_pos l2]
    exact ⟨rfl, rfl⟩
  · subst h1; subst e; subst h2
    exact ⟨rfl, rfl⟩
  · subst e
    have k := isOp_neg h1
    have key : ∀ u, chk1 (m + 1) c (y :: x :: u) = if (c = -44 ∨ c = -46 ∨ c = -43) ∧ x ≠ 1 ∧ y ≠ 1 then some (0 :: u)
          else if c = -48 ∧ x ≠ 1 ∧ y = 2 then some (0 :: u)
          else if (c = -61 ∨ c = -62 ∨ c = -63) ∧ x ≠ 1 ∧ y ≠ 1 then some (1 :: u)
          else if (c = -20 ∨ c = -19) ∧ x = 1 ∧ y = 1 then some (1 :: u) else none := by
      intro u
      unfold chk1
      rw [if_neg k.2.1]
      simp only [k.2.2.1, if_false]
    rw [show (y :: x :: s1) ++ [t] = y :: x :: (s1 ++ [t]) from rfl, key, key]
    rcases h2 with ⟨hc, hx, hy, h2⟩ | ⟨hc, hx, hy, h2⟩ | ⟨hc, hx, hy, h2⟩ | ⟨hc, hx, hy, h2⟩ <;> subst h2
    · rw [if_pos ⟨hc, hx, hy⟩, if_pos ⟨hc, hx, hy⟩]; exact ⟨rfl, rfl⟩
    · have n1 : ¬ ((c = -44 ∨ c = -46 ∨ c = -43) ∧ x ≠ 1 ∧ y ≠ 1) := fun e => by rw [hc] at e; exact absurd e.1 (by decide)
      rw [if_neg n1, if_neg n1, if_pos ⟨hc, hx, hy⟩, if_pos ⟨hc, hx, hy⟩]; exact ⟨rfl, rfl⟩
    · have n1 : ¬ ((c = -44 ∨ c = -46 ∨ c = -43) ∧ x ≠ 1 ∧ y ≠ 1) := fun e => by rcases hc with hc | hc | hc <;> subst hc <;> exact absurd e.1 (by decide)
      have n2 : ¬ (c = -48 ∧ x ≠ 1 ∧ y = 2) := fun e => by rcases hc with hc | hc | hc <;> subst hc <;> exact absurd e.1 (by decide)
      rw [if_neg n1, if_neg n1, if_neg n2, if_neg n2, if_pos ⟨hc, hx, hy⟩, if_pos ⟨hc, hx, hy⟩]; exact ⟨rfl, rfl⟩
    · have n1 : ¬ ((c = -44 ∨ c = -46 ∨ c = -43) ∧ x ≠ 1 ∧ y ≠ 1) := fun e => e.2.1 hx
      have n2 : ¬ (c = -48 ∧ x ≠ 1 ∧ y = 2) := fun e => e.2.1 hx
      have n3 : ¬ ((c = -61 ∨ c = -62 ∨ c = -63) ∧ x ≠ 1 ∧ y ≠ 1) := fun e => e.2.1 hx
      rw [if_neg n1, if_neg n1, if_neg n2, if_neg n2, if_neg n3, if_neg n3, if_pos ⟨hc, hx, hy⟩, if_pos ⟨hc, hx, hy⟩]; exact ⟨rfl, rfl⟩
theorem chk_b {m : Nat} {t : Nat} : ∀ {ts : List Int32} {s s' : List Nat}, chk m ts s = some s' → chk (m + 1) ts (s ++ [t]) = some (s' ++ [t]) ∧ chk (m + 1) ts s = some s'
  | [], s, s', h => by rw [chk] at h ⊢; cases h; exact ⟨rfl, rfl⟩
  | c :: r, s, s', h => by
    obtain ⟨s1, h0, h1⟩ := chk_s h
    have a := chk1_b (t := t) h0
    have b := chk_b (t := t) h1
    rw [chk, chk, a.1, a.2]
    exact b
theorem ev_ne {m : Nat} {fx : Nat → Int32} {ts : List Int32} {t : Nat} (h : chk m ts [] = some [t]) : ∃ v, evR fx ts [] = [v] := by
  have := (ev_ok (fx := fx) (vs := []) h trivial).1
  match e : evR fx ts [] with
  | [] => rw [e] at this; exact this.elim
  | [v] => exact ⟨v, rfl⟩
  | v :: w :: l => rw [e] at this; exact this.2.2.elim
theorem gd_l {a b : List Int32} {i : Nat} (h : i < a.length) : (a ++ b).getD i 0 = a.getD i 0 := by
  simp only [List.getD_eq_getElem?_getD, List.getElem?_append_left h]
theorem gd_r {a b : List Int32} {i : Nat} (h : a.length ≤ i) : (a ++ b).getD i 0 = b.getD (i - a.length) 0 := by
  simp only [List.getD_eq_getElem?_getD, List.getElem?_append_right h]
