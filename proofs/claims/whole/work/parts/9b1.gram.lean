/-! L3: the grammar of LAWS over tokens: K their kinds, V their values; g = 15 bear, 16 tire -/
abbrev PR : Type := Sum (Nat × Nat) (List Int32 × Nat)
def bnd (r : PR) (f : List Int32 → Nat → PR) : PR := match r with
  | .inl x => .inl x
  | .inr (c, i) => f c i
def pre (c : List Int32) (r : PR) : PR := match r with
  | .inl x => .inl x
  | .inr (e, i) => .inr (c ++ e, i)
abbrev askP (g : Nat) (k : Nat) : Prop := k < 10 ∨ (k = 10 ∧ g = 15) ∨ ((11 ≤ k ∧ k ≤ 14) ∧ g = 16)
def pU (K V : Nat → Nat) (g i : Nat) : PR := if K i = 30 then .inr ([nI (V i)], i + 1) else if askP g (K i) then .inr ([-1 - nI (K i)], i + 1) else .inl (1, i)
/-- behind a unit: * and / -/
def pPl (K V : Nat → Nat) (g : Nat) : Nat → Nat → PR
  | 0, i => .inr ([], i)
  | f + 1, i => if K i = 42 then bnd (pU K V g (i + 1)) (fun c j => pre (c ++ [-43]) (pPl K V g f j)) else if K i = 47 then (if K (i + 1) = 30 then (if V (i + 1) = 0 then .inl (2, i + 1) else pre [nI (V (i + 1)), -48] (pPl K V g f (i + 2))) else .inl (1, i + 1)) else .inr ([], i)
def pP (K V : Nat → Nat) (g i : Nat) : PR := bnd (pU K V g i) (fun c j => pre c (pPl K V g 401 j))
def pSl (K V : Nat → Nat) (g : Nat) : Nat → Nat → PR
  | 0, i => .inr ([], i)
  | f + 1, i => if K i = 43 ∨ K i = 45 then bnd (pP K V g (i + 1)) (fun c j => pre (c ++ [-1 - nI (K i)]) (pSl K V g f j)) else .inr ([], i)
def pS (K V : Nat → Nat) (g i : Nat) : PR := bnd (pP K V g i) (fun c j => pre c (pSl K V g 401 j))
def pC (K V : Nat → Nat) (g i : Nat) : PR := bnd (pS K V g i) (fun c j => if K j = 60 ∨ K j = 61 ∨ K j = 62 then bnd (pS K V g (j + 1)) (fun e k => .inr (c ++ e ++ [-1 - nI (K j)], k)) else .inl (1, j))
/-- and, or, over a single S; w: an or waits -/
def pBl (K : Nat → Nat) (S : Nat → PR) : Nat → Bool → Nat → PR
  | 0, w, i => .inr (if w = true then [-19] else [], i)
  | f + 1, w, i => if K i = 19 then bnd (S (i + 1)) (fun c j => pre (c ++ [-20]) (pBl K S f w j)) else if K i = 18 then pre (if w = true then [-19] else []) (bnd (S (i + 1)) (fun c j => pre c (pBl K S f true j))) else .inr (if w = true then [-19] else [], i)
def pB (K : Nat → Nat) (S : Nat → PR) (i : Nat) : PR := bnd (S i) (fun c j => pre c (pBl K S 401 false j))
def pN (K V : Nat → Nat) (g : Nat) : Nat → Nat → PR
  | 0, i => if K i = 20 ∨ K i = 40 then .inl (3, i) else pC K V g i
  | q + 1, i => if K i = 20 then bnd (pN K V g q (i + 1)) (fun c j => .inr (c ++ [-21], j)) else if K i = 40 then bnd (pB K (pN K V g q) (i + 1)) (fun c j => if K j = 41 then .inr (c, j + 1) else .inl (1, j)) else pC K V g i
/-- no more codes than tokens read, and not beyond the end -/
def pOk (N i : Nat) (r : PR) : Prop := ∀ c j, r = .inr (c, j) → c.length + i ≤ j ∧ j ≤ N
theorem pOk_l {N i : Nat} {x : Nat × Nat} : pOk N i (.inl x) := fun c j e => by cases e
theorem pOk_r {N i j : Nat} {c : List Int32} (h : c.length + i ≤ j) (h2 : j ≤ N) : pOk N i (.inr (c, j)) := fun c' j' e => by cases e; exact ⟨h, h2⟩
theorem pOk_b {N i k : Nat} {r : PR} {f : List Int32 → Nat → PR} (h : pOk N i r) (hf : ∀ c j, c.length + i ≤ j → j ≤ N → pOk N k (f c j)) : pOk N k (bnd r f) := by
  cases r with
  | inl x => exact pOk_l
  | inr x => obtain ⟨c, j⟩ := x; exact hf c j (h c j rfl).1 (h c j rfl).2
theorem pOk_p {N i k : Nat} {c : List Int32} {r : PR} (h : pOk N i r) (hk : c.length + k ≤ i) : pOk N k (pre c r) := by
  cases r with
  | inl x => exact pOk_l
  | inr x =>
    obtain ⟨e, j⟩ := x
    have := h e j rfl
    exact pOk_r (by rw [List.length_append]; omega) this.2
/-- the tokens' end -/
def endK (K : Nat → Nat) (N : Nat) : Prop := K N = 32
theorem kLt {K : Nat → Nat} {N i : Nat} (h : endK K N) (hi : i ≤ N) (hk : K i ≠ 32) : i < N := by
  rcases Nat.lt_or_ge i N with c | c
  · exact c
  · have : i = N := by omega
    subst this; exact absurd h hk
theorem askP_32 {g : Nat} : ¬ askP g 32 := by unfold askP; omega
theorem pU_ok {K V : Nat → Nat} {g N i : Nat} (h : endK K N) (hi : i ≤ N) : pOk N i (pU K V g i) := by
  unfold pU
  split
  · rename_i c
    have := kLt h hi (by rw [c]; decide)
    exact pOk_r (by simp; omega) (by omega)
  · split
    · rename_i c
      have := kLt h hi (fun e => askP_32 (e ▸ c))
      exact pOk_r (by simp; omega) (by omega)
    · exact pOk_l
theorem pPl_ok {K V : Nat → Nat} {g N : Nat} (h : endK K N) : ∀ f i, i ≤ N → pOk N i (pPl K V g f i) := by
  intro f
  induction f with
  | zero => intro i hi; rw [pPl]; exact pOk_r (by simp) hi
  | succ f ih =>
    intro i hi
    rw [pPl]
    split
    · rename_i c
      have := kLt h hi (by rw [c]; decide)
      refine pOk_b (pU_ok h (show i + 1 ≤ N by omega)) (fun e j h1 h2 => pOk_p (ih j h2) ?_)
      rw [List.length_append]; simp; omega
    · split
      · rename_i c
        have := kLt h hi (by rw [c]; decide)
        split
        · rename_i c2
          have := kLt h (show i + 1 ≤ N by omega) (by rw [c2]; decide)
          split
          · exact pOk_l
          · exact pOk_p (ih (i + 2) (by omega)) (by simp; omega)
        · exact pOk_l
      · exact pOk_r (by simp) hi
theorem pP_ok {K V : Nat → Nat} {g N i : Nat} (h : endK K N) (hi : i ≤ N) : pOk N i (pP K V g i) :=
  pOk_b (pU_ok h hi) (fun _ j h1 h2 => pOk_p (pPl_ok h 401 j h2) h1)
theorem pSl_ok {K V : Nat → Nat} {g N : Nat} (h : endK K N) : ∀ f i, i ≤ N → pOk N i (pSl K V g f i) := by
  intro f
  induction f with
  | zero => intro i hi; rw [pSl]; exact pOk_r (by simp) hi
  | succ f ih =>
    intro i hi
    rw [pSl]
    split
    · rename_i c
      have := kLt h hi (by omega)
      refine pOk_b (pP_ok h (show i + 1 ≤ N by omega)) (fun e j h1 h2 => pOk_p (ih j h2) ?_)
      rw [List.length_append]; simp; omega
    · exact pOk_r (by simp) hi
theorem pS_ok {K V : Nat → Nat} {g N i : Nat} (h : endK K N) (hi : i ≤ N) : pOk N i (pS K V g i) :=
  pOk_b (pP_ok h hi) (fun _ j h1 h2 => pOk_p (pSl_ok h 401 j h2) h1)
theorem pC_ok {K V : Nat → Nat} {g N i : Nat} (h : endK K N) (hi : i ≤ N) : pOk N i (pC K V g i) := by
  refine pOk_b (pS_ok h hi) (fun c j h1 h2 => ?_)
  split
  · rename_i k
    have := kLt h h2 (by omega)
    refine pOk_b (pS_ok h (show j + 1 ≤ N by omega)) (fun e l h3 h4 => pOk_r ?_ h4)
    rw [List.length_append, List.length_append]; simp; omega
  · exact pOk_l
theorem pBl_ok {K : Nat → Nat} {S : Nat → PR} {N : Nat} (h : endK K N) (hS : ∀ i, i ≤ N → pOk N i (S i)) : ∀ f w i k, i ≤ N → (if w = true then 1 else 0) + k ≤ i → pOk N k (pBl K S f w i) := by
  intro f
  induction f with
  | zero =>
    intro w i k hi hk
    rw [pBl]
    refine pOk_r ?_ hi
    cases w <;> simp at hk ⊢ <;> omega
  | succ f ih =>
    intro w i k hi hk
    rw [pBl]
    split
    · rename_i c
      have := kLt h hi (by rw [c]; decide)
      refine pOk_b (hS (i + 1) (by omega)) (fun e j h1 h2 => pOk_p (ih w j (e.length + 1 + k) h2 (by omega)) ?_)
      rw [List.length_append, List.length_cons, List.length_nil]; omega
    · split
      · rename_i c
        have := kLt h hi (by rw [c]; decide)
        have : pOk N ((if w = true then 1 else 0) + k) (bnd (S (i + 1)) (fun c j => pre c (pBl K S f true j))) := pOk_b (hS (i + 1) (by omega)) (fun e j h1 h2 => pOk_p (ih true j (e.length + ((if w = true then 1 else 0) + k)) h2 (by simp; omega)) (by omega))
        refine pOk_p this ?_
        cases w <;> simp
      · refine pOk_r ?_ hi
        cases w <;> simp at hk ⊢ <;> omega
theorem pB_ok {K : Nat → Nat} {S : Nat → PR} {N i : Nat} (h : endK K N) (hS : ∀ i, i ≤ N → pOk N i (S i)) (hi : i ≤ N) : pOk N i (pB K S i) :=
  pOk_b (hS i hi) (fun c j h1 h2 => pOk_p (pBl_ok h hS 401 false j (c.length + i) h2 (by simp; omega)) (by omega))
theorem pN_ok {K V : Nat → Nat} {g N : Nat} (h : endK K N) : ∀ q i, i ≤ N → pOk N i (pN K V g q i) := by
  intro q
  induction q with
  | zero =>
    intro i hi
    rw [pN]
    split
    · exact pOk_l
    · exact pC_ok h hi
  | succ q ih =>
    intro i hi
    rw [pN]
    split
    · rename_i c
      have := kLt h hi (by rw [c]; decide)
      refine pOk_b (ih (i + 1) (by omega)) (fun e j h1 h2 => pOk_r ?_ h2)
      rw [List.length_append]; simp; omega
    · split
      · rename_i c
        have := kLt h hi (by rw [c]; decide)
        refine pOk_b (pB_ok h ih (show i + 1 ≤ N by omega)) (fun e j h1 h2 => ?_)
        split
        · rename_i c2
          have := kLt h h2 (by rw [c2]; decide)
          exact pOk_r (by omega) (by omega)
        · exact pOk_l
      · exact pC_ok h hi
