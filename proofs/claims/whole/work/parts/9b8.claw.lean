/-! L3: the grammar: what kinds its codes leave; the class: a LAW -/
theorem bnd_i {r : PR} {f : List Int32 → Nat → PR} {c : List Int32} {j : Nat} (h : bnd r f = .inr (c, j)) : ∃ e k, r = .inr (e, k) ∧ f e k = .inr (c, j) := by
  cases r with
  | inl x => cases h
  | inr x => obtain ⟨e, k⟩ := x; exact ⟨e, k, rfl, h⟩
theorem pre_i {r : PR} {a c : List Int32} {j : Nat} (h : pre a r = .inr (c, j)) : ∃ e, r = .inr (e, j) ∧ c = a ++ e := by
  cases r with
  | inl x => cases h
  | inr x =>
    obtain ⟨e, k⟩ := x
    have h' : (Sum.inr (a ++ e, k) : PR) = .inr (c, j) := h
    cases h'
    exact ⟨e, rfl, rfl⟩
theorem chk_a {m : Nat} : ∀ {a b : List Int32} {s : List Nat}, chk m (a ++ b) s = (chk m a s).bind (chk m b)
  | [], b, s => rfl
  | x :: a, b, s => by
    show (chk1 m x s).bind (chk m (a ++ b)) = ((chk1 m x s).bind (chk m a)).bind (chk m b)
    cases chk1 m x s with
    | none => rfl
    | some s1 => exact chk_a
theorem chk_c {m : Nat} {a b : List Int32} {s s1 s2 : List Nat} (h : chk m a s = some s1) (k : chk m b s1 = some s2) : chk m (a ++ b) s = some s2 := by
  rw [chk_a, h]; exact k
def okc (g : Nat) (x : Int32) : Prop := -16 < x → x < 0 → alw (g - 15) (-1 - x).toNatClampNeg
theorem okc_n {g n : Nat} (h : n < 2 ^ 31) : okc g (nI n) := fun _ k => by
  have : (nI n < 0) = (n < 0) := nJ_lt (b := 0) h (by omega)
  rw [this] at k; omega
theorem okc_o {g : Nat} {x : Int32} (h : ¬ -16 < x) : okc g x := fun k _ => absurd k h
theorem m1m1 {n : Nat} : (-1 : Int32) - (-1 - nI n) = nI n := by
  rw [Int32.sub_eq_add_neg, Int32.neg_sub, Int32.sub_eq_add_neg, Int32.add_comm (nI n), ← Int32.add_assoc]; 
  rw [show (-1 : Int32) + - -1 = 0 by decide, Int32.zero_add]
theorem nI_g16 {n : Nat} (h : n < 2 ^ 31) : (-16 : Int32) < nI n := by
  rw [Int32.lt_iff_toInt_lt, nI_i h]
  have : (-16 : Int32).toInt = -16 := by decide
  omega
theorem ask_i {n : Nat} (h : n < 15) : (-16 : Int32) < -1 - nI n ∧ (-1 - nI n : Int32) < 0 := by
  have : ∀ n, n < 15 → (-16 : Int32) < -1 - nI n ∧ (-1 - nI n : Int32) < 0 := by decide
  exact this n h
theorem askP_15 {g k : Nat} (h : askP g k) : k < 15 := by unfold askP at h; omega
theorem okc_a {g k : Nat} (hg : g = 15 ∨ g = 16) (h : askP g k) : okc g (-1 - nI k) := fun _ _ => by
  have h15 := askP_15 h
  rw [m1m1, nI_c (by omega)]
  unfold askP at h
  refine ⟨h15, ?_, ?_⟩ <;> omega
theorem ck_p {c : Int32} {s : List Nat} (h : -16 < c) (hl : s.length < 30) : chk 30 [c] s = some ((if 0 < c then 2 else 0) :: s) := by
  show (chk1 30 c s).bind (chk 30 []) = _
  unfold chk1
  rw [if_pos h, if_pos hl]; rfl
theorem ck_a {c : Int32} {x y : Nat} {s : List Nat} (h : c = -44 ∨ c = -46 ∨ c = -43) (hx : x ≠ 1) (hy : y ≠ 1) : chk 30 [c] (y :: x :: s) = some (0 :: s) := by
  have h1 : ¬ -16 < c := by rcases h with e | e | e <;> subst e <;> decide
  have h2 : ¬ c = -21 := by rcases h with e | e | e <;> subst e <;> decide
  show (chk1 30 c (y :: x :: s)).bind (chk 30 []) = _
  unfold chk1
  rw [if_neg h1]
  show (if c = -21 then _ else if _ then _ else _ : Option (List Nat)).bind _ = _
  rw [if_neg h2, if_pos ⟨h, hx, hy⟩]; rfl
theorem ck_d {x : Nat} {s : List Nat} (hx : x ≠ 1) : chk 30 [-48] (2 :: x :: s) = some (0 :: s) := by
  have h1 : ¬ (-16 : Int32) < -48 := by decide
  have h2 : ¬ (-48 : Int32) = -21 := by decide
  have h3 : ¬ (((-48 : Int32) = -44 ∨ (-48 : Int32) = -46 ∨ (-48 : Int32) = -43) ∧ x ≠ 1 ∧ 2 ≠ 1) := fun h => absurd h.1 (by decide)
  show (chk1 30 (-48) (2 :: x :: s)).bind (chk 30 []) = _
  unfold chk1
  rw [if_neg h1]
  show (if (-48 : Int32) = -21 then _ else if _ then _ else if _ then _ else _ : Option (List Nat)).bind _ = _
  rw [if_neg h2, if_neg h3, if_pos ⟨rfl, hx, rfl⟩]; rfl
theorem ck_r {c : Int32} {x y : Nat} {s : List Nat} (h : c = -61 ∨ c = -62 ∨ c = -63) (hx : x ≠ 1) (hy : y ≠ 1) : chk 30 [c] (y :: x :: s) = some (1 :: s) := by
  have h1 : ¬ -16 < c := by rcases h with e | e | e <;> subst e <;> decide
  have h2 : ¬ c = -21 := by rcases h with e | e | e <;> subst e <;> decide
  have h3 : ¬ ((c = -44 ∨ c = -46 ∨ c = -43) ∧ x ≠ 1 ∧ y ≠ 1) := fun k => absurd k.1 (by rcases h with e | e | e <;> subst e <;> decide)
  have h4 : ¬ (c = -48 ∧ x ≠ 1 ∧ y = 2) := fun k => absurd k.1 (by rcases h with e | e | e <;> subst e <;> decide)
  show (chk1 30 c (y :: x :: s)).bind (chk 30 []) = _
  unfold chk1
  rw [if_neg h1]
  show (if c = -21 then _ else if _ then _ else if _ then _ else if _ then _ else _ : Option (List Nat)).bind _ = _
  rw [if_neg h2, if_neg h3, if_neg h4, if_pos ⟨h, hx, hy⟩]; rfl
theorem ck_n {s : List Nat} : chk 30 [-21] (1 :: s) = some (1 :: s) := by
  have h1 : ¬ (-16 : Int32) < -21 := by decide
  show (chk1 30 (-21) (1 :: s)).bind (chk 30 []) = _
  unfold chk1
  rw [if_neg h1]
  show (if (-21 : Int32) = -21 then (if 1 = 1 then _ else _) else _ : Option (List Nat)).bind _ = _
  rw [if_pos rfl, if_pos rfl]; rfl
theorem ck_b {c : Int32} {s : List Nat} (h : c = -20 ∨ c = -19) : chk 30 [c] (1 :: 1 :: s) = some (1 :: s) := by
  rcases h with e | e <;> subst e <;> rfl
/-- codes that push a number, with n free slots -/
def GS (g n : Nat) (r : PR) : Prop := ∀ c j, r = .inr (c, j) → (∀ x ∈ c, okc g x) ∧ ∀ s : List Nat, s.length + n ≤ 30 → ∃ t, t ≠ 1 ∧ chk 30 c s = some (t :: s)
/-- codes behind a number that leave a number -/
def GT (g n : Nat) (r : PR) : Prop := ∀ c j, r = .inr (c, j) → (∀ x ∈ c, okc g x) ∧ ∀ (s : List Nat) t, t ≠ 1 → s.length + n ≤ 30 → ∃ t', t' ≠ 1 ∧ chk 30 c (t :: s) = some (t' :: s)
/-- codes that push a truth -/
def GB (g n : Nat) (r : PR) : Prop := ∀ c j, r = .inr (c, j) → (∀ x ∈ c, okc g x) ∧ ∀ s : List Nat, s.length + n ≤ 30 → chk 30 c s = some (1 :: s)
theorem nof {P : Int32 → Prop} : ∀ x ∈ ([] : List Int32), P x := fun _ h => absurd h List.not_mem_nil
theorem all_a {P : Int32 → Prop} {a b : List Int32} (h : ∀ x ∈ a, P x) (k : ∀ x ∈ b, P x) : ∀ x ∈ a ++ b, P x := fun x hx => (List.mem_append.mp hx).elim (h x) (k x)
theorem all_1 {P : Int32 → Prop} {c : Int32} (h : P c) : ∀ x ∈ [c], P x := fun x hx => by rw [List.mem_singleton.mp hx]; exact h
section
variable {K V : Nat → Nat} {g : Nat}
theorem gs_U (hV : ∀ t, K t = 30 → V t ≤ 9999) (hg : g = 15 ∨ g = 16) (i : Nat) : GS g 1 (pU K V g i) := by
  intro c j h
  unfold pU at h
  split at h
  · rename_i k
    have := hV i k
    cases h
    refine ⟨all_1 (okc_n (by omega)), fun s hs => ⟨_, ?_, ck_p (nI_g16 (by omega)) (by omega)⟩⟩
    split <;> decide
  · split at h
    · rename_i k
      cases h
      refine ⟨all_1 (okc_a hg k), fun s hs => ⟨_, ?_, ck_p (ask_i (askP_15 k)).1 (by omega)⟩⟩
      split <;> decide
    · cases h
theorem gt_Pl (hV : ∀ t, K t = 30 → V t ≤ 9999) (hg : g = 15 ∨ g = 16) : ∀ f i, GT g 2 (pPl K V g f i) := by
  intro f
  induction f with
  | zero => intro i c j h; rw [pPl] at h; cases h; exact ⟨nof, fun s t ht _ => ⟨t, ht, rfl⟩⟩
  | succ f ih =>
    intro i c j h
    rw [pPl] at h
    split at h
    · obtain ⟨e, k, h1, h2⟩ := bnd_i h
      obtain ⟨e2, h3, h4⟩ := pre_i h2
      obtain ⟨a1, a2⟩ := gs_U hV hg (i + 1) e k h1
      obtain ⟨b1, b2⟩ := ih k e2 j h3
      subst h4
      refine ⟨all_a (all_a a1 (all_1 (okc_o (by decide)))) b1, fun s t ht hs => ?_⟩
      obtain ⟨t1, ht1, c1⟩ := a2 (t :: s) (by rw [List.length_cons]; omega)
      obtain ⟨t2, ht2, c2⟩ := b2 s 0 (by decide) hs
      exact ⟨t2, ht2, chk_c (chk_c c1 (ck_a (by decide) ht ht1)) c2⟩
    · split at h
      · split at h
        · rename_i k30
          split at h
          · cases h
          · rename_i nz
            obtain ⟨e2, h3, h4⟩ := pre_i h
            obtain ⟨b1, b2⟩ := ih (i + 2) e2 j h3
            have h9 := hV (i + 1) k30
            subst h4
            refine ⟨all_a (all_a (a := [nI (V (i + 1))]) (all_1 (okc_n (by omega))) (all_1 (okc_o (by decide)))) b1, fun s t ht hs => ?_⟩
            obtain ⟨t2, ht2, c2⟩ := b2 s 0 (by decide) hs
            have p : chk 30 [nI (V (i + 1))] (t :: s) = some (2 :: t :: s) := by
              rw [ck_p (nI_g16 (by omega)) (by rw [List.length_cons]; omega)]
              have : ((0 : Int32) < nI (V (i + 1))) = (0 < V (i + 1)) := nJ_lt (a := 0) (by omega) (by omega)
              have h0 : (0 : Int32) < nI (V (i + 1)) := by rw [this]; omega
              rw [if_pos h0]
            exact ⟨t2, ht2, chk_c (a := [nI (V (i + 1)), -48]) (chk_c (a := [nI (V (i + 1))]) p (ck_d ht)) c2⟩
        · cases h
      · cases h; exact ⟨nof, fun s t ht _ => ⟨t, ht, rfl⟩⟩
theorem gs_P (hV : ∀ t, K t = 30 → V t ≤ 9999) (hg : g = 15 ∨ g = 16) (i : Nat) : GS g 2 (pP K V g i) := by
  intro c j h
  obtain ⟨e, k, h1, h2⟩ := bnd_i h
  obtain ⟨e2, h3, h4⟩ := pre_i h2
  obtain ⟨a1, a2⟩ := gs_U hV hg i e k h1
  obtain ⟨b1, b2⟩ := gt_Pl hV hg 401 k e2 j h3
  subst h4
  refine ⟨all_a a1 b1, fun s hs => ?_⟩
  obtain ⟨t1, ht1, c1⟩ := a2 s (by omega)
  obtain ⟨t2, ht2, c2⟩ := b2 s t1 ht1 hs
  exact ⟨t2, ht2, chk_c c1 c2⟩
theorem gt_Sl (hV : ∀ t, K t = 30 → V t ≤ 9999) (hg : g = 15 ∨ g = 16) : ∀ f i, GT g 3 (pSl K V g f i) := by
  intro f
  induction f with
  | zero => intro i c j h; rw [pSl] at h; cases h; exact ⟨nof, fun s t ht _ => ⟨t, ht, rfl⟩⟩
  | succ f ih =>
    intro i c j h
    rw [pSl] at h
    split at h
    · rename_i kk
      obtain ⟨e, k, h1, h2⟩ := bnd_i h
      obtain ⟨e2, h3, h4⟩ := pre_i h2
      obtain ⟨a1, a2⟩ := gs_P hV hg (i + 1) e k h1
      obtain ⟨b1, b2⟩ := ih k e2 j h3
      have hc : (-1 - nI (K i) : Int32) = -44 ∨ (-1 - nI (K i) : Int32) = -46 ∨ (-1 - nI (K i) : Int32) = -43 := by
        rcases kk with e | e <;> rw [e]
        · exact Or.inl (by decide)
        · exact Or.inr (Or.inl (by decide))
      subst h4
      refine ⟨all_a (all_a a1 (all_1 (okc_o (by rcases hc with e | e | e <;> rw [e] <;> decide)))) b1, fun s t ht hs => ?_⟩
      obtain ⟨t1, ht1, c1⟩ := a2 (t :: s) (by rw [List.length_cons]; omega)
      obtain ⟨t2, ht2, c2⟩ := b2 s 0 (by decide) hs
      exact ⟨t2, ht2, chk_c (chk_c c1 (ck_a hc ht ht1)) c2⟩
    · cases h; exact ⟨nof, fun s t ht _ => ⟨t, ht, rfl⟩⟩
theorem gs_S (hV : ∀ t, K t = 30 → V t ≤ 9999) (hg : g = 15 ∨ g = 16) (i : Nat) : GS g 3 (pS K V g i) := by
  intro c j h
  obtain ⟨e, k, h1, h2⟩ := bnd_i h
  obtain ⟨e2, h3, h4⟩ := pre_i h2
  obtain ⟨a1, a2⟩ := gs_P hV hg i e k h1
  obtain ⟨b1, b2⟩ := gt_Sl hV hg 401 k e2 j h3
  subst h4
  refine ⟨all_a a1 b1, fun s hs => ?_⟩
  obtain ⟨t1, ht1, c1⟩ := a2 s (by omega)
  obtain ⟨t2, ht2, c2⟩ := b2 s t1 ht1 hs
  exact ⟨t2, ht2, chk_c c1 c2⟩
theorem gb_C (hV : ∀ t, K t = 30 → V t ≤ 9999) (hg : g = 15 ∨ g = 16) (i : Nat) : GB g 4 (pC K V g i) := by
  intro c j h
  obtain ⟨e, k, h1, h2⟩ := bnd_i h
  split at h2
  · rename_i kk
    obtain ⟨e2, k2, h3, h4⟩ := bnd_i h2
    cases h4
    obtain ⟨a1, a2⟩ := gs_S hV hg i e k h1
    obtain ⟨b1, b2⟩ := gs_S hV hg (k + 1) e2 j h3
    have hc : (-1 - nI (K k) : Int32) = -61 ∨ (-1 - nI (K k) : Int32) = -62 ∨ (-1 - nI (K k) : Int32) = -63 := by
      rcases kk with e | e | e <;> rw [e]
      · exact Or.inl (by decide)
      · exact Or.inr (Or.inl (by decide))
      · exact Or.inr (Or.inr (by decide))
    refine ⟨all_a (all_a a1 b1) (all_1 (okc_o (by rcases hc with e | e | e <;> rw [e] <;> decide))), fun s hs => ?_⟩
    obtain ⟨t1, ht1, c1⟩ := a2 s (by omega)
    obtain ⟨t2, ht2, c2⟩ := b2 (t1 :: s) (by rw [List.length_cons]; omega)
    exact chk_c (chk_c c1 c2) (ck_r hc ht1 ht2)
  · cases h2
/-- what and, or leave: w an or waits below -/
theorem gb_Bl {S : Nat → PR} {n : Nat} (hS : ∀ i, GB g n (S i)) : ∀ f w i c j, pBl K S f w i = .inr (c, j) → (∀ x ∈ c, okc g x) ∧ ∀ s : List Nat, s.length + 2 + n ≤ 30 → chk 30 c (if w = true then 1 :: 1 :: s else 1 :: s) = some (1 :: s) := by
  have fin : ∀ (w : Bool) (c : List Int32), c = (if w = true then [-19] else []) → (∀ x ∈ c, okc g x) ∧ ∀ s : List Nat, s.length + 2 + n ≤ 30 → chk 30 c (if w = true then 1 :: 1 :: s else 1 :: s) = some (1 :: s) := by
    intro w c e
    subst e
    cases w
    · exact ⟨nof, fun s _ => rfl⟩
    · exact ⟨all_1 (okc_o (by decide)), fun s _ => ck_b (Or.inr rfl)⟩
  intro f
  induction f with
  | zero => intro w i c j h; rw [pBl] at h; cases h; exact fin w _ rfl
  | succ f ih =>
    intro w i c j h
    rw [pBl] at h
    split at h
    · obtain ⟨e, k, h1, h2⟩ := bnd_i h
      obtain ⟨e2, h3, h4⟩ := pre_i h2
      obtain ⟨a1, a2⟩ := hS (i + 1) e k h1
      obtain ⟨b1, b2⟩ := ih w k e2 j h3
      subst h4
      refine ⟨all_a (all_a a1 (all_1 (okc_o (by decide)))) b1, fun s hs => ?_⟩
      cases w
      · exact chk_c (chk_c (a2 (1 :: s) (by rw [List.length_cons]; omega)) (ck_b (Or.inl rfl))) (b2 s hs)
      · exact chk_c (chk_c (a2 (1 :: 1 :: s) (by rw [List.length_cons, List.length_cons]; omega)) (ck_b (s := 1 :: s) (Or.inl rfl))) (b2 s hs)
    · split at h
      · obtain ⟨e0, h0, h5⟩ := pre_i h
        obtain ⟨e, k, h1, h2⟩ := bnd_i h0
        obtain ⟨e2, h3, h4⟩ := pre_i h2
        obtain ⟨a1, a2⟩ := hS (i + 1) e k h1
        obtain ⟨b1, b2⟩ := ih true k e2 j h3
        subst h4; subst h5
        have w1 := fin w _ rfl
        refine ⟨all_a w1.1 (all_a a1 b1), fun s hs => ?_⟩
        exact chk_c (w1.2 s hs) (chk_c (a2 (1 :: s) (by rw [List.length_cons]; omega)) (b2 s hs))
      · cases h; exact fin w _ rfl
theorem gb_B {S : Nat → PR} {n : Nat} (hS : ∀ i, GB g n (S i)) (i : Nat) : GB g (2 + n) (pB K S i) := by
  intro c j h
  obtain ⟨e, k, h1, h2⟩ := bnd_i h
  obtain ⟨e2, h3, h4⟩ := pre_i h2
  obtain ⟨a1, a2⟩ := hS i e k h1
  obtain ⟨b1, b2⟩ := gb_Bl hS 401 false k e2 j h3
  subst h4
  exact ⟨all_a a1 b1, fun s hs => chk_c (a2 s (by omega)) (b2 s (by omega))⟩
theorem gb_N (hV : ∀ t, K t = 30 → V t ≤ 9999) (hg : g = 15 ∨ g = 16) : ∀ q i, GB g (4 + 2 * q) (pN K V g q i) := by
  intro q
  induction q with
  | zero =>
    intro i c j h
    rw [pN] at h
    split at h
    · cases h
    · exact gb_C hV hg i c j h
  | succ q ih =>
    intro i c j h
    rw [pN] at h
    split at h
    · obtain ⟨e, k, h1, h2⟩ := bnd_i h
      cases h2
      obtain ⟨a1, a2⟩ := ih (i + 1) e j h1
      exact ⟨all_a a1 (all_1 (okc_o (by decide))), fun s hs => chk_c (a2 s (by omega)) ck_n⟩
    · split at h
      · obtain ⟨e, k, h1, h2⟩ := bnd_i h
        split at h2
        · cases h2
          obtain ⟨a1, a2⟩ := gb_B ih (i + 1) _ _ h1
          exact ⟨a1, fun s hs => a2 s (by omega)⟩
        · cases h2
      · obtain ⟨a1, a2⟩ := gb_C hV hg i c j h
        exact ⟨a1, fun s hs => a2 s (by omega)⟩
end
/-- a line behind its first word, and all lines: m more may come -/
def pLn (K V : Nat → Nat) (g i : Nat) : Sum (Nat × Nat) ((List Int32 × List Int32) × Nat) := match pS K V g i with
  | .inl x => .inl x
  | .inr (e, j) => if K j = 17 then (match pB K (pN K V g 8) (j + 1) with
      | .inl x => .inl x
      | .inr (c, k) => if K k = 59 then .inr ((e, c), k + 1) else .inl (1, k))
    else if K j = 59 then .inr ((e, []), j + 1) else .inl (1, j)
def pLw (K V : Nat → Nat) (g : Nat) : Nat → Nat → Sum (Nat × Nat) LW
  | 0, i => if K i = 32 then .inr [] else if K i = g then .inl (3, i) else .inl (1, i)
  | m + 1, i => if K i = 32 then .inr [] else if K i = g then (match pLn K V g (i + 1) with
      | .inl x => .inl x
      | .inr (l, j) => match pLw K V g m j with
        | .inl x => .inl x
        | .inr r => .inr (l :: r))
    else .inl (1, i)
/-- what a line is -/
theorem pLn_k {K V : Nat → Nat} {g N i : Nat} (hE : endK K N) (hV : ∀ t, K t = 30 → V t ≤ 9999) (hg : g = 15 ∨ g = 16) (hi : i ≤ N) {x : List Int32 × List Int32} {j : Nat} (h : pLn K V g i = .inr (x, j)) :
    ((∃ t, t ≠ 1 ∧ chk 30 x.1 [] = some [t]) ∧ (x.2 = [] ∨ chk 30 x.2 [] = some [1])) ∧ (∀ c, c ∈ x.1 ∨ c ∈ x.2 → okc g c) ∧ j ≤ N ∧ (flt [x]).length + i ≤ j ∧ x.1.length + x.2.length + i ≤ j := by
  unfold pLn at h
  cases hu : pS K V g i with
  | inl y => rw [hu] at h; cases h
  | inr y =>
    obtain ⟨e, k⟩ := y
    rw [hu] at h
    obtain ⟨o1, o2⟩ := pS_ok hE hi e k hu
    obtain ⟨a1, a2⟩ := gs_S hV hg i e k hu
    have A := a2 [] (by decide)
    simp only at h
    split at h
    · rename_i k17
      have lt := kLt hE o2 (by rw [k17]; decide)
      cases hb : pB K (pN K V g 8) (k + 1) with
      | inl y => rw [hb] at h; cases h
      | inr y =>
        obtain ⟨c, l⟩ := y
        rw [hb] at h
        simp only at h
        obtain ⟨p1, p2⟩ := pB_ok hE (pN_ok hE 8) (show k + 1 ≤ N by omega) c l hb
        obtain ⟨b1, b2⟩ := gb_B (gb_N hV hg 8) (k + 1) c l hb
        have B := b2 [] (by decide)
        have cn : ¬ c = [] := fun e => by rw [e] at B; cases B
        split at h
        · rename_i k59
          have lt2 := kLt hE p2 (by rw [k59]; decide)
          cases h
          refine ⟨⟨A, Or.inr B⟩, fun z hz => hz.elim (a1 z) (b1 z), by omega, ?_, by show e.length + c.length + i ≤ l + 1; omega⟩
          show (e ++ (if c = [] then [-60] else c ++ [-18]) ++ []).length + i ≤ l + 1
          rw [if_neg cn]; simp; omega
        · cases h
    · split at h
      · rename_i k59
        have lt2 := kLt hE o2 (by rw [k59]; decide)
        cases h
        refine ⟨⟨A, Or.inl rfl⟩, fun z hz => hz.elim (a1 z) (fun q => absurd q List.not_mem_nil), by omega, ?_, by show e.length + 0 + i ≤ k + 1; omega⟩
        show (e ++ (if ([] : List Int32) = [] then [-60] else [] ++ [-18]) ++ []).length + i ≤ k + 1
        rw [if_pos rfl]; simp; omega
      · cases h
theorem flt_c {x : List Int32 × List Int32} {r : LW} : flt (x :: r) = flt [x] ++ flt r := by
  obtain ⟨e, b⟩ := x
  show e ++ _ ++ flt r = (e ++ _ ++ []) ++ flt r
  rw [List.append_nil]
theorem pLw_k {K V : Nat → Nat} {g N : Nat} (hE : endK K N) (hV : ∀ t, K t = 30 → V t ≤ 9999) (hg : g = 15 ∨ g = 16) : ∀ m i r, i ≤ N → pLw K V g m i = .inr r → r.length ≤ m ∧ (flt r).length + i ≤ N ∧ (tot r).length + i ≤ N ∧ (∀ x ∈ r, (∃ t, t ≠ 1 ∧ chk 30 x.1 [] = some [t]) ∧ (x.2 = [] ∨ chk 30 x.2 [] = some [1])) ∧ okFa (g - 15) r := by
  have nil : ∀ m i, i ≤ N → ([] : LW).length ≤ m ∧ (flt []).length + i ≤ N ∧ (tot []).length + i ≤ N ∧ (∀ x ∈ ([] : LW), (∃ t, t ≠ 1 ∧ chk 30 x.1 [] = some [t]) ∧ (x.2 = [] ∨ chk 30 x.2 [] = some [1])) ∧ okFa (g - 15) [] := fun m i hi => ⟨Nat.zero_le _, by show 0 + i ≤ N; omega, by show 0 + i ≤ N; omega, fun x h => absurd h List.not_mem_nil, fun x h => absurd h List.not_mem_nil⟩
  intro m
  induction m with
  | zero =>
    intro i r hi h
    rw [pLw] at h
    split at h
    · cases h; exact nil 0 i hi
    · split at h <;> cases h
  | succ m ih =>
    intro i r hi h
    rw [pLw] at h
    split at h
    · cases h; exact nil _ i hi
    · rename_i n32
      split at h
      · have lt := kLt hE hi n32
        cases hu : pLn K V g (i + 1) with
        | inl y => rw [hu] at h; cases h
        | inr y =>
          obtain ⟨x, j⟩ := y
          rw [hu] at h
          simp only at h
          obtain ⟨q1, q2, q3, q4, q5⟩ := pLn_k hE hV hg (show i + 1 ≤ N by omega) hu
          cases hw : pLw K V g m j with
          | inl y => rw [hw] at h; cases h
          | inr r' =>
            rw [hw] at h
            cases h
            obtain ⟨w1, w2, w3, w4, w5⟩ := ih j r' q3 hw
            refine ⟨by rw [List.length_cons]; omega, by rw [flt_c, List.length_append]; omega, ?_, ?_, ?_⟩
            · obtain ⟨e, b⟩ := x
              show (e ++ b ++ tot r').length + i ≤ N
              rw [List.length_append, List.length_append]
              simp only at q5; omega
            · intro y hy
              rcases List.mem_cons.mp hy with e | e
              · rw [e]; exact q1
              · exact w4 y e
            · intro y hy
              rcases List.mem_cons.mp hy with e | e
              · rw [e]; exact q2
              · exact w5 y e
      · cases h
def SLW : List (Nat × Nat) := (54, 0) :: SLE
def RL (f : Nat → Nat) (C : List Int32) (line : Nat) (σ : Sig) (r : Sum (Nat × Nat) LW) (v : Int32) (σ' : Sig) : Prop := match r with
  | .inl (k, x) => v = 0 ∧ σ' 53 1 = nI k ∧ σ' 53 2 = nI (f x)
  | .inr r => v = 1 ∧ CO (C ++ flt r) σ' ∧ σ' 54 0 = nI (line + r.length) ∧ σ' 53 1 = σ 53 1 ∧ σ' 53 2 = σ 53 2
theorem c_lawL (d : Nat) {K V f : Nat → Nat} {N g : Nat} (hV : ∀ t, K t = 30 → V t ≤ 9999) (hg : g = 15 ∨ g = 16) : ∀ m line i C σ a3, line + m = 16 → TKb K V f N σ → σ 53 11 = nI i → σ 53 12 = 0 → i ≤ N → CO C σ → C.length ≤ i → σ 54 0 = nI line →
    ∃ σ' v, Ex (d + 21 + 1) 48 9 [.ref 53, .int (nI g), .int (nI line), a3] [] G0 σ = some (some (.int v), G0, σ') ∧ RL f C line σ (pLw K V g m i) v σ' ∧ Fr SCD SLW σ σ' := by
  have toW : ∀ s s', Fr SCD SLE s s' → Fr SCD SLW s s' := fun s s' h => Fr_m h (fun _ x => x) (by decide)
  have toE : ∀ s s', Fr SCD SLS s s' → Fr SCD SLE s s' := fun s s' h => Fr_m h (fun _ x => x) (by decide)
  intro m
  induction m with
  | zero =>
    intro line i C σ a3 hm hT e11 e12 hi hC hl h54
    have hN := hT.1
    obtain ⟨k100, e63, e65⟩ := hT.2.2.2.1 i hi
    have ti : inb (nI i) 401 = true := inb_n (by omega) (by omega)
    have tc' : (nI i).toNatClampNeg = i := nI_c (by omega)
    have q16 : ((16 : Int32) < nI line) = False := by
      have : ((16 : Int32) < nI line) = (16 < line) := nJ_lt (a := 16) (by omega) (by omega)
      rw [this]; exact eq_false (by omega)
    have e16 : (nI line = 16) = True := by
      have : (nI line = 16) = (line = 16) := nJ_e (b := 16) (by omega) (by omega)
      rw [this]; exact eq_true (by omega)
    have q32 : (nI (K i) = 32) = (K i = 32) := nJ_e (b := 32) (by omega) (by omega)
    have qg : (nI (K i) = nI g) = (K i = g) := nJ_e (by omega) (by omega)
    rw [b48_9, pLw]
    simp only [q16, e11, ti, tc', e63, q32, qg, e16, i10, i01, eq_self, if_true, if_false, true_and, false_and, and_true, and_false, not_true, not_false_iff, true_or, or_true, false_or, or_false, ne_eq, not_true_eq_false, not_false_eq_true]
    by_cases c32 : K i = 32
    · simp only [eq_true c32, i10, i01, eq_self, if_true, if_false, true_and, false_and, and_true, and_false, not_true, not_false_iff, true_or, or_true, false_or, or_false, ne_eq, not_true_eq_false, not_false_eq_true]
      refine ⟨σ, 1, rfl, ⟨rfl, ?_, h54, rfl, rfl⟩, Fr_r⟩
      show CO (C ++ []) σ
      rw [List.append_nil]; exact hC
    · by_cases cg : K i = g
      · obtain ⟨s, e1, e2, e3, fr⟩ := c_fail (d + 21) 3 hT e11 hi
        simp only [eq_false c32, eq_true cg, i10, i01, eq_self, if_true, if_false, true_and, false_and, and_true, and_false, not_true, not_false_iff, true_or, or_true, false_or, or_false, ne_eq, not_true_eq_false, not_false_eq_true, e1, Option.bind_some, Option.toList_some, Option.toList_none, List.cons_append, List.nil_append, i01a, i01b, if_true, if_false, b48_59]
        exact ⟨s, 0, rfl, ⟨rfl, e2, e3⟩, Fr_m fr (by decide) (by decide)⟩
      · obtain ⟨s, e1, e2, e3, fr⟩ := c_fail (d + 21) 1 hT e11 hi
        simp only [eq_false c32, eq_false cg, i10, i01, eq_self, if_true, if_false, true_and, false_and, and_true, and_false, not_true, not_false_iff, true_or, or_true, false_or, or_false, ne_eq, not_true_eq_false, not_false_eq_true, e1, Option.bind_some, Option.toList_some, Option.toList_none, List.cons_append, List.nil_append, i01a, i01b, if_true, if_false, b48_47]
        exact ⟨s, 0, rfl, ⟨rfl, e2, e3⟩, Fr_m fr (by decide) (by decide)⟩
  | succ m ih =>
    intro line i C σ a3 hm hT e11 e12 hi hC hl h54
    have hN := hT.1
    obtain ⟨k100, e63, e65⟩ := hT.2.2.2.1 i hi
    have ti : inb (nI i) 401 = true := inb_n (by omega) (by omega)
    have tc' : (nI i).toNatClampNeg = i := nI_c (by omega)
    have q16 : ((16 : Int32) < nI line) = False := by
      have : ((16 : Int32) < nI line) = (16 < line) := nJ_lt (a := 16) (by omega) (by omega)
      rw [this]; exact eq_false (by omega)
    have e16 : (nI line = 16) = False := by
      have : (nI line = 16) = (line = 16) := nJ_e (b := 16) (by omega) (by omega)
      rw [this]; exact eq_false (by omega)
    have q32 : (nI (K i) = 32) = (K i = 32) := nJ_e (b := 32) (by omega) (by omega)
    have qg : (nI (K i) = nI g) = (K i = g) := nJ_e (by omega) (by omega)
    rw [b48_9, pLw]
    simp only [q16, e11, ti, tc', e63, q32, qg, e16, i10, i01, eq_self, if_true, if_false, true_and, false_and, and_true, and_false, not_true, not_false_iff, true_or, or_true, false_or, or_false, ne_eq, not_true_eq_false, not_false_eq_true]
    by_cases c32 : K i = 32
    · simp only [eq_true c32, i10, i01, eq_self, if_true, if_false, true_and, false_and, and_true, and_false, not_true, not_false_iff, true_or, or_true, false_or, or_false, ne_eq, not_true_eq_false, not_false_eq_true]
      refine ⟨σ, 1, rfl, ⟨rfl, ?_, h54, rfl, rfl⟩, Fr_r⟩
      show CO (C ++ []) σ
      rw [List.append_nil]; exact hC
    · by_cases cg : K i = g
      · have lt := kLt hT.2.1 hi c32
        simp only [eq_false c32, eq_true cg, i10, i01, eq_self, if_true, if_false, true_and, false_and, and_true, and_false, not_true, not_false_iff, true_or, or_true, false_or, or_false, ne_eq, not_true_eq_false, not_false_eq_true, nI_s]
        have F1 : Fr SCD SLE σ (pt σ 53 11 (nI (i + 1))) := Fr_p Fr_r (Or.inr (by decide))
        have T1 := TKb_fr hT F1
        have C1 : CO C (pt σ 53 11 (nI (i + 1))) := CO_k hC (by rw [pt_q (by decide)]) (by rw [pt_q (by decide)])
        have n1 : pt σ 53 11 (nI (i + 1)) 53 1 = σ 53 1 := pt_k (by decide)
        have n2 : pt σ 53 11 (nI (i + 1)) 53 2 = σ 53 2 := pt_k (by decide)
        have n12 : pt σ 53 11 (nI (i + 1)) 53 12 = 0 := by rw [pt_k (by decide)]; exact e12
        have n54 : pt σ 53 11 (nI (i + 1)) 54 0 = nI line := by rw [pt_q (by decide)]; exact h54
        have n11 : pt σ 53 11 (nI (i + 1)) 53 11 = nI (i + 1) := pt_e
        generalize pt σ 53 11 (nI (i + 1)) = s0 at F1 T1 C1 n1 n2 n12 n54 n11
        obtain ⟨s1, v, e1, r1, f1⟩ := c_sum (d + 19) T1 hg n11 (by omega) C1 (show C.length ≤ i + 1 by omega)
        have e1' : Ex (d + 21) 52 0 [.ref 53, .int (nI g), .null, .null, .null, .null] [] G0 s0 = some (some (.int v), G0, s1) := e1
        have f1' := toE _ _ f1
        have T2 := TKb_fr T1 f1'
        rw [b48_70, e1']
        simp only [Option.bind_some, Option.toList_some, Option.toList_none, List.cons_append, List.nil_append, i01a, i01b, if_true, if_false, b48_75]
        -- behind a whole line
        have nxt : ∀ (x : List Int32 × List Int32) (j : Nat) (s : Sig) (a3 : Int32), pLn K V g (i + 1) = .inr (x, j) → Fr SCD SLE s0 s → CO (C ++ flt [x]) s → s 53 11 = nI j → s 53 12 = 0 → s 53 1 = s0 53 1 → s 53 2 = s0 53 2 → ∃ σ' v, Ex (d + 21 + 1) 48 138 [.ref 53, .int (nI g), .int (nI line), .int a3] [.int 1] G0 s = some (some (.int v), G0, σ') ∧ RL f C line σ (match pLn K V g (i + 1) with
            | .inl x => .inl x
            | .inr (l, j) => match pLw K V g m j with
              | .inl x => .inl x
              | .inr r => .inr (l :: r)) v σ' ∧ Fr SCD SLW σ σ' := by
          intro x j s a3 hx fs cs s11 s12 h1 h2
          obtain ⟨q1, q2, q3, q4, q5⟩ := pLn_k hT.2.1 hV hg (show i + 1 ≤ N by omega) hx
          have Ts := TKb_fr T1 fs
          have s54 : s 54 0 = nI line := by rw [fs 54 0 (by decide) (by decide)]; exact n54
          have P1 : TKb K V f N (pt s 54 0 (nI (line + 1))) := by
            obtain ⟨a, b, c, d', e⟩ := Ts
            refine ⟨a, b, c, ?_, ?_⟩
            · rw [pt_q (by decide), pt_q (by decide)]; exact d'
            · rw [pt_q (by decide)]; exact e
          obtain ⟨s', w, e', r', f'⟩ := ih (line + 1) j (C ++ flt [x]) (pt s 54 0 (nI (line + 1))) (.int a3) (by omega) P1 (by rw [pt_q (by decide)]; exact s11) (by rw [pt_q (by decide)]; exact s12) q3 (CO_k cs (pt_k (by decide)) (by rw [pt_q (by decide)])) (by rw [List.length_append]; omega) pt_e
          rw [b48_138]
          simp only [i10, i01, eq_self, if_true, if_false, true_and, false_and, and_true, and_false, not_true, not_false_iff, true_or, or_true, false_or, or_false, ne_eq, not_true_eq_false, not_false_eq_true, s54, nI_s, e']
          have FF : Fr SCD SLW σ s' := Fr_t (toW _ _ F1) (Fr_t (toW _ _ fs) (Fr_t (Fr_p Fr_r (Or.inr (by decide))) f'))
          refine ⟨s', w, rfl, ?_, FF⟩
          rw [hx]
          show RL f C line σ (match pLw K V g m j with
            | .inl x => .inl x
            | .inr r => .inr (x :: r)) w s'
          cases hw : pLw K V g m j with
          | inl y => rw [hw] at r'; exact r'
          | inr r =>
            rw [hw] at r'
            obtain ⟨a1, a2, a4, a5, a6⟩ := r'
            refine ⟨a1, ?_, ?_, ?_, ?_⟩
            · rw [flt_c, ← List.append_assoc]; exact a2
            · rw [a4, List.length_cons]; congr 1; omega
            · rw [a5, pt_q (by decide), h1, n1]
            · rw [a6, pt_q (by decide), h2, n2]
        have pok := pS_ok (V := V) (g := g) hT.2.1 (show i + 1 ≤ N by omega)
        cases hu : pS K V g (i + 1) with
        | inl y =>
          rw [hu] at r1
          obtain ⟨y1, y2⟩ := y
          have v0 : v = 0 := r1.1
          have hx : pLn K V g (i + 1) = .inl (y1, y2) := by unfold pLn; rw [hu]
          rw [hx]
          simp only [v0, i10, i01, eq_self, if_true, if_false, true_and, false_and, and_true, and_false, not_true, not_false_iff, true_or, or_true, false_or, or_false, ne_eq, not_true_eq_false, not_false_eq_true]
          exact ⟨s1, 0, rfl, ⟨rfl, r1.2.1, r1.2.2.1⟩, Fr_t (toW _ _ F1) (toW _ _ f1')⟩
        | inr y =>
          obtain ⟨e, j⟩ := y
          rw [hu] at r1
          obtain ⟨pj, pN'⟩ := pok e j hu
          obtain ⟨v1', g11, gC, g1, g2⟩ := r1
          have g12 : s1 53 12 = 0 := by rw [f1 53 12 (by decide) (by decide)]; exact n12
          obtain ⟨k100', e63', _⟩ := T2.2.2.2.1 j pN'
          have tj : inb (nI j) 401 = true := inb_n (by omega) (by omega)
          have tcj : (nI j).toNatClampNeg = j := nI_c (by omega)
          have q17 : (nI (K j) = 17) = (K j = 17) := nJ_e (b := 17) (by omega) (by omega)
          have lC : (C ++ e).length ≤ 399 := by rw [List.length_append]; omega
          simp only [v1', i10, i01, eq_self, if_true, if_false, true_and, false_and, and_true, and_false, not_true, not_false_iff, true_or, or_true, false_or, or_false, ne_eq, not_true_eq_false, not_false_eq_true, b57_0, g11, tj, tcj, e63', q17]
          by_cases c17 : K j = 17
          · have lt2 := kLt hT.2.1 pN' (by rw [c17]; decide)
            simp only [eq_true c17, i10, i01, eq_self, if_true, if_false, true_and, false_and, and_true, and_false, not_true, not_false_iff, true_or, or_true, false_or, or_false, ne_eq, not_true_eq_false, not_false_eq_true, Option.bind_some, Option.toList_some, Option.toList_none, List.cons_append, List.nil_append, i01a, i01b, if_true, if_false, b48_84, nI_s]
            have F3 : Fr SCD SLE s1 (pt s1 53 11 (nI (j + 1))) := Fr_p Fr_r (Or.inr (by decide))
            have T3 := TKb_fr T2 F3
            have C3 : CO (C ++ e) (pt s1 53 11 (nI (j + 1))) := CO_k gC (by rw [pt_q (by decide)]) (by rw [pt_q (by decide)])
            obtain ⟨s4, v4, e4, r4, h412, f4⟩ := c_con (d + 20) (c_single (K := K) (V := V) (f := f) (N := N) hg 8 d (Nat.le_refl 8)) T3 pt_e (by rw [pt_k (by decide)]; exact g12) (show j + 1 ≤ N by omega) C3 (by rw [List.length_append]; omega)
            have T4 := TKb_fr T3 f4
            rw [e4]
            simp only [Option.bind_some, Option.toList_some, Option.toList_none, List.cons_append, List.nil_append, i01a, i01b, if_true, if_false, b48_92]
            cases hb : pB K (pN K V g 8) (j + 1) with
            | inl y =>
              rw [hb] at r4
              obtain ⟨y1, y2⟩ := y
              have v0 : v4 = 0 := r4.1
              have hx : pLn K V g (i + 1) = .inl (y1, y2) := by unfold pLn; rw [hu]; simp only [eq_true c17, if_true]; rw [hb]
              rw [hx]
              simp only [v0, i10, i01, eq_self, if_true, if_false, true_and, false_and, and_true, and_false, not_true, not_false_iff, true_or, or_true, false_or, or_false, ne_eq, not_true_eq_false, not_false_eq_true]
              exact ⟨s4, 0, rfl, ⟨rfl, r4.2.1, r4.2.2.1⟩, Fr_t (toW _ _ F1) (Fr_t (toW _ _ f1') (Fr_t (toW _ _ F3) (toW _ _ f4)))⟩
            | inr y =>
              obtain ⟨c, k⟩ := y
              rw [hb] at r4
              obtain ⟨p1, p2⟩ := pB_ok hT.2.1 (pN_ok hT.2.1 8) (show j + 1 ≤ N by omega) c k hb
              obtain ⟨v1'', h11, hC4, h1, h2⟩ := r4
              obtain ⟨b1, b2⟩ := gb_B (gb_N hV hg 8) (j + 1) c k hb
              have cn : ¬ c = [] := fun e => by have B := b2 [] (by decide); rw [e] at B; cases B
              obtain ⟨s5, e5, hC5, f5⟩ := c_lput (d + 21) (-18) hC4 (by rw [List.length_append, List.length_append]; omega)
              have f5' : Fr SCD SLE s4 s5 := Fr_m f5 (by decide) (by decide)
              have T5 := TKb_fr T4 f5'
              simp only [v1'', i10, i01, eq_self, if_true, if_false, true_and, false_and, and_true, and_false, not_true, not_false_iff, true_or, or_true, false_or, or_false, ne_eq, not_true_eq_false, not_false_eq_true, e5, Option.bind_some, Option.toList_some, Option.toList_none, List.cons_append, List.nil_append, i01a, i01b, if_true, if_false, b48_104]
              obtain ⟨s6, w, e6, r6, f6⟩ := c_need (d + 20) (k := 59) (by decide) (by decide) T5 (by rw [f5 53 11 (by decide) (by decide)]; exact h11) p2 hC5 (by rw [List.length_append, List.length_append, List.length_append]; simp; omega)
              have e6' : Ex (d + 21) 58 0 [.ref 53, .int 59] [] G0 s5 = some (some (.int w), G0, s6) := e6
              have FA : Fr SCD SLE s0 s6 := Fr_t f1' (Fr_t F3 (Fr_t f4 (Fr_t f5' (Fr_m f6 (by decide) (by decide)))))
              have a12 : s6 53 12 = 0 := by rw [f6 53 12 (by decide) (by decide), f5 53 12 (by decide) (by decide), h412, pt_k (by decide)]; exact g12
              rw [e6']
              simp only [Option.bind_some, Option.toList_some, Option.toList_none, List.cons_append, List.nil_append, i01a, i01b, if_true, if_false]
              by_cases c59 : K k = 59
              · rw [if_pos c59] at r6
                obtain ⟨w1, h11', hC6, h1', h2'⟩ := r6
                rw [List.append_nil] at hC6
                have hx : pLn K V g (i + 1) = .inr ((e, c), k + 1) := by unfold pLn; rw [hu]; simp only [eq_true c17, if_true]; rw [hb]; simp only [eq_true c59, if_true]
                rw [w1]
                refine nxt (e, c) (k + 1) s6 1 hx FA ?_ h11' a12 ?_ ?_
                · have : flt [(e, c)] = e ++ c ++ [-18] := by
                    show e ++ (if c = [] then [-60] else c ++ [-18]) ++ [] = _
                    rw [if_neg cn, List.append_nil, List.append_assoc]
                  rw [this, ← List.append_assoc, ← List.append_assoc]; exact hC6
                · rw [h1', f5 53 1 (by decide) (by decide), h1, pt_k (by decide), g1]
                · rw [h2', f5 53 2 (by decide) (by decide), h2, pt_k (by decide), g2]
              · rw [if_neg c59] at r6
                have hx : pLn K V g (i + 1) = .inl (1, k) := by unfold pLn; rw [hu]; simp only [eq_true c17, if_true]; rw [hb]; simp only [eq_false c59, if_false]
                have w0 : w = 0 := r6.1
                rw [hx, w0, b48_138]
                simp only [i10, i01, eq_self, if_true, if_false, true_and, false_and, and_true, and_false, not_true, not_false_iff, true_or, or_true, false_or, or_false, ne_eq, not_true_eq_false, not_false_eq_true]
                exact ⟨s6, 0, rfl, ⟨rfl, r6.2.1, r6.2.2.1⟩, Fr_t (toW _ _ F1) (toW _ _ FA)⟩
          · obtain ⟨s5, e5, hC5, f5⟩ := c_lput (d + 21) (-60) gC (by omega)
            have f5' : Fr SCD SLE s1 s5 := Fr_m f5 (by decide) (by decide)
            have T5 := TKb_fr T2 f5'
            simp only [eq_false c17, i10, i01, eq_self, if_true, if_false, true_and, false_and, and_true, and_false, not_true, not_false_iff, true_or, or_true, false_or, or_false, ne_eq, not_true_eq_false, not_false_eq_true, Option.bind_some, Option.toList_some, Option.toList_none, List.cons_append, List.nil_append, i01a, i01b, if_true, if_false, b48_84, e5, b48_119]
            obtain ⟨s6, w, e6, r6, f6⟩ := c_need (d + 20) (k := 59) (by decide) (by decide) T5 (by rw [f5 53 11 (by decide) (by decide)]; exact g11) pN' hC5 (by rw [List.length_append]; simp; omega)
            have e6' : Ex (d + 21) 58 0 [.ref 53, .int 59] [] G0 s5 = some (some (.int w), G0, s6) := e6
            have FA : Fr SCD SLE s0 s6 := Fr_t f1' (Fr_t f5' (Fr_m f6 (by decide) (by decide)))
            have a12 : s6 53 12 = 0 := by rw [f6 53 12 (by decide) (by decide), f5 53 12 (by decide) (by decide)]; exact g12
            rw [e6']
            simp only [Option.bind_some, Option.toList_some, Option.toList_none, List.cons_append, List.nil_append, i01a, i01b, if_true, if_false]
            by_cases c59 : K j = 59
            · rw [if_pos c59] at r6
              obtain ⟨w1, h11', hC6, h1', h2'⟩ := r6
              rw [List.append_nil] at hC6
              have hx : pLn K V g (i + 1) = .inr ((e, []), j + 1) := by unfold pLn; rw [hu]; simp only [eq_false c17, if_false, eq_true c59, if_true]
              rw [w1]
              refine nxt (e, []) (j + 1) s6 1 hx FA ?_ h11' a12 ?_ ?_
              · have : flt [(e, [])] = e ++ [-60] := by
                  show e ++ (if ([] : List Int32) = [] then [-60] else [] ++ [-18]) ++ [] = _
                  rw [if_pos rfl, List.append_nil]
                rw [this, ← List.append_assoc]; exact hC6
              · rw [h1', f5 53 1 (by decide) (by decide), g1]
              · rw [h2', f5 53 2 (by decide) (by decide), g2]
            · rw [if_neg c59] at r6
              have hx : pLn K V g (i + 1) = .inl (1, j) := by unfold pLn; rw [hu]; simp only [eq_false c17, eq_false c59, if_false]
              have w0 : w = 0 := r6.1
              rw [hx, w0, b48_138]
              simp only [i10, i01, eq_self, if_true, if_false, true_and, false_and, and_true, and_false, not_true, not_false_iff, true_or, or_true, false_or, or_false, ne_eq, not_true_eq_false, not_false_eq_true]
              exact ⟨s6, 0, rfl, ⟨rfl, r6.2.1, r6.2.2.1⟩, Fr_t (toW _ _ F1) (toW _ _ FA)⟩
      · obtain ⟨s, e1, e2, e3, fr⟩ := c_fail (d + 21) 1 hT e11 hi
        simp only [eq_false c32, eq_false cg, i10, i01, eq_self, if_true, if_false, true_and, false_and, and_true, and_false, not_true, not_false_iff, true_or, or_true, false_or, or_false, ne_eq, not_true_eq_false, not_false_eq_true, e1, Option.bind_some, Option.toList_some, Option.toList_none, List.cons_append, List.nil_append, i01a, i01b, if_true, if_false, b48_47]
        exact ⟨s, 0, rfl, ⟨rfl, e2, e3⟩, Fr_m fr (by decide) (by decide)⟩
/-- the class reads a LAW -/
theorem c_readLaw (d : Nat) {K V f : Nat → Nat} {N g : Nat} {σ : Sig} (hV : ∀ t, K t = 30 → V t ≤ 9999) (hg : g = 15 ∨ g = 16) (hT : TKb K V f N σ) (e11 : σ 53 11 = 0) (e12 : σ 53 12 = 0) :
    ∃ σ' v, Ex (d + 22) 48 0 [.ref 53, .int (nI g), .null, .null] [] G0 σ = some (some (.int v), G0, σ') ∧ RL f [] 0 σ (pLw K V g 16 0) v σ' ∧ Fr SCD SLW σ σ' := by
  have T1 : TKb K V f N (pt (pt σ 54 0 0) 54 1 0) := by
    obtain ⟨a, b, c, d', e⟩ := hT
    refine ⟨a, b, c, ?_, ?_⟩
    · rw [pt_q (by decide), pt_q (by decide), pt_q (by decide), pt_q (by decide)]; exact d'
    · rw [pt_q (by decide), pt_q (by decide)]; exact e
  obtain ⟨s, v, e1, r1, f1⟩ := c_lawL d hV hg 16 0 0 [] (pt (pt σ 54 0 0) 54 1 0) .null (by omega) T1 (by rw [pt_q (by decide), pt_q (by decide)]; exact e11) (by rw [pt_q (by decide), pt_q (by decide)]; exact e12) (Nat.zero_le _) ⟨pt_e, fun i hi => absurd hi (Nat.not_lt_zero i)⟩ (Nat.le_refl _) (by rw [pt_k (by decide), pt_e]; rfl)
  have e1' : Ex (d + 22) 48 9 [.ref 53, .int (nI g), .int 0, .null] [] G0 (pt (pt σ 54 0 0) 54 1 0) = some (some (.int v), G0, s) := e1
  rw [b48_0]
  simp only [b22_0, Option.bind_some, Option.toList_some, Option.toList_none, List.cons_append, List.nil_append, i01a, i01b, if_true, if_false, b48_7, e1']
  refine ⟨s, v, rfl, ?_, Fr_t (Fr_p (Fr_p Fr_r (Or.inr (by decide))) (Or.inr (by decide))) f1⟩
  cases hw : pLw K V g 16 0 with
  | inl y => rw [hw] at r1; exact r1
  | inr r =>
    rw [hw] at r1
    obtain ⟨a1, a2, a4, a5, a6⟩ := r1
    exact ⟨a1, a2, a4, by rw [a5, pt_q (by decide), pt_q (by decide)], by rw [a6, pt_q (by decide), pt_q (by decide)]⟩
