/-! what the pure machine's state says of the real one's -/
def tys3 (cs : ClassId × ClassId × ClassId) : List (ClassId × FieldType) := [(cs.1, .int), (cs.2.1, .byte), (cs.2.2, .object "SixCarry$Moment")]
def cdc (M : Nat) : Cond := .code (mN M) (mB M) (mL M) (mR M)
/-- the words of a method itself -/
def slf (M : Nat) : List Cond := [.initialized (own M), .instanceMethod (mN M), .selects (own M) (mN M) (mN M), .static (mN M)]
def laysAll : List Cond := cls.flatMap fun q => u_ws q.1 q.2.1 q.2.2
abbrev AK : Type := (Nat → Nat) × Option Nat
def cv (base : Nat) (ak : AK) : Value → Value
  | .ref k => .ref (base + k)
  | .retAddr j => if j < 20 then .ref (ak.1 j) else va_rf ak.2
  | v => v
def fV (base : Nat) (ci : Nat) (rs : List (Option Nat)) (f : Nat → Int32) (k : Nat) : Value := bif isRefT (tyA ci k) then va_rf ((rs.getD k none).map fun r => base + r) else .int (f k)
def eF (cs : ClassId × ClassId × ClassId) (base : Nat) (sh : Sh) (f : Nat → Int32) : va_E := match sh with
  | (0, ci, rs) => .inr (ci, (List.range (clsA ci).2.2).map (fV base ci rs f))
  | (1, n, _) => .inl (cs.1, n, .inl f)
  | (2, n, _) => .inl (cs.2.1, n, .inl f)
  | (_, n, rs) => .inl (cs.2.2, n, .inr (.inr (.inr (.inr (fun j => (rs.getD j none).map fun r => base + r)))))
def wF (cs : ClassId × ClassId × ClassId) (base : Nat) (G : Gam) (σ : Sig) : va_W := (List.range G.length).map fun k => (base + k, eF cs base (shp G k) (σ k))
theorem wF_len {cs : ClassId × ClassId × ClassId} {base : Nat} {G : Gam} {σ : Sig} : (wF cs base G σ).length = G.length := by simp [wF]
theorem wF_at {cs : ClassId × ClassId × ClassId} {base : Nat} {G : Gam} {σ : Sig} {q : Nat} (h : q < G.length) : (wF cs base G σ)[q]? = some (base + q, eF cs base (shp G q) (σ q)) := by
  simp [wF, h]
theorem shp_lt {G : Gam} {q : Nat} (h : (shp G q).1 ≠ 9) : q < G.length := by
  by_cases hq : q < G.length
  · exact hq
  · exfalso
    apply h
    simp [shp, List.getD, List.getElem?_eq_none (Nat.not_lt.mp hq)]
theorem isO_eq {G : Gam} {q ci : Nat} (h : isO G q ci = true) : q < G.length ∧ shp G q = (0, ci, (shp G q).2.2) := by
  unfold isO at h
  simp only [Bool.and_eq_true, beq_iff_eq] at h
  refine ⟨shp_lt (by omega), ?_⟩
  obtain ⟨h1, h2⟩ := h
  generalize shp G q = x at h1 h2 ⊢
  obtain ⟨a, b, c⟩ := x
  simp only at h1 h2
  subst h1; subst h2
  rfl
theorem kd_eq {G : Gam} {q k : Nat} (hk : k ≠ 9) (h : ((shp G q).1 == k) = true) : q < G.length ∧ shp G q = (k, (shp G q).2.1, (shp G q).2.2) := by
  have h1 : (shp G q).1 = k := by simpa using h
  exact ⟨shp_lt (by omega), by rw [← h1]⟩
/-- one cell's ints change -/
theorem wF_set {cs : ClassId × ClassId × ClassId} {base : Nat} {G : Gam} {σ : Sig} {q : Nat} (h : q < G.length) (f : Nat → Int32) : (wF cs base G σ).set q (base + q, eF cs base (shp G q) f) = wF cs base G (sup σ q f) := by
  apply List.ext_getElem?
  intro k
  by_cases hk : k < G.length
  · rw [wF_at hk]
    by_cases hq : k = q
    · subst hq
      rw [List.getElem?_set_self (by rw [wF_len]; exact hk)]
      simp [sup]
    · rw [List.getElem?_set_ne (Ne.symm hq), wF_at hk]
      simp [sup, hq]
  · rw [List.getElem?_eq_none (by rw [List.length_set, wF_len]; omega), List.getElem?_eq_none (by rw [wF_len]; omega)]
/-- one cell's shape changes -/
theorem wF_setG {cs : ClassId × ClassId × ClassId} {base : Nat} {G : Gam} {σ : Sig} {q : Nat} (h : q < G.length) (sh : Sh) : (wF cs base G σ).set q (base + q, eF cs base sh (σ q)) = wF cs base (G.set q sh) σ := by
  apply List.ext_getElem?
  intro k
  by_cases hk : k < G.length
  · rw [wF_at (by rw [List.length_set]; exact hk)]
    by_cases hq : k = q
    · subst hq
      rw [List.getElem?_set_self (by rw [wF_len]; exact hk)]
      simp [shp, List.getD, List.getElem?_set_self hk]
    · rw [List.getElem?_set_ne (Ne.symm hq), wF_at hk]
      simp [shp, List.getD, List.getElem?_set_ne (Ne.symm hq)]
  · rw [List.getElem?_eq_none (by rw [List.length_set, wF_len]; omega), List.getElem?_eq_none (by rw [wF_len, List.length_set]; omega)]
/-- a cell comes -/
theorem wF_push {cs : ClassId × ClassId × ClassId} {base : Nat} {G : Gam} {σ : Sig} (sh : Sh) (f : Nat → Int32) : wF cs base (G ++ [sh]) (sup σ G.length f) = wF cs base G σ ++ [(base + G.length, eF cs base sh f)] := by
  apply List.ext_getElem?
  intro k
  by_cases hk : k < G.length
  · rw [wF_at (by simp; omega), List.getElem?_append_left (by rw [wF_len]; exact hk), wF_at hk]
    have : k ≠ G.length := by omega
    simp [sup, this, shp, List.getD, List.getElem?_append_left hk]
  · by_cases hk2 : k = G.length
    · subst hk2
      rw [wF_at (by simp), List.getElem?_append_right (by rw [wF_len]; exact Nat.le_refl _), wF_len]
      simp [sup, shp, List.getD]
    · rw [List.getElem?_eq_none (by rw [wF_len]; simp; omega), List.getElem?_eq_none (by simp [wF_len]; omega)]
def lpF (base : Nat) (ak : AK) : Nat → List Value → List (Nat × Value)
  | _, [] => []
  | i, v :: vs => if isIR v = true then (i, cv base ak v) :: lpF base ak (i + 1) vs else lpF base ak (i + 1) vs
theorem lp_mem {base : Nat} {ak : AK} : ∀ (L : List Value) (i k : Nat) (v : Value), L[k]? = some v → isIR v = true → (i + k, cv base ak v) ∈ lpF base ak i L := by
  intro L
  induction L with
  | nil => intro i k v h; simp at h
  | cons a L ih =>
    intro i k v h hv
    cases k with
    | zero =>
      simp only [List.getElem?_cons_zero, Option.some.injEq] at h
      subst h
      rw [lpF, if_pos hv]
      exact List.mem_cons_self
    | succ k =>
      simp only [List.getElem?_cons_succ] at h
      have h1 := ih (i + 1) k v h hv
      rw [show i + (k + 1) = i + 1 + k by omega, lpF]
      split
      · exact List.mem_cons_of_mem _ h1
      · exact h1
theorem lp_inv {base : Nat} {ak : AK} : ∀ (L : List Value) (i : Nat) (x : Nat × Value), x ∈ lpF base ak i L → ∃ k v, L[k]? = some v ∧ isIR v = true ∧ x = (i + k, cv base ak v) := by
  intro L
  induction L with
  | nil => intro i x h; cases h
  | cons a L ih =>
    intro i x h
    have rec0 : x ∈ lpF base ak (i + 1) L → ∃ k v, (a :: L)[k]? = some v ∧ isIR v = true ∧ x = (i + k, cv base ak v) := by
      intro h
      obtain ⟨k, v, h1, h2, h3⟩ := ih (i + 1) x h
      exact ⟨k + 1, v, by simpa using h1, h2, by rw [h3, show i + 1 + k = i + (k + 1) by omega]⟩
    rw [lpF] at h
    split at h
    · rename_i ha
      rcases List.mem_cons.mp h with h | h
      · exact ⟨0, _, rfl, ha, h⟩
      · exact rec0 h
    · exact rec0 h
theorem cv_cat {base : Nat} {ak : AK} {v : Value} (h : isIR v = true) : (cv base ak v).category = 1 := by
  cases v with
  | retAddr j =>
    show (if j < 20 then Value.ref (ak.1 j) else va_rf ak.2).category = 1
    split
    · rfl
    · cases ak.2 <;> rfl
  | int x => rfl
  | ref x => rfl
  | _ => simp [isIR] at h
theorem lp_set {base : Nat} {ak : AK} {ls : Array Slot} {nL i : Nat} {L : List Value} {v : Value} (hv : isIR v = true)
    (h : lv_has ls nL ((i, cv base ak v) :: (lpF base ak 0 L).filter (fun q => !(q.1 == i) && !(q.1 + 1 == i && q.2.category == 2)))) : lv_has ls nL (lpF base ak 0 (L.set i v)) := by
  refine ⟨h.1, h.2.1, fun q hq => h.2.2 q ?_⟩
  obtain ⟨k, w, h1, h2, rfl⟩ := lp_inv (ak := ak) _ _ _ hq
  rw [Nat.zero_add]
  by_cases hk : k = i
  · subst hk
    have hl : k < L.length := by
      have := (List.getElem?_eq_some_iff.mp h1).1
      simpa using this
    rw [List.getElem?_set_self hl] at h1
    cases h1
    exact List.mem_cons_self
  · rw [List.getElem?_set_ne (Ne.symm hk)] at h1
    refine List.mem_cons_of_mem _ (List.mem_filter.mpr ⟨?_, ?_⟩)
    · have := lp_mem (base := base) (ak := ak) L 0 k w h1 h2
      rwa [Nat.zero_add] at this
    · simp [hk, cv_cat h2]
theorem lp_get {base : Nat} {ak : AK} {ls : Array Slot} {nL k : Nat} {L : List Value} {v : Value} (h : lv_has ls nL (lpF base ak 0 L)) (hk : L[k]? = some v) (hv : isIR v = true) : ls[k]? = some (.val (cv base ak v)) := by
  have h1 := lp_mem (base := base) (ak := ak) L 0 k _ hk hv
  rw [Nat.zero_add] at h1
  exact h.2.2 _ h1
/-- a method's start -/
theorem lp_ent {base : Nat} {ak : AK} (M : Nat) (as : List Value) (h : as.all isIR = true) (hl : as.length ≤ mL M) :
    lv_has ((lg_sl (as.map (cv base ak)) ++ List.replicate (mL M - (lg_sl (as.map (cv base ak))).length) Slot.unset).toArray) (mL M) (lpF base ak 0 (ent M as)) := by
  have hcat : ∀ (as : List Value), as.all isIR = true → lg_sl (as.map (cv base ak)) = as.map (fun v => Slot.val (cv base ak v)) := by
    intro as
    induction as with
    | nil => intro _; rfl
    | cons a as ih =>
      intro h
      simp only [List.all_cons, Bool.and_eq_true] at h
      have h1 := ih h.2
      have h2 := cv_cat (base := base) (ak := ak) h.1
      simp only [lg_sl, List.map_cons, List.flatMap_cons, h2] at h1 ⊢
      rw [if_neg (by decide)]
      rw [h1]
      rfl
  have hargs : ∀ (as : List Value) (i : Nat), as.all isIR = true → ∀ (k : Nat) (v : Value), as[k]? = some v → (i + k, cv base ak v) ∈ lv_args i (as.map (cv base ak)) := by
    intro as
    induction as with
    | nil => intro i _ k v h; simp at h
    | cons a as ih =>
      intro i h k v hk
      simp only [List.all_cons, Bool.and_eq_true] at h
      have h2 := cv_cat (base := base) (ak := ak) h.1
      simp only [List.map_cons, lv_args, h2]
      rw [if_neg (by decide)]
      cases k with
      | zero =>
        simp only [List.getElem?_cons_zero, Option.some.injEq] at hk
        subst hk
        exact List.mem_cons_self
      | succ k =>
        simp only [List.getElem?_cons_succ] at hk
        refine List.mem_cons_of_mem _ ?_
        rw [show i + (k + 1) = i + 1 + k by omega]
        exact ih (i + 1) h.2 k v hk
  have h0 := lv_entry (as.map (cv base ak)) (n := mL M) (by rw [hcat as h, List.length_map]; exact hl)
  refine ⟨h0.1, h0.2.1, fun q hq => h0.2.2 q ?_⟩
  obtain ⟨k, v, h1, h2, rfl⟩ := lp_inv (ak := ak) _ _ _ hq
  rw [ent] at h1
  by_cases hk : k < as.length
  · rw [List.getElem?_append_left hk] at h1
    exact hargs as 0 h k v h1
  · rw [List.getElem?_append_right (by omega)] at h1
    have := List.mem_of_getElem? h1
    rw [List.mem_replicate] at this
    rw [this.2] at h2
    cases h2
