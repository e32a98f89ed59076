/-! L3, the base: numbers, answers, cells -/
def bI (P : Prop) [Decidable P] : Int32 := if P then 1 else 0
theorem bI_z {P : Prop} [Decidable P] : (bI P = 0) = ¬ P := by
  unfold bI; by_cases h : P <;> simp [h]
theorem bI_o {P : Prop} [Decidable P] : (bI P = 1) = P := by
  unfold bI; by_cases h : P <;> simp [h]
theorem bI_01 {P : Prop} [Decidable P] : (bI P = 0 ∨ bI P = 1) = True := by
  unfold bI; by_cases h : P <;> simp [h]
theorem bI_em {P : Prop} : (¬ P ∨ P) = True := propext ⟨fun _ => trivial, fun _ => (Classical.em P).symm⟩
theorem bI_T {P : Prop} [Decidable P] (h : P) : bI P = 1 := by unfold bI; rw [if_pos h]
theorem bI_F {P : Prop} [Decidable P] (h : ¬ P) : bI P = 0 := by unfold bI; rw [if_neg h]
theorem i01a : ((0 : Int32) = 0 ∨ (0 : Int32) = 1) = True := by simp
theorem i01b : ((1 : Int32) = 0 ∨ (1 : Int32) = 1) = True := by simp
theorem i10 : ((1 : Int32) = 0) = False := by simp
theorem i01 : ((0 : Int32) = 1) = False := by simp
theorem pt_ap {σ : Sig} {q k q' k' : Nat} {v : Int32} : pt σ q k v q' k' = if q' = q ∧ k' = k then v else σ q' k' := by
  unfold pt sup upd
  by_cases h : q' = q
  · subst h; by_cases hk : k' = k <;> simp [hk]
  · simp [h]
theorem pt_e {σ : Sig} {q k : Nat} {v : Int32} : pt σ q k v q k = v := by rw [pt_ap, if_pos ⟨rfl, rfl⟩]
theorem pt_k {σ : Sig} {q k k' : Nat} {v : Int32} (h : k' ≠ k) : pt σ q k v q k' = σ q k' := by rw [pt_ap, if_neg (fun e => h e.2)]
theorem pt_q {σ : Sig} {q k q' : Nat} {v : Int32} (h : q' ≠ q) : pt σ q k v q' = σ q' := by
  funext k'; rw [pt_ap, if_neg (fun e => h e.1)]
theorem pt_pt {σ : Sig} {q k : Nat} {v w : Int32} : pt (pt σ q k v) q k w = pt σ q k w := by
  funext a b; simp only [pt_ap]; split <;> simp_all
theorem nI_i {k : Nat} (h : k < 2 ^ 31) : (nI k).toInt = k := Int32.toInt_ofNat_of_lt h
theorem nI_c {k : Nat} (h : k < 2 ^ 31) : (nI k).toNatClampNeg = k := Int32.toNatClampNeg_ofNat_of_lt h
theorem nI_s {k : Nat} : nI k + 1 = nI (k + 1) := (Int32.ofNat_add k 1).symm
theorem nJ_lt {a b : Nat} (ha : a < 2 ^ 31) (hb : b < 2 ^ 31) : (nI a < nI b) = (a < b) := by
  rw [Int32.lt_iff_toInt_lt, nI_i ha, nI_i hb]; exact propext Int.ofNat_lt
theorem nJ_le {a b : Nat} (ha : a < 2 ^ 31) (hb : b < 2 ^ 31) : (nI a ≤ nI b) = (a ≤ b) := by
  rw [Int32.le_iff_toInt_le, nI_i ha, nI_i hb]; exact propext Int.ofNat_le
theorem nJ_e {a b : Nat} (ha : a < 2 ^ 31) (hb : b < 2 ^ 31) : (nI a = nI b) = (a = b) := by
  refine propext ⟨fun h => ?_, fun h => by rw [h]⟩
  have := congrArg Int32.toInt h
  rw [nI_i ha, nI_i hb] at this
  omega
theorem inb_n {k n : Nat} (h : k < n) (hn : k < 2 ^ 31) : inb (nI k) n = true := by
  unfold inb
  rw [nI_c hn]
  refine decide_eq_true (fun e => ?_)
  rcases e with e | e
  · rw [Int32.lt_iff_toInt_lt, nI_i hn] at e
    have : (0 : Int32).toInt = 0 := rfl
    omega
  · omega
theorem inb_i {i : Int32} {n : Nat} : (inb i n = true) = (0 ≤ i.toInt ∧ i.toInt < n) := by
  refine propext ?_
  unfold inb
  rw [decide_eq_true_iff, Int32.lt_iff_toInt_lt]
  have h0 : (0 : Int32).toInt = 0 := rfl
  have : i.toNatClampNeg = i.toInt.toNat := rfl
  rw [h0, this]
  omega
theorem inb_of {i : Int32} {n : Nat} (h : 0 ≤ i.toInt) (k : i.toInt < n) : inb i n = true := by
  rw [inb_i]; exact ⟨h, k⟩
/-- a number that isn't negative is a natural one -/
theorem nI_of0 {x : Int32} (h : 0 ≤ x.toInt) : x = nI x.toNatClampNeg := by
  apply Int32.toInt_inj.mp
  have h2 : x.toNatClampNeg = x.toInt.toNat := rfl
  have h3 := x.toInt_lt
  rw [nI_i (by rw [h2]; omega), h2]
  omega
/-- nothing but the cells of S and the slots of T changes -/
def Fr (S : List Nat) (T : List (Nat × Nat)) (σ σ' : Sig) : Prop := ∀ q k, q ∉ S → (q, k) ∉ T → σ' q k = σ q k
theorem Fr_r {S : List Nat} {T : List (Nat × Nat)} {σ : Sig} : Fr S T σ σ := fun _ _ _ _ => rfl
theorem Fr_t {S : List Nat} {T : List (Nat × Nat)} {σ σ' σ'' : Sig} (h : Fr S T σ σ') (k : Fr S T σ' σ'') : Fr S T σ σ'' := fun q i hq hi => (k q i hq hi).trans (h q i hq hi)
theorem Fr_m {S S' : List Nat} {T T' : List (Nat × Nat)} {σ σ' : Sig} (h : Fr S T σ σ') (k : ∀ q ∈ S, q ∈ S') (j : ∀ x ∈ T, x ∈ T' ∨ x.1 ∈ S') : Fr S' T' σ σ' := by
  intro q i hq hi
  refine h q i (fun e => hq (k q e)) (fun e => ?_)
  rcases j _ e with e | e
  · exact hi e
  · exact hq e
theorem Fr_p {S : List Nat} {T : List (Nat × Nat)} {σ σ' : Sig} {q k : Nat} {v : Int32} (h : Fr S T σ σ') (hq : q ∈ S ∨ (q, k) ∈ T) : Fr S T σ (pt σ' q k v) := by
  intro q' k' a b
  rw [pt_ap, if_neg]
  · exact h q' k' a b
  · rintro ⟨e, f⟩
    subst e; subst f
    rcases hq with hq | hq
    · exact a hq
    · exact b hq
theorem Fr_q {S : List Nat} {T : List (Nat × Nat)} {σ σ' : Sig} {q : Nat} (h : Fr S T σ σ') (hq : q ∉ S) (ht : ∀ x ∈ T, x.1 ≠ q) : σ' q = σ q := by
  funext k
  exact h q k hq (fun e => ht _ e rfl)
/-- loops -/
theorem loop_ex {α β : Type} (H : Nat → α → β) (I : Nat → α → Prop) (n : Nat) (s : α) (h0 : I 0 s) (step : ∀ p a, p < n → I p a → ∃ a', H p a = H (p + 1) a' ∧ I (p + 1) a') : ∃ a', H 0 s = H n a' ∧ I n a' := by
  have key : ∀ k, k ≤ n → ∃ a', H 0 s = H k a' ∧ I k a' := by
    intro k
    induction k with
    | zero => intro _; exact ⟨s, rfl, h0⟩
    | succ k ih =>
      intro hk
      obtain ⟨a, e, i⟩ := ih (by omega)
      obtain ⟨a', e', i'⟩ := step k a (by omega) i
      exact ⟨a', e.trans e', i'⟩
  exact key n (Nat.le_refl n)
def fo {α : Type} (f : Nat → α → α) : Nat → α → α
  | 0, s => s
  | n + 1, s => f n (fo f n s)
theorem loop_fo {α β : Type} (H : Nat → α → β) (f : Nat → α → α) (n : Nat) (s : α) (step : ∀ p a, p < n → H p a = H (p + 1) (f p a)) : H 0 s = H n (fo f n s) := by
  have key : ∀ k, k ≤ n → H 0 s = H k (fo f k s) := by
    intro k
    induction k with
    | zero => intro _; rfl
    | succ k ih => intro hk; exact (ih (by omega)).trans (step k _ (by omega))
  exact key n (Nat.le_refl n)
theorem loop_foI {α β : Type} (H : Nat → α → β) (I : Nat → α → Prop) (f : Nat → α → α) (n : Nat) (s : α) (h0 : I 0 s) (step : ∀ p a, p < n → I p a → H p a = H (p + 1) (f p a) ∧ I (p + 1) (f p a)) : H 0 s = H n (fo f n s) ∧ I n (fo f n s) := by
  have key : ∀ k, k ≤ n → H 0 s = H k (fo f k s) ∧ I k (fo f k s) := by
    intro k
    induction k with
    | zero => intro _; exact ⟨rfl, h0⟩
    | succ k ih =>
      intro hk
      have a := ih (by omega)
      have b := step k _ (by omega) a.2
      exact ⟨a.1.trans b.1, b.2⟩
  exact key n (Nat.le_refl n)
/-- the depth of calls may always be greater -/
theorem exec_d : ∀ n d M pc L st G σ o, exec n d M pc L st G σ = some o → exec n (d + 1) M pc L st G σ = some o := by
  intro n
  induction n with
  | zero => intro d M pc L st G σ o h; cases h
  | succ n ih =>
    intro d M pc L st G σ o h
    rw [exec] at h ⊢
    split at h
    · cases h
    · rename_i i len aux hi
      cases hx : act M pc L st G σ i aux with
      | none => rw [hx] at h; cases h
      | some x =>
        rw [hx] at h
        match x, h with
        | .inl (pc', L', st', G', σ'), h => exact ih _ _ _ _ _ _ _ _ h
        | .inr (.inr r), h => exact h
        | .inr (.inl (M', as, rest)), h =>
          match d, h with
          | d' + 1, h =>
            simp only [nxt] at h ⊢
            cases hc : exec n d' M' 0 (ent M' as) [] G σ with
            | none => rw [hc] at h; cases h
            | some o1 =>
              rw [hc] at h
              rw [ih _ _ _ _ _ _ _ _ hc]
              exact ih _ _ _ _ _ _ _ _ h
theorem Ex_d {d M pc : Nat} {L st : List Value} {G : Gam} {σ : Sig} {o : Out} (k : Nat) (h : Ex d M pc L st G σ = some o) : Ex (d + k) M pc L st G σ = some o := by
  obtain ⟨n, hn⟩ := Ex_iff.mp h
  refine Ex_iff.mpr ⟨n, ?_⟩
  induction k with
  | zero => exact hn
  | succ k ih => exact exec_d _ _ _ _ _ _ _ _ _ ih
