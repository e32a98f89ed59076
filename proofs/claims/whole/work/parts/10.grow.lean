/-! the heap only grows -/
def Gr (G : Gam) (L : List Value) (x : Option MStp) : Prop := ∀ pc' L' st' G' σ', x = some (.inl (pc', L', st', G', σ')) → G.length ≤ G'.length ∧ szG G ≤ szG G' ∧ L'.length = L.length
section GRW
variable {G : Gam} {L : List Value}
theorem gr_none : Gr G L none := fun _ _ _ _ _ h => by cases h
theorem gr_go {pc : Nat} {st : List Value} {σ : Sig} : Gr G L (go pc L st G σ) := fun _ _ _ _ _ h => by
  obtain ⟨rfl, rfl, rfl, rfl, rfl⟩ := go_inv h
  exact ⟨Nat.le_refl _, Nat.le_refl _, rfl⟩
theorem gr_goL {pc k : Nat} {v : Value} {st : List Value} {σ : Sig} : Gr G L (go pc (L.set k v) st G σ) := fun _ _ _ _ _ h => by
  obtain ⟨rfl, rfl, rfl, rfl, rfl⟩ := go_inv h
  exact ⟨Nat.le_refl _, Nat.le_refl _, List.length_set⟩
theorem gr_goP {pc : Nat} {sh : Sh} {st : List Value} {σ : Sig} : Gr G L (go pc L st (G ++ [sh]) σ) := fun _ _ _ _ _ h => by
  obtain ⟨rfl, rfl, rfl, rfl, rfl⟩ := go_inv h
  exact ⟨by simp, by rw [szG_push]; omega, rfl⟩
theorem gr_cal {M : Nat} {as rest : List Value} : Gr G L (cal M as rest) := fun _ _ _ _ _ h => by
  unfold cal at h
  cases hh : (Nat.blt M nM && (rOk rest && List.all as isIR)) <;> rw [hh] at h <;> cases h
theorem gr_rtn {r : Option Value} : Gr G L (rtn r) := fun _ _ _ _ _ h => by cases h
theorem gr_grd {b : Bool} {x : Option MStp} (hx : Gr G L x) : Gr G L (grd b x) := fun _ _ _ _ _ h => hx _ _ _ _ _ (grd_inv h).2
theorem gr_w1 {st : List Value} {f : Int32 → List Value → Option MStp} (hx : ∀ a b, Gr G L (f a b)) : Gr G L (w1 st f) := fun _ _ _ _ _ h => by
  obtain ⟨_, _, _, h⟩ := w1_inv h
  exact hx _ _ _ _ _ _ _ h
theorem gr_w2 {st : List Value} {f : Int32 → Int32 → List Value → Option MStp} (hx : ∀ a b c, Gr G L (f a b c)) : Gr G L (w2 st f) := fun _ _ _ _ _ h => by
  obtain ⟨_, _, _, _, h⟩ := w2_inv h
  exact hx _ _ _ _ _ _ _ _ h
theorem gr_wr {st : List Value} {f : Nat → List Value → Option MStp} (hx : ∀ a b, Gr G L (f a b)) : Gr G L (wr st f) := fun _ _ _ _ _ h => by
  obtain ⟨_, _, _, h⟩ := wr_inv h
  exact hx _ _ _ _ _ _ _ h
theorem gr_wS {st : List Value} {f : Nat → List Value → Option MStp} (hx : ∀ a b, Gr G L (f a b)) : Gr G L (wS st f) := fun _ _ _ _ _ h => by
  obtain ⟨_, _, _, h⟩ := wS_inv h
  exact hx _ _ _ _ _ _ _ h
theorem gr_wir {st : List Value} {f : Int32 → Nat → List Value → Option MStp} (hx : ∀ a b c, Gr G L (f a b c)) : Gr G L (wir st f) := fun _ _ _ _ _ h => by
  obtain ⟨_, _, _, _, h⟩ := wir_inv h
  exact hx _ _ _ _ _ _ _ _ h
theorem gr_wiS {st : List Value} {f : Int32 → Nat → List Value → Option MStp} (hx : ∀ a b c, Gr G L (f a b c)) : Gr G L (wiS st f) := fun _ _ _ _ _ h => by
  obtain ⟨_, _, _, _, h⟩ := wiS_inv h
  exact hx _ _ _ _ _ _ _ _ h
theorem gr_wiir {st : List Value} {f : Int32 → Int32 → Nat → List Value → Option MStp} (hx : ∀ a b c d, Gr G L (f a b c d)) : Gr G L (wiir st f) := fun _ _ _ _ _ h => by
  obtain ⟨_, _, _, _, _, h⟩ := wiir_inv h
  exact hx _ _ _ _ _ _ _ _ _ h
theorem gr_wcp {st : List Value} {f : Int32 → Int32 → Nat → Int32 → Nat → List Value → Option MStp} (hx : ∀ a b c d e g, Gr G L (f a b c d e g)) : Gr G L (wcp st f) := fun _ _ _ _ _ h => by
  obtain ⟨_, _, _, _, _, _, _, h⟩ := wcp_inv h
  exact hx _ _ _ _ _ _ _ _ _ _ _ h
theorem gr_ldI {k : Nat} {f : Int32 → Option MStp} (hx : ∀ a, Gr G L (f a)) : Gr G L (ldI L k f) := fun _ _ _ _ _ h => by
  obtain ⟨_, _, h⟩ := ldI_inv h
  exact hx _ _ _ _ _ _ h
theorem gr_ldA {k : Nat} {f : Value → Option MStp} (hx : ∀ a, Gr G L (f a)) : Gr G L (ldA L k f) := fun _ _ _ _ _ h => by
  obtain ⟨_, _, _, h⟩ := ldA_inv h
  exact hx _ _ _ _ _ _ h
theorem gr_ofO {x : Option Nat} {f : Nat → Option MStp} (hx : ∀ a, Gr G L (f a)) : Gr G L (ofO x f) := fun _ _ _ _ _ h => by
  obtain ⟨_, _, h⟩ := ofO_inv h
  exact hx _ _ _ _ _ _ h
set_option maxHeartbeats 4000000 in
theorem act_gr {M pc : Nat} {st : List Value} {σ : Sig} {i : Instr} {aux : List Nat} : Gr G L (act M pc L st G σ i aux) := by
  cases i
  case putfield idx =>
    simp only [act]
    split
    · exact gr_wir fun _ _ _ => gr_grd gr_go
    · exact gr_wir fun _ _ _ => gr_grd gr_go
    · intro pc' L' st' G' σ' h
      obtain ⟨v, q, r, rfl, h⟩ := wrr_inv h
      obtain ⟨h1, h⟩ := grd_inv h
      obtain ⟨rfl, rfl, rfl, rfl, rfl⟩ := go_inv h
      simp only [Bool.and_eq_true] at h1
      obtain ⟨hq, hsh⟩ := isO_eq h1.1
      exact ⟨by rw [List.length_set]; exact Nat.le_refl _, by rw [szG_set hq (by rw [hsh]; rfl)]; exact Nat.le_refl _, rfl⟩
    · exact gr_none
  case aastore =>
    intro pc' L' st' G' σ' h
    obtain ⟨v, i, q, r, rfl, h⟩ := wrir_inv h
    obtain ⟨h1, h⟩ := grd_inv h
    obtain ⟨rfl, rfl, rfl, rfl, rfl⟩ := go_inv h
    simp only [Bool.and_eq_true] at h1
    obtain ⟨hq, hsh⟩ := kd_eq (by decide) h1.1.1.1
    exact ⟨by rw [List.length_set]; exact Nat.le_refl _, by rw [szG_set hq (by rw [hsh]; rfl)]; exact Nat.le_refl _, rfl⟩
  all_goals first
    | exact gr_none
    | (simp only [act, actV, actI, actS]
       repeat' (first | exact gr_none | exact gr_go | exact gr_goL | exact gr_goP | exact gr_cal | exact gr_rtn | apply gr_grd | (apply gr_w1; intro _ _) | (apply gr_w2; intro _ _ _) | (apply gr_wr; intro _ _) | (apply gr_wS; intro _ _) | (apply gr_wir; intro _ _ _) | (apply gr_wiS; intro _ _ _) | (apply gr_wiir; intro _ _ _ _) | (apply gr_wcp; intro _ _ _ _ _ _) | (apply gr_ldI; intro _) | (apply gr_ldA; intro _) | (apply gr_ofO; intro _) | split))
end GRW
theorem exec_gr : ∀ (n d M pc : Nat) (L st : List Value) (G : Gam) (σ : Sig) (r : Option Value) (G' : Gam) (σ' : Sig), exec n d M pc L st G σ = some (r, G', σ') → G.length ≤ G'.length ∧ szG G ≤ szG G' := by
  intro n
  induction n with
  | zero => intro d M pc L st G σ r G' σ' h; cases h
  | succ n ih =>
    intro d M pc L st G σ r G' σ' h
    rw [exec] at h
    split at h
    · cases h
    · rename_i i len aux hi
      cases ha : act M pc L st G σ i aux with
      | none => rw [ha] at h; cases h
      | some x =>
        rw [ha] at h
        match x, h, ha with
        | .inl (pc1, L1, st1, G1, σ1), h, ha =>
          have h1 := ih _ _ _ _ _ _ _ _ _ _ h
          have h2 := act_gr _ _ _ _ _ ha
          exact ⟨Nat.le_trans h2.1 h1.1, Nat.le_trans h2.2.1 h1.2⟩
        | .inr (.inl (M', as, rest)), h, ha =>
          match d, h with
          | d' + 1, h =>
            simp only [nxt] at h
            cases hc : exec n d' M' 0 (ent M' as) [] G σ with
            | none => rw [hc] at h; cases h
            | some o1 =>
              obtain ⟨r1, G1, σ1⟩ := o1
              rw [hc] at h
              have h1 := ih _ _ _ _ _ _ _ _ _ _ hc
              have h2 := ih _ _ _ _ _ _ _ _ _ _ h
              exact ⟨Nat.le_trans h1.1 h2.1, Nat.le_trans h1.2 h2.2⟩
        | .inr (.inr r0), h, ha =>
          cases h
          exact ⟨Nat.le_refl _, Nat.le_refl _⟩
