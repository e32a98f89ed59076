/-! which instructions call, which return -/
def Av (P : MStp → Prop) (x : Option MStp) : Prop := ∀ z, x = some z → P z
section AVV
variable {P : MStp → Prop}
theorem av_none : Av P none := fun _ h => by cases h
theorem av_go (hgo : ∀ x, P (.inl x)) {pc : Nat} {L st : List Value} {G : Gam} {σ : Sig} : Av P (go pc L st G σ) := fun _ h => by
  cases h
  exact hgo _
theorem av_cal (hc : ∀ x, P (.inr (.inl x))) {M : Nat} {as rest : List Value} : Av P (cal M as rest) := fun z h => by
  unfold cal at h
  cases hh : (Nat.blt M nM && (rOk rest && List.all as isIR)) <;> rw [hh] at h <;> cases h
  exact hc _
theorem av_rtn (hr : ∀ x, P (.inr (.inr x))) {r : Option Value} : Av P (rtn r) := fun _ h => by
  cases h
  exact hr _
theorem av_grd {b : Bool} {x : Option MStp} (hx : Av P x) : Av P (grd b x) := fun _ h => hx _ (grd_inv h).2
theorem av_w1 {st : List Value} {f : Int32 → List Value → Option MStp} (hx : ∀ a b, Av P (f a b)) : Av P (w1 st f) := fun _ h => by
  obtain ⟨_, _, _, h⟩ := w1_inv h
  exact hx _ _ _ h
theorem av_w2 {st : List Value} {f : Int32 → Int32 → List Value → Option MStp} (hx : ∀ a b c, Av P (f a b c)) : Av P (w2 st f) := fun _ h => by
  obtain ⟨_, _, _, _, h⟩ := w2_inv h
  exact hx _ _ _ _ h
theorem av_wr {st : List Value} {f : Nat → List Value → Option MStp} (hx : ∀ a b, Av P (f a b)) : Av P (wr st f) := fun _ h => by
  obtain ⟨_, _, _, h⟩ := wr_inv h
  exact hx _ _ _ h
theorem av_wS {st : List Value} {f : Nat → List Value → Option MStp} (hx : ∀ a b, Av P (f a b)) : Av P (wS st f) := fun _ h => by
  obtain ⟨_, _, _, h⟩ := wS_inv h
  exact hx _ _ _ h
theorem av_wir {st : List Value} {f : Int32 → Nat → List Value → Option MStp} (hx : ∀ a b c, Av P (f a b c)) : Av P (wir st f) := fun _ h => by
  obtain ⟨_, _, _, _, h⟩ := wir_inv h
  exact hx _ _ _ _ h
theorem av_wiS {st : List Value} {f : Int32 → Nat → List Value → Option MStp} (hx : ∀ a b c, Av P (f a b c)) : Av P (wiS st f) := fun _ h => by
  obtain ⟨_, _, _, _, h⟩ := wiS_inv h
  exact hx _ _ _ _ h
theorem av_wrr {st : List Value} {f : Nat → Nat → List Value → Option MStp} (hx : ∀ a b c, Av P (f a b c)) : Av P (wrr st f) := fun _ h => by
  obtain ⟨_, _, _, _, h⟩ := wrr_inv h
  exact hx _ _ _ _ h
theorem av_wiir {st : List Value} {f : Int32 → Int32 → Nat → List Value → Option MStp} (hx : ∀ a b c d, Av P (f a b c d)) : Av P (wiir st f) := fun _ h => by
  obtain ⟨_, _, _, _, _, h⟩ := wiir_inv h
  exact hx _ _ _ _ _ h
theorem av_wrir {st : List Value} {f : Nat → Int32 → Nat → List Value → Option MStp} (hx : ∀ a b c d, Av P (f a b c d)) : Av P (wrir st f) := fun _ h => by
  obtain ⟨_, _, _, _, _, h⟩ := wrir_inv h
  exact hx _ _ _ _ _ h
theorem av_wcp {st : List Value} {f : Int32 → Int32 → Nat → Int32 → Nat → List Value → Option MStp} (hx : ∀ a b c d e g, Av P (f a b c d e g)) : Av P (wcp st f) := fun _ h => by
  obtain ⟨_, _, _, _, _, _, _, h⟩ := wcp_inv h
  exact hx _ _ _ _ _ _ _ h
theorem av_ldI {L : List Value} {k : Nat} {f : Int32 → Option MStp} (hx : ∀ a, Av P (f a)) : Av P (ldI L k f) := fun _ h => by
  obtain ⟨_, _, h⟩ := ldI_inv h
  exact hx _ _ h
theorem av_ldA {L : List Value} {k : Nat} {f : Value → Option MStp} (hx : ∀ a, Av P (f a)) : Av P (ldA L k f) := fun _ h => by
  obtain ⟨_, _, _, h⟩ := ldA_inv h
  exact hx _ _ h
theorem av_ofO {x : Option Nat} {f : Nat → Option MStp} (hx : ∀ a, Av P (f a)) : Av P (ofO x f) := fun _ h => by
  obtain ⟨_, _, h⟩ := ofO_inv h
  exact hx _ _ h
def isRet : Instr → Bool
  | .ireturn => true
  | .areturn => true
  | .return_ => true
  | _ => false
def isInv : Instr → Bool
  | .invokevirtual _ => true
  | .invokespecial _ => true
  | .invokestatic _ => true
  | _ => false
set_option maxHeartbeats 4000000 in
theorem act_av {M pc : Nat} {L st : List Value} {G : Gam} {σ : Sig} {i : Instr} {aux : List Nat} (hgo : ∀ x, P (.inl x)) (hc : isInv i = true → ∀ x, P (.inr (.inl x))) (hr : isRet i = true → ∀ x, P (.inr (.inr x))) : Av P (act M pc L st G σ i aux) := by
  cases i
  all_goals first
    | exact av_none
    | (simp only [act, actV, actI, actS]
       repeat' (first | exact av_none | exact av_go hgo | exact av_cal (hc rfl) | exact av_rtn (hr rfl) | apply av_grd | (apply av_w1; intro _ _) | (apply av_w2; intro _ _ _) | (apply av_wr; intro _ _) | (apply av_wS; intro _ _) | (apply av_wir; intro _ _ _) | (apply av_wiS; intro _ _ _) | (apply av_wrr; intro _ _ _) | (apply av_wiir; intro _ _ _ _) | (apply av_wrir; intro _ _ _ _) | (apply av_wcp; intro _ _ _ _ _ _) | (apply av_ldI; intro _) | (apply av_ldA; intro _) | (apply av_ofO; intro _) | split))
end AVV
theorem act_isRet {M pc : Nat} {L st : List Value} {G : Gam} {σ : Sig} {i : Instr} {aux : List Nat} {r : Option Value} (h : act M pc L st G σ i aux = some (.inr (.inr r))) : isRet i = true := by
  cases hh : isRet i
  · exact absurd rfl (act_av (P := fun z => z ≠ .inr (.inr r)) (fun x h => by cases h) (fun _ x h => by cases h) (fun h2 => by rw [hh] at h2; cases h2) _ h)
  · rfl
theorem act_isInv {M pc : Nat} {L st : List Value} {G : Gam} {σ : Sig} {i : Instr} {aux : List Nat} {x : Nat × List Value × List Value} (h : act M pc L st G σ i aux = some (.inr (.inl x))) : isInv i = true := by
  cases hh : isInv i
  · exact absurd rfl (act_av (P := fun z => z ≠ .inr (.inl x)) (fun x h => by cases h) (fun h2 => by rw [hh] at h2; cases h2) (fun _ x h => by cases h) _ h)
  · rfl
theorem goodIn_app2 {big a b : List Cond} (ha : GoodIn big a) (hb : GoodIn big b) : GoodIn big (a ++ b) := fun w h => (List.mem_append.mp h).elim (ha w) (hb w)
/-- a call's method is one of the table -/
theorem act_calM {M pc : Nat} {L st : List Value} {G : Gam} {σ : Sig} {i : Instr} {aux : List Nat} {M' : Nat} {as rest : List Value} (ha : act M pc L st G σ i aux = some (.inr (.inl (M', as, rest)))) : M' < nM := by
  have hcal : ∀ {M1 : Nat} {as1 rest1 : List Value}, cal M1 as1 rest1 = some (.inr (.inl (M', as, rest))) → M' < nM := by
    intro M1 as1 rest1 h
    unfold cal at h
    cases hh : (Nat.blt M1 nM && (rOk rest1 && List.all as1 isIR))
    · rw [hh] at h; cases h
    · rw [hh] at h
      simp only [Bool.and_eq_true] at hh
      cases h
      exact Nat.le_of_ble_eq_true hh.1
  have hinv := act_isInv ha
  cases i
  case invokevirtual idx =>
    simp only [act, actV] at ha
    split at ha
    · obtain ⟨_, _, _, ha⟩ := wr_inv ha
      obtain ⟨_, ha⟩ := grd_inv ha
      exact hcal ha
    · obtain ⟨_, _, _, ha⟩ := wS_inv ha
      obtain ⟨_, ha⟩ := grd_inv ha
      exact hcal ha
    · cases ha
  case invokespecial idx =>
    simp only [act, actI] at ha
    split at ha
    · obtain ⟨_, _, _, ha⟩ := wr_inv ha
      exact hcal ha
    · obtain ⟨_, _, _, ha⟩ := wr_inv ha
      exact hcal ha
    · obtain ⟨_, _, _, ha⟩ := wr_inv ha
      obtain ⟨_, ha⟩ := grd_inv ha
      cases ha
    · cases ha
  case invokestatic idx =>
    simp only [act, actS] at ha
    split at ha
    · obtain ⟨_, ha⟩ := grd_inv ha
      exact hcal ha
    · obtain ⟨_, ha⟩ := grd_inv ha
      exact hcal ha
    · obtain ⟨_, _, _, _, _, _, _, ha⟩ := wcp_inv ha
      obtain ⟨_, ha⟩ := grd_inv ha
      cases ha
    · cases ha
  all_goals (cases hinv)
