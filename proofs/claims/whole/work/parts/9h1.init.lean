/-! L3: the two constructors -/
def sZ0 : Sig := fun _ _ => 0
def gC0 : Gam := [(0, 11, List.replicate 11 none)]
def rC : Option Out := exec 100000 20 99 0 (ent 99 [.ref 0]) [] gC0 sZ0
def gC : Gam := G0.take 112
def okOut (r : Option Out) (G : Gam) : Bool := match r with
  | some (none, G', _) => decide (G' = G)
  | _ => false
def sgOut (r : Option Out) : Sig := match r with
  | some (_, _, σ) => σ
  | none => sZ0
theorem okOut_e {r : Option Out} {G : Gam} (h : okOut r G = true) : r = some (none, G, sgOut r) := by
  cases r with
  | none => cases h
  | some x =>
    obtain ⟨v, G', σ⟩ := x
    cases v with
    | some v => cases h
    | none => have e : G' = G := of_decide_eq_true h; subst e; rfl
theorem rC_ok : okOut rC gC = true := by decide +kernel
def sC : Sig := sgOut rC
theorem rC_e : exec 100000 20 99 0 (ent 99 [.ref 0]) [] gC0 sZ0 = some (none, gC, sC) := okOut_e rC_ok
def gM0 : Gam := gC ++ [(0, 12, List.replicate 61 none)]
def sM0 : Sig := sup sC 112 (fun _ => 0)
def rM : Option Out := exec 100000 20 141 0 (ent 141 [.ref 112]) [] gM0 sM0
theorem rM_ok : okOut rM G0 = true := by decide +kernel
def sI : Sig := sgOut rM
theorem rM_e : exec 100000 20 141 0 (ent 141 [.ref 112]) [] gM0 sM0 = some (none, G0, sI) := okOut_e rM_ok
