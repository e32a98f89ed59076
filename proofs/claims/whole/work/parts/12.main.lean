section MAIN
variable {D : va_G} {cs : ClassId × ClassId × ClassId} {base : Nat} {ak : AK}
/-- the judgement of a frame: from here on it comes to the answer (r, G', σ') -/
def Sn (l : Launch) (D : va_G) (cs : ClassId × ClassId × ClassId) (base : Nat) (ak : AK) (d M pc : Nat) (L st : List Value) (G : Gam) (σ : Sig) (r : Option Value) (G' : Gam) (σ' : Sig) : Prop :=
  ∀ (p : Program) (e : Env) (R : Room) (s : State) (m : MethodId) (args : Array Value) (below : List Frame) (meth : Method) (c : Code) (H : Heap) (locs : List Loc) (cells slots : Nat) (ls : Array Slot) (g0 z0 mc ms : Nat),
    Cx p R s m args meth c D cs ak (AA base) M → meth.sig.returnType = mR M → meth.locks = false → d + 10 ≤ R.frames → 40 * (d + 10) ≤ R.locals → mc ≤ R.cells → ms ≤ R.slots →
    Wo D cs base (AA base) s.heap G σ H locs → lv_has ls (mL M) (lpF base ak 0 L) → L.length = mL M → s.heap.size = base + g0 → cells + g0 = G.length → slots + z0 = szG G → mc + g0 = G'.length → ms + z0 = szG G' →
    W p l e R s m args below meth c H locs cells slots (MQ below (QcM D cs base ak r G' σ') args s mc ms (AA base)) (F0 m pc ls (st.map (cv base ak)))
theorem met_ofW {l : Launch} {y : MethodName} {ws ws' : List Cond} {rm : Room} {Pc : Array Value → State → Prop} {Qc : Array Value → State → Outcome → State → Prop} {mc ms : Nat} {free : Addr → Prop} {cc : ByteArray} {maxL : Nat} {ret : Option FieldType}
    (hy : plainFor y = true) (hw : ws = Cond.code y cc maxL ret :: ws')
    (body : ∀ p e s m args below meth c s₁, BodyLoose p l y (headSpec ws rm) cc maxL ret e s m args below meth c s₁ → c.maxLocals = maxL → Pc args s →
      W p l e (headSpec ws rm).room s m args below meth c s.heap [] 0 0 (MQ below Qc args s mc ms free) (entryFrame m args maxL)) : Met l y ws rm Pc Qc mc ms free := by
  refine MetFree.of_bodySF (code := cc) (maxLocals := maxL) (ret := ret) hy ?_ ?_
  · intro args s m h hn
    obtain ⟨meth, c, h1, h2, h3, h4, h5, h6, -, -⟩ := Cond.code_spec hn (atoms_spec (ws := ws) h _ (by rw [hw]; exact List.mem_cons_self))
    exact ⟨meth, c, h1, h2, h3, h4, h5, h6⟩
  · intro p e s m args below meth c s₁ B hml hP _
    have hh0 : s₁.heap = s.heap := by rw [B.state]; rfl
    obtain ⟨t, a1, o, b1, b2, b3⟩ := body p e s m args below meth c s₁ B hml hP s₁ hh0 (Stand.of_body B)
    exact ⟨t, o, a1, b1, b2, ⟨b3.1, b3.2⟩⟩
theorem met_of {l : Launch} (MI : MInfOk) {d M : Nat} (hM : M < nM) {as : List Value} {G : Gam} {σ : Sig} {r : Option Value} {G' : Gam} {σ' : Sig} {mc ms : Nat} (has : as.all isIR = true) (hal : as.length ≤ mL M) (hmc : mc + G.length = G'.length) (hms : ms + szG G = szG G')
    (h : Sn l D cs base ak d M 0 (ent M as) [] G σ r G' σ') : Met l (mN M) (cdc M :: TB) (rmD d mc ms) (PcM D cs base ak G σ as) (QcM D cs base ak r G' σ') mc ms (AA base) := by
  refine met_ofW (cc := mB M) (maxL := mL M) (ret := mR M) (MI M hM).1 rfl ?_
  intro p e s m args below meth c s₁ B hml hv
  obtain ⟨rfl, hsz, hP, hK, hD, hN, hAO, hSF⟩ := hv
  rw [lg_entry_eq]
  have hl := lp_ent (base := base) (ak := ak) M as has hal
  have hent : (ent M as).length = mL M := by
    unfold ent
    rw [List.length_append, List.length_replicate]
    omega
  refine h p e _ s m _ below meth c s.heap [] 0 0 _ G.length (szG G) mc ms ?_ B.returns B.notSynchronized (Nat.le_refl _) (Nat.le_refl _) (Nat.le_refl _) (Nat.le_refl _) ⟨hP, hD, va_S.rf⟩ hl hent hsz (Nat.zero_add _) (Nat.zero_add _) hmc hms
  refine ⟨B.exec, B.bytes, hml, findClass_of_methodNamed B.named, atoms_spec (ws := cdc M :: TB) B.pre, (name_of_methodNamed B.named B.method).1, ?_, hK, hN, hAO, ?_, ?_, hM, hSF⟩
  · intro q hq
    show base ≤ q
    omega
  · show 1 ≤ d + 10
    omega
  · show 100 ≤ 40 * (d + 10)
    omega
set_option maxHeartbeats 4000000 in
theorem snd_ret {l : Launch} {d M pc len : Nat} {i : Instr} {aux : List Nat} {L st : List Value} {G : Gam} {σ : Sig} {r : Option Value} (hok : okb M pc (i, len, aux) = true) (ha : act M pc L st G σ i aux = some (.inr (.inr r))) : Sn l D cs base ak d M pc L st G σ r G σ := by
  intro p e R s m args below meth c H locs cells slots ls g0 z0 mc ms C hr hlocks hfr hlo hrc hrs hw hl hL hbs hg0 hz0 hmc hms
  have e1 : mc = cells := by omega
  have e2 : ms = slots := by omega
  subst e1; subst e2
  have hi := okb_i hok
  cases i
  case ireturn =>
    simp only [act] at ha
    split at ha
    · rename_i v
      obtain ⟨h1, ha⟩ := grd_inv ha
      cases ha
      simp only [Bool.or_eq_true, Bool.and_eq_true, decide_eq_true_eq] at h1
      have hty : ∃ ty, mR M = some ty ∧ narrow ty (.int v) = .int v := by
        rcases h1 with ((h1 | h1) | h1) | h1
        · exact ⟨_, h1, rfl⟩
        · exact ⟨_, h1.1, by rcases h1.2 with h | h <;> rw [h] <;> decide⟩
        · exact ⟨_, h1⟩
        · exact ⟨_, h1⟩
      obtain ⟨ty, ht, hn⟩ := hty
      exact W.zret (ty := ty) C.1 C.2.1 (hr.trans ht) hn (fun t ht hW => ⟨rfl, by rw [ht]; exact hw.1, hw.2.1, hw.2.2.F ht⟩) hw.2.2.2.2 (okb_dec hok rfl) hlocks
    · cases ha
  case areturn =>
    simp only [act] at ha
    simp only [okI, decide_eq_true_eq] at hi
    split at ha
    · cases ha
      exact W.aret C.1 C.2.1 (hr.trans hi) (Or.inl ⟨_, rfl⟩) (Or.inr ⟨_, rfl⟩) (fun t ht hW => ⟨rfl, by rw [ht]; exact hw.1, hw.2.1, hw.2.2.F ht⟩) hw.2.2.2.2 (okb_dec hok rfl) hlocks
    · cases ha
  case return_ =>
    simp only [act] at ha
    simp only [okI, decide_eq_true_eq] at hi
    split at ha
    · cases ha
      exact W.vret C.1 C.2.1 (hr.trans hi) (fun t ht hW => ⟨rfl, by rw [ht]; exact hw.1, hw.2.1, hw.2.2.F ht⟩) hw.2.2.2.2 (okb_dec hok rfl) hlocks
    · cases ha
  all_goals (have hh := act_isRet ha; cases hh)
end MAIN
