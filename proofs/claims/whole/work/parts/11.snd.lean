/-! the pure machine's answer is the real one's -/
def AA (base : Nat) : Nat → Prop := fun q => base ≤ q
def rmD (d mc ms : Nat) : Room := { frames := d + 10, cells := mc, slots := ms, locals := 40 * (d + 10) }
def PcM (D : va_G) (cs : ClassId × ClassId × ClassId) (base : Nat) (ak : AK) (G : Gam) (σ : Sig) (as : List Value) : Array Value → State → Prop :=
  va_Pc (as.map (cv base ak)) (fun U => U.heap.size = base + G.length ∧ va_P D cls (wF cs base G σ) U.heap ∧ va_K D cls (tys3 cs) U ∧ va_D (AA base) (wF cs base G σ) ∧ (∀ w ∈ nestW, va_Nw w U) ∧ va_AO "SixCarry$Moment" U ∧ SF ak (AA base) U U.heap)
def QcM (D : va_G) (cs : ClassId × ClassId × ClassId) (base : Nat) (ak : AK) (r : Option Value) (G' : Gam) (σ' : Sig) : Array Value → State → Outcome → State → Prop :=
  fun _ st oc t => oc = .returned (r.map (cv base ak)) ∧ va_P D cls (wF cs base G' σ') t.heap ∧ va_D (AA base) (wF cs base G' σ') ∧ va_F (AA base) st t
theorem nest_on : ∀ w ∈ nestW, ∃ a i x h, w = Cond.methodLinkNest a i x h := by
  intro w hw
  simp only [nestW, List.mem_cons, List.not_mem_nil, or_false] at hw
  rcases hw with rfl | rfl | rfl | rfl | rfl | rfl | rfl | rfl | rfl | rfl | rfl | rfl | rfl | rfl | rfl | rfl | rfl | rfl | rfl | rfl | rfl <;> exact ⟨_, _, _, _, rfl⟩
theorem nest_warm {s U : State} (hW : s.WarmedH U.vm) (h : ∀ w ∈ nestW, va_Nw w s) : ∀ w ∈ nestW, va_Nw w U := by
  intro w hw
  obtain ⟨a, i, x, y, rfl⟩ := nest_on w hw
  exact va_Nw.warmM hW (h _ hw)
theorem nest_same {u U : State} (hv : u.vm = U.vm) (h : ∀ w ∈ nestW, va_Nw w u) : ∀ w ∈ nestW, va_Nw w U := by
  intro w hw
  obtain ⟨a, i, x, y, rfl⟩ := nest_on w hw
  exact va_Nw.same rfl hv (h _ hw)
theorem SF_warm {ak : AK} {A : Nat → Prop} {s U : State} {H : Heap} (hW : s.WarmedH U.vm) (h : SF ak A s H) : SF ak A U H :=
  ⟨fun j hj => (h.1 j hj).warm hW, h.2.1.moved hW.alike, h.2.2.1.moved hW.alike, h.2.2.2.moved hW.alike⟩
theorem SF_kept {ak : AK} {A : Nat → Prop} {s : State} {H H1 : Heap} (h : SF ak A s H) (hq : ∀ a : Nat, a < H.size → ¬ A a → H1[a]? = H[a]?) : SF ak A s H1 :=
  ⟨h.1, h.2.1.kept hq, h.2.2.1.kept hq, h.2.2.2.kept hq⟩
theorem SF_same {ak : AK} {A : Nat → Prop} {u U : State} {H : Heap} (hv : U.vm = u.vm) (h : SF ak A u H) : SF ak A U H := by
  have ha : u.vm.Alike U.vm := by rw [hv]; exact Vm.Alike.refl _
  exact ⟨fun j hj => (h.1 j hj).same hv, h.2.1.moved ha, h.2.2.1.moved ha, h.2.2.2.moved ha⟩
theorem PcM_blind {D : va_G} {cs : ClassId × ClassId × ClassId} {base : Nat} {ak : AK} {G : Gam} {σ : Sig} {as : List Value} : FrameBlind (PcM D cs base ak G σ as) := by
  intro a U g mk h
  obtain ⟨q0, q1, qP, qK, qD, qN, qA, qS⟩ := h
  exact ⟨q0, q1, qP, va_K.moved (u := U) (U := U.calling g mk a) (Vm.Alike.refl U.vm) qK, qD, nest_same (u := U) (U := U.calling g mk a) rfl qN, va_AO.moved (u := U) (U := U.calling g mk a) (Vm.Alike.refl U.vm) qA, SF_same (u := U) (U := U.calling g mk a) rfl qS⟩
section SND
variable {p : Program} {l : Launch} {e : Env} {R : Room} {s : State} {m : MethodId} {args : Array Value} {below : List Frame} {meth : Method} {c : Code} {Q : State → Prop}
variable {D : va_G} {cs : ClassId × ClassId × ClassId} {base : Nat} {ak : AK} {M : Nat}
variable {pc len pc' : Nat} {aux : List Nat} {L st L' st' : List Value} {G G' : Gam} {σ σ' : Sig} {H : Heap} {locs : List Loc} {cells slots : Nat} {ls : Array Slot}
theorem pre_of (C : Cx p R s m args meth c D cs ak (AA base) M) (hw : Wo D cs base (AA base) s.heap G σ H locs) (hz : H.size = base + G.length) {as : List Value} : ∀ U : State, U.heap = H → s.WarmedH U.vm → PcM D cs base ak G σ as (as.map (cv base ak)).toArray U := by
  intro U hU hW
  obtain ⟨hx, hb, hml, hown, hts, hnm, hA, hK, hN, hAO, hfr, hlo, hM, hSF⟩ := C
  refine ⟨rfl, by rw [hU]; exact hz, by rw [hU]; exact hw.1, va_K.moved hW.alike hK, hw.2.1, nest_warm hW hN, va_AO.moved hW.alike hAO, ?_⟩
  rw [hU]
  exact SF_kept (SF_warm hW hSF) hw.2.2.2.1
/-- behind a call -/
theorem run_W {mc1 ms1 : Nat} {rest st0 : List Value} {r1 : Option Value} {G1 : Gam} {σ1 : Sig} {a : Array Value} (hr : va_Run p l e R s m args below meth c H locs cells slots mc1 ms1 (F0 m pc ls st0) rest (QcM D cs base ak r1 G1 σ1 a) (AA base)) (hS : va_S (AA base) s.heap H locs)
    (kk : ∀ (H1 : Heap) (locs1 : List Loc), Wo D cs base (AA base) s.heap G1 σ1 H1 locs1 → W p l e R s m args below meth c H1 locs1 (cells + mc1) (slots + ms1) Q (F0 m (pc + 3) ls ((r1.map (cv base ak)).toList ++ rest))) : W p l e R s m args below meth c H locs cells slots Q (F0 m pc ls st0) := by
  intro T hT X
  obtain ⟨v, st₀, t, T', L, h0, X', hL, e1, e2, ⟨hv, hP, hD, hz, hk⟩, st⟩ := hr T hT X
  cases hv
  rw [h0] at hz hk
  obtain ⟨t2, a1, b1⟩ := kk T'.heap (locs ++ L) ⟨by rw [e1]; exact hP, hD, Nat.le_trans hS.1 (by rw [e1]; exact hz), fun q h1 h2 => by
      rw [e1, hk q (Nat.lt_of_lt_of_le h1 hS.1) h2]; exact hS.2.1 q h1 h2, fun q hq => by
      rcases List.mem_append.mp hq with h | h
      · exact hS.2.2 q h
      · exact hL q h⟩ T' rfl X'
  exact ⟨t2, st t2 a1, b1⟩
def TGood : Prop := ∀ w ∈ TB, goodWord w = true
def OKAll : Prop := ∀ (M pc : Nat) (x : CI), M < nM → ins M pc = some x → okb M pc x = true
def MInfOk : Prop := ∀ M, M < nM → plainFor (mN M) = true ∧ mL M ≤ 20
theorem good_in (TG : TGood) {M' : Nat} (hM' : M' < nM) : GoodIn (cdc M :: TB) (cdc M' :: TB) := by
  intro w hw
  rcases List.mem_cons.mp hw with rfl | hw
  · exact ⟨List.mem_cons_of_mem _ (in_cdc hM'), good_of_word (TG _ (in_cdc hM'))⟩
  · exact ⟨List.mem_cons_of_mem _ hw, good_of_word (TG _ hw)⟩
theorem good_T (TG : TGood) {ws : List Cond} (h : ∀ w ∈ ws, w ∈ TB) : GoodIn (cdc M :: TB) ws := fun w hw => ⟨List.mem_cons_of_mem _ (h w hw), good_of_word (TG _ (h w hw))⟩
theorem okC_inv {M' n k : Nat} (h : okC M M' n k = true) : M' < nM ∧ mK M' = k ∧ (parseMethodDescriptor (mN M').desc).map (fun d => d.parameters.length) = some n ∧ own M' ≠ "java/lang/invoke/MethodHandle" ∧ own M' ≠ "java/lang/invoke/VarHandle" := by
  unfold okC at h
  simp only [Bool.and_eq_true, decide_eq_true_eq] at h
  exact ⟨Nat.le_of_ble_eq_true h.1, h.2.1, h.2.2.1, h.2.2.2.1, h.2.2.2.2⟩
theorem cal_inv {M1 : Nat} {as rest as' rest' : List Value} {M' : Nat} (h : cal M1 as rest = some (.inr (.inl (M', as', rest')))) : M1 = M' ∧ as = as' ∧ rest = rest' ∧ M' < nM ∧ rOk rest' = true ∧ as'.all isIR = true := by
  unfold cal at h
  cases hh : (Nat.blt M1 nM && (rOk rest && List.all as isIR))
  · rw [hh] at h; cases h
  · rw [hh] at h
    simp only [Bool.and_eq_true] at hh
    simp only [cond_true, Option.some.injEq, Sum.inr.injEq, Sum.inl.injEq, Prod.mk.injEq] at h
    obtain ⟨rfl, rfl, rfl⟩ := h
    exact ⟨rfl, rfl, rfl, Nat.le_of_ble_eq_true hh.1, hh.2.1, hh.2.2⟩
theorem slf_in {M' : Nat} (hM' : M' < nM) : (mK M' = 0 → Cond.initialized (own M') ∈ TB ∧ Cond.instanceMethod (mN M') ∈ TB ∧ Cond.selects (own M') (mN M') (mN M') ∈ TB) ∧ (mK M' = 1 → Cond.initialized (own M') ∈ TB ∧ Cond.instanceMethod (mN M') ∈ TB) ∧ (mK M' = 2 → Cond.initialized (own M') ∈ TB ∧ Cond.static (mN M') ∈ TB) := by
  refine ⟨fun h => ⟨in_slf hM' ?_, in_slf hM' ?_, in_slf hM' ?_⟩, fun h => ⟨in_slf hM' ?_, in_slf hM' ?_⟩, fun h => ⟨in_slf hM' ?_, in_slf hM' ?_⟩⟩ <;> simp [slfW, h]
theorem take_drop_st {n q : Nat} {v : Value} {r : List Value} (h : st.drop n = v :: r) : st.map (cv base ak) = (((st.take n).reverse).map (cv base ak)).reverse ++ cv base ak v :: r.map (cv base ak) ∧ (((st.take n).reverse).map (cv base ak)).length = n := by
  constructor
  · rw [List.map_reverse, List.reverse_reverse, ← List.map_cons, ← List.map_append, ← h, List.take_append_drop]
  · rw [List.length_map, List.length_reverse, List.length_take]
    have : n < st.length := by
      rcases Nat.lt_or_ge n st.length with h1 | h1
      · exact h1
      · rw [List.drop_eq_nil_iff.mpr h1] at h; cases h
    omega
end SND
