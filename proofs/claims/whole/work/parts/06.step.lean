/-! every step of the pure machine is one of the real one -/
def mK (M : Nat) : Nat := kTab.getD M 9
def slfW (M : Nat) : List Cond := match mK M with
  | 0 => [.initialized (own M), .instanceMethod (mN M), .selects (own M) (mN M) (mN M)]
  | 1 => [.initialized (own M), .instanceMethod (mN M)]
  | 2 => [.initialized (own M), .static (mN M)]
  | _ => []
def miscW : List Cond := [.instanceMethod objectInit, .code objectInit ⟨#[0xb1]⟩ 1 none, .arrayClass .int, .arrayClass .byte, .native arraycopyName, .static arraycopyName, .initialized "java/lang/System"]
def instW : List Cond := (List.range 13).flatMap fun ci => [.instantiable (clsA ci).1 (clsA ci).2.2, .initialized (clsA ci).1]
def TB : List Cond := laysAll ++ ((List.range nM).flatMap lnk ++ ((List.range nM).flatMap slfW ++ ((List.range nM).map cdc ++ (instW ++ miscW))))
def lenI : Instr → Nat
  | .bipush _ => 2
  | .sipush _ => 3
  | .ldc _ => 2
  | .ldc_w _ => 3
  | .iload _ => 2
  | .aload _ => 2
  | .istore _ => 2
  | .astore _ => 2
  | .iinc _ _ => 3
  | .goto _ => 3
  | .if_icmp _ _ => 3
  | .ifCond _ _ => 3
  | .getfield _ => 3
  | .getstatic _ => 3
  | .putfield _ => 3
  | .new _ => 3
  | .newarray _ => 2
  | .anewarray _ => 3
  | .invokevirtual _ => 3
  | .invokespecial _ => 3
  | .invokestatic _ => 3
  | _ => 1
def isSw : Instr → Bool
  | .tableswitch _ _ _ _ => true
  | .lookupswitch _ _ => true
  | _ => false
def okF (M idx ci k : Nat) : Bool := Nat.blt ci 13 && (Nat.blt k (clsA ci).2.2 && decide (Cond.fieldLink (own M) idx (clsA ci).1 ((clsA ci).2.1 k).2.1 ((clsA ci).2.1 k).2.2.1 ∈ lnk M) && decide (((clsA ci).2.1 k).1 = (clsA ci).1))
def okC (M M' n k : Nat) : Bool := Nat.blt M' nM && (decide (mK M' = k) && (decide ((parseMethodDescriptor (mN M').desc).map (fun d => d.parameters.length) = some n) && (decide (own M' ≠ "java/lang/invoke/MethodHandle") && decide (own M' ≠ "java/lang/invoke/VarHandle"))))
def okI (M pc : Nat) (i : Instr) (aux : List Nat) : Bool := match i with
  | .getfield idx => match aux with
    | [0, ci, k] => okF M idx ci k && !isRefT (tyA ci k)
    | [1, ci, k] => okF M idx ci k && isRefT (tyA ci k)
    | [3] => decide (Cond.fieldLink (own M) idx "java/lang/String" "value" "[B" ∈ lnk M)
    | [4] => decide (Cond.fieldLink (own M) idx "java/lang/String" "coder" "B" ∈ lnk M)
    | _ => false
  | .getstatic idx => match aux with
    | [0] => decide (Cond.fieldLink (own M) idx "java/lang/String" "COMPACT_STRINGS" "Z" ∈ lnk M)
    | [1] => decide (Cond.fieldLink (own M) idx "jdk/internal/util/Preconditions" "SIOOBE_FORMATTER" "Ljava/util/function/BiFunction;" ∈ lnk M)
    | _ => false
  | .putfield idx => match aux with
    | [0, ci, k] => okF M idx ci k && decide (tyA ci k = .int) && !((clsA ci).2.1 k).2.2.2
    | [2, ci, k] => okF M idx ci k && decide (tyA ci k = .boolean) && !((clsA ci).2.1 k).2.2.2
    | [1, ci, k] => okF M idx ci k && isRefT (tyA ci k) && ((clsA ci).2.1 k).2.2.2 && decide ((mN M).name = "<init>") && decide (own M = (clsA ci).1)
    | _ => false
  | .new idx => match aux with
    | [ci] => Nat.blt ci 13 && decide (Cond.classLink (own M) idx (clsA ci).1 ∈ lnk M)
    | _ => false
  | .anewarray idx => decide (Cond.classLink (own M) idx "SixCarry$Moment" ∈ lnk M)
  | .ldc idx => match aux with
    | [0, v] => decide (Cond.constant (own M) idx (Int32.ofNat v) ∈ lnk M)
    | [1, j] => decide (own M = "SixCarry$Reader") && decide (sIdx.getD j 0 = idx)
    | _ => false
  | .ldc_w idx => match aux with
    | [0, v] => decide (Cond.constant (own M) idx (Int32.ofNat v) ∈ lnk M)
    | _ => false
  | .goto off => match aux with
    | [t] => decide ((pc : Int) + off = (t : Int))
    | _ => false
  | .if_icmp _ off => match aux with
    | [t] => decide ((pc : Int) + off = (t : Int))
    | _ => false
  | .ifCond _ off => match aux with
    | [t] => decide ((pc : Int) + off = (t : Int))
    | _ => false
  | .tableswitch dflt lo hi offs => decide (0 ≤ (pc : Int) + dflt) && offs.toList.all (fun o => decide (0 ≤ (pc : Int) + o)) && decide ((offs.size : Int) = hi - lo + 1)
  | .lookupswitch dflt ps => decide (0 ≤ (pc : Int) + dflt) && ps.toList.all (fun o => decide (0 ≤ (pc : Int) + o.2)) && (ps.toList.zip (ps.toList.drop 1)).all (fun (a, next) => a.1 < next.1)
  | .invokevirtual idx => match aux with
    | [0, M', n, ci] => okC M M' n 0 && Nat.blt ci 13 && decide (own M' = (clsA ci).1) && decide (Cond.methodLink (own M) idx (mN M') ∈ lnk M) && Nat.ble (n + 1) (mL M')
    | [7, M', n] => okC M M' n 0 && decide (own M' = "java/lang/String") && decide (Cond.methodLink (own M) idx (mN M') ∈ lnk M) && Nat.ble (n + 1) (mL M')
    | _ => false
  | .invokespecial idx => match aux with
    | [1, M', n] => okC M M' n 1 && decide ((mN M').name = "<init>") && decide (mR M' = none) && decide (Cond.methodLink (own M) idx (mN M') ∈ lnk M) && Nat.ble (n + 1) (mL M')
    | [2, M', n] => okC M M' n 1 && decide ((mN M').name = "<init>") && decide (mR M' = none) && decide (Cond.methodLinkNest (own M) idx (mN M') "SixCarry" ∈ nestW) && Nat.ble (n + 1) (mL M')
    | [3] => decide (Cond.methodLink (own M) idx objectInit ∈ lnk M)
    | _ => false
  | .invokestatic idx => match aux with
    | [4, M', n] => okC M M' n 2 && decide (Cond.methodLink (own M) idx (mN M') ∈ lnk M) && Nat.ble n (mL M')
    | [5, M', n] => okC M M' n 2 && decide (Cond.methodLinkNest (own M) idx (mN M') "SixCarry" ∈ nestW) && Nat.ble n (mL M')
    | [6] => decide (Cond.methodLink (own M) idx arraycopyName ∈ lnk M)
    | _ => false
  | .areturn => decide (mR M = some (.object "SixCarry$Moment"))
  | .return_ => decide (mR M = none)
  | _ => true
def okb (M pc : Nat) (x : CI) : Bool := decide (decode (mB M) pc = .ok (x.1, x.2.1)) && (isSw x.1 || decide (x.2.1 = lenI x.1)) && okI M pc x.1 x.2.2
theorem okb_dec {M pc len : Nat} {i : Instr} {aux : List Nat} (h : okb M pc (i, len, aux) = true) (hs : isSw i = false) : decode (mB M) pc = .ok (i, lenI i) := by
  unfold okb at h
  simp only [Bool.and_eq_true, Bool.or_eq_true, decide_eq_true_eq] at h
  obtain ⟨⟨h1, h2⟩, -⟩ := h
  rcases h2 with h2 | h2
  · rw [hs] at h2; cases h2
  · rw [← h2]; exact h1
theorem okb_dec0 {M pc len : Nat} {i : Instr} {aux : List Nat} (h : okb M pc (i, len, aux) = true) : decode (mB M) pc = .ok (i, len) := by
  unfold okb at h
  simp only [Bool.and_eq_true, decide_eq_true_eq] at h
  exact h.1.1
theorem okb_i {M pc len : Nat} {i : Instr} {aux : List Nat} (h : okb M pc (i, len, aux) = true) : okI M pc i aux = true := by
  unfold okb at h
  simp only [Bool.and_eq_true] at h
  exact h.2
theorem w1_inv {st : List Value} {f : Int32 → List Value → Option MStp} {z : MStp} (h : w1 st f = some z) : ∃ x r, st = .int x :: r ∧ f x r = some z := by
  unfold w1 at h
  split at h
  · exact ⟨_, _, rfl, h⟩
  · cases h
theorem w2_inv {st : List Value} {f : Int32 → Int32 → List Value → Option MStp} {z : MStp} (h : w2 st f = some z) : ∃ x y r, st = .int y :: .int x :: r ∧ f x y r = some z := by
  unfold w2 at h
  split at h
  · exact ⟨_, _, _, rfl, h⟩
  · cases h
theorem wr_inv {st : List Value} {f : Nat → List Value → Option MStp} {z : MStp} (h : wr st f = some z) : ∃ q r, st = .ref q :: r ∧ f q r = some z := by
  unfold wr at h
  split at h
  · exact ⟨_, _, rfl, h⟩
  · cases h
theorem wir_inv {st : List Value} {f : Int32 → Nat → List Value → Option MStp} {z : MStp} (h : wir st f = some z) : ∃ i q r, st = .int i :: .ref q :: r ∧ f i q r = some z := by
  unfold wir at h
  split at h
  · exact ⟨_, _, _, rfl, h⟩
  · cases h
theorem wiir_inv {st : List Value} {f : Int32 → Int32 → Nat → List Value → Option MStp} {z : MStp} (h : wiir st f = some z) : ∃ x i q r, st = .int x :: .int i :: .ref q :: r ∧ f x i q r = some z := by
  unfold wiir at h
  split at h
  · exact ⟨_, _, _, _, rfl, h⟩
  · cases h
theorem wrir_inv {st : List Value} {f : Nat → Int32 → Nat → List Value → Option MStp} {z : MStp} (h : wrir st f = some z) : ∃ v i q r, st = .ref v :: .int i :: .ref q :: r ∧ f v i q r = some z := by
  unfold wrir at h
  split at h
  · exact ⟨_, _, _, _, rfl, h⟩
  · cases h
theorem wrr_inv {st : List Value} {f : Nat → Nat → List Value → Option MStp} {z : MStp} (h : wrr st f = some z) : ∃ v q r, st = .ref v :: .ref q :: r ∧ f v q r = some z := by
  unfold wrr at h
  split at h
  · exact ⟨_, _, _, rfl, h⟩
  · cases h
theorem wS_inv {st : List Value} {f : Nat → List Value → Option MStp} {z : MStp} (h : wS st f = some z) : ∃ j r, st = .retAddr j :: r ∧ f j r = some z := by
  unfold wS at h
  split at h
  · exact ⟨_, _, rfl, h⟩
  · cases h
theorem wiS_inv {st : List Value} {f : Int32 → Nat → List Value → Option MStp} {z : MStp} (h : wiS st f = some z) : ∃ i j r, st = .int i :: .retAddr j :: r ∧ f i j r = some z := by
  unfold wiS at h
  split at h
  · exact ⟨_, _, _, rfl, h⟩
  · cases h
theorem wcp_inv {st : List Value} {f : Int32 → Int32 → Nat → Int32 → Nat → List Value → Option MStp} {z : MStp} (h : wcp st f = some z) : ∃ n dp b sp a r, st = .int n :: .int dp :: .ref b :: .int sp :: .ref a :: r ∧ f n dp b sp a r = some z := by
  unfold wcp at h
  split at h
  · exact ⟨_, _, _, _, _, _, rfl, h⟩
  · cases h
theorem ldI_inv {L : List Value} {k : Nat} {f : Int32 → Option MStp} {z : MStp} (h : ldI L k f = some z) : ∃ x, L[k]? = some (.int x) ∧ f x = some z := by
  unfold ldI at h
  split at h
  · rename_i x hx; exact ⟨_, hx, h⟩
  · cases h
theorem ldA_inv {L : List Value} {k : Nat} {f : Value → Option MStp} {z : MStp} (h : ldA L k f = some z) : ∃ v, L[k]? = some v ∧ ((∃ x, v = .ref x) ∨ ∃ j, j < 20 ∧ v = .retAddr j) ∧ f v = some z := by
  unfold ldA at h
  split at h
  · rename_i x hx; exact ⟨_, hx, Or.inl ⟨_, rfl⟩, h⟩
  · rename_i j hx
    cases hj : Nat.blt j 20
    · rw [hj] at h; cases h
    · rw [hj] at h
      exact ⟨_, hx, Or.inr ⟨j, Nat.le_of_ble_eq_true hj, rfl⟩, h⟩
  · cases h
theorem grd_inv {b : Bool} {x : Option MStp} {z : MStp} (h : grd b x = some z) : b = true ∧ x = some z := by
  cases b
  · cases h
  · exact ⟨rfl, h⟩
theorem ofO_inv {x : Option Nat} {f : Nat → Option MStp} {z : MStp} (h : ofO x f = some z) : ∃ v, x = some v ∧ f v = some z := by
  cases x
  · cases h
  · exact ⟨_, rfl, h⟩
theorem go_inv {pc pc' : Nat} {L st L' st' : List Value} {G G' : Gam} {σ σ' : Sig} (h : go pc L st G σ = some (.inl (pc', L', st', G', σ'))) : pc' = pc ∧ L' = L ∧ st' = st ∧ G' = G ∧ σ' = σ := by
  unfold go at h
  simp only [Option.some.injEq, Sum.inl.injEq, Prod.mk.injEq] at h
  obtain ⟨h1, h2, h3, h4, h5⟩ := h
  exact ⟨h1.symm, h2.symm, h3.symm, h4.symm, h5.symm⟩
theorem rOk_sum {base : Nat} {ak : AK} {r : List Value} (h : rOk r = true) : ((r.map (cv base ak)).map fun v => v.category).sum ≤ 8 := by
  unfold rOk at h
  simp only [Bool.and_eq_true] at h
  have h1 : ∀ r : List Value, r.all isIR = true → ((r.map (cv base ak)).map fun v => v.category).sum = r.length := by
    intro r
    induction r with
    | nil => intro _; rfl
    | cons a r ih =>
      intro h
      simp only [List.all_cons, Bool.and_eq_true] at h
      simp only [List.map_cons, List.sum_cons, cv_cat h.1, ih h.2, List.length_cons]
      omega
  rw [h1 r h.2]
  exact Nat.le_of_ble_eq_true h.1
def shSz (sh : Sh) : Nat := match sh with
  | (0, ci, _) => (clsA ci).2.2
  | (_, n, _) => n
def szG (G : Gam) : Nat := (G.map shSz).sum
theorem szG_set {G : Gam} {q : Nat} {sh : Sh} (hq : q < G.length) (h : shSz sh = shSz (shp G q)) : szG (G.set q sh) = szG G := by
  unfold szG
  induction G generalizing q with
  | nil => rfl
  | cons a G ih =>
    cases q with
    | zero =>
      simp only [shp, List.getD_cons_zero] at h
      simp only [List.set_cons_zero, List.map_cons, List.sum_cons, h]
    | succ q =>
      simp only [shp, List.getD_cons_succ] at h
      simp only [List.length_cons, Nat.succ_lt_succ_iff] at hq
      simp only [List.set_cons_succ, List.map_cons, List.sum_cons]
      rw [ih hq h]
theorem szG_push {G : Gam} {sh : Sh} : szG (G ++ [sh]) = szG G + shSz sh := by
  simp [szG, List.map_append, List.sum_append]
theorem cls_at : ∀ ci, ci < 13 → cls[ci]? = some (clsA ci) := by
  intro ci h
  unfold clsA
  have hl : ci < cls.length := h
  rw [List.getD_eq_getElem?_getD, List.getElem?_eq_getElem hl]
  rfl
theorem cls_lays {ci : Nat} (h : ci < 13) : ∀ w ∈ u_ws (clsA ci).1 (clsA ci).2.1 (clsA ci).2.2, w ∈ TB := by
  intro w hw
  unfold TB
  refine List.mem_append_left _ ?_
  exact List.mem_flatMap.mpr ⟨clsA ci, List.mem_of_getElem? (cls_at ci h), hw⟩
theorem cls_ty : ∀ ci, ci < 13 → ∀ k, k < (clsA ci).2.2 → parseFieldDescriptor ((clsA ci).2.1 k).2.2.1 = some (tyA ci k) := by decide +kernel
theorem cls_nm : ∀ ci, ci < 13 → ∀ a, a < (clsA ci).2.2 → ∀ b, b < (clsA ci).2.2 → a ≠ b → ((clsA ci).2.1 a).2.1 ≠ ((clsA ci).2.1 b).2.1 := by decide +kernel
theorem in_lnk {M : Nat} (hM : M < nM) {w : Cond} (h : w ∈ lnk M) : w ∈ TB :=
  List.mem_append_right _ (List.mem_append_left _ (List.mem_flatMap.mpr ⟨M, List.mem_range.mpr hM, h⟩))
theorem in_slf {M : Nat} (hM : M < nM) {w : Cond} (h : w ∈ slfW M) : w ∈ TB :=
  List.mem_append_right _ (List.mem_append_right _ (List.mem_append_left _ (List.mem_flatMap.mpr ⟨M, List.mem_range.mpr hM, h⟩)))
theorem in_cdc {M : Nat} (hM : M < nM) : cdc M ∈ TB :=
  List.mem_append_right _ (List.mem_append_right _ (List.mem_append_right _ (List.mem_append_left _ (List.mem_map.mpr ⟨M, List.mem_range.mpr hM, rfl⟩))))
theorem in_inst {w : Cond} (h : w ∈ instW) : w ∈ TB :=
  List.mem_append_right _ (List.mem_append_right _ (List.mem_append_right _ (List.mem_append_right _ (List.mem_append_left _ h))))
theorem in_misc {w : Cond} (h : w ∈ miscW) : w ∈ TB :=
  List.mem_append_right _ (List.mem_append_right _ (List.mem_append_right _ (List.mem_append_right _ (List.mem_append_right _ h))))
def lenS : List Nat := strT.map List.length
def bytS : List (List Int32) := strT.map fun t => t.map Int32.ofNat
/-- the String constants of the class, at ak.1 0, ak.1 1, their bytes at ak.1 10, ak.1 11; two statics of the JDK's -/
def SF (ak : AK) (A : Nat → Prop) (U : State) (H : Heap) : Prop :=
  (∀ j, j < 2 → vk_R "SixCarry$Reader" (sIdx.getD j 0) (stx.getD j "") (ak.1 j) U) ∧ vk_S 2 lenS bytS ak.1 (fun j => ak.1 (10 + j)) A U H ∧ va_Z "java/lang/String" "COMPACT_STRINGS" "Z" (.int 1) A U H ∧ va_Z "jdk/internal/util/Preconditions" "SIOOBE_FORMATTER" "Ljava/util/function/BiFunction;" (va_rf ak.2) A U H
/-- what holds all the time in a method's frame -/
def Cx (p : Program) (R : Room) (s : State) (m : MethodId) (args : Array Value) (meth : Method) (c : Code) (D : va_G) (cs : ClassId × ClassId × ClassId) (ak : AK) (A : Nat → Prop) (M : Nat) : Prop :=
  p.tables.exec = Jvm.exec ∧ c.code = mB M ∧ c.maxLocals = mL M ∧ s.vm.findClass (own M) = some m.cls ∧ (∀ w ∈ cdc M :: TB, w.before args s = true) ∧ meth.name = (mN M).name ∧ (∀ q, s.heap.size ≤ q → A q) ∧ va_K D cls (tys3 cs) s ∧ (∀ w ∈ nestW, va_Nw w s) ∧ va_AO "SixCarry$Moment" s ∧ 1 ≤ R.frames ∧ 100 ≤ R.locals ∧ M < nM ∧ SF ak A s s.heap
/-- what holds of the heap -/
def Wo (D : va_G) (cs : ClassId × ClassId × ClassId) (base : Nat) (A : Nat → Prop) (H0 : Heap) (G : Gam) (σ : Sig) (H : Heap) (locs : List Loc) : Prop :=
  va_P D cls (wF cs base G σ) H ∧ va_D A (wF cs base G σ) ∧ va_S A H0 H locs
