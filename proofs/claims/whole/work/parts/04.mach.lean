/-! A MACHINE OF ITS OWN, pure: cells are numbered 0, 1, 2 .. from the law's start on; G says of each its kind (0 an object: class, references; 1 int[]; 2 byte[]; 3 an array of objects: length, references), σ its ints. -/
abbrev Sh : Type := Nat × Nat × List (Option Nat)
abbrev Gam : Type := List Sh
abbrev Sig : Type := Nat → Nat → Int32
abbrev Out : Type := Option Value × Gam × Sig
abbrev MStp : Type := (Nat × List Value × List Value × Gam × Sig) ⊕ ((Nat × List Value × List Value) ⊕ Option Value)
def shp (G : Gam) (q : Nat) : Sh := G.getD q (9, 0, [])
def sup (σ : Sig) (q : Nat) (f : Nat → Int32) : Sig := fun q' => if q' = q then f else σ q'
def isO (G : Gam) (q ci : Nat) : Bool := (shp G q).1 == 0 && (shp G q).2.1 == ci
def inb (i : Int32) (n : Nat) : Bool := decide (¬ (i < 0 ∨ n ≤ i.toNatClampNeg))
def fnd (pc : Nat) : List (Nat × CI) → Option CI
  | [] => none
  | (k, x) :: l => bif Nat.beq pc k then some x else fnd pc l
def ins (M pc : Nat) : Option CI := fnd pc (cTab.getD M [])
def mInf (M : Nat) : MI := mTab.getD M (⟨"", "", ""⟩, ⟨#[]⟩, 0, none)
def mN (M : Nat) : MethodName := (mInf M).1
def mB (M : Nat) : ByteArray := (mInf M).2.1
def mL (M : Nat) : Nat := (mInf M).2.2.1
def mR (M : Nat) : Option FieldType := (mInf M).2.2.2
def lnk (M : Nat) : List Cond := lTab.getD M []
def own (M : Nat) : String := (mN M).cls
def clsA (ci : Nat) : vw_C := cls.getD ci ("", fT0, 0)
def tyA (ci k : Nat) : FieldType := (ctys.getD ci tT0) k
def isRefT : FieldType → Bool
  | .object _ => true
  | .array _ => true
  | _ => false
def slen (j : Nat) : Nat := (strT.getD j []).length
def schr (j : Nat) (i : Int32) : Int32 := Int32.ofNat ((strT.getD j []).getD i.toNatClampNeg 0)
def cnd (c : Jvm.ClassFile.Cond) (x y : Int32) : Bool := match c with
  | .eq => decide (x = y)
  | .ne => decide (¬ x = y)
  | .lt => decide (x < y)
  | .ge => decide (y ≤ x)
  | .gt => decide (y < x)
  | .le => decide (x ≤ y)
def go (pc : Nat) (L st : List Value) (G : Gam) (σ : Sig) : Option MStp := some (.inl (pc, L, st, G, σ))
def isIR : Value → Bool
  | .int _ => true
  | .ref _ => true
  | .retAddr _ => true
  | _ => false
def rOk (r : List Value) : Bool := Nat.ble r.length 8 && r.all isIR
def cal (M : Nat) (as rest : List Value) : Option MStp := bif Nat.blt M nM && (rOk rest && as.all isIR) then some (.inr (.inl (M, as, rest))) else none
def rtn (r : Option Value) : Option MStp := some (.inr (.inr r))
def w1 (st : List Value) (f : Int32 → List Value → Option MStp) : Option MStp := match st with
  | .int x :: r => f x r
  | _ => none
def w2 (st : List Value) (f : Int32 → Int32 → List Value → Option MStp) : Option MStp := match st with
  | .int y :: .int x :: r => f x y r
  | _ => none
def wr (st : List Value) (f : Nat → List Value → Option MStp) : Option MStp := match st with
  | .ref q :: r => f q r
  | _ => none
def wir (st : List Value) (f : Int32 → Nat → List Value → Option MStp) : Option MStp := match st with
  | .int i :: .ref q :: r => f i q r
  | _ => none
def wiir (st : List Value) (f : Int32 → Int32 → Nat → List Value → Option MStp) : Option MStp := match st with
  | .int x :: .int i :: .ref q :: r => f x i q r
  | _ => none
def wrir (st : List Value) (f : Nat → Int32 → Nat → List Value → Option MStp) : Option MStp := match st with
  | .ref v :: .int i :: .ref q :: r => f v i q r
  | _ => none
def wS (st : List Value) (f : Nat → List Value → Option MStp) : Option MStp := match st with
  | .retAddr q :: r => f q r
  | _ => none
def wiS (st : List Value) (f : Int32 → Nat → List Value → Option MStp) : Option MStp := match st with
  | .int i :: .retAddr q :: r => f i q r
  | _ => none
def wrr (st : List Value) (f : Nat → Nat → List Value → Option MStp) : Option MStp := match st with
  | .ref v :: .ref q :: r => f v q r
  | _ => none
def wcp (st : List Value) (f : Int32 → Int32 → Nat → Int32 → Nat → List Value → Option MStp) : Option MStp := match st with
  | .int n :: .int dp :: .ref b :: .int sp :: .ref a :: r => f n dp b sp a r
  | _ => none
def ldI (L : List Value) (k : Nat) (f : Int32 → Option MStp) : Option MStp := match L[k]? with
  | some (.int x) => f x
  | _ => none
def ldA (L : List Value) (k : Nat) (f : Value → Option MStp) : Option MStp := match L[k]? with
  | some (.ref x) => f (.ref x)
  | some (.retAddr j) => bif Nat.blt j 20 then f (.retAddr j) else none
  | _ => none
def grd (b : Bool) (x : Option MStp) : Option MStp := bif b then x else none
def ofO (x : Option Nat) (f : Nat → Option MStp) : Option MStp := match x with
  | some v => f v
  | none => none
def tsw (pc : Nat) (dflt lo hi : Int) (offs : Array Int) (x : Int32) : Nat := ((pc : Int) + (if x.toInt < lo ∨ hi < x.toInt then dflt else offs.getD (x.toInt - lo).toNat 0)).toNat
def lsw (pc : Nat) (dflt : Int) (ps : Array (Int × Int)) (x : Int32) : Nat := ((pc : Int) + Op.lookupswitch.offset ps.toList dflt x.toInt).toNat
def actV (pc : Nat) (L st : List Value) (G : Gam) (σ : Sig) (aux : List Nat) : Option MStp := match aux with
  | [0, M', n, ci] => wr (st.drop n) fun q r => grd (isO G q ci) (cal M' (.ref q :: (st.take n).reverse) r)
  | [7, M', n] => wS (st.drop n) fun j r => grd (Nat.ble j 1) (cal M' (.retAddr j :: (st.take n).reverse) r)
  | _ => none
def actI (pc : Nat) (L st : List Value) (G : Gam) (σ : Sig) (aux : List Nat) : Option MStp := match aux with
  | [1, M', n] => wr (st.drop n) fun q r => cal M' (.ref q :: (st.take n).reverse) r
  | [2, M', n] => wr (st.drop n) fun q r => cal M' (.ref q :: (st.take n).reverse) r
  | [3] => wr st fun _ r => grd (rOk r) (go (pc + 3) L r G σ)
  | _ => none
def actS (pc : Nat) (L st : List Value) (G : Gam) (σ : Sig) (aux : List Nat) : Option MStp := match aux with
  | [4, M', n] => grd (Nat.ble n st.length) (cal M' (st.take n).reverse (st.drop n))
  | [5, M', n] => grd (Nat.ble n st.length) (cal M' (st.take n).reverse (st.drop n))
  | [6] => wcp st fun n dp b sp a r => grd (rOk r && (shp G a).1 == 1 && (shp G b).1 == 1 && !decide (sp < 0) && !decide (dp < 0) && !decide (n < 0) && Nat.ble (sp.toNatClampNeg + n.toNatClampNeg) (shp G a).2.1 && Nat.ble (dp.toNatClampNeg + n.toNatClampNeg) (shp G b).2.1)
      (go (pc + 3) L r G (sup σ b (va_cpy (σ a) (σ b) sp.toNatClampNeg dp.toNatClampNeg n.toNatClampNeg)))
  | _ => none
def act (M pc : Nat) (L st : List Value) (G : Gam) (σ : Sig) (i : Instr) (aux : List Nat) : Option MStp :=
  match i with
  | .iconst n => go (pc + 1) L (.int (Int32.ofInt n) :: st) G σ
  | .bipush n => go (pc + 2) L (.int (Int8.ofInt n).toInt32 :: st) G σ
  | .sipush n => go (pc + 3) L (.int (Int16.ofInt n).toInt32 :: st) G σ
  | .ldc _ => match aux with
    | [0, v] => go (pc + 2) L (.int (Int32.ofNat v) :: st) G σ
    | [1, j] => grd (Nat.ble j 1) (go (pc + 2) L (.retAddr j :: st) G σ)
    | _ => none
  | .ldc_w _ => match aux with
    | [0, v] => go (pc + 3) L (.int (Int32.ofNat v) :: st) G σ
    | _ => none
  | .iload k => ldI L k fun x => go (pc + 2) L (.int x :: st) G σ
  | .iload_n k => ldI L k.val fun x => go (pc + 1) L (.int x :: st) G σ
  | .aload k => ldA L k fun x => go (pc + 2) L (x :: st) G σ
  | .aload_n k => ldA L k.val fun x => go (pc + 1) L (x :: st) G σ
  | .istore k => w1 st fun x r => grd (Nat.blt k L.length) (go (pc + 2) (L.set k (.int x)) r G σ)
  | .istore_n k => w1 st fun x r => grd (Nat.blt k.val L.length) (go (pc + 1) (L.set k.val (.int x)) r G σ)
  | .astore k => wr st fun x r => grd (Nat.blt k L.length) (go (pc + 2) (L.set k (.ref x)) r G σ)
  | .astore_n k => wr st fun x r => grd (Nat.blt k.val L.length) (go (pc + 1) (L.set k.val (.ref x)) r G σ)
  | .iinc k n => ldI L k fun x => go (pc + 3) (L.set k (.int (x + Int32.ofInt n))) st G σ
  | .iadd => w2 st fun x y r => go (pc + 1) L (.int (x + y) :: r) G σ
  | .isub => w2 st fun x y r => go (pc + 1) L (.int (x - y) :: r) G σ
  | .imul => w2 st fun x y r => go (pc + 1) L (.int (x * y) :: r) G σ
  | .iand => w2 st fun x y r => go (pc + 1) L (.int (x &&& y) :: r) G σ
  | .ior => w2 st fun x y r => go (pc + 1) L (.int (x ||| y) :: r) G σ
  | .ixor => w2 st fun x y r => go (pc + 1) L (.int (x ^^^ y) :: r) G σ
  | .ishl => w2 st fun x y r => go (pc + 1) L (.int (x <<< (y &&& 31)) :: r) G σ
  | .ishr => w2 st fun x y r => go (pc + 1) L (.int (x >>> (y &&& 31)) :: r) G σ
  | .iushr => w2 st fun x y r => go (pc + 1) L (.int (x.toUInt32 >>> (y.toUInt32 &&& Int32.toUInt32 31)).toInt32 :: r) G σ
  | .idiv => w2 st fun x y r => grd (!decide (y = 0)) (go (pc + 1) L (.int (x / y) :: r) G σ)
  | .irem => w2 st fun x y r => grd (!decide (y = 0)) (go (pc + 1) L (.int (x - x / y * y) :: r) G σ)
  | .ineg => w1 st fun x r => go (pc + 1) L (.int (-x) :: r) G σ
  | .i2b => w1 st fun x r => go (pc + 1) L (.int x.toInt8.toInt32 :: r) G σ
  | .i2c => w1 st fun x r => go (pc + 1) L (.int (x.toUInt32 % 65536).toInt32 :: r) G σ
  | .goto _ => match aux with
    | [t] => go t L st G σ
    | _ => none
  | .if_icmp c _ => match aux with
    | [t] => w2 st fun x y r => go (bif cnd c x y then t else pc + 3) L r G σ
    | _ => none
  | .ifCond c _ => match aux with
    | [t] => w1 st fun x r => go (bif cnd c x 0 then t else pc + 3) L r G σ
    | _ => none
  | .tableswitch dflt lo hi offs => w1 st fun x r => go (tsw pc dflt lo hi offs x) L r G σ
  | .lookupswitch dflt ps => w1 st fun x r => go (lsw pc dflt ps x) L r G σ
  | .dup => match st with
    | .int x :: r => go (pc + 1) L (.int x :: .int x :: r) G σ
    | .ref x :: r => go (pc + 1) L (.ref x :: .ref x :: r) G σ
    | _ => none
  | .dup2 => wir st fun i q r => go (pc + 1) L (.int i :: .ref q :: .int i :: .ref q :: r) G σ
  | .pop => w1 st fun _ r => go (pc + 1) L r G σ
  | .getfield _ => match aux with
    | [0, ci, k] => wr st fun q r => grd (isO G q ci) (go (pc + 3) L (.int (σ q k) :: r) G σ)
    | [3] => wS st fun j r => grd (Nat.ble j 1) (go (pc + 3) L (.retAddr (10 + j) :: r) G σ)
    | [4] => wS st fun j r => grd (Nat.ble j 1) (go (pc + 3) L (.int 0 :: r) G σ)
    | [1, ci, k] => wr st fun q r => grd (isO G q ci) (ofO ((shp G q).2.2.getD k none) fun v => go (pc + 3) L (.ref v :: r) G σ)
    | _ => none
  | .getstatic _ => match aux with
    | [0] => go (pc + 3) L (.int 1 :: st) G σ
    | [1] => go (pc + 3) L (.retAddr 20 :: st) G σ
    | _ => none
  | .putfield _ => match aux with
    | [0, ci, k] => wir st fun x q r => grd (isO G q ci) (go (pc + 3) L r G (sup σ q (upd (σ q) k x)))
    | [2, ci, k] => wir st fun x q r => grd (isO G q ci && (decide (x = 0) || decide (x = 1))) (go (pc + 3) L r G (sup σ q (upd (σ q) k x)))
    | [1, ci, k] => wrr st fun v q r => grd (isO G q ci && Nat.blt k (shp G q).2.2.length) (go (pc + 3) L r (G.set q (0, ci, (shp G q).2.2.set k (some v))) σ)
    | _ => none
  | .iaload => wir st fun i q r => grd ((shp G q).1 == 1 && inb i (shp G q).2.1) (go (pc + 1) L (.int (σ q i.toNatClampNeg) :: r) G σ)
  | .baload => match aux with
    | [] => wir st fun i q r => grd ((shp G q).1 == 2 && inb i (shp G q).2.1) (go (pc + 1) L (.int (σ q i.toNatClampNeg) :: r) G σ)
    | [1] => wiS st fun i j r => grd (Nat.ble 10 j && Nat.ble j 11 && inb i (slen (j - 10))) (go (pc + 1) L (.int (schr (j - 10) i) :: r) G σ)
    | _ => none
  | .aaload => wir st fun i q r => grd ((shp G q).1 == 3 && inb i (shp G q).2.1) (ofO ((shp G q).2.2.getD i.toNatClampNeg none) fun v => go (pc + 1) L (.ref v :: r) G σ)
  | .iastore => wiir st fun x i q r => grd ((shp G q).1 == 1 && inb i (shp G q).2.1) (go (pc + 1) L r G (sup σ q (upd (σ q) i.toNatClampNeg x)))
  | .bastore => wiir st fun x i q r => grd ((shp G q).1 == 2 && inb i (shp G q).2.1) (go (pc + 1) L r G (sup σ q (upd (σ q) i.toNatClampNeg (vp_nar .byte x))))
  | .aastore => wrir st fun v i q r => grd ((shp G q).1 == 3 && inb i (shp G q).2.1 && isO G v 4 && Nat.blt i.toNatClampNeg (shp G q).2.2.length) (go (pc + 1) L r (G.set q (3, (shp G q).2.1, (shp G q).2.2.set i.toNatClampNeg (some v))) σ)
  | .arraylength => match aux with
    | [1] => wS st fun j r => grd (Nat.ble 10 j && Nat.ble j 11) (go (pc + 1) L (.int (Int32.ofNat (slen (j - 10))) :: r) G σ)
    | [] => wr st fun q r => grd ((shp G q).1 == 1 || (shp G q).1 == 2) (go (pc + 1) L (.int (Int32.ofNat (shp G q).2.1) :: r) G σ)
    | _ => none
  | .new _ => match aux with
    | [ci] => go (pc + 3) L (.ref G.length :: st) (G ++ [(0, ci, List.replicate (clsA ci).2.2 none)]) (sup σ G.length (fun _ => 0))
    | _ => none
  | .newarray t => w1 st fun n r => grd (!decide (n < 0) && Nat.ble n.toNatClampNeg 10000 && (decide (t = .int) || decide (t = .byte))) (go (pc + 2) L (.ref G.length :: r) (G ++ [(bif decide (t = .int) then 1 else 2, n.toNatClampNeg, [])]) (sup σ G.length (fun _ => 0)))
  | .anewarray _ => match aux with
    | [4] => w1 st fun n r => grd (!decide (n < 0) && Nat.ble n.toNatClampNeg 10000) (go (pc + 3) L (.ref G.length :: r) (G ++ [(3, n.toNatClampNeg, List.replicate n.toNatClampNeg none)]) (sup σ G.length (fun _ => 0)))
    | _ => none
  | .invokevirtual _ => actV pc L st G σ aux
  | .invokespecial _ => actI pc L st G σ aux
  | .invokestatic _ => actS pc L st G σ aux
  | .ireturn => match st with
    | [.int v] => grd (decide (mR M = some .int) || (decide (mR M = some .boolean) && (decide (v = 0) || decide (v = 1))) || (decide (mR M = some .char) && decide (narrow .char (.int v) = .int v)) || (decide (mR M = some .byte) && decide (narrow .byte (.int v) = .int v))) (rtn (some (.int v)))
    | _ => none
  | .areturn => match st with
    | [.ref v] => rtn (some (.ref v))
    | _ => none
  | .return_ => match st with
    | [] => rtn none
    | _ => none
  | _ => none
def ent (M : Nat) (as : List Value) : List Value := as ++ List.replicate (mL M - as.length) .null
def nxt (K : Nat → Nat → Nat → List Value → List Value → Gam → Sig → Option Out) (d M pc : Nat) (L : List Value) (G : Gam) (σ : Sig) : Option MStp → Option Out
  | none => none
  | some (.inl (pc', L', st', G', σ')) => K d M pc' L' st' G' σ'
  | some (.inr (.inl (M', as, rest))) => match d with
    | 0 => none
    | d' + 1 => (K d' M' 0 (ent M' as) [] G σ).bind fun o => K (d' + 1) M (pc + 3) L (o.1.toList ++ rest) o.2.1 o.2.2
  | some (.inr (.inr r)) => some (r, G, σ)
def exec : Nat → Nat → Nat → Nat → List Value → List Value → Gam → Sig → Option Out
  | 0, _, _, _, _, _, _, _ => none
  | n + 1, d, M, pc, L, st, G, σ => match ins M pc with
    | none => none
    | some (i, _, aux) => nxt (exec n) d M pc L G σ (act M pc L st G σ i aux)
theorem nxt_mono {K K' : Nat → Nat → Nat → List Value → List Value → Gam → Sig → Option Out} (h : ∀ d M pc L st G σ o, K d M pc L st G σ = some o → K' d M pc L st G σ = some o) {d M pc : Nat} {L : List Value} {G : Gam} {σ : Sig} {x : Option MStp} {o : Out} (hx : nxt K d M pc L G σ x = some o) : nxt K' d M pc L G σ x = some o := by
  match x, hx with
  | some (.inl (pc', L', st', G', σ')), hx => exact h _ _ _ _ _ _ _ _ hx
  | some (.inr (.inl (M', as, rest))), hx =>
    match d, hx with
    | d' + 1, hx =>
      simp only [nxt] at hx ⊢
      cases hc : K d' M' 0 (ent M' as) [] G σ with
      | none => rw [hc] at hx; cases hx
      | some o1 =>
        rw [hc] at hx
        rw [h _ _ _ _ _ _ _ _ hc]
        exact h _ _ _ _ _ _ _ _ hx
  | some (.inr (.inr r)), hx => exact hx
theorem exec_mono : ∀ n d M pc L st G σ o, exec n d M pc L st G σ = some o → exec (n + 1) d M pc L st G σ = some o := by
  intro n
  induction n with
  | zero => intro d M pc L st G σ o h; cases h
  | succ n ih =>
    intro d M pc L st G σ o h
    rw [exec] at h ⊢
    split at h
    · cases h
    · exact nxt_mono ih h
theorem exec_le {n k d M pc : Nat} {L st : List Value} {G : Gam} {σ : Sig} {o : Out} (hk : n ≤ k) (h : exec n d M pc L st G σ = some o) : exec k d M pc L st G σ = some o := by
  induction hk with
  | refl => exact h
  | step _ ih => exact exec_mono _ _ _ _ _ _ _ _ _ ih
/-- the answer, however long it takes -/
noncomputable def Ex (d M pc : Nat) (L st : List Value) (G : Gam) (σ : Sig) : Option Out :=
  @dite (Option Out) (∃ o n, exec n d M pc L st G σ = some o) (Classical.propDecidable _) (fun h => some (Classical.choose h)) (fun _ => none)
theorem Ex_iff {d M pc : Nat} {L st : List Value} {G : Gam} {σ : Sig} {o : Out} : Ex d M pc L st G σ = some o ↔ ∃ n, exec n d M pc L st G σ = some o := by
  unfold Ex
  split
  · rename_i h
    constructor
    · intro e
      cases e
      exact Classical.choose_spec h
    · intro ⟨n, hn⟩
      obtain ⟨k, hk⟩ := Classical.choose_spec h
      have h1 := exec_le (Nat.le_max_left n k) hn
      have h2 := exec_le (Nat.le_max_right n k) hk
      rw [h1] at h2
      exact h2.symm
  · rename_i h
    constructor
    · intro e; cases e
    · intro ⟨n, hn⟩
      exact absurd ⟨o, n, hn⟩ h
theorem Ex_nxt {d M pc : Nat} {L st : List Value} {G : Gam} {σ : Sig} {i : Instr} {len : Nat} {aux : List Nat} (hi : ins M pc = some (i, len, aux)) : Ex d M pc L st G σ = nxt Ex d M pc L G σ (act M pc L st G σ i aux) := by
  have key : ∀ (x : Option MStp) (o : Out), (∃ n, nxt (exec n) d M pc L G σ x = some o) ↔ nxt Ex d M pc L G σ x = some o := by
    intro x o
    match x with
    | none => exact ⟨fun ⟨_, h⟩ => h, fun h => ⟨0, h⟩⟩
    | some (.inl (pc', L', st', G', σ')) => exact Ex_iff.symm
    | some (.inr (.inr r)) => exact ⟨fun ⟨_, h⟩ => h, fun h => ⟨0, h⟩⟩
    | some (.inr (.inl (M', as, rest))) =>
      match d with
      | 0 => exact ⟨fun ⟨_, h⟩ => h, fun h => ⟨0, h⟩⟩
      | d' + 1 =>
        simp only [nxt]
        constructor
        · intro ⟨n, h⟩
          cases hc : exec n d' M' 0 (ent M' as) [] G σ with
          | none => rw [hc] at h; cases h
          | some o1 =>
            rw [hc] at h
            rw [Ex_iff.mpr ⟨n, hc⟩]
            exact Ex_iff.mpr ⟨n, h⟩
        · intro h
          cases hc : Ex d' M' 0 (ent M' as) [] G σ with
          | none => rw [hc] at h; cases h
          | some o1 =>
            rw [hc] at h
            obtain ⟨n, hn⟩ := Ex_iff.mp hc
            obtain ⟨k, hk⟩ := Ex_iff.mp h
            refine ⟨max n k, ?_⟩
            rw [exec_le (Nat.le_max_left n k) hn]
            exact exec_le (Nat.le_max_right n k) hk
  apply Option.ext
  intro o
  rw [Ex_iff, ← key]
  constructor
  · intro ⟨n, h⟩
    cases n with
    | zero => cases h
    | succ n =>
      rw [exec, hi] at h
      exact ⟨n, h⟩
  · intro ⟨n, h⟩
    refine ⟨n + 1, ?_⟩
    rw [exec, hi]
    exact h
theorem nxt_grd {K : Nat → Nat → Nat → List Value → List Value → Gam → Sig → Option Out} {d M pc : Nat} {L : List Value} {G : Gam} {σ : Sig} {b : Bool} {x : Option MStp} : nxt K d M pc L G σ (grd b x) = bif b then nxt K d M pc L G σ x else none := by
  cases b <;> rfl
theorem Ex_if {d M a b : Nat} {L st : List Value} {G : Gam} {σ : Sig} {c : Bool} : Ex d M (bif c then a else b) L st G σ = bif c then Ex d M a L st G σ else Ex d M b L st G σ := by
  cases c <;> rfl
