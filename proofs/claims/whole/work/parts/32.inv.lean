/-! L3: what always holds of the class's world (cells 1 to 26) -/
def pr (σ : Sig) : Nat := (σ 8 0).toNatClampNeg
def np (σ : Sig) : Nat := 2 * pr σ
def sz (σ : Sig) : Nat := (σ 2 0).toNatClampNeg
def wl (σ : Sig) : Nat := (σ 20 0).toNatClampNeg
def bw (x : Int32) (a b : Int) : Prop := a ≤ x.toInt ∧ x.toInt ≤ b
def paced (σ : Sig) (l : Nat) : Prop := σ 21 l = 21 ∨ σ 21 l = 22
/-- RPN of a law: E of each line, and B, if there is one -/
abbrev LW : Type := List (List Int32 × List Int32)
def flt : List (List Int32 × List Int32) → List Int32
  | [] => []
  | (e, b) :: r => e ++ (if b = [] then [-60] else b ++ [-18]) ++ flt r
def tot : List (List Int32 × List Int32) → List Int32
  | [] => []
  | (e, b) :: r => e ++ b ++ tot r
def clsLaw (f : Nat → Int32) (lines size : Int32) (ls : List (List Int32 × List Int32)) : Prop :=
  lines = nI ls.length ∧ size = nI (flt ls).length ∧ ∀ i, i < (flt ls).length → f i = (flt ls).getD i 0
/-- kinds on the stack: 0 a number, 1 a truth, 2 a number that isn't 0; at most m of them -/
def chk1 (m : Nat) (c : Int32) (s : List Nat) : Option (List Nat) :=
  if -16 < c then (if s.length < m then some ((if 0 < c then 2 else 0) :: s) else none)
  else match s with
    | [] => none
    | y :: s0 => if c = -21 then (if y = 1 then some (1 :: s0) else none)
      else match s0 with
        | [] => none
        | x :: s1 => if (c = -44 ∨ c = -46 ∨ c = -43) ∧ x ≠ 1 ∧ y ≠ 1 then some (0 :: s1)
          else if c = -48 ∧ x ≠ 1 ∧ y = 2 then some (0 :: s1)
          else if (c = -61 ∨ c = -62 ∨ c = -63) ∧ x ≠ 1 ∧ y ≠ 1 then some (1 :: s1)
          else if (c = -20 ∨ c = -19) ∧ x = 1 ∧ y = 1 then some (1 :: s1) else none
def chk (m : Nat) : List Int32 → List Nat → Option (List Nat)
  | [], s => some s
  | c :: r, s => (chk1 m c s).bind (chk m r)
def okL (ls : List (List Int32 × List Int32)) : Prop := ls.length ≤ 16 ∧ (flt ls).length ≤ 400 ∧ (tot ls).length ≤ 400 ∧ ∀ x ∈ ls, (∃ t, t ≠ 1 ∧ chk 30 x.1 [] = some [t]) ∧ (x.2 = [] ∨ chk 30 x.2 [] = some [1])
/-- only facts that the law may ask for: j = 0 who bears, j = 1 who tires -/
def alw (j k : Nat) : Prop := k < 15 ∧ (j = 0 → k ≤ 10) ∧ (j = 1 → k ≠ 10)
def okFa (j : Nat) (ls : LW) : Prop := ∀ x ∈ ls, ∀ c, c ∈ x.1 ∨ c ∈ x.2 → -16 < c → c < 0 → alw j (-1 - c).toNatClampNeg
def wi (B T : LW) (σ : Sig) : Nat → Prop
  | 0 => bw (σ 1 0) 1 999
  | 1 => σ 1 1 = 0 ∨ σ 1 1 = 1
  | 2 => bw (σ 1 3) 0 1000
  | 3 => bw (σ 1 4) 0 1000
  | 4 => σ 8 0 = nI (pr σ) ∧ 2 ≤ pr σ ∧ pr σ ≤ 4
  | 5 => σ 2 0 = nI (sz σ) ∧ sz σ ≤ 8
  | 6 => ∀ p, p < 8 → σ 9 p = -1 ∨ (p < np σ ∧ ∃ b, b < sz σ ∧ σ 9 p = nI b)
  | 7 => ∀ p q, p < 8 → q < 8 → σ 9 p = σ 9 q → σ 9 p ≠ -1 → p = q
  | 8 => ∀ p, p < 8 → bw (σ 10 p) 0 6
  | 9 => ∀ p, p < 8 → σ 11 p = 0 ∨ σ 11 p = 1
  | 10 => ∀ p, p < 8 → bw (σ 13 p) (-1) 999
  | 11 => ∀ b, b < sz σ → bw (σ 3 b) 40 80
  | 12 => ∀ b, b < 8 → bw (σ 4 b) 0 300
  | 13 => ∀ b, b < 8 → bw (σ 7 b) 0 1000
  | 14 => bw (σ 25 0) 0 150
  | 15 => σ 20 0 = nI (wl σ) ∧ wl σ ≤ 40
  | 16 => 0 ≤ (σ 1 9).toInt ∧ (σ 1 9).toInt ≤ wl σ
  | 17 => bw (σ 1 10) 0 200
  | 18 => ∀ l, l < wl σ → (paced σ l ∧ bw (σ 22 l) 1 200 ∧ bw (σ 23 l) (-9) 9 ∧ bw (σ 24 l) 0 1) ∨ (σ 21 l = 23 ∧ bw (σ 22 l) 1 99) ∨ (σ 21 l = 24 ∧ bw (σ 22 l) 0 7 ∧ ∃ b, b < sz σ ∧ σ 23 l = nI b) ∨ (σ 21 l = 4 ∧ bw (σ 22 l) 0 7 ∧ bw (σ 23 l) 0 6)
  | 19 => (σ 20 1 = -1 ∧ ∀ l, l < wl σ → ¬ paced σ l) ∨ (∃ m, m < wl σ ∧ σ 20 1 = nI m ∧ paced σ m ∧ ∀ l, m < l → l < wl σ → ¬ paced σ l)
  | 20 => clsLaw (σ 15) (σ 14 0) (σ 14 1) B ∧ okL B ∧ okFa 0 B
  | 21 => clsLaw (σ 18) (σ 17 0) (σ 17 1) T ∧ okL T ∧ okFa 1 T
  | 22 => ∀ p, p < 8 → bw (σ 12 p) 1 9
  | _ => True
def WI (B T : LW) (σ : Sig) : Prop := ∀ i, wi B T σ i
/-- the model's cells in σ tell the class's world in ω -/
def mop (c : Int32) : Int32 :=
  if 0 ≤ c then 0 else if -16 < c then 1 else if c = -44 then 2 else if c = -46 then 3 else if c = -43 then 4 else if c = -48 then 5 else if c = -61 then 6 else if c = -62 then 7 else if c = -63 then 8 else if c = -21 then 9 else if c = -20 then 10 else 11
def modLaw (lf lw lt op ar : Nat → Int32) (lb cb : Nat) (ls : List (List Int32 × List Int32)) : Prop :=
  (∀ k, k < ls.length → lf (lb + k) = nI (tot (ls.take k)).length ∧ lw (lb + k) = nI ((tot (ls.take k)).length + (ls.getD k ([], [])).1.length) ∧ lt (lb + k) = nI (tot (ls.take (k + 1))).length)
  ∧ ∀ i, i < (tot ls).length → op (cb + i) = mop ((tot ls).getD i 0) ∧ (0 ≤ (tot ls).getD i 0 → ar (cb + i) = (tot ls).getD i 0) ∧ (-16 < (tot ls).getD i 0 → (tot ls).getD i 0 < 0 → ar (cb + i) = -1 - (tot ls).getD i 0)
def mway (k : Int32) : Int32 := if k = 4 then 4 else k - 21
def mr (B T : LW) (ω σ : Sig) : Nat → Prop
  | 0 => σ 112 6 = ω 1 0 - 400
  | 1 => σ 112 7 = ω 8 0 - 3
  | 2 => σ 112 8 = ω 1 2 - 50
  | 3 => σ 112 9 = ω 1 3 - 100
  | 4 => σ 112 10 = ω 1 1
  | 5 => σ 112 11 = ω 1 4
  | 6 => σ 112 12 = ω 2 0
  | 7 => σ 113 0 = ω 1 6
  | 8 => σ 113 1 = ω 1 5
  | 9 => σ 113 2 = ω 25 0
  | 10 => σ 113 3 = ω 1 7
  | 11 => σ 113 4 = ω 1 8
  | 12 => σ 113 5 = ω 1 9
  | 13 => σ 113 6 = ω 1 10
  | 14 => ∀ p, p < 8 → σ 113 (7 + p) = ω 9 p + 1
  | 15 => ∀ p, p < 8 → σ 113 (15 + p) = ω 10 p
  | 16 => ∀ p, p < 8 → σ 113 (23 + p) = ω 7 p
  | 17 => ∀ b, b < 8 → σ 116 b = ω 3 b
  | 18 => ∀ b, b < 8 → σ 117 b = ω 4 b
  | 19 => ∀ b, b < 8 → σ 118 b = ω 5 b
  | 20 => ∀ b, b < 8 → σ 119 b = ω 6 b
  | 21 => ∀ b, b < 8 → σ 120 b = ω 11 b
  | 22 => ∀ b, b < 8 → σ 121 b = ω 12 b - 1
  | 23 => ∀ b, b < 8 → σ 122 b = ω 13 b + 1
  | 24 => σ 112 43 = ω 20 0
  | 25 => ∀ l, l < wl ω → σ 133 (4 * l) = mway (ω 21 l) ∧ σ 133 (4 * l + 1) = ω 22 l ∧ (ω 21 l ≠ 23 → σ 133 (4 * l + 2) = ω 23 l) ∧ (paced ω l → σ 133 (4 * l + 3) = ω 24 l)
  | 26 => ∀ i, i < 4 * (ω 25 0).toNatClampNeg → σ 123 i = ω 26 i
  | 27 => σ 126 0 = ω 14 0
  | 28 => σ 126 1 = ω 17 0
  | 29 => modLaw (σ 127) (σ 128) (σ 129) (σ 130) (σ 131) 0 0 B
  | 30 => modLaw (σ 127) (σ 128) (σ 129) (σ 130) (σ 131) 16 400 T
  | _ => True
def MR (B T : LW) (ω σ : Sig) : Prop := ∀ i, mr B T ω σ i
