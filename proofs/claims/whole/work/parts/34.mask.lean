/-! L3: sets of places as bits -/
def isM (x : Int32) (h : Nat → Bool) : Prop := ∃ m : Nat, m < 256 ∧ x = nI m ∧ ∀ p, p < 8 → m.testBit p = h p
theorem M_bits {m : Nat} (hm : m < 256) {p : Nat} (hp : 8 ≤ p) : m.testBit p = false :=
  Nat.testBit_lt_two_pow (Nat.lt_of_lt_of_le hm (Nat.pow_le_pow_right (n := 2) (by decide) hp))
theorem M_0 : isM 0 (fun _ => false) := ⟨0, by omega, rfl, fun p _ => Nat.zero_testBit p⟩
theorem M_nor (a b : Nat) : nI a ||| nI b = nI (a ||| b) := by
  apply Int32.toBitVec_inj.mp
  apply BitVec.eq_of_getLsbD_eq
  intro i hi
  simp [nI]
theorem M_or {x y : Int32} {h k : Nat → Bool} (hx : isM x h) (hy : isM y k) : isM (x ||| y) (fun p => h p || k p) := by
  obtain ⟨m, a, e, f⟩ := hx
  obtain ⟨n, b, e', f'⟩ := hy
  refine ⟨m ||| n, Nat.or_lt_two_pow (n := 8) a b, by rw [e, e', M_nor], fun p hp => ?_⟩
  rw [Nat.testBit_or, f p hp, f' p hp]
theorem M_shl : ∀ p, p < 8 → (1 : Int32) <<< (nI p &&& 31) = nI (2 ^ p) := by decide
theorem M_1 {p : Nat} (hp : p < 8) : isM ((1 : Int32) <<< (nI p &&& 31)) (fun q => decide (q = p)) := by
  refine ⟨2 ^ p, Nat.pow_lt_pow_right (a := 2) (by decide) hp, M_shl p hp, fun q _ => ?_⟩
  rw [Nat.testBit_two_pow]
  exact decide_eq_decide.mpr eq_comm
theorem M_ext {x : Int32} {h k : Nat → Bool} (hx : isM x h) (e : ∀ p, p < 8 → h p = k p) : isM x k := by
  obtain ⟨m, a, b, f⟩ := hx
  exact ⟨m, a, b, fun p hp => (f p hp).trans (e p hp)⟩
theorem M_add {x : Int32} {h : Nat → Bool} {p : Nat} (hx : isM x h) (hp : p < 8) : isM (x ||| (1 <<< (nI p &&& 31))) (fun q => h q || decide (q = p)) := M_or hx (M_1 hp)
theorem M_or0 (x : Int32) : x ||| 0 = x := by
  apply Int32.toBitVec_inj.mp
  simp
theorem M_inj {x y : Int32} {h k : Nat → Bool} (hx : isM x h) (hy : isM y k) (e : ∀ p, p < 8 → h p = k p) : x = y := by
  obtain ⟨m, a, b, f⟩ := hx
  obtain ⟨n, a', b', f'⟩ := hy
  have : m = n := by
    apply Nat.eq_of_testBit_eq
    intro i
    by_cases hi : i < 8
    · rw [f i hi, f' i hi, e i hi]
    · rw [M_bits a (by omega), M_bits a' (by omega)]
  rw [b, b', this]
theorem M_s31 : ∀ p, p < 32 → ((nI p &&& 31).toBitVec.smod 32).toNat = p := by decide
theorem M_t {x : Int32} {h : Nat → Bool} {p : Nat} (hx : isM x h) (hp : p < 8) : (x >>> (nI p &&& 31)) &&& 1 = if h p = true then 1 else 0 := by
  obtain ⟨m, a, e, f⟩ := hx
  rw [e, pk_shrN (by omega) _ p (M_s31 p (by omega)), pk_andN (m := 1) (Nat.lt_of_le_of_lt (Nat.div_le_self m (2 ^ p)) (by omega)) 1 rfl]
  rw [← f p hp, Nat.testBit_eq_decide_div_mod_eq]
  rcases Nat.mod_two_eq_zero_or_one (m / 2 ^ p) with h | h
  · rw [show 2 ^ 1 = 2 from rfl, h]; rfl
  · rw [show 2 ^ 1 = 2 from rfl, h]; rfl
theorem M_t1 {x : Int32} {h : Nat → Bool} {p : Nat} (hx : isM x h) (hp : p < 8) : ((x >>> (nI p &&& 31)) &&& 1 = 1) = (h p = true) := by
  rw [M_t hx hp]; cases h p <;> simp
theorem M_t0 {x : Int32} {h : Nat → Bool} {p : Nat} (hx : isM x h) (hp : p < 8) : ((x >>> (nI p &&& 31)) &&& 1 = 0) = (h p = false) := by
  rw [M_t hx hp]; cases h p <;> simp
theorem M_z {x : Int32} {h : Nat → Bool} (hx : isM x h) : (x = 0) = (∀ p, p < 8 → h p = false) := by
  refine propext ⟨fun e p hp => ?_, fun e => M_inj hx M_0 e⟩
  rw [← M_t0 hx hp, e]
  revert p; decide
theorem M_bit (k : Nat) {i : Nat} (hi : i < 32) : (nI k).toBitVec.getLsbD i = k.testBit i := by
  show (BitVec.ofNat 32 k).getLsbD i = _
  rw [BitVec.getLsbD_ofNat, decide_eq_true hi, Bool.true_and]
theorem M_dif {x y : Int32} {h k : Nat → Bool} (hx : isM x h) (hy : isM y k) : isM (x &&& (y ^^^ (-1))) (fun p => h p && !k p) := by
  obtain ⟨m, a, e, f⟩ := hx
  obtain ⟨n, b, e', f'⟩ := hy
  have hm : m &&& (255 ^^^ n) < 256 := Nat.and_lt_two_pow (n := 8) m (Nat.xor_lt_two_pow (n := 8) (by decide) b)
  refine ⟨m &&& (255 ^^^ n), hm, ?_, fun p hp => ?_⟩
  · rw [e, e']
    apply Int32.toBitVec_inj.mp
    apply BitVec.eq_of_getLsbD_eq
    intro i hi
    have h255 : Nat.testBit 255 i = decide (i < 8) := Nat.testBit_two_pow_sub_one (n := 8) (i := i)
    have hx2 : (nI m &&& (nI n ^^^ (-1))).toBitVec.getLsbD i = (m.testBit i && !n.testBit i) := by
      have : ((-1 : Int32).toBitVec).getLsbD i = true := by
        have : (-1 : Int32).toBitVec = BitVec.allOnes 32 := by decide
        rw [this, BitVec.getLsbD_allOnes]; exact decide_eq_true hi
      rw [Int32.toBitVec_and, Int32.toBitVec_xor, BitVec.getLsbD_and, BitVec.getLsbD_xor, M_bit m hi, M_bit n hi, this, Bool.xor_true]
    have hx3 : (nI (m &&& (255 ^^^ n))).toBitVec.getLsbD i = (m.testBit i && (decide (i < 8) ^^ n.testBit i)) := by
      rw [M_bit _ hi, Nat.testBit_and, Nat.testBit_xor, h255]
    rw [hx2, hx3]
    by_cases h8 : i < 8
    · simp [h8]
    · rw [M_bits a (by omega)]; simp
  · have h255 : Nat.testBit 255 p = decide (p < 8) := Nat.testBit_two_pow_sub_one (n := 8) (i := p)
    rw [Nat.testBit_and, Nat.testBit_xor, f p hp, f' p hp, h255]
    simp [hp]
