/-! L3: feed -/
def by8 (x : Int32) : Int32 := x.toInt8.toInt32
theorem by8_i (x : Int32) : (by8 x).toInt = x.toInt.bmod 256 := by
  unfold by8; rw [Int8.toInt_toInt32, Int32.toInt_toInt8]
theorem by_n (x : Int32) : ∃ m : Nat, m < 256 ∧ x &&& 255 = nI m ∧ by8 x = by8 (nI m) := by
  refine ⟨x.toBitVec.toNat % 256, Nat.mod_lt _ (by decide), ?_, ?_⟩
  · apply Int32.toBitVec_inj.mp
    apply BitVec.eq_of_getLsbD_eq
    intro i hi
    have h255 : Nat.testBit 255 i = decide (i < 8) := Nat.testBit_two_pow_sub_one (n := 8) (i := i)
    have e255 : ((255 : Int32).toBitVec).getLsbD i = Nat.testBit 255 i := M_bit 255 hi
    rw [M_bit _ hi, Int32.toBitVec_and, BitVec.getLsbD_and, e255, h255, show (256 : Nat) = 2 ^ 8 from rfl, Nat.testBit_mod_two_pow, BitVec.testBit_toNat, Bool.and_comm]
  · apply Int32.toInt_inj.mp
    rw [by8_i, by8_i, nI_i (by omega)]
    have e : x.toInt = (x.toBitVec.toNat : Int).bmod (2 ^ 32) := BitVec.toInt_eq_toNat_bmod x.toBitVec
    rw [e, Int.bmod_bmod_of_dvd (by decide)]
    have : ((x.toBitVec.toNat % 256 : Nat) : Int) = (x.toBitVec.toNat : Int) % 256 := by omega
    rw [this]; exact (Int.emod_bmod (x := (x.toBitVec.toNat : Int)) (n := 256)).symm
def by4 (a : Int32) : Nat → Int32
  | 0 => a >>> ((24 : Int32) &&& 31)
  | 1 => a >>> ((16 : Int32) &&& 31)
  | 2 => a >>> ((8 : Int32) &&& 31)
  | _ => a >>> ((0 : Int32) &&& 31)
theorem c_take1 (d : Nat) {σ : Sig} (a s : Int32) {n : Nat} (h : σ 53 0 = nI n) (hn : n < 400) (hs : ¬ s < 0) : Ex d 40 3 [.ref 53, .int a, .int s] [] G0 σ = Ex d 40 3 [.ref 53, .int a, .int (s + (-8))] [] G0 (pt (pt σ 62 n (by8 (a >>> (s &&& 31)))) 53 0 (nI (n + 1))) := by
  rw [b40_3, if_neg hs, b40_7]
  have q : ¬ (400 : Int32) ≤ σ 53 0 := by
    rw [h]
    have : ((400 : Int32) ≤ nI n) = (400 ≤ n) := nJ_le (a := 400) (by omega) (by omega)
    rw [this]; omega
  rw [if_neg q, h, inb_n hn (by omega), if_pos rfl, nI_c (by omega), pk_vb, pt_q (by decide), h, nI_s]
  rfl
theorem c_take (d : Nat) {σ : Sig} (a : Int32) {n : Nat} (h : σ 53 0 = nI n) (hn : n + 4 ≤ 400) : ∃ σ', Ex d 40 0 [.ref 53, .int a, .null] [] G0 σ = some (none, G0, σ') ∧ Fr [62] [(53, 0)] σ σ' ∧ σ' 53 0 = nI (n + 4) ∧ (∀ i, i < n → σ' 62 i = σ 62 i) ∧ ∀ j, j < 4 → σ' 62 (n + j) = by8 (by4 a j) := by
  have s1 : (24 : Int32) + (-8) = 16 := by decide
  have s2 : (16 : Int32) + (-8) = 8 := by decide
  have s3 : (8 : Int32) + (-8) = 0 := by decide
  rw [b40_0, c_take1 d a 24 h (by omega) (by decide), s1, c_take1 d a 16 (n := n + 1) pt_e (by omega) (by decide), s2, c_take1 d a 8 (n := n + 1 + 1) pt_e (by omega) (by decide), s3, c_take1 d a 0 (n := n + 1 + 1 + 1) pt_e (by omega) (by decide), b40_3, if_pos (by decide), b40_46]
  refine ⟨_, rfl, ?_, pt_e, fun i hi => ?_, fun j hj => ?_⟩
  · exact Fr_p (Fr_p (Fr_p (Fr_p (Fr_p (Fr_p (Fr_p (Fr_p Fr_r (Or.inl (by simp))) (Or.inr (by simp))) (Or.inl (by simp))) (Or.inr (by simp))) (Or.inl (by simp))) (Or.inr (by simp))) (Or.inl (by simp))) (Or.inr (by simp))
  · rw [pt_q (by decide), pt_k (by omega), pt_q (by decide), pt_k (by omega), pt_q (by decide), pt_k (by omega), pt_q (by decide), pt_k (by omega)]
  · have : j = 0 ∨ j = 1 ∨ j = 2 ∨ j = 3 := by omega
    rcases this with e | e | e | e <;> subst e
    · rw [pt_q (by decide), pt_k (by omega), pt_q (by decide), pt_k (by omega), pt_q (by decide), pt_k (by omega), pt_q (by decide)]; exact pt_e
    · rw [pt_q (by decide), pt_k (by omega), pt_q (by decide), pt_k (by omega), pt_q (by decide), pt_e]; rfl
    · rw [pt_q (by decide), pt_k (by omega), pt_q (by decide), pt_e]; rfl
    · rw [pt_q (by decide), pt_e]; rfl
theorem m_types1 (d : Nat) {σ : Sig} (a s : Int32) {n : Nat} (h : σ 112 22 = nI n) (hn : n < 400) (hs : ¬ s < 0) : Ex d 170 3 [.ref 112, .int a, .int s] [] G0 σ = Ex d 170 3 [.ref 112, .int a, .int (s + (-8))] [] G0 (pt (pt σ 124 n ((a >>> (s &&& 31)) &&& 255)) 112 22 (nI (n + 1))) := by
  rw [b170_3, if_neg hs, h, inb_n hn (by omega), if_pos rfl, nI_c (by omega), b170_23, pt_q (by decide), h, nI_s]
theorem m_types (d : Nat) {σ : Sig} (a : Int32) {n : Nat} (h : σ 112 22 = nI n) (hn : n + 4 ≤ 400) : ∃ σ', Ex d 170 0 [.ref 112, .int a, .null] [] G0 σ = some (none, G0, σ') ∧ Fr [124] [(112, 22)] σ σ' ∧ σ' 112 22 = nI (n + 4) ∧ (∀ i, i < n → σ' 124 i = σ 124 i) ∧ ∀ j, j < 4 → σ' 124 (n + j) = by4 a j &&& 255 := by
  have s1 : (24 : Int32) + (-8) = 16 := by decide
  have s2 : (16 : Int32) + (-8) = 8 := by decide
  have s3 : (8 : Int32) + (-8) = 0 := by decide
  rw [b170_0, m_types1 d a 24 h (by omega) (by decide), s1, m_types1 d a 16 (n := n + 1) pt_e (by omega) (by decide), s2, m_types1 d a 8 (n := n + 1 + 1) pt_e (by omega) (by decide), s3, m_types1 d a 0 (n := n + 1 + 1 + 1) pt_e (by omega) (by decide), b170_3, if_pos (by decide)]
  refine ⟨_, rfl, ?_, pt_e, fun i hi => ?_, fun j hj => ?_⟩
  · exact Fr_p (Fr_p (Fr_p (Fr_p (Fr_p (Fr_p (Fr_p (Fr_p Fr_r (Or.inl (by simp))) (Or.inr (by simp))) (Or.inl (by simp))) (Or.inr (by simp))) (Or.inl (by simp))) (Or.inr (by simp))) (Or.inl (by simp))) (Or.inr (by simp))
  · rw [pt_q (by decide), pt_k (by omega), pt_q (by decide), pt_k (by omega), pt_q (by decide), pt_k (by omega), pt_q (by decide), pt_k (by omega)]
  · have : j = 0 ∨ j = 1 ∨ j = 2 ∨ j = 3 := by omega
    rcases this with e | e | e | e <;> subst e
    · rw [pt_q (by decide), pt_k (by omega), pt_q (by decide), pt_k (by omega), pt_q (by decide), pt_k (by omega), pt_q (by decide)]; exact pt_e
    · rw [pt_q (by decide), pt_k (by omega), pt_q (by decide), pt_k (by omega), pt_q (by decide), pt_e]; rfl
    · rw [pt_q (by decide), pt_k (by omega), pt_q (by decide), pt_e]; rfl
    · rw [pt_q (by decide), pt_e]; rfl
/-- the twenty bytes -/
def fdB (a b c d e : Int32) (j : Nat) : Int32 := if j < 4 then by4 a j else if j < 8 then by4 b (j - 4) else if j < 12 then by4 c (j - 8) else if j < 16 then by4 d (j - 12) else by4 e (j - 16)
theorem fd_all {P : Nat → Int32 → Prop} {n : Nat} {a b c d e : Int32} (h1 : ∀ j, j < 4 → P (n + j) (by4 a j)) (h2 : ∀ j, j < 4 → P (n + 4 + j) (by4 b j)) (h3 : ∀ j, j < 4 → P (n + 8 + j) (by4 c j)) (h4 : ∀ j, j < 4 → P (n + 12 + j) (by4 d j)) (h5 : ∀ j, j < 4 → P (n + 16 + j) (by4 e j)) : ∀ j, j < 20 → P (n + j) (fdB a b c d e j) := by
  intro j hj
  unfold fdB
  by_cases k1 : j < 4
  · rw [if_pos k1]; exact h1 j k1
  · by_cases k2 : j < 8
    · rw [if_neg k1, if_pos k2]; have := h2 (j - 4) (by omega); rwa [show n + 4 + (j - 4) = n + j by omega] at this
    · by_cases k3 : j < 12
      · rw [if_neg k1, if_neg k2, if_pos k3]; have := h3 (j - 8) (by omega); rwa [show n + 8 + (j - 8) = n + j by omega] at this
      · by_cases k4 : j < 16
        · rw [if_neg k1, if_neg k2, if_neg k3, if_pos k4]; have := h4 (j - 12) (by omega); rwa [show n + 12 + (j - 12) = n + j by omega] at this
        · rw [if_neg k1, if_neg k2, if_neg k3, if_neg k4]; have := h5 (j - 16) (by omega); rwa [show n + 16 + (j - 16) = n + j by omega] at this
theorem c_feed (dd : Nat) {σ : Sig} (a b c d e : Int32) {n : Nat} (h : σ 53 0 = nI n) (hn : n ≤ 400) : ∃ σ', Ex (dd + 1) 104 0 [.ref 0, .int a, .int b, .int c, .int d, .int e] [] G0 σ = some (some (.int (if n ≤ 380 then nI (n + 20) else -1)), G0, σ') ∧ Fr [62] [(53, 0)] σ σ' ∧ (¬ n ≤ 380 → σ' = σ) ∧ (n ≤ 380 → σ' 53 0 = nI (n + 20) ∧ (∀ i, i < n → σ' 62 i = σ 62 i) ∧ ∀ j, j < 20 → σ' 62 (n + j) = by8 (fdB a b c d e j)) := by
  have q : (σ 53 0 + 20 ≤ 400) = (n ≤ 380) := by
    rw [h]
    have e1 : nI n + 20 = nI (n + 20) := (Int32.ofNat_add n 20).symm
    have e2 : (nI (n + 20) ≤ 400) = (n + 20 ≤ 400) := nJ_le (b := 400) (by omega) (by omega)
    rw [e1, e2]; exact propext ⟨fun h => by omega, fun h => by omega⟩
  rw [b104_0]
  simp only [q]
  by_cases c0 : n ≤ 380
  · obtain ⟨σ1, e1, f1, z1, o1, k1⟩ := c_take dd a h (by omega)
    obtain ⟨σ2, e2, f2, z2, o2, k2⟩ := c_take dd b z1 (by omega)
    obtain ⟨σ3, e3, f3, z3, o3, k3⟩ := c_take dd c z2 (by omega)
    obtain ⟨σ4, e4, f4, z4, o4, k4⟩ := c_take dd d z3 (by omega)
    obtain ⟨σ5, e5, f5, z5, o5, k5⟩ := c_take dd e z4 (by omega)
    simp only [eq_true c0, i10, i01, eq_self, if_true, if_false, true_and, false_and, and_true, and_false, not_true, not_false_iff, true_or, or_true, false_or, or_false, ne_eq, not_true_eq_false, not_false_eq_true, e1, Option.bind_some, Option.toList_some, Option.toList_none, List.cons_append, List.nil_append, i01a, i01b, if_true, if_false, b104_26, e2, b104_34, e3, b104_42, e4, b104_51, e5, b104_60, z5]
    refine ⟨σ5, rfl, Fr_t f1 (Fr_t f2 (Fr_t f3 (Fr_t f4 f5))), fun h => h.elim, fun _ => ⟨by rw [z5], fun i hi => ?_, ?_⟩⟩
    · rw [o5 i (by omega), o4 i (by omega), o3 i (by omega), o2 i (by omega), o1 i hi]
    · refine fd_all (P := fun i v => σ5 62 i = by8 v) (fun j hj => ?_) (fun j hj => ?_) (fun j hj => ?_) (fun j hj => ?_) (fun j hj => ?_)
      · rw [o5 _ (by omega), o4 _ (by omega), o3 _ (by omega), o2 _ (by omega)]; exact k1 j hj
      · rw [o5 _ (by omega), o4 _ (by omega), o3 _ (by omega)]; exact k2 j hj
      · rw [o5 _ (by omega), o4 _ (by omega)]; exact k3 j hj
      · rw [o5 _ (by omega)]; exact k4 j hj
      · exact k5 j hj
  · simp only [eq_false c0, i10, i01, eq_self, if_true, if_false, true_and, false_and, and_true, and_false, not_true, not_false_iff, true_or, or_true, false_or, or_false, ne_eq, not_true_eq_false, not_false_eq_true]
    exact ⟨σ, rfl, Fr_r, fun _ => rfl, fun h => h.elim⟩
theorem m_feed (dd : Nat) {σ : Sig} (a b c d e : Int32) {n : Nat} (h : σ 112 22 = nI n) (hn : n ≤ 400) : ∃ σ', Ex (dd + 1) 171 0 [.ref 112, .int a, .int b, .int c, .int d, .int e] [] G0 σ = some (some (.int (if n ≤ 380 then nI (n + 20) else -1)), G0, σ') ∧ Fr [124] [(112, 0), (112, 22)] σ σ' ∧ (¬ n ≤ 380 → σ' = pt σ 112 0 0) ∧ (n ≤ 380 → σ' 112 22 = nI (n + 20) ∧ (∀ i, i < n → σ' 124 i = σ 124 i) ∧ ∀ j, j < 20 → σ' 124 (n + j) = fdB a b c d e j &&& 255) := by
  have h0 : pt σ 112 0 0 112 22 = nI n := by rw [pt_k (by decide)]; exact h
  have f0 : Fr [124] [(112, 0), (112, 22)] σ (pt σ 112 0 0) := Fr_p Fr_r (Or.inr (by simp))
  have q : (pt σ 112 0 0 112 22 ≤ 380) = (n ≤ 380) := by
    rw [h0]; exact nJ_le (b := 380) (by omega) (by omega)
  rw [b171_0]
  simp only [q]
  by_cases c0 : n ≤ 380
  · obtain ⟨σ1, e1, f1, z1, o1, k1⟩ := m_types dd a h0 (by omega)
    obtain ⟨σ2, e2, f2, z2, o2, k2⟩ := m_types dd b z1 (by omega)
    obtain ⟨σ3, e3, f3, z3, o3, k3⟩ := m_types dd c z2 (by omega)
    obtain ⟨σ4, e4, f4, z4, o4, k4⟩ := m_types dd d z3 (by omega)
    obtain ⟨σ5, e5, f5, z5, o5, k5⟩ := m_types dd e z4 (by omega)
    simp only [eq_true c0, i10, i01, eq_self, if_true, if_false, true_and, false_and, and_true, and_false, not_true, not_false_iff, true_or, or_true, false_or, or_false, ne_eq, not_true_eq_false, not_false_eq_true, e1, Option.bind_some, Option.toList_some, Option.toList_none, List.cons_append, List.nil_append, i01a, i01b, if_true, if_false, b171_22, e2, b171_27, e3, b171_32, e4, b171_38, e5, b171_44, z5]
    refine ⟨σ5, rfl, Fr_t f0 (Fr_m (Fr_t f1 (Fr_t f2 (Fr_t f3 (Fr_t f4 f5)))) (by simp) (by simp)), fun h => h.elim, fun _ => ⟨by rw [z5], fun i hi => ?_, ?_⟩⟩
    · rw [o5 i (by omega), o4 i (by omega), o3 i (by omega), o2 i (by omega), o1 i hi, pt_q (by decide)]
    · refine fd_all (P := fun i v => σ5 124 i = v &&& 255) (fun j hj => ?_) (fun j hj => ?_) (fun j hj => ?_) (fun j hj => ?_) (fun j hj => ?_)
      · rw [o5 _ (by omega), o4 _ (by omega), o3 _ (by omega), o2 _ (by omega)]; exact k1 j hj
      · rw [o5 _ (by omega), o4 _ (by omega), o3 _ (by omega)]; exact k2 j hj
      · rw [o5 _ (by omega), o4 _ (by omega)]; exact k3 j hj
      · rw [o5 _ (by omega)]; exact k4 j hj
      · exact k5 j hj
  · simp only [eq_false c0, i10, i01, eq_self, if_true, if_false, true_and, false_and, and_true, and_false, not_true, not_false_iff, true_or, or_true, false_or, or_false, ne_eq, not_true_eq_false, not_false_eq_true]
    exact ⟨_, rfl, f0, fun _ => rfl, fun h => h.elim⟩
