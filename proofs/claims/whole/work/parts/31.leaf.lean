/-! L3: leaves of the class -/
theorem c_within (d : Nat) (σ : Sig) (v l m : Int32) : Ex d 138 0 [.int v, .int l, .int m] [] G0 σ = some (some (.int (bI (l ≤ v ∧ v ≤ m))), G0, σ) := by
  rw [b138_0]
  simp only [Option.bind_some, Option.toList_some, Option.toList_none, List.cons_append, List.nil_append, i01a, i01b, if_true, if_false, bI]
  by_cases h : v < l
  · simp [h, Int32.not_le.mpr h]
  · by_cases k : m < v
    · simp [h, k, Int32.not_le.mpr k]
    · simp [h, k, Int32.not_lt.mp h, Int32.not_lt.mp k]
def mx (a b : Int32) : Int32 := if a < b then b else a
def mn (a b : Int32) : Int32 := if b < a then b else a
theorem c_max (d : Nat) (σ : Sig) (a b : Int32) : Ex d 270 0 [.int a, .int b] [] G0 σ = some (some (.int (mx a b)), G0, σ) := by
  rw [b270_0]; unfold mx; split <;> rfl
theorem c_min (d : Nat) (σ : Sig) (a b : Int32) : Ex d 271 0 [.int a, .int b] [] G0 σ = some (some (.int (mn a b)), G0, σ) := by
  rw [b271_0]; unfold mn; split <;> rfl
theorem c_heldTo (d : Nat) (σ : Sig) (v l m : Int32) : Ex (d + 1) 139 0 [.int v, .int l, .int m] [] G0 σ = some (some (.int (mx l (mn m v))), G0, σ) := by
  simp only [b139_0, b139_6, b139_9, c_min, c_max, Option.bind_some, Option.toList_some, Option.toList_none, List.cons_append, List.nil_append, i01a, i01b, if_true, if_false]
theorem c_isSlope (d : Nat) (σ : Sig) (v : Int32) : Ex (d + 1) 137 0 [.int v] [] G0 σ = some (some (.int (bI (-9 ≤ v ∧ v ≤ 9))), G0, σ) := by
  simp only [b137_0, b137_8, c_within, Option.bind_some, Option.toList_some, Option.toList_none, List.cons_append, List.nil_append, i01a, i01b, if_true, if_false, bI_z, bI_o, bI_em, ite_not]
theorem c_crewHas (d : Nat) (σ : Sig) (b : Int32) : Ex d 16 0 [.ref 2, .int b] [] G0 σ = some (some (.int (bI (0 ≤ b ∧ b < σ 2 0))), G0, σ) := by
  rw [b16_0]
  simp only [Option.bind_some, Option.toList_some, Option.toList_none, List.cons_append, List.nil_append, i01a, i01b, if_true, if_false, bI]
  by_cases h : b < 0
  · simp [h, Int32.not_le.mpr h]
  · by_cases k : σ 2 0 ≤ b
    · simp [h, k, Int32.not_lt.mpr k]
    · simp [h, k, Int32.not_lt.mp h, Int32.not_le.mp k]
theorem c_placesHas (d : Nat) (σ : Sig) (b : Int32) : Ex d 33 0 [.ref 8, .int b] [] G0 σ = some (some (.int (bI (0 ≤ b ∧ b < 2 * σ 8 0))), G0, σ) := by
  rw [b33_0]
  simp only [Option.bind_some, Option.toList_some, Option.toList_none, List.cons_append, List.nil_append, i01a, i01b, if_true, if_false, bI]
  by_cases h : b < 0
  · simp [h, Int32.not_le.mpr h]
  · by_cases k : 2 * σ 8 0 ≤ b
    · simp [h, k, Int32.not_lt.mpr k]
    · simp [h, k, Int32.not_lt.mp h, Int32.not_le.mp k]
theorem c_count (d : Nat) (σ : Sig) : Ex d 32 0 [.ref 8] [] G0 σ = some (some (.int (2 * σ 8 0)), G0, σ) := by
  rw [b32_0]
theorem c_isPlaceAnswer (d : Nat) (σ : Sig) (v : Int32) : Ex (d + 1) 136 0 [.ref 0, .int v] [] G0 σ = some (some (.int (bI (10 ≤ v ∧ v ≤ 9 + 2 * σ 8 0))), G0, σ) := by
  simp only [b136_0, b136_15, b136_19, c_within, c_count, Option.bind_some, Option.toList_some, Option.toList_none, List.cons_append, List.nil_append, i01a, i01b, if_true, if_false, bI_z, bI_o, bI_em, ite_not]
theorem c_forget (d : Nat) (σ : Sig) : Ex d 134 0 [.ref 0] [] G0 σ = some (none, G0, pt (pt σ 0 8 0) 0 10 0) := by
  rw [b134_0]
theorem c_state (d : Nat) (σ : Sig) (v : Int32) : Ex (d + 1) 100 0 [.ref 0, .int v, .null] [] G0 σ = some (some (.int (σ 1 5)), G0, pt (pt (pt σ 1 5 v) 0 8 0) 0 10 0) := by
  simp only [b100_0, b100_20, c_forget, Option.bind_some, Option.toList_some, Option.toList_none, List.cons_append, List.nil_append, i01a, i01b, if_true, if_false]
theorem c_bearer (d : Nat) (σ : Sig) (t s f k : Int32) (hs : 0 ≤ (σ 2 0).toInt) : Ex (d + 1) 101 0 [.ref 0, .int t, .int s, .int f, .int k, .null, .null, .null] [] G0 σ =
    if (40 ≤ t ∧ t ≤ 80) ∧ (0 ≤ s ∧ s ≤ 300) ∧ (0 ≤ f ∧ f ≤ 1) ∧ (0 ≤ k ∧ k ≤ 1) ∧ σ 2 0 < 8 then
      some (some (.int (σ 2 0)), G0, pt (pt (pt (pt (pt (pt (pt (pt σ 3 (σ 2 0).toNatClampNeg t) 4 (σ 2 0).toNatClampNeg s) 5 (σ 2 0).toNatClampNeg f) 6 (σ 2 0).toNatClampNeg k) 7 (σ 2 0).toNatClampNeg 0) 2 0 (σ 2 0 + 1)) 0 8 0) 0 10 0)
    else some (some (.int (-1)), G0, σ) := by
  simp only [b101_0, b101_17, b101_28, b101_37, b101_47, b101_55, b101_108, b101_140, c_within, c_forget, Option.bind_some, Option.toList_some, Option.toList_none, List.cons_append, List.nil_append, i01a, i01b, if_true, if_false, bI_z, bI_o, bI_em, ite_not]
  by_cases h1 : 40 ≤ t ∧ t ≤ 80
  · by_cases h2 : 0 ≤ s ∧ s ≤ 300
    · by_cases h3 : 0 ≤ f ∧ f ≤ 1
      · by_cases h4 : 0 ≤ k ∧ k ≤ 1
        · by_cases h5 : σ 2 0 < 8
          · have hb : inb (σ 2 0) 8 = true := inb_of hs (Int32.lt_iff_toInt_lt.mp h5)
            simp only [h1, h2, h3, h4, h5, hb, i10, i01, eq_self, if_true, if_false, true_and, false_and, and_true, and_false, not_true, not_false_iff, true_or, or_true, false_or, or_false, ne_eq, not_true_eq_false, not_false_eq_true]
          · simp only [h1, h2, h3, h4, h5, i10, i01, eq_self, if_true, if_false, true_and, false_and, and_true, and_false, not_true, not_false_iff, true_or, or_true, false_or, or_false, ne_eq, not_true_eq_false, not_false_eq_true]
        · simp only [h1, h2, h3, h4, i10, i01, eq_self, if_true, if_false, true_and, false_and, and_true, and_false, not_true, not_false_iff, true_or, or_true, false_or, or_false, ne_eq, not_true_eq_false, not_false_eq_true]
      · simp only [h1, h2, h3, i10, i01, eq_self, if_true, if_false, true_and, false_and, and_true, and_false, not_true, not_false_iff, true_or, or_true, false_or, or_false, ne_eq, not_true_eq_false, not_false_eq_true]
    · simp only [h1, h2, i10, i01, eq_self, if_true, if_false, true_and, false_and, and_true, and_false, not_true, not_false_iff, true_or, or_true, false_or, or_false, ne_eq, not_true_eq_false, not_false_eq_true]
  · simp only [h1, i10, i01, eq_self, if_true, if_false, true_and, false_and, and_true, and_false, not_true, not_false_iff, true_or, or_true, false_or, or_false, ne_eq, not_true_eq_false, not_false_eq_true]
