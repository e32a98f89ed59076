/-! L3: leaves of the model -/
theorem m_isIn (d : Nat) (σ : Sig) (v l m : Int32) : Ex d 142 0 [.ref 112, .int v, .int l, .int m] [] G0 σ = some (some (.int (bI (l ≤ v ∧ v ≤ m))), G0, σ) := by
  rw [b142_0]
  simp only [Option.bind_some, Option.toList_some, Option.toList_none, List.cons_append, List.nil_append, i01a, i01b, if_true, if_false, bI]
  by_cases h : v < l
  · simp [h, Int32.not_le.mpr h]
  · by_cases k : m < v
    · simp [h, k, Int32.not_le.mpr k]
    · simp [h, k, Int32.not_lt.mp h, Int32.not_lt.mp k]
theorem m_greater (d : Nat) (σ : Sig) (a b : Int32) : Ex d 144 0 [.ref 112, .int a, .int b] [] G0 σ = some (some (.int (mx a b)), G0, σ) := by
  rw [b144_0]; unfold mx
  by_cases h : a < b
  · rw [if_pos h, if_pos (Int32.le_iff_lt_or_eq.mpr (Or.inl h))]
  · rw [if_neg h]
    by_cases k : a ≤ b
    · rw [if_pos k, Int32.le_antisymm k (Int32.not_lt.mp h)]
    · rw [if_neg k]
theorem m_lesser (d : Nat) (σ : Sig) (a b : Int32) : Ex d 145 0 [.ref 112, .int a, .int b] [] G0 σ = some (some (.int (mn a b)), G0, σ) := by
  rw [b145_0]; unfold mn
  by_cases h : b < a
  · rw [if_pos h, if_pos (Int32.le_iff_lt_or_eq.mpr (Or.inl h))]
  · rw [if_neg h]
    by_cases k : b ≤ a
    · rw [if_pos k, Int32.le_antisymm k (Int32.not_lt.mp h)]
    · rw [if_neg k]
theorem mxmn {v l m : Int32} (h : l ≤ m) : mx l (mn m v) = if l ≤ v then if v ≤ m then v else m else l := by
  unfold mx mn
  by_cases a : l ≤ v
  · rw [if_pos a]
    by_cases b : v ≤ m
    · rw [if_pos b]
      by_cases c : v < m
      · rw [if_pos c]
        by_cases e : l < v
        · rw [if_pos e]
        · rw [if_neg e]; exact Int32.le_antisymm a (Int32.not_lt.mp e)
      · rw [if_neg c]
        have : v = m := Int32.le_antisymm b (Int32.not_lt.mp c)
        subst this
        by_cases e : l < v
        · rw [if_pos e]
        · rw [if_neg e]; exact Int32.le_antisymm a (Int32.not_lt.mp e)
    · rw [if_neg b]
      have b' := Int32.not_le.mp b
      rw [if_neg (fun e => Int32.lt_irrefl (Int32.lt_trans e b'))]
      by_cases e : l < m
      · rw [if_pos e]
      · rw [if_neg e]; exact Int32.le_antisymm h (Int32.not_lt.mp e)
  · rw [if_neg a]
    have a' := Int32.not_le.mp a
    by_cases c : v < m
    · rw [if_pos c, if_neg (fun e => Int32.lt_irrefl (Int32.lt_trans e a'))]
    · rw [if_neg c]
      have c' := Int32.not_lt.mp c
      have : ¬ l < m := fun e => Int32.lt_irrefl (Int32.lt_of_lt_of_le e (Int32.le_trans c' (Int32.le_iff_lt_or_eq.mpr (Or.inl a'))))
      rw [if_neg this]
theorem m_held (d : Nat) (σ : Sig) (v l m : Int32) (h : l ≤ m) : Ex d 143 0 [.ref 112, .int v, .int l, .int m] [] G0 σ = some (some (.int (mx l (mn m v))), G0, σ) := by
  rw [b143_0, mxmn h]; split <;> (try split) <;> rfl
theorem m_pounds (d : Nat) (σ : Sig) : Ex d 153 0 [.ref 112] [] G0 σ = some (some (.int (σ 112 6 + 400)), G0, σ) := by rw [b153_0]
theorem m_pairs (d : Nat) (σ : Sig) : Ex d 154 0 [.ref 112] [] G0 σ = some (some (.int (σ 112 7 + 3)), G0, σ) := by rw [b154_0]
theorem m_places (d : Nat) (σ : Sig) : Ex (d + 1) 155 0 [.ref 112] [] G0 σ = some (some (.int (2 * (σ 112 7 + 3))), G0, σ) := by simp only [b155_0, b155_5, m_pairs, Option.bind_some, Option.toList_some, Option.toList_none, List.cons_append, List.nil_append, i01a, i01b, if_true, if_false]
theorem m_loose (d : Nat) (σ : Sig) : Ex d 156 0 [.ref 112] [] G0 σ = some (some (.int (σ 112 8 + 50)), G0, σ) := by rw [b156_0]
theorem m_ease (d : Nat) (σ : Sig) : Ex d 157 0 [.ref 112] [] G0 σ = some (some (.int (σ 112 9 + 100)), G0, σ) := by rw [b157_0]


theorem m_whoAt (d : Nat) (σ : Sig) (p : Nat) (h : p < 8) : Ex d 158 0 [.ref 112, .int (nI p)] [] G0 σ = some (some (.int (σ 113 (7 + p) - 1)), G0, σ) := by
  have e : (7 : Int32) + nI p = nI (7 + p) := nI_add 7 p
  rw [b158_0, e, inb_n (by omega) (by omega), nI_c (by omega), if_pos rfl]
theorem m_isBearer (d : Nat) (σ : Sig) (b : Int32) : Ex d 159 0 [.ref 112, .int b] [] G0 σ = some (some (.int (bI (0 ≤ b ∧ b < σ 112 12))), G0, σ) := by
  rw [b159_0]
  simp only [Option.bind_some, Option.toList_some, Option.toList_none, List.cons_append, List.nil_append, i01a, i01b, if_true, if_false, bI]
  by_cases h : b < 0
  · simp [h, Int32.not_le.mpr h]
  · by_cases k : σ 112 12 ≤ b
    · simp [h, k, Int32.not_lt.mpr k]
    · simp [h, k, Int32.not_lt.mp h, Int32.not_le.mp k]
theorem m_isPlace (d : Nat) (σ : Sig) (b : Int32) : Ex (d + 2) 160 0 [.ref 112, .int b] [] G0 σ = some (some (.int (bI (0 ≤ b ∧ b < 2 * (σ 112 7 + 3)))), G0, σ) := by
  simp only [b160_0, b160_9, m_places, Option.bind_some, Option.toList_some, Option.toList_none, List.cons_append, List.nil_append, i01a, i01b, if_true, if_false, bI]
  by_cases h : b < 0
  · simp [h, Int32.not_le.mpr h]
  · by_cases k : 2 * (σ 112 7 + 3) ≤ b
    · simp [h, k, Int32.not_lt.mpr k]
    · simp [h, k, Int32.not_lt.mp h, Int32.not_le.mp k]
theorem m_isSlope (d : Nat) (σ : Sig) (v : Int32) : Ex (d + 1) 234 0 [.ref 112, .int v] [] G0 σ = some (some (.int (bI (-9 ≤ v ∧ v ≤ 9))), G0, σ) := by
  simp only [b234_0, b234_9, m_isIn, Option.bind_some, Option.toList_some, Option.toList_none, List.cons_append, List.nil_append, i01a, i01b, if_true, if_false, bI_z, bI_o, bI_em, ite_not]
theorem m_state (d : Nat) (σ : Sig) (v : Int32) : Ex d 151 0 [.ref 112, .int v, .null] [] G0 σ = some (some (.int (σ 113 1)), G0, pt (pt (pt σ 112 0 0) 113 1 v) 112 3 0) := by
  simp only [b151_0, Option.bind_some, Option.toList_some, Option.toList_none, List.cons_append, List.nil_append, i01a, i01b, if_true, if_false]
  rfl
theorem m_bearer (d : Nat) (σ : Sig) (t s f k : Int32) (n : Nat) (hn : n ≤ 8) (hs : σ 112 12 = nI n) : Ex (d + 1) 161 0 [.ref 112, .int t, .int s, .int f, .int k, .null] [] G0 σ =
    if (40 ≤ t ∧ t ≤ 80) ∧ (0 ≤ s ∧ s ≤ 300) ∧ (0 ≤ f ∧ f ≤ 1) ∧ (0 ≤ k ∧ k ≤ 1) ∧ n < 8 then
      some (some (.int (nI n)), G0, pt (pt (pt (pt (pt (pt (pt (pt σ 112 0 0) 116 n t) 117 n s) 118 n f) 119 n k) 113 (23 + n) 0) 112 12 (nI (n + 1))) 112 3 0)
    else some (some (.int (-1)), G0, pt σ 112 0 0) := by
  have e0 : pt σ 112 0 0 112 12 = nI n := by rw [pt_k (by decide), hs]
  simp only [b161_0, b161_14, b161_26, b161_36, b161_47, b161_100, m_isIn, e0, Option.bind_some, Option.toList_some, Option.toList_none, List.cons_append, List.nil_append, i01a, i01b, if_true, if_false, bI_z, bI_o, bI_em, ite_not]
  by_cases h1 : 40 ≤ t ∧ t ≤ 80
  · by_cases h2 : 0 ≤ s ∧ s ≤ 300
    · by_cases h3 : 0 ≤ f ∧ f ≤ 1
      · by_cases h4 : 0 ≤ k ∧ k ≤ 1
        · by_cases h5 : n < 8
          · have hb : inb (nI n) 8 = true := inb_n h5 (by omega)
            have h8 : ¬ nI n = 8 := by
              have : (8 : Int32) = nI 8 := rfl
              rw [this, nJ_e (by omega) (by omega)]; omega
            have e1 : (23 : Int32) + nI n = nI (23 + n) := nI_add 23 n
            have hc : inb (nI (23 + n)) 31 = true := inb_n (by omega) (by omega)
            simp only [h1, h2, h3, h4, h5, h8, hb, e1, hc, nI_c (show n < 2 ^ 31 by omega), nI_c (show 23 + n < 2 ^ 31 by omega), i10, i01, eq_self, if_true, if_false, true_and, false_and, and_true, and_false, not_true, not_false_iff, true_or, or_true, false_or, or_false, ne_eq, not_true_eq_false, not_false_eq_true]
            have e2 : (pt (pt (pt (pt (pt (pt σ 112 0 0) 116 n t) 117 n s) 118 n f) 119 n k) 113 (23 + n) 0) 112 12 = nI n := by
              simp only [pt_ap]; simp [hs]
            rw [e2, nI_s]
          · have h8 : nI n = 8 := by rw [show n = 8 by omega]; rfl
            simp only [h1, h2, h3, h4, h5, h8, i10, i01, eq_self, if_true, if_false, true_and, false_and, and_true, and_false, not_true, not_false_iff, true_or, or_true, false_or, or_false, ne_eq, not_true_eq_false, not_false_eq_true]
        · simp only [h1, h2, h3, h4, i10, i01, eq_self, if_true, if_false, true_and, false_and, and_true, and_false, not_true, not_false_iff, true_or, or_true, false_or, or_false, ne_eq, not_true_eq_false, not_false_eq_true]
      · simp only [h1, h2, h3, i10, i01, eq_self, if_true, if_false, true_and, false_and, and_true, and_false, not_true, not_false_iff, true_or, or_true, false_or, or_false, ne_eq, not_true_eq_false, not_false_eq_true]
    · simp only [h1, h2, i10, i01, eq_self, if_true, if_false, true_and, false_and, and_true, and_false, not_true, not_false_iff, true_or, or_true, false_or, or_false, ne_eq, not_true_eq_false, not_false_eq_true]
  · simp only [h1, i10, i01, eq_self, if_true, if_false, true_and, false_and, and_true, and_false, not_true, not_false_iff, true_or, or_true, false_or, or_false, ne_eq, not_true_eq_false, not_false_eq_true]
