/-! L3: sways, straps -/
def swS (ω : Sig) (n : Nat) : Int32 := fo (fun _ v => mn 999 (v * ω 1 2 / 100 + wrongS ω 0)) n (ω 1 8)
def swayA (ω : Sig) (a : Int32) : Int32 := if a = -1 then (if swS ω 1000 ≤ swS ω 500 then 0 else 1) else if 0 ≤ a ∧ a ≤ 1000 then swS ω a.toNatClampNeg else -2
theorem c_swayAfter (d : Nat) {B T : LW} {σ : Sig} (hW : WI B T σ) {n : Nat} (hn : n ≤ 1000) : Ex (d + 2) 82 0 [.ref 74, .int (nI n), .null, .null, .null] [] G0 σ = some (some (.int (swS σ n)), G0, σ) := by
  obtain ⟨v, ev, hv⟩ := c_heldSet (d + 1) hW
  simp only [b82_0, ev, Option.bind_some, Option.toList_some, Option.toList_none, List.cons_append, List.nil_append, i01a, i01b, if_true, if_false, b82_14, c_wrong d hW ⟨rfl, rfl, rfl⟩ hv, b82_17]
  have e := loop_fo (fun k (x : Int32) => Ex (d + 2) 82 29 [.ref 74, .int (nI n), .int (wrongS σ 0), .int x, .int (nI k)] [] G0 σ) (fun _ v => mn 999 (v * σ 1 2 / 100 + wrongS σ 0)) n (σ 1 8) (by
    intro k x hk
    show Ex (d + 2) 82 29 [.ref 74, .int (nI n), .int (wrongS σ 0), .int x, .int (nI k)] [] G0 σ = _
    rw [b82_29]
    have q : (nI n ≤ nI k) = False := by rw [nJ_le (by omega) (by omega)]; exact eq_false (by omega)
    simp only [q, i10, i01, eq_self, if_true, if_false, true_and, false_and, and_true, and_false, not_true, not_false_iff, true_or, or_true, false_or, or_false, ne_eq, not_true_eq_false, not_false_eq_true, c_swayNext, Option.bind_some, Option.toList_some, Option.toList_none, List.cons_append, List.nil_append, i01a, i01b, if_true, if_false, b82_44, nI_s])
  rw [show Ex (d + 2) 82 29 [.ref 74, .int (nI n), .int (wrongS σ 0), .int (σ 1 8), .int 0] [] G0 σ = _ from e]
  show Ex (d + 2) 82 29 [.ref 74, .int (nI n), .int (wrongS σ 0), .int (swS σ n), .int (nI n)] [] G0 σ = _
  rw [b82_29]
  have q : (nI n ≤ nI n) = True := by rw [nJ_le (by omega) (by omega)]; exact eq_true (Nat.le_refl _)
  simp only [q, i10, i01, eq_self, if_true, if_false, true_and, false_and, and_true, and_false, not_true, not_false_iff, true_or, or_true, false_or, or_false, ne_eq, not_true_eq_false, not_false_eq_true]
theorem m_swayAfter (d : Nat) {B T : LW} {ω σ : Sig} (hM : MR B T ω σ) (hW : WI B T ω) {n : Nat} (hn : n ≤ 1000) : Ex (d + 5) 254 0 [.ref 112, .int (nI n), .null, .null, .null] [] G0 σ = some (some (.int (swS ω n)), G0, σ) := by
  have e4 : σ 113 4 = ω 1 8 := hM 11
  have e8 : σ 112 8 + 50 = ω 1 2 := by rw [show σ 112 8 = ω 1 2 - 50 from hM 2, Int32.sub_add_cancel]
  simp only [b254_0, m_wrong d 0 hM hW, Option.bind_some, Option.toList_some, Option.toList_none, List.cons_append, List.nil_append, i01a, i01b, if_true, if_false, b254_5, e4]
  have e := loop_fo (fun k (x : Int32) => Ex (d + 5) 254 16 [.ref 112, .int (nI n), .int (wrongS ω 0), .int x, .int (nI k)] [] G0 σ) (fun _ v => mn 999 (v * ω 1 2 / 100 + wrongS ω 0)) n (ω 1 8) (by
    intro k x hk
    show Ex (d + 5) 254 16 [.ref 112, .int (nI n), .int (wrongS ω 0), .int x, .int (nI k)] [] G0 σ = _
    rw [b254_16]
    have q : (nI n ≤ nI k) = False := by rw [nJ_le (by omega) (by omega)]; exact eq_false (by omega)
    simp only [q, i10, i01, eq_self, if_true, if_false, true_and, false_and, and_true, and_false, not_true, not_false_iff, true_or, or_true, false_or, or_false, ne_eq, not_true_eq_false, not_false_eq_true, m_loose, e8, Option.bind_some, Option.toList_some, Option.toList_none, List.cons_append, List.nil_append, i01a, i01b, if_true, if_false, b254_31, m_lesser, b254_40, nI_s])
  rw [show Ex (d + 5) 254 16 [.ref 112, .int (nI n), .int (wrongS ω 0), .int (ω 1 8), .int 0] [] G0 σ = _ from e]
  show Ex (d + 5) 254 16 [.ref 112, .int (nI n), .int (wrongS ω 0), .int (swS ω n), .int (nI n)] [] G0 σ = _
  rw [b254_16]
  have q : (nI n ≤ nI n) = True := by rw [nJ_le (by omega) (by omega)]; exact eq_true (Nat.le_refl _)
  simp only [q, i10, i01, eq_self, if_true, if_false, true_and, false_and, and_true, and_false, not_true, not_false_iff, true_or, or_true, false_or, or_false, ne_eq, not_true_eq_false, not_false_eq_true]
theorem ix_of {a : Int32} {m : Nat} {M : Int32} (hM : M.toInt = m) (h : 0 ≤ a ∧ a ≤ M) : ∃ n, n ≤ m ∧ a = nI n ∧ a.toNatClampNeg = n := by
  have h1 := Int32.le_iff_toInt_le.mp h.1
  have h2 := Int32.le_iff_toInt_le.mp h.2
  have z : (0 : Int32).toInt = 0 := rfl
  have hc : a.toNatClampNeg = a.toInt.toNat := rfl
  exact ⟨a.toNatClampNeg, by omega, nI_of0 (by omega), rfl⟩
theorem c_sways (d : Nat) {B T : LW} {σ : Sig} (a : Int32) (hW : WI B T σ) : Ex (d + 3) 120 0 [.ref 0, .int a] [] G0 σ = some (some (.int (swayA σ a)), G0, σ) := by
  rw [b120_0]
  unfold swayA
  by_cases h : a = -1
  · have e1 : Ex (d + 2) 82 0 [.ref 74, .int 1000, .null, .null, .null] [] G0 σ = _ := c_swayAfter d hW (n := 1000) (by omega)
    have e2 : Ex (d + 2) 82 0 [.ref 74, .int 500, .null, .null, .null] [] G0 σ = _ := c_swayAfter d hW (n := 500) (by omega)
    simp only [h, i10, i01, eq_self, if_true, if_false, true_and, false_and, and_true, and_false, not_true, not_false_iff, true_or, or_true, false_or, or_false, ne_eq, not_true_eq_false, not_false_eq_true, e1, Option.bind_some, Option.toList_some, Option.toList_none, List.cons_append, List.nil_append, i01a, i01b, if_true, if_false, b120_15, e2, b120_25]
    split <;> rfl
  · simp only [h, i10, i01, eq_self, if_true, if_false, true_and, false_and, and_true, and_false, not_true, not_false_iff, true_or, or_true, false_or, or_false, ne_eq, not_true_eq_false, not_false_eq_true, c_within, Option.bind_some, Option.toList_some, Option.toList_none, List.cons_append, List.nil_append, i01a, i01b, if_true, if_false, b120_42, bI_z, bI_o, bI_em, ite_not]
    by_cases k : 0 ≤ a ∧ a ≤ 1000
    · obtain ⟨n, hn, en, _⟩ := ix_of (m := 1000) (M := 1000) rfl k
      subst en
      simp only [k, i10, i01, eq_self, if_true, if_false, true_and, false_and, and_true, and_false, not_true, not_false_iff, true_or, or_true, false_or, or_false, ne_eq, not_true_eq_false, not_false_eq_true, c_swayAfter d hW hn, Option.bind_some, Option.toList_some, Option.toList_none, List.cons_append, List.nil_append, i01a, i01b, if_true, if_false, b120_53, nI_c (show n < 2 ^ 31 by omega)]
    · simp only [k, i10, i01, eq_self, if_true, if_false, true_and, false_and, and_true, and_false, not_true, not_false_iff, true_or, or_true, false_or, or_false, ne_eq, not_true_eq_false, not_false_eq_true]
theorem m_sways (d : Nat) {B T : LW} {ω σ : Sig} (a : Int32) (hM : MR B T ω σ) (hW : WI B T ω) : Ex (d + 6) 255 0 [.ref 112, .int a] [] G0 σ = some (some (.int (swayA ω a)), G0, pt σ 112 0 0) := by
  have hM0 : MR B T ω (pt σ 112 0 0) := MR_S hM (Fr_p Fr_r (Or.inr (by simp)) : Fr [] [(112, 0)] σ (pt σ 112 0 0)) (by decide) (by simp)
  rw [b255_0]
  unfold swayA
  by_cases h : a = -1
  · have e1 : Ex (d + 5) 254 0 [.ref 112, .int 1000, .null, .null, .null] [] G0 (pt σ 112 0 0) = _ := m_swayAfter d hM0 hW (n := 1000) (by omega)
    have e2 : Ex (d + 5) 254 0 [.ref 112, .int 500, .null, .null, .null] [] G0 (pt σ 112 0 0) = _ := m_swayAfter d hM0 hW (n := 500) (by omega)
    simp only [h, i10, i01, eq_self, if_true, if_false, true_and, false_and, and_true, and_false, not_true, not_false_iff, true_or, or_true, false_or, or_false, ne_eq, not_true_eq_false, not_false_eq_true, e1, Option.bind_some, Option.toList_some, Option.toList_none, List.cons_append, List.nil_append, i01a, i01b, if_true, if_false, b255_17, e2, b255_24]
    split <;> rfl
  · simp only [h, i10, i01, eq_self, if_true, if_false, true_and, false_and, and_true, and_false, not_true, not_false_iff, true_or, or_true, false_or, or_false, ne_eq, not_true_eq_false, not_false_eq_true, m_isIn, Option.bind_some, Option.toList_some, Option.toList_none, List.cons_append, List.nil_append, i01a, i01b, if_true, if_false, b255_42, bI_z, bI_o, bI_em, ite_not]
    by_cases k : 0 ≤ a ∧ a ≤ 1000
    · obtain ⟨n, hn, en, _⟩ := ix_of (m := 1000) (M := 1000) rfl k
      subst en
      simp only [k, i10, i01, eq_self, if_true, if_false, true_and, false_and, and_true, and_false, not_true, not_false_iff, true_or, or_true, false_or, or_false, ne_eq, not_true_eq_false, not_false_eq_true, m_swayAfter d hM0 hW hn, Option.bind_some, Option.toList_some, Option.toList_none, List.cons_append, List.nil_append, i01a, i01b, if_true, if_false, b255_50, nI_c (show n < 2 ^ 31 by omega)]
    · simp only [k, i10, i01, eq_self, if_true, if_false, true_and, false_and, and_true, and_false, not_true, not_false_iff, true_or, or_true, false_or, or_false, ne_eq, not_true_eq_false, not_false_eq_true]
/-- heights let down by straps -/
def vvS (ω : Sig) (n : Nat) (p : Nat) : Int32 := mx 0 (topS ω 0 p - nI n * ω 12 p)
def vvN (ω : Sig) (n : Nat) (p : Nat) : Nat := (vvS ω n p).toNatClampNeg
def lvS (ω : Sig) (n : Nat) : Int32 := fo (gMx ω 0 (vvN ω n)) 8 (-1) - fo (gMn ω 0 (vvN ω n)) 8 1000000
theorem vv_n {B T : LW} {ω : Sig} (hW : WI B T ω) {n p : Nat} (hn : n ≤ 60) (hh : hold ω 0 p) : vvS ω n p = nI (vvN ω n p) ∧ vvN ω n p ≤ 86 := by
  have n8' := (WI_np hW).2.1
  have hp8 : p < 8 := by have := hh.1; omega
  obtain ⟨hpn, hb, _, ew⟩ := WI_who hW hp8 hh.2.1
  have h8 : wi B T ω 8 := hW 8
  have h22 : wi B T ω 22 := hW 22
  have ht := (top_b hW bw0 hpn hb (h8 p hp8)).2 rfl
  obtain ⟨x, ex, x1, x2, _⟩ := bwN (a := 1) (b := 9) (h22 p hp8)
  obtain ⟨t, et, t1, t2, _⟩ := bwN (a := 40) (b := 86) ht
  have hm : n * x ≤ 60 * 9 := Nat.mul_le_mul hn x2
  have e : vvS ω n p = nI (t - n * x) := by
    unfold vvS topS
    rw [et, ex, nI_mul']
    by_cases c : n * x ≤ t
    · rw [nI_sub' c]
      exact mx_n0.resolve_right (by omega)
    · rw [show t - n * x = 0 by omega]
      unfold mx
      rw [if_neg]
      · rfl
      · rw [Int32.lt_iff_toInt_lt, Int32.toInt_sub, nI_i (by omega), nI_i (by omega), Int.bmod_eq_of_le (by omega) (by omega)]
        have z : (0 : Int32).toInt = 0 := rfl
        omega
  unfold vvN
  rw [e, nI_c (by omega)]
  exact ⟨rfl, by omega⟩
theorem gfo_pair {ω : Sig} {g : Int32} {v : Nat → Nat} : ∀ n a b, fo (fun p (x : Int32 × Int32) => (gMx ω g v p x.1, gMn ω g v p x.2)) n (a, b) = (fo (gMx ω g v) n a, fo (gMn ω g v) n b) := by
  intro n a b
  induction n with
  | zero => rfl
  | succ n ih => rw [fo, ih]; rfl
theorem c_level (d : Nat) {B T : LW} {σ : Sig} (hW : WI B T σ) {n : Nat} (hn : n ≤ 60) (he : ∃ p, hold σ 0 p) : Ex (d + 1) 95 0 [.ref 1, .int (nI n), .null, .null, .null, .null] [] G0 σ = some (some (.int (lvS σ n)), G0, σ) := by
  obtain ⟨_, n8', en⟩ := WI_np hW
  rw [b95_0]
  obtain ⟨v5, e⟩ : ∃ v5, Ex (d + 1) 95 8 [.ref 1, .int (nI n), .int (-1), .int 2147483647, .int 0, .null] [] G0 σ = Ex (d + 1) 95 8 [.ref 1, .int (nI n), .int (fo (gMx σ 0 (vvN σ n)) (np σ) (-1)), .int (fo (gMn σ 0 (vvN σ n)) (np σ) 2147483647), .int (nI (np σ)), v5] [] G0 σ := by
    obtain ⟨⟨x, v5⟩, e, i⟩ := loop_ex (fun p (y : (Int32 × Int32) × Value) => Ex (d + 1) 95 8 [.ref 1, .int (nI n), .int y.1.1, .int y.1.2, .int (nI p), y.2] [] G0 σ) (fun p y => y.1 = fo (fun p (x : Int32 × Int32) => (gMx σ 0 (vvN σ n) p x.1, gMn σ 0 (vvN σ n) p x.2)) p (-1, 2147483647)) (np σ) ((-1, 2147483647), .null) rfl (by
      intro p ⟨⟨a, b⟩, v5⟩ hp i
      dsimp only at i
      have hp8 : p < 8 := by omega
      show ∃ a', Ex (d + 1) 95 8 [.ref 1, .int (nI n), .int a, .int b, .int (nI p), v5] [] G0 σ = _ ∧ _
      rw [b95_8]
      have q : (nI (np σ) ≤ nI p) = False := by rw [nJ_le (by omega) (by omega)]; exact eq_false (by omega)
      simp only [c_count, en, Option.bind_some, Option.toList_some, Option.toList_none, List.cons_append, List.nil_append, i01a, i01b, if_true, if_false, b95_17, q, i10, i01, eq_self, if_true, if_false, true_and, false_and, and_true, and_false, not_true, not_false_iff, true_or, or_true, false_or, or_false, ne_eq, not_true_eq_false, not_false_eq_true, i8 hp8, c8 hp8]
      rw [fo, ← i]
      unfold gMx gMn
      by_cases k : σ 9 p = -1
      · have nh : ¬ hold σ 0 p := fun h => h.2.1 k
        simp only [k, i10, i01, eq_self, if_true, if_false, true_and, false_and, and_true, and_false, not_true, not_false_iff, true_or, or_true, false_or, or_false, ne_eq, not_true_eq_false, not_false_eq_true, eq_false nh, nI_s]
        exact ⟨((a, b), v5), rfl, rfl⟩
      · have hh : hold σ 0 p := hold0.mpr ⟨hp, k⟩
        obtain ⟨_, _, hb8, ew⟩ := WI_who hW hp8 k
        have ht := c_top d σ p (wN σ p) 0 hp8 hb8 ew
        have hv : mx 0 (topX σ 0 p (wN σ p) (σ 10 p) - nI n * σ 12 p) = nI (vvN σ n p) := (vv_n hW hn hh).1
        simp only [k, i10, i01, eq_self, if_true, if_false, true_and, false_and, and_true, and_false, not_true, not_false_iff, true_or, or_true, false_or, or_false, ne_eq, not_true_eq_false, not_false_eq_true, ht, Option.bind_some, Option.toList_some, Option.toList_none, List.cons_append, List.nil_append, i01a, i01b, if_true, if_false, b95_45, i8 hp8, c8 hp8, c_max, hv, b95_61, b95_69, c_min, b95_76, eq_true hh, nI_s]
        exact ⟨((_, _), _), rfl, rfl⟩)
    dsimp only at i
    rw [gfo_pair] at i
    refine ⟨v5, (e : Ex (d + 1) 95 8 [.ref 1, .int (nI n), .int (-1), .int 2147483647, .int 0, .null] [] G0 σ = _).trans ?_⟩
    dsimp only
    rw [i]
  rw [e, b95_8]
  have q : (nI (np σ) ≤ nI (np σ)) = True := by rw [nJ_le (by omega) (by omega)]; exact eq_true (Nat.le_refl _)
  simp only [c_count, en, Option.bind_some, Option.toList_some, Option.toList_none, List.cons_append, List.nil_append, i01a, i01b, if_true, if_false, b95_17, q, i10, i01, eq_self, if_true, if_false, true_and, false_and, and_true, and_false, not_true, not_false_iff, true_or, or_true, false_or, or_false, ne_eq, not_true_eq_false, not_false_eq_true]
  obtain ⟨r, hr⟩ := he
  have x1 : fo (gMx σ 0 (vvN σ n)) 8 (-1) = fo (gMx σ 0 (vvN σ n)) (np σ) (-1) := fo_ext n8' (fun p a h1 _ => by unfold gMx; rw [if_neg (fun h => by have := h.1; omega)])
  have x2 : fo (gMn σ 0 (vvN σ n)) 8 2147483647 = fo (gMn σ 0 (vvN σ n)) (np σ) 2147483647 := fo_ext n8' (fun p a h1 _ => by unfold gMn; rw [if_neg (fun h => by have := h.1; omega)])
  have a := gMn_s (σ := σ) (g := 0) (v := vvN σ n) (i := 2147483647) (j := 1000000) (fun p hp => by
    have := (vv_n hW hn hp).2
    have h1 : (2147483647 : Int32).toInt = 2147483647 := rfl
    have h2 : (1000000 : Int32).toInt = 1000000 := rfl
    omega) 8
  rcases a with a | ⟨a, _, _⟩
  · unfold lvS; rw [x1, ← a, x2]
  · exact absurd hr (a r (by have := hr.1; omega))
theorem m_uneven (d : Nat) {B T : LW} {ω σ : Sig} (hM : MR B T ω σ) (hW : WI B T ω) {n : Nat} (hn : n ≤ 60) : ∃ v, Ex (d + 2) 260 0 [.ref 112, .int (nI n), .null, .null, .null, .null] [] G0 σ = some (some (.int v), G0, σ) ∧ ((∃ p, hold ω 0 p) → v = lvS ω n ∧ v ≠ -1) ∧ ((¬ ∃ p, hold ω 0 p) → v = -1) := by
  have n8' := (WI_np hW).2.1
  have h22 : mr B T ω σ 22 := hM 22
  rw [b260_0]
  obtain ⟨v5, e⟩ : ∃ v5, Ex (d + 2) 260 9 [.ref 112, .int (nI n), .int (-1), .int 1000000, .int 0, .null] [] G0 σ = Ex (d + 2) 260 9 [.ref 112, .int (nI n), .int (fo (gMx ω 0 (vvN ω n)) 8 (-1)), .int (fo (gMn ω 0 (vvN ω n)) 8 1000000), .int (nI 8), v5] [] G0 σ := by
    obtain ⟨⟨x, v5⟩, e, i⟩ := loop_ex (fun p (y : (Int32 × Int32) × Value) => Ex (d + 2) 260 9 [.ref 112, .int (nI n), .int y.1.1, .int y.1.2, .int (nI p), y.2] [] G0 σ) (fun p y => y.1 = fo (fun p (x : Int32 × Int32) => (gMx ω 0 (vvN ω n) p x.1, gMn ω 0 (vvN ω n) p x.2)) p (-1, 1000000)) 8 ((-1, 1000000), .null) rfl (by
      intro p ⟨⟨a, b⟩, v5⟩ hp i
      dsimp only at i
      show ∃ a', Ex (d + 2) 260 9 [.ref 112, .int (nI n), .int a, .int b, .int (nI p), v5] [] G0 σ = _ ∧ _
      rw [b260_9]
      simp only [n8 hp, i10, i01, eq_self, if_true, if_false, true_and, false_and, and_true, and_false, not_true, not_false_iff, true_or, or_true, false_or, or_false, ne_eq, not_true_eq_false, not_false_eq_true, (fun d => m_who d hM hp), Option.bind_some, Option.toList_some, Option.toList_none, List.cons_append, List.nil_append, i01a, i01b, if_true, if_false, b260_22]
      rw [fo, ← i]
      unfold gMx gMn
      by_cases k : ω 9 p = -1
      · have nh : ¬ hold ω 0 p := fun h => h.2.1 k
        simp only [k, i10, i01, eq_self, if_true, if_false, true_and, false_and, and_true, and_false, not_true, not_false_iff, true_or, or_true, false_or, or_false, ne_eq, not_true_eq_false, not_false_eq_true, eq_false nh, nI_s]
        exact ⟨((a, b), v5), rfl, rfl⟩
      · obtain ⟨hpn, _, hb8, ew⟩ := WI_who hW hp k
        have hh : hold ω 0 p := hold0.mpr ⟨hpn, k⟩
        have hv : mx 0 (topX ω 0 p (wN ω p) (ω 10 p) - nI n * (σ 121 p + 1)) = nI (vvN ω n p) := by
          rw [h22 p hp, Int32.sub_add_cancel]; exact (vv_n hW hn hh).1
        simp only [k, i10, i01, eq_self, if_true, if_false, true_and, false_and, and_true, and_false, not_true, not_false_iff, true_or, or_true, false_or, or_false, ne_eq, not_true_eq_false, not_false_eq_true, m_topOf d hM 0 hp hb8 ew, Option.bind_some, Option.toList_some, Option.toList_none, List.cons_append, List.nil_append, i01a, i01b, if_true, if_false, b260_38, i8 hp, c8 hp, m_greater, hv, b260_53, b260_62, m_lesser, b260_70, eq_true hh, nI_s]
        exact ⟨((_, _), _), rfl, rfl⟩)
    dsimp only at i
    rw [gfo_pair] at i
    refine ⟨v5, (e : Ex (d + 2) 260 9 [.ref 112, .int (nI n), .int (-1), .int 1000000, .int 0, .null] [] G0 σ = _).trans ?_⟩
    dsimp only
    rw [i]
  rw [e, b260_9]
  simp only [n88, i10, i01, eq_self, if_true, if_false, true_and, false_and, and_true, and_false, not_true, not_false_iff, true_or, or_true, false_or, or_false, ne_eq, not_true_eq_false, not_false_eq_true]
  have mx0 : (∃ p, hold ω 0 p) → 0 ≤ (fo (gMx ω 0 (vvN ω n)) 8 (-1)).toInt ∧ (fo (gMn ω 0 (vvN ω n)) 8 1000000).toInt ≤ (fo (gMx ω 0 (vvN ω n)) 8 (-1)).toInt ∧ (fo (gMx ω 0 (vvN ω n)) 8 (-1)).toInt ≤ 86 ∧ 0 ≤ (fo (gMn ω 0 (vvN ω n)) 8 1000000).toInt := by
    intro ⟨r, hr⟩
    have key : ∀ m, (-1 ≤ (fo (gMx ω 0 (vvN ω n)) m (-1)).toInt ∧ (fo (gMx ω 0 (vvN ω n)) m (-1)).toInt ≤ 86 ∧ 0 ≤ (fo (gMn ω 0 (vvN ω n)) m 1000000).toInt) ∧ (r < m → 0 ≤ (fo (gMx ω 0 (vvN ω n)) m (-1)).toInt ∧ (vvN ω n r : Int) ≤ (fo (gMx ω 0 (vvN ω n)) m (-1)).toInt ∧ (fo (gMn ω 0 (vvN ω n)) m 1000000).toInt ≤ vvN ω n r) := by
      intro m
      induction m with
      | zero => exact ⟨(by decide : (-1 : Int) ≤ (-1 : Int32).toInt ∧ (-1 : Int32).toInt ≤ 86 ∧ (0 : Int) ≤ (1000000 : Int32).toInt), fun h => by omega⟩
      | succ m ih =>
        rw [fo, fo]
        generalize fo (gMx ω 0 (vvN ω n)) m (-1) = A at *
        generalize fo (gMn ω 0 (vvN ω n)) m 1000000 = C at *
        unfold gMx gMn
        by_cases hh : hold ω 0 m
        · rw [if_pos hh, if_pos hh]
          have vb := (vv_n hW hn hh).2
          have a1 := mn_i (a := C) (b := nI (vvN ω n m))
          rw [nI_i (by omega)] at a1
          have a2 : A.toInt ≤ (mx A (nI (vvN ω n m))).toInt ∧ (vvN ω n m : Int) ≤ (mx A (nI (vvN ω n m))).toInt ∧ ((mx A (nI (vvN ω n m))).toInt = A.toInt ∨ (mx A (nI (vvN ω n m))).toInt = vvN ω n m) := by
            unfold mx
            by_cases c : A < nI (vvN ω n m)
            · rw [if_pos c]; rw [Int32.lt_iff_toInt_lt, nI_i (by omega)] at c; rw [nI_i (by omega)]; omega
            · rw [if_neg c]; have c' := Int32.not_lt.mp c; rw [Int32.le_iff_toInt_le, nI_i (by omega)] at c'; omega
          refine ⟨by omega, fun hm => ?_⟩
          by_cases e : r = m
          · subst e; omega
          · have := ih.2 (by omega); omega
        · rw [if_neg hh, if_neg hh]
          refine ⟨ih.1, fun hm => ?_⟩
          have : r ≠ m := fun e => hh (e ▸ hr)
          exact ih.2 (by omega)
    have k8 := key 8
    have := k8.2 (by have := hr.1; omega)
    omega
  by_cases he : ∃ p, hold ω 0 p
  · have m0 := mx0 he
    have nz : ¬ fo (gMx ω 0 (vvN ω n)) 8 (-1) = -1 := fun e => by
      rw [e] at m0
      have h2 : (-1 : Int32).toInt = -1 := rfl
      omega
    simp only [nz, i10, i01, eq_self, if_true, if_false, true_and, false_and, and_true, and_false, not_true, not_false_iff, true_or, or_true, false_or, or_false, ne_eq, not_true_eq_false, not_false_eq_true]
    refine ⟨_, rfl, fun _ => ⟨rfl, fun e => ?_⟩, fun h => absurd he h⟩
    have := congrArg Int32.toInt e
    rw [Int32.toInt_sub, Int.bmod_eq_of_le (by omega) (by omega)] at this
    have h2 : (-1 : Int32).toInt = -1 := rfl
    omega
  · have : fo (gMx ω 0 (vvN ω n)) 8 (-1) = -1 := by
      have key : ∀ m, fo (gMx ω 0 (vvN ω n)) m (-1) = -1 := by
        intro m
        induction m with
        | zero => rfl
        | succ m ih => rw [fo, ih]; unfold gMx; rw [if_neg (fun h => he ⟨m, h⟩)]
      exact key 8
    simp only [this, i10, i01, eq_self, if_true, if_false, true_and, false_and, and_true, and_false, not_true, not_false_iff, true_or, or_true, false_or, or_false, ne_eq, not_true_eq_false, not_false_eq_true]
    exact ⟨_, rfl, fun h => absurd h he, fun _ => rfl⟩
