/-! L3: arrays filled and copied -/
def fiS (σ : Sig) (q n : Nat) (v : Int32) : Sig := fun q' k => if q' = q ∧ k < n then v else σ q' k
def cpS (σ : Sig) (a b n : Nat) : Sig := fun q k => if q = b ∧ k < n then σ a k else σ q k
theorem fiS_0 (σ : Sig) (q : Nat) (v : Int32) : fiS σ q 0 v = σ := by
  funext a b; unfold fiS; rw [if_neg (by omega)]
theorem fiS_s (σ : Sig) (q n : Nat) (v : Int32) : pt (fiS σ q n v) q n v = fiS σ q (n + 1) v := by
  funext a b
  rw [pt_ap]; unfold fiS
  by_cases h : a = q
  · by_cases k : b = n
    · rw [if_pos ⟨h, k⟩, if_pos ⟨h, by omega⟩]
    · rw [if_neg (fun e => k e.2)]
      by_cases j : b < n
      · rw [if_pos ⟨h, j⟩, if_pos ⟨h, by omega⟩]
      · rw [if_neg (fun e => j e.2), if_neg (fun e => by omega)]
  · rw [if_neg (fun e => h e.1), if_neg (fun e => h e.1), if_neg (fun e => h e.1)]
theorem fiS_q {σ : Sig} {q n q' : Nat} {v : Int32} (h : q' ≠ q) : fiS σ q n v q' = σ q' := by
  funext k; unfold fiS; rw [if_neg (fun e => h e.1)]
theorem fiS_k {σ : Sig} {q n k : Nat} {v : Int32} (h : k < n) : fiS σ q n v q k = v := by
  unfold fiS; rw [if_pos ⟨rfl, h⟩]
theorem cpS_q {σ : Sig} {a b n q : Nat} (h : q ≠ b) : cpS σ a b n q = σ q := by
  funext k; unfold cpS; rw [if_neg (fun e => h e.1)]
theorem cpS_k {σ : Sig} {a b n k : Nat} (h : k < n) : cpS σ a b n b k = σ a k := by
  unfold cpS; rw [if_pos ⟨rfl, h⟩]
theorem st_len {d M pc len n q : Nat} {L r : List Value} {σ : Sig} (hi : ins M pc = some (.arraylength, len, [])) (hq : shp G0 q = (1, n, [])) : Ex d M pc L (.ref q :: r) G0 σ = Ex d M (pc + 1) L (.int (nI n) :: r) G0 σ := by
  rw [Ex_nxt hi]
  show nxt Ex d M pc L G0 σ (grd ((shp G0 q).1 == 1 || (shp G0 q).1 == 2) (go (pc + 1) L (.int (Int32.ofNat (shp G0 q).2.1) :: r) G0 σ)) = _
  rw [hq]; rfl
theorem st_cp {d M pc len a b n m k : Nat} {x : Nat} {L : List Value} {σ : Sig} (hi : ins M pc = some (.invokestatic x, len, [6])) (ha : shp G0 a = (1, n, [])) (hb : shp G0 b = (1, m, [])) (hn : k ≤ n) (hm : k ≤ m) (hk : k < 2 ^ 31) : Ex d M pc L [.int (nI k), .int 0, .ref b, .int 0, .ref a] G0 σ = Ex d M (pc + 3) L [] G0 (cpS σ a b k) := by
  rw [Ex_nxt hi]
  have h1 : (decide (nI k < 0)) = false := decide_eq_false (by
    have := nJ_lt (a := k) (b := 0) hk (by omega)
    show ¬ nI k < nI 0
    rw [this]; omega)
  have h2 : Nat.ble k n = true := Nat.ble_eq.mpr hn
  have h3 : Nat.ble k m = true := Nat.ble_eq.mpr hm
  show nxt Ex d M pc L G0 σ (grd (rOk [] && (shp G0 a).1 == 1 && (shp G0 b).1 == 1 && !decide ((0 : Int32) < 0) && !decide ((0 : Int32) < 0) && !decide (nI k < 0) && Nat.ble (0 + (nI k).toNatClampNeg) (shp G0 a).2.1 && Nat.ble (0 + (nI k).toNatClampNeg) (shp G0 b).2.1) (go (pc + 3) L [] G0 (sup σ b (va_cpy (σ a) (σ b) 0 0 (nI k).toNatClampNeg)))) = _
  rw [ha, hb, h1, nI_c hk, Nat.zero_add]
  show nxt Ex d M pc L G0 σ (grd (Nat.ble k n && Nat.ble k m) _) = _
  rw [h2, h3]
  show Ex d M (pc + 3) L [] G0 (sup σ b (va_cpy (σ a) (σ b) 0 0 k)) = _
  congr 1
  funext q j
  unfold sup cpS va_cpy
  by_cases h : q = b
  · subst h
    simp
  · simp [h]
theorem c_copy (d : Nat) (σ : Sig) (a b n : Nat) (ha : shp G0 a = (1, n, [])) (hb : shp G0 b = (1, n, [])) (hn : n < 2 ^ 31) : Ex (d + 1) 140 0 [.ref a, .ref b] [] G0 σ = some (none, G0, cpS σ a b n) := by
  refine ((Ex_nxt rfl).trans rfl : _ = Ex (d + 1) 140 1 [.ref a, .ref b] [.ref a] G0 σ).trans ?_
  refine ((Ex_nxt rfl).trans rfl : _ = Ex (d + 1) 140 2 [.ref a, .ref b] [.int 0, .ref a] G0 σ).trans ?_
  refine ((Ex_nxt rfl).trans rfl : _ = Ex (d + 1) 140 3 [.ref a, .ref b] [.ref b, .int 0, .ref a] G0 σ).trans ?_
  refine ((Ex_nxt rfl).trans rfl : _ = Ex (d + 1) 140 4 [.ref a, .ref b] [.int 0, .ref b, .int 0, .ref a] G0 σ).trans ?_
  refine ((Ex_nxt rfl).trans rfl : _ = Ex (d + 1) 140 5 [.ref a, .ref b] [.ref a, .int 0, .ref b, .int 0, .ref a] G0 σ).trans ?_
  rw [st_len rfl ha]
  refine ((Ex_nxt rfl).trans rfl : _ = Ex (d + 1) 140 7 [.ref a, .ref b] [.ref b, .int (nI n), .int 0, .ref b, .int 0, .ref a] G0 σ).trans ?_
  rw [st_len rfl hb]
  refine ((Ex_nxt rfl).trans rfl : _ = (Ex d 271 0 [.int (nI n), .int (nI n)] [] G0 σ).bind fun o => Ex (d + 1) 140 11 [.ref a, .ref b] (o.1.toList ++ [.int 0, .ref b, .int 0, .ref a]) o.2.1 o.2.2).trans ?_
  simp only [c_min, Option.bind_some, Option.toList_some, Option.toList_none, List.cons_append, List.nil_append, i01a, i01b, if_true, if_false]
  have : mn (nI n) (nI n) = nI n := by unfold mn; split <;> rfl
  rw [this, st_cp rfl ha hb (Nat.le_refl n) (Nat.le_refl n) hn]
  exact (Ex_nxt rfl).trans rfl
theorem c_fill71 (d : Nat) (σ : Sig) (v : Int32) : Ex d 283 0 [.ref 71, .int v, .null, .null] [] G0 σ = some (none, G0, fiS σ 71 8 v) := by
  rw [b283k0_0]
  have e := loop_fo (fun p (s : Sig) => Ex d 283 5 [.ref 71, .int v, .int (nI p), .int 8] [] G0 s) (fun p s => pt s 71 p v) 8 σ (by
    intro p s hp
    have h1 : ((8 : Int32) ≤ nI p) = False := by
      have : ((8 : Int32) ≤ nI p) = (8 ≤ p) := nJ_le (a := 8) (by omega) (by omega)
      rw [this]; exact eq_false (by omega)
    rw [b283k0_5]
    simp only [b283k0_0, b283k0_14, h1, inb_n hp (show p < 2 ^ 31 by omega), nI_c (show p < 2 ^ 31 by omega), if_true, if_false, nI_s])
  refine (e : Ex d 283 5 [.ref 71, .int v, .int 0, .int 8] [] G0 σ = _).trans ?_
  have h2 : ((8 : Int32) ≤ nI 8) = True := eq_true (by decide)
  rw [b283k0_5]
  simp only [b283k0_0, b283k0_14, h2, if_true]
  have key : ∀ m, fo (fun p s => pt s 71 p v) m σ = fiS σ 71 m v := by
    intro m
    induction m with
    | zero => exact (fiS_0 σ 71 v).symm
    | succ m ih => show pt (fo _ m σ) 71 m v = _; rw [ih, fiS_s]
  rw [key]
theorem c_fill68 (d : Nat) (σ : Sig) (v : Int32) : Ex d 283 0 [.ref 68, .int v, .null, .null] [] G0 σ = some (none, G0, fiS σ 68 8 v) := by
  rw [b283k1_0]
  have e := loop_fo (fun p (s : Sig) => Ex d 283 5 [.ref 68, .int v, .int (nI p), .int 8] [] G0 s) (fun p s => pt s 68 p v) 8 σ (by
    intro p s hp
    have h1 : ((8 : Int32) ≤ nI p) = False := by
      have : ((8 : Int32) ≤ nI p) = (8 ≤ p) := nJ_le (a := 8) (by omega) (by omega)
      rw [this]; exact eq_false (by omega)
    rw [b283k1_5]
    simp only [b283k1_0, b283k1_14, h1, inb_n hp (show p < 2 ^ 31 by omega), nI_c (show p < 2 ^ 31 by omega), if_true, if_false, nI_s])
  refine (e : Ex d 283 5 [.ref 68, .int v, .int 0, .int 8] [] G0 σ = _).trans ?_
  have h2 : ((8 : Int32) ≤ nI 8) = True := eq_true (by decide)
  rw [b283k1_5]
  simp only [b283k1_0, b283k1_14, h2, if_true]
  have key : ∀ m, fo (fun p s => pt s 68 p v) m σ = fiS σ 68 m v := by
    intro m
    induction m with
    | zero => exact (fiS_0 σ 68 v).symm
    | succ m ih => show pt (fo _ m σ) 68 m v = _; rw [ih, fiS_s]
  rw [key]
theorem c_fill73 (d : Nat) (σ : Sig) (v : Int32) : Ex d 283 0 [.ref 73, .int v, .null, .null] [] G0 σ = some (none, G0, fiS σ 73 3008 v) := by
  rw [b283k2_0]
  have e := loop_fo (fun p (s : Sig) => Ex d 283 5 [.ref 73, .int v, .int (nI p), .int 3008] [] G0 s) (fun p s => pt s 73 p v) 3008 σ (by
    intro p s hp
    have h1 : ((3008 : Int32) ≤ nI p) = False := by
      have : ((3008 : Int32) ≤ nI p) = (3008 ≤ p) := nJ_le (a := 3008) (by omega) (by omega)
      rw [this]; exact eq_false (by omega)
    rw [b283k2_5]
    simp only [b283k2_0, b283k2_14, h1, inb_n hp (show p < 2 ^ 31 by omega), nI_c (show p < 2 ^ 31 by omega), if_true, if_false, nI_s])
  refine (e : Ex d 283 5 [.ref 73, .int v, .int 0, .int 3008] [] G0 σ = _).trans ?_
  have h2 : ((3008 : Int32) ≤ nI 3008) = True := eq_true (by decide)
  rw [b283k2_5]
  simp only [b283k2_0, b283k2_14, h2, if_true]
  have key : ∀ m, fo (fun p s => pt s 73 p v) m σ = fiS σ 73 m v := by
    intro m
    induction m with
    | zero => exact (fiS_0 σ 73 v).symm
    | succ m ih => show pt (fo _ m σ) 73 m v = _; rw [ih, fiS_s]
  rw [key]
theorem c_fill9 (d : Nat) (σ : Sig) (v : Int32) : Ex d 283 0 [.ref 9, .int v, .null, .null] [] G0 σ = some (none, G0, fiS σ 9 8 v) := by
  rw [b283k3_0]
  have e := loop_fo (fun p (s : Sig) => Ex d 283 5 [.ref 9, .int v, .int (nI p), .int 8] [] G0 s) (fun p s => pt s 9 p v) 8 σ (by
    intro p s hp
    have h1 : ((8 : Int32) ≤ nI p) = False := by
      have : ((8 : Int32) ≤ nI p) = (8 ≤ p) := nJ_le (a := 8) (by omega) (by omega)
      rw [this]; exact eq_false (by omega)
    rw [b283k3_5]
    simp only [b283k3_0, b283k3_14, h1, inb_n hp (show p < 2 ^ 31 by omega), nI_c (show p < 2 ^ 31 by omega), if_true, if_false, nI_s])
  refine (e : Ex d 283 5 [.ref 9, .int v, .int 0, .int 8] [] G0 σ = _).trans ?_
  have h2 : ((8 : Int32) ≤ nI 8) = True := eq_true (by decide)
  rw [b283k3_5]
  simp only [b283k3_0, b283k3_14, h2, if_true]
  have key : ∀ m, fo (fun p s => pt s 9 p v) m σ = fiS σ 9 m v := by
    intro m
    induction m with
    | zero => exact (fiS_0 σ 9 v).symm
    | succ m ih => show pt (fo _ m σ) 9 m v = _; rw [ih, fiS_s]
  rw [key]
theorem c_fill10 (d : Nat) (σ : Sig) (v : Int32) : Ex d 283 0 [.ref 10, .int v, .null, .null] [] G0 σ = some (none, G0, fiS σ 10 8 v) := by
  rw [b283k4_0]
  have e := loop_fo (fun p (s : Sig) => Ex d 283 5 [.ref 10, .int v, .int (nI p), .int 8] [] G0 s) (fun p s => pt s 10 p v) 8 σ (by
    intro p s hp
    have h1 : ((8 : Int32) ≤ nI p) = False := by
      have : ((8 : Int32) ≤ nI p) = (8 ≤ p) := nJ_le (a := 8) (by omega) (by omega)
      rw [this]; exact eq_false (by omega)
    rw [b283k4_5]
    simp only [b283k4_0, b283k4_14, h1, inb_n hp (show p < 2 ^ 31 by omega), nI_c (show p < 2 ^ 31 by omega), if_true, if_false, nI_s])
  refine (e : Ex d 283 5 [.ref 10, .int v, .int 0, .int 8] [] G0 σ = _).trans ?_
  have h2 : ((8 : Int32) ≤ nI 8) = True := eq_true (by decide)
  rw [b283k4_5]
  simp only [b283k4_0, b283k4_14, h2, if_true]
  have key : ∀ m, fo (fun p s => pt s 10 p v) m σ = fiS σ 10 m v := by
    intro m
    induction m with
    | zero => exact (fiS_0 σ 10 v).symm
    | succ m ih => show pt (fo _ m σ) 10 m v = _; rw [ih, fiS_s]
  rw [key]
theorem c_fill11 (d : Nat) (σ : Sig) (v : Int32) : Ex d 283 0 [.ref 11, .int v, .null, .null] [] G0 σ = some (none, G0, fiS σ 11 8 v) := by
  rw [b283k5_0]
  have e := loop_fo (fun p (s : Sig) => Ex d 283 5 [.ref 11, .int v, .int (nI p), .int 8] [] G0 s) (fun p s => pt s 11 p v) 8 σ (by
    intro p s hp
    have h1 : ((8 : Int32) ≤ nI p) = False := by
      have : ((8 : Int32) ≤ nI p) = (8 ≤ p) := nJ_le (a := 8) (by omega) (by omega)
      rw [this]; exact eq_false (by omega)
    rw [b283k5_5]
    simp only [b283k5_0, b283k5_14, h1, inb_n hp (show p < 2 ^ 31 by omega), nI_c (show p < 2 ^ 31 by omega), if_true, if_false, nI_s])
  refine (e : Ex d 283 5 [.ref 11, .int v, .int 0, .int 8] [] G0 σ = _).trans ?_
  have h2 : ((8 : Int32) ≤ nI 8) = True := eq_true (by decide)
  rw [b283k5_5]
  simp only [b283k5_0, b283k5_14, h2, if_true]
  have key : ∀ m, fo (fun p s => pt s 11 p v) m σ = fiS σ 11 m v := by
    intro m
    induction m with
    | zero => exact (fiS_0 σ 11 v).symm
    | succ m ih => show pt (fo _ m σ) 11 m v = _; rw [ih, fiS_s]
  rw [key]
theorem c_fill12 (d : Nat) (σ : Sig) (v : Int32) : Ex d 283 0 [.ref 12, .int v, .null, .null] [] G0 σ = some (none, G0, fiS σ 12 8 v) := by
  rw [b283k6_0]
  have e := loop_fo (fun p (s : Sig) => Ex d 283 5 [.ref 12, .int v, .int (nI p), .int 8] [] G0 s) (fun p s => pt s 12 p v) 8 σ (by
    intro p s hp
    have h1 : ((8 : Int32) ≤ nI p) = False := by
      have : ((8 : Int32) ≤ nI p) = (8 ≤ p) := nJ_le (a := 8) (by omega) (by omega)
      rw [this]; exact eq_false (by omega)
    rw [b283k6_5]
    simp only [b283k6_0, b283k6_14, h1, inb_n hp (show p < 2 ^ 31 by omega), nI_c (show p < 2 ^ 31 by omega), if_true, if_false, nI_s])
  refine (e : Ex d 283 5 [.ref 12, .int v, .int 0, .int 8] [] G0 σ = _).trans ?_
  have h2 : ((8 : Int32) ≤ nI 8) = True := eq_true (by decide)
  rw [b283k6_5]
  simp only [b283k6_0, b283k6_14, h2, if_true]
  have key : ∀ m, fo (fun p s => pt s 12 p v) m σ = fiS σ 12 m v := by
    intro m
    induction m with
    | zero => exact (fiS_0 σ 12 v).symm
    | succ m ih => show pt (fo _ m σ) 12 m v = _; rw [ih, fiS_s]
  rw [key]
theorem c_fill13 (d : Nat) (σ : Sig) (v : Int32) : Ex d 283 0 [.ref 13, .int v, .null, .null] [] G0 σ = some (none, G0, fiS σ 13 8 v) := by
  rw [b283k7_0]
  have e := loop_fo (fun p (s : Sig) => Ex d 283 5 [.ref 13, .int v, .int (nI p), .int 8] [] G0 s) (fun p s => pt s 13 p v) 8 σ (by
    intro p s hp
    have h1 : ((8 : Int32) ≤ nI p) = False := by
      have : ((8 : Int32) ≤ nI p) = (8 ≤ p) := nJ_le (a := 8) (by omega) (by omega)
      rw [this]; exact eq_false (by omega)
    rw [b283k7_5]
    simp only [b283k7_0, b283k7_14, h1, inb_n hp (show p < 2 ^ 31 by omega), nI_c (show p < 2 ^ 31 by omega), if_true, if_false, nI_s])
  refine (e : Ex d 283 5 [.ref 13, .int v, .int 0, .int 8] [] G0 σ = _).trans ?_
  have h2 : ((8 : Int32) ≤ nI 8) = True := eq_true (by decide)
  rw [b283k7_5]
  simp only [b283k7_0, b283k7_14, h2, if_true]
  have key : ∀ m, fo (fun p s => pt s 13 p v) m σ = fiS σ 13 m v := by
    intro m
    induction m with
    | zero => exact (fiS_0 σ 13 v).symm
    | succ m ih => show pt (fo _ m σ) 13 m v = _; rw [ih, fiS_s]
  rw [key]
