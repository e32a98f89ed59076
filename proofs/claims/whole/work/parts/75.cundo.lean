/-! L3: paces and undo, the class -/
theorem md6 {m : Nat} (h : m < 2 ^ 31) : nI m - nI m / 6 * 6 = nI (m % 6) := by
  have e1 : nI m / 6 = nI (m / 6) := nI_div (b := 6) h (by omega)
  have e2 : nI (m / 6) * 6 = nI (m / 6 * 6) := nI_mul' (m / 6) 6
  rw [e1, e2, nI_sub' (by omega), show m - m / 6 * 6 = m % 6 by omega]
theorem six {P : Nat → Prop} (h0 : P 0) (h1 : P 1) (h2 : P 2) (h3 : P 3) (h4 : P 4) (h5 : P 5) {j : Nat} (hj : j < 6) : P j := by
  match j, hj with
  | 0, _ => exact h0
  | 1, _ => exact h1
  | 2, _ => exact h2
  | 3, _ => exact h3
  | 4, _ => exact h4
  | 5, _ => exact h5
theorem aa135 (d : Nat) (σ : Sig) {j : Nat} (hj : j < 6) : Ex d 135 60 [.ref 0] [.int (nI j), .ref 87] G0 σ = Ex d 135 61 [.ref 0] [.ref (88 + 4 * j)] G0 σ :=
  six (P := fun j => Ex d 135 60 [.ref 0] [.int (nI j), .ref 87] G0 σ = Ex d 135 61 [.ref 0] [.ref (88 + 4 * j)] G0 σ) ((Ex_nxt rfl).trans rfl) ((Ex_nxt rfl).trans rfl) ((Ex_nxt rfl).trans rfl) ((Ex_nxt rfl).trans rfl) ((Ex_nxt rfl).trans rfl) ((Ex_nxt rfl).trans rfl) hj
theorem aa128 (d : Nat) (σ : Sig) {j : Nat} (hj : j < 6) : Ex d 128 35 [.ref 0] [.int (nI j), .ref 87] G0 σ = Ex d 128 36 [.ref 0] [.ref (88 + 4 * j)] G0 σ :=
  six (P := fun j => Ex d 128 35 [.ref 0] [.int (nI j), .ref 87] G0 σ = Ex d 128 36 [.ref 0] [.ref (88 + 4 * j)] G0 σ) ((Ex_nxt rfl).trans rfl) ((Ex_nxt rfl).trans rfl) ((Ex_nxt rfl).trans rfl) ((Ex_nxt rfl).trans rfl) ((Ex_nxt rfl).trans rfl) ((Ex_nxt rfl).trans rfl) hj
theorem ca128 (d : Nat) (σ : Sig) {j : Nat} (hj : j < 6) : Ex (d + 1) 128 40 [.ref 0] [.ref 1, .ref (88 + 4 * j)] G0 σ = (Ex d 29 0 [.ref (88 + 4 * j), .ref 1] [] G0 σ).bind fun o => Ex (d + 1) 128 43 [.ref 0] (o.1.toList ++ []) o.2.1 o.2.2 :=
  six (P := fun j => Ex (d + 1) 128 40 [.ref 0] [.ref 1, .ref (88 + 4 * j)] G0 σ = (Ex d 29 0 [.ref (88 + 4 * j), .ref 1] [] G0 σ).bind fun o => Ex (d + 1) 128 43 [.ref 0] (o.1.toList ++ []) o.2.1 o.2.2) ((Ex_nxt rfl).trans rfl) ((Ex_nxt rfl).trans rfl) ((Ex_nxt rfl).trans rfl) ((Ex_nxt rfl).trans rfl) ((Ex_nxt rfl).trans rfl) ((Ex_nxt rfl).trans rfl) hj
theorem ca108 (d : Nat) (σ : Sig) (a b : Int32) {j : Nat} (hj : j < 6) : Ex (d + 1) 108 57 [.ref 0, .int a, .int b] [.ref 1, .ref (88 + 4 * j)] G0 σ = (Ex d 28 0 [.ref (88 + 4 * j), .ref 1] [] G0 σ).bind fun o => Ex (d + 1) 108 60 [.ref 0, .int a, .int b] (o.1.toList ++ []) o.2.1 o.2.2 :=
  six (P := fun j => Ex (d + 1) 108 57 [.ref 0, .int a, .int b] [.ref 1, .ref (88 + 4 * j)] G0 σ = (Ex d 28 0 [.ref (88 + 4 * j), .ref 1] [] G0 σ).bind fun o => Ex (d + 1) 108 60 [.ref 0, .int a, .int b] (o.1.toList ++ []) o.2.1 o.2.2) ((Ex_nxt rfl).trans rfl) ((Ex_nxt rfl).trans rfl) ((Ex_nxt rfl).trans rfl) ((Ex_nxt rfl).trans rfl) ((Ex_nxt rfl).trans rfl) ((Ex_nxt rfl).trans rfl) hj
theorem c_takeM (d : Nat) (σ : Sig) {j : Nat} (hj : j < 6) : ∃ σ', Ex (d + 2) 28 0 [.ref (88 + 4 * j), .ref 1] [] G0 σ = some (none, G0, σ') ∧ Fr [88 + 4 * j, 88 + 4 * j + 1, 88 + 4 * j + 2, 88 + 4 * j + 3] [] σ σ' ∧ MM σ (88 + 4 * j) σ' :=
  six (P := fun j => ∃ σ', Ex (d + 2) 28 0 [.ref (88 + 4 * j), .ref 1] [] G0 σ = some (none, G0, σ') ∧ Fr [88 + 4 * j, 88 + 4 * j + 1, 88 + 4 * j + 2, 88 + 4 * j + 3] [] σ σ' ∧ MM σ (88 + 4 * j) σ') (c_take88 d σ) (c_take92 d σ) (c_take96 d σ) (c_take100 d σ) (c_take104 d σ) (c_take108 d σ) hj
theorem c_giveM (d : Nat) (σ : Sig) {j : Nat} (hj : j < 6) : ∃ σ', Ex (d + 2) 29 0 [.ref (88 + 4 * j), .ref 1] [] G0 σ = some (none, G0, σ') ∧ Fr [7, 9, 10] [(1, 5), (1, 6), (1, 7), (1, 8), (1, 9), (1, 10), (25, 0)] σ σ' ∧ MM σ' (88 + 4 * j) σ ∧ (∀ k, 8 ≤ k → σ' 7 k = σ 7 k ∧ σ' 9 k = σ 9 k ∧ σ' 10 k = σ 10 k) :=
  six (P := fun j => ∃ σ', Ex (d + 2) 29 0 [.ref (88 + 4 * j), .ref 1] [] G0 σ = some (none, G0, σ') ∧ Fr [7, 9, 10] [(1, 5), (1, 6), (1, 7), (1, 8), (1, 9), (1, 10), (25, 0)] σ σ' ∧ MM σ' (88 + 4 * j) σ ∧ (∀ k, 8 ≤ k → σ' 7 k = σ 7 k ∧ σ' 9 k = σ 9 k ∧ σ' 10 k = σ 10 k)) (c_give88 d σ) (c_give92 d σ) (c_give96 d σ) (c_give100 d σ) (c_give104 d σ) (c_give108 d σ) hj
def UL (B T : LW) (L : List Sig) (w : Sig) : Prop := L.length ≤ 6 ∧ ∀ v ∈ L, WI B T v ∧ Td v w
def CU (L : List Sig) (σ : Sig) : Prop := σ 0 8 = nI L.length ∧ ∃ o, o < 6 ∧ σ 0 7 = nI o ∧ ∀ j (h : j < L.length), MM L[j] (88 + 4 * ((o + j) % 6)) σ
def kL (L : List Sig) : List Sig := if L.length = 6 then L.tail else L
theorem kL_l {L : List Sig} (h : L.length ≤ 6) : (kL L).length ≤ 5 := by
  unfold kL; split
  · rw [List.length_tail]; omega
  · omega
theorem kL_m {L : List Sig} {v : Sig} (h : v ∈ kL L) : v ∈ L := by
  unfold kL at h; split at h
  · exact List.mem_of_mem_tail h
  · exact h
theorem UL_go {B T : LW} {L : List Sig} {w v : Sig} (h : UL B T L w) (hW : WI B T w) (t : Td w v) : UL B T (kL L ++ [w]) v := by
  refine ⟨by have := kL_l h.1; rw [List.length_append]; simp only [List.length_singleton]; omega, fun u hu => ?_⟩
  rcases List.mem_append.mp hu with h1 | h1
  · obtain ⟨a, b⟩ := h.2 u (kL_m h1)
    exact ⟨a, Td_t b t⟩
  · rw [List.mem_singleton.mp h1]; exact ⟨hW, t⟩
theorem CU_push {K : List Sig} {w σ σ' : Sig} {o : Nat} (hk : K.length ≤ 5) (ho : o < 6) (hm : ∀ j (h : j < K.length), MM K[j] (88 + 4 * ((o + j) % 6)) σ) (e8 : σ' 0 8 = nI (K.length + 1)) (e7 : σ' 0 7 = nI o)
    (f : ∀ q, 88 ≤ q → q < 112 → q ∉ [88 + 4 * ((o + K.length) % 6), 88 + 4 * ((o + K.length) % 6) + 1, 88 + 4 * ((o + K.length) % 6) + 2, 88 + 4 * ((o + K.length) % 6) + 3] → σ' q = σ q) (m : MM w (88 + 4 * ((o + K.length) % 6)) σ') : CU (K ++ [w]) σ' := by
  refine ⟨by rw [e8, List.length_append]; rfl, o, ho, e7, fun j h => ?_⟩
  rw [List.length_append] at h
  simp only [List.length_singleton] at h
  by_cases c : j < K.length
  · rw [List.getElem_append_left c]
    have hne : (o + j) % 6 ≠ (o + K.length) % 6 := by omega
    have h1 : (o + j) % 6 < 6 := by omega
    have h2 : (o + K.length) % 6 < 6 := by omega
    refine MM_fr (hm j c) (f _ (by omega) (by omega) ?_) (f _ (by omega) (by omega) ?_) (f _ (by omega) (by omega) ?_) (f _ (by omega) (by omega) ?_)
    all_goals (simp; omega)
  · have e : j = K.length := by omega
    subst e
    rw [List.getElem_append_right (by omega)]
    simp only [Nat.sub_self, List.getElem_singleton]
    exact m
theorem c_nextM (d : Nat) {L : List Sig} {σ : Sig} (h : CU L σ) (hl : L.length ≤ 6) : ∃ (σ' : Sig) (j : Nat), j < 6 ∧ Ex d 135 0 [.ref 0] [] G0 σ = some (some (.ref (88 + 4 * j)), G0, σ') ∧ Fr [] [(0, 7), (0, 8)] σ σ' ∧ ∀ (w σ2 : Sig), Fr [88 + 4 * j, 88 + 4 * j + 1, 88 + 4 * j + 2, 88 + 4 * j + 3] [] σ' σ2 → MM w (88 + 4 * j) σ2 → CU (kL L ++ [w]) σ2 := by
  obtain ⟨h8, o, ho, h7, hm⟩ := h
  by_cases c : L.length = 6
  · have e7 : nI o + 1 - (nI o + 1) / 6 * 6 = nI ((o + 1) % 6) := by rw [nI_s, md6 (by omega)]
    have e8 : σ 0 8 = 6 := by rw [h8, c]; rfl
    have ix : nI ((o + 1) % 6) + 6 - 1 - (nI ((o + 1) % 6) + 6 - 1) / 6 * 6 = nI (((o + 1) % 6 + 5) % 6) := by
      have a1 : nI ((o + 1) % 6) + 6 = nI ((o + 1) % 6 + 6) := (Int32.ofNat_add _ 6).symm
      have a2 : nI ((o + 1) % 6 + 6) - 1 = nI ((o + 1) % 6 + 5) := nI_sub' (b := 1) (by omega)
      rw [a1, a2, md6 (by omega)]
    have e9 : (6 : Int32) - 1 + 1 = 6 := by decide
    simp only [b135_0, e8, h7, e7, i10, i01, eq_self, if_true, if_false, true_and, false_and, and_true, and_false, not_true, not_false_iff, true_or, or_true, false_or, or_false, ne_eq, not_true_eq_false, not_false_eq_true, b135_32]
    simp (disch := decide) only [pt_e, pt_k, e8, e9, ix]
    rw [aa135 d _ (by omega), b135_61]
    refine ⟨_, ((o + 1) % 6 + 5) % 6, Nat.mod_lt _ (by decide), rfl, ?_, fun w σ2 f m => ?_⟩
    · exact Fr_p (Fr_p (Fr_p Fr_r (Or.inr (by simp))) (Or.inr (by simp))) (Or.inr (by simp))
    · have ek : kL L = L.tail := by unfold kL; rw [if_pos c]
      have el : L.tail.length = 5 := by rw [List.length_tail, c]
      rw [ek]
      refine CU_push (K := L.tail) (σ := σ) (o := (o + 1) % 6) (by omega) (by omega) (fun j hj => ?_) ?_ ?_ (fun q h1 h2 h3 => ?_) (by rw [el]; exact m)
      · rw [List.getElem_tail]
        have := hm (j + 1) (by omega)
        rw [show ((o + 1) % 6 + j) % 6 = (o + (j + 1)) % 6 by omega]; exact this
      · rw [f 0 8 (by simp; omega) (by simp), pt_e, el]; rfl
      · rw [f 0 7 (by simp; omega) (by simp), pt_k (by decide), pt_k (by decide), pt_e]
      · rw [Fr_q f (by rw [← el]; exact h3) (by simp), pt_q (by omega), pt_q (by omega), pt_q (by omega)]
  · have ix : nI o + nI (L.length + 1) - 1 - (nI o + nI (L.length + 1) - 1) / 6 * 6 = nI ((o + L.length) % 6) := by
      have a1 : nI o + nI (L.length + 1) = nI (o + (L.length + 1)) := (Int32.ofNat_add _ _).symm
      have a2 : nI (o + (L.length + 1)) - 1 = nI (o + L.length) := nI_sub' (b := 1) (by omega)
      rw [a1, a2, md6 (by omega)]
    have q : (nI L.length = 6) = False := by
      have : (nI L.length = 6) = (L.length = 6) := nJ_e (b := 6) (by omega) (by omega)
      rw [this]; exact eq_false c
    simp only [b135_0, h8, q, i10, i01, eq_self, if_true, if_false, true_and, false_and, and_true, and_false, not_true, not_false_iff, true_or, or_true, false_or, or_false, ne_eq, not_true_eq_false, not_false_eq_true, b135_32, nI_s]
    simp (disch := decide) only [pt_e, pt_k, h7, ix]
    rw [aa135 d _ (by omega), b135_61]
    refine ⟨_, (o + L.length) % 6, Nat.mod_lt _ (by decide), rfl, Fr_p Fr_r (Or.inr (by simp)), fun w σ2 f m => ?_⟩
    have ek : kL L = L := by unfold kL; rw [if_neg c]
    rw [ek]
    refine CU_push (K := L) (σ := σ) (o := o) (by omega) ho hm ?_ ?_ (fun q h1 h2 h3 => ?_) m
    · rw [f 0 8 (by simp; omega) (by simp), pt_e]
    · rw [f 0 7 (by simp; omega) (by simp), pt_k (by decide)]; exact h7
    · rw [Fr_q f h3 (by simp), pt_q (by omega)]
