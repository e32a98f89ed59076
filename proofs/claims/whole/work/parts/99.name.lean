/-! L3: TOKENS: their kinds, the class -/
def nv (b : Nat → Nat) (F : Nat) : Nat → Nat
  | 0 => 0
  | k + 1 => nv b F k * 10 + b (F + k) - 48
theorem c_number (d : Nat) {σ : Sig} {b : Nat → Nat} {n F E : Nat} (h : TPe b n σ) (hF : F ≤ E) (hE : E ≤ n) (hc : ∀ i, F ≤ i → i < E → 48 ≤ b i ∧ b i < 128) :
    Ex d 47 0 [.ref 53, .int (nI F), .int (nI E), .null, .null] [] G0 σ = some (some (.int (nI (nv b F (E - F)))), G0, σ) := by
  obtain ⟨hn, _, hb⟩ := h
  rw [b47_0]
  have key : ∀ m k, F + k + m = E → Ex d 47 5 [.ref 53, .int (nI F), .int (nI E), .int (nI (nv b F k)), .int (nI (F + k))] [] G0 σ = some (some (.int (nI (nv b F (E - F)))), G0, σ) := by
    intro m
    induction m with
    | zero =>
      intro k hk
      have q : (nI E ≤ nI (F + k)) = True := by rw [nJ_le (by omega) (by omega)]; exact eq_true (by omega)
      rw [b47_5]
      simp only [q, i10, i01, eq_self, if_true, if_false, true_and, false_and, and_true, and_false, not_true, not_false_iff, true_or, or_true, false_or, or_false, ne_eq, not_true_eq_false, not_false_eq_true]
      rw [show E - F = k by omega]
    | succ m ih =>
      intro k hk
      have q : (nI E ≤ nI (F + k)) = False := by rw [nJ_le (by omega) (by omega)]; exact eq_false (by omega)
      obtain ⟨c1, c2⟩ := hc (F + k) (by omega) (by omega)
      obtain ⟨_, _, hb3⟩ := hb (F + k) (by omega)
      have ea : nI (nv b F k) * 10 + nI (b (F + k)) - 48 = nI (nv b F (k + 1)) := by
        have e1 : nI (nv b F k) * nI 10 = nI (nv b F k * 10) := nI_mul' _ _
        have e2 : nI (nv b F k * 10) + nI (b (F + k)) = nI (nv b F k * 10 + b (F + k)) := (Int32.ofNat_add _ _).symm
        have e3 : nI (nv b F k * 10 + b (F + k)) - nI 48 = nI (nv b F k * 10 + b (F + k) - 48) := nI_sub' (by omega)
        exact (congrArg (· - (48 : Int32)) ((congrArg (· + nI (b (F + k))) e1).trans e2)).trans e3
      rw [b47_5]
      simp only [q, i10, i01, eq_self, if_true, if_false, true_and, false_and, and_true, and_false, not_true, not_false_iff, true_or, or_true, false_or, or_false, ne_eq, not_true_eq_false, not_false_eq_true, inb_n (show F + k < 400 by omega) (show F + k < 2 ^ 31 by omega), nI_c (show F + k < 2 ^ 31 by omega), hb3 c2, ea, b47_27, nI_s]
      exact ih (k + 1) (by omega)
  exact key (E - F) 0 (by omega)
def sg : List Nat := [59, 43, 45, 42, 47, 40, 41, 60, 61, 62]
theorem sg_ok : ∀ i, i < 10 → schr 1 (nI i) = nI (sg.getD i 0) ∧ sg.getD i 0 < 128 := by decide
theorem by8_a : ∀ c, c < 256 → (c < 128 → by8 (nI c) = nI c) ∧ (128 ≤ c → (by8 (nI c)).toInt < 0) ∧ ((nI c).toUInt32 % 65536).toInt32 = nI c ∧ by8 (nI c) &&& 255 = nI c := by decide +kernel
theorem sg_by {c i : Nat} (hc : c < 256) (hi : i < 10) : (schr 1 (nI i) = by8 (nI c)) = (sg.getD i 0 = c) := by
  obtain ⟨e1, e2⟩ := sg_ok i hi
  obtain ⟨a1, a2, _, _⟩ := by8_a c hc
  rw [e1]
  by_cases k : c < 128
  · rw [a1 k, nJ_e (by omega) (by omega)]
  · have := a2 (by omega)
    refine propext ⟨fun e => ?_, fun e => by omega⟩
    rw [← e, nI_i (by omega)] at this
    omega
theorem c_wlen1 (d : Nat) (σ : Sig) : Ex (d + 1) 272 0 [.retAddr 1] [] G0 σ = some (some (.int 10), G0, σ) := by
  have e : (10 : Int32) >>> ((0 : Int32) &&& 31) = 10 := by decide
  simp only [b272k0_0, b276k0_0, i10, if_false, r276b, Option.bind_some, Option.toList_some, Option.toList_none, List.cons_append, List.nil_append, i01a, i01b, if_true, if_false, b272k0_9, e]
theorem c_indexOf (d : Nat) (σ : Sig) {c : Nat} (hc : c < 256) : ∃ v, Ex (d + 3) 274 0 [.retAddr 1, .int (nI c)] [] G0 σ = some (some (.int v), G0, σ) ∧ ((0 ≤ v) = (c ∈ sg)) := by
  have key : ∀ m i, i + m = 10 → (∀ k, k < i → sg.getD k 0 ≠ c) → ∃ v, Ex d 282 7 [.retAddr 11, .int (nI c), .int 0, .int 10, .int (by8 (nI c)), .int (nI i)] [] G0 σ = some (some (.int v), G0, σ) ∧ ((0 ≤ v) = (c ∈ sg)) := by
    intro m
    induction m with
    | zero =>
      intro i hi h
      have q : ((10 : Int32) ≤ nI i) = True := by
        have : ((10 : Int32) ≤ nI i) = (10 ≤ i) := nJ_le (a := 10) (by omega) (by omega)
        rw [this]; exact eq_true (by omega)
      rw [b282_7]
      simp only [q, i10, i01, eq_self, if_true, if_false, true_and, false_and, and_true, and_false, not_true, not_false_iff, true_or, or_true, false_or, or_false, ne_eq, not_true_eq_false, not_false_eq_true]
      refine ⟨_, rfl, ?_⟩
      have q2 : ((0 : Int32) ≤ -1) = False := eq_false (by decide)
      rw [q2]
      refine (eq_false (fun hm => ?_)).symm
      obtain ⟨k, hk, e⟩ := List.getElem_of_mem hm
      have hk' : k < 10 := hk
      refine h k (by omega) ?_
      rw [List.getD, List.getElem?_eq_getElem hk, e]; rfl
    | succ m ih =>
      intro i hi h
      have q : ((10 : Int32) ≤ nI i) = False := by
        have : ((10 : Int32) ≤ nI i) = (10 ≤ i) := nJ_le (a := 10) (by omega) (by omega)
        rw [this]; exact eq_false (by omega)
      rw [b282_7]
      simp only [q, i10, i01, eq_self, if_true, if_false, true_and, false_and, and_true, and_false, not_true, not_false_iff, true_or, or_true, false_or, or_false, ne_eq, not_true_eq_false, not_false_eq_true, inb_n (show i < 10 by omega) (show i < 2 ^ 31 by omega), sg_by hc (show i < 10 by omega), b282_22, b282_25, nI_s]
      by_cases k : sg.getD i 0 = c
      · simp only [eq_true k, i10, i01, eq_self, if_true, if_false, true_and, false_and, and_true, and_false, not_true, not_false_iff, true_or, or_true, false_or, or_false, ne_eq, not_true_eq_false, not_false_eq_true]
        refine ⟨_, rfl, ?_⟩
        have q0 : ((0 : Int32) ≤ nI i) = True := by
          have : ((0 : Int32) ≤ nI i) = (0 ≤ i) := nJ_le (a := 0) (by omega) (by omega)
          rw [this]; exact eq_true (by omega)
        rw [q0]
        have hi10 : i < sg.length := by show i < 10; omega
        rw [List.getD, List.getElem?_eq_getElem hi10] at k
        exact (eq_true (k ▸ List.getElem_mem hi10)).symm
      · simp only [eq_false k, i10, i01, eq_self, if_true, if_false, true_and, false_and, and_true, and_false, not_true, not_false_iff, true_or, or_true, false_or, or_false, ne_eq, not_true_eq_false, not_false_eq_true]
        refine ih (i + 1) (by omega) (fun j hj => ?_)
        by_cases e : j = i
        · subst e; exact k
        · exact h j (by omega)
  obtain ⟨v, ev, hv⟩ := key 10 0 (by omega) (fun k hk => by omega)
  have ev' : Ex d 282 7 [.retAddr 11, .int (nI c), .int 0, .int 10, .int ((nI c).toInt8.toInt32), .int 0] [] G0 σ = some (some (.int v), G0, σ) := ev
  have q0 : (nI c < 0) = False := by
    have : (nI c < 0) = (c < 0) := nJ_lt (b := 0) (by omega) (by omega)
    rw [this]; exact eq_false (by omega)
  have q1 : ((255 : Int32) < nI c) = False := by
    have : ((255 : Int32) < nI c) = (255 < c) := nJ_lt (a := 255) (by omega) (by omega)
    rw [this]; exact eq_false (by omega)
  have z1 : ((0 : Int32) < 0) = False := eq_false (by decide)
  have z2 : ((10 : Int32) < 10) = False := eq_false (by decide)
  have z3 : ((0 : Int32) < 10) = True := eq_true (by decide)
  have wl1 : Ex (d + 1) 272 0 [.retAddr 1] [] G0 σ = some (some (.int 10), G0, σ) := c_wlen1 d σ
  refine ⟨v, ?_, hv⟩
  simp only [b274_0, b275_0, b277k0_0, i10, i01, eq_self, if_true, if_false, true_and, false_and, and_true, and_false, not_true, not_false_iff, true_or, or_true, false_or, or_false, ne_eq, not_true_eq_false, not_false_eq_true, Option.bind_some, Option.toList_some, Option.toList_none, List.cons_append, List.nil_append, i01a, i01b, if_true, if_false, b275_4, wl1, b275_17, b281_0, b280_0, q0, q1, b281_4, b270_0, z1, b281_14, b271_0, z2, b281_21, z3, b282_0, ev', b281_36, b275_20, b274_6]
def kN (b : Nat → Nat) (F E : Nat) : Nat := if sr (b F) = 1 then wcN b F E else if sr (b F) = 2 then (if E - F ≤ 4 then 30 else 31) else if b F ∈ sg then b F else 31
theorem sr_1 {c : Nat} (h : sr c = 1) : 65 ≤ c ∧ c < 128 := by
  unfold sr at h
  split at h
  · cases h
  · split at h
    · rename_i k; omega
    · split at h <;> cases h
theorem sr_2 {c : Nat} (h : sr c = 2) : 48 ≤ c ∧ c ≤ 57 := by
  unfold sr at h
  split at h
  · cases h
  · split at h
    · cases h
    · split at h
      · rename_i k; exact k
      · cases h
theorem c_name (d : Nat) {σ : Sig} {b : Nat → Nat} {n F E t : Nat} (h : TPe b n σ) (ht : t < 401) (e65 : σ 65 t = nI F) (e66 : σ 66 t = nI E) (hF : F < E) (hE : E ≤ n) (hr : sr (b F) ≠ 3 → ∀ i, F ≤ i → i < E → sr (b i) = sr (b F)) :
    ∃ σ', Ex (d + 6) 44 0 [.ref 53, .int (nI t), .null, .null] [] G0 σ = some (none, G0, σ') ∧ σ' 63 t = nI (kN b F E) ∧ (sr (b F) = 2 → E - F ≤ 4 → σ' 64 t = nI (nv b F (E - F))) ∧ Fr [] [(63, t), (64, t)] σ σ' := by
  obtain ⟨hn, h53, hb⟩ := h
  obtain ⟨b1, b2, b3⟩ := hb F (by omega)
  have t1 : inb (nI t) 401 = true := inb_n ht (by omega)
  have t2 : (nI t).toNatClampNeg = t := nI_c (by omega)
  have hs3 := sr_3 (b F)
  have q1 : (nI (sr (b F)) = 1) = (sr (b F) = 1) := nJ_e (b := 1) (by omega) (by omega)
  have q2 : (nI (sr (b F)) = 2) = (sr (b F) = 2) := nJ_e (b := 2) (by omega) (by omega)
  have so : Ex (d + 5) 43 0 [.int (nI (b F))] [] G0 σ = some (some (.int (nI (sr (b F)))), G0, σ) := c_sortOf (d + 4) σ b1
  rw [b44_0]
  simp only [t1, t2, i10, i01, eq_self, if_true, if_false, true_and, false_and, and_true, and_false, not_true, not_false_iff, true_or, or_true, false_or, or_false, ne_eq, not_true_eq_false, not_false_eq_true, e65, inb_n (show F < 400 by omega) (show F < 2 ^ 31 by omega), nI_c (show F < 2 ^ 31 by omega), b2, so, Option.bind_some, Option.toList_some, Option.toList_none, List.cons_append, List.nil_append, i01a, i01b, if_true, if_false, b44_20, q1, q2, e66]
  unfold kN
  by_cases c1 : sr (b F) = 1
  · have wo : Ex (d + 5) 45 0 [.ref 53, .int (nI F), .int (nI E), .null, .null, .null] [] G0 σ = some (some (.int (nI (wcN b F E))), G0, σ) := c_wordOf d ⟨hn, h53, hb⟩ hF hE (fun i i1 i2 => (sr_1 ((hr (by rw [c1]; decide) i i1 i2).trans c1)).2)
    simp only [eq_true c1, i10, i01, eq_self, if_true, if_false, true_and, false_and, and_true, and_false, not_true, not_false_iff, true_or, or_true, false_or, or_false, ne_eq, not_true_eq_false, not_false_eq_true, wo, Option.bind_some, Option.toList_some, Option.toList_none, List.cons_append, List.nil_append, i01a, i01b, if_true, if_false, b44_47, t1, t2]
    refine ⟨_, rfl, pt_e, fun k => ?_, Fr_p Fr_r (Or.inr (by simp))⟩
    rw [c1] at k; cases k
  · by_cases c2 : sr (b F) = 2
    · have q4 : (nI E - nI F ≤ 4) = (E - F ≤ 4) := by
        rw [nI_sub' (by omega)]; exact nJ_le (b := 4) (by omega) (by omega)
      simp only [eq_false c1, eq_true c2, i10, i01, eq_self, if_true, if_false, true_and, false_and, and_true, and_false, not_true, not_false_iff, true_or, or_true, false_or, or_false, ne_eq, not_true_eq_false, not_false_eq_true, q4]
      by_cases c4 : E - F ≤ 4
      · have hT : TPe b n (pt σ 63 t 30) := ⟨hn, by rw [pt_q (by decide)]; exact h53, fun i hi => by rw [pt_q (by decide)]; exact hb i hi⟩
        have nu : Ex (d + 5) 47 0 [.ref 53, .int (nI F), .int (nI E), .null, .null] [] G0 (pt σ 63 t 30) = some (some (.int (nI (nv b F (E - F)))), G0, pt σ 63 t 30) := c_number (d + 5) hT (by omega) hE (fun i i1 i2 => by have := sr_2 ((hr (by rw [c2]; decide) i i1 i2).trans c2); omega)
        have k31 : ((30 : Int32) = 31) = False := eq_false (by decide)
        have p65 : pt σ 63 t 30 65 t = nI F := by rw [pt_q (by decide)]; exact e65
        have p66 : pt σ 63 t 30 66 t = nI E := by rw [pt_q (by decide)]; exact e66
        have p63 : pt σ 63 t 30 63 t = 30 := pt_e
        simp only [eq_true c4, i10, i01, eq_self, if_true, if_false, true_and, false_and, and_true, and_false, not_true, not_false_iff, true_or, or_true, false_or, or_false, ne_eq, not_true_eq_false, not_false_eq_true, b44_85, t1, t2, p63, k31, p65, p66, nu, Option.bind_some, Option.toList_some, Option.toList_none, List.cons_append, List.nil_append, i01a, i01b, if_true, if_false, b44_122]
        refine ⟨_, rfl, ?_, fun _ _ => pt_e, Fr_p (Fr_p Fr_r (Or.inr (by simp))) (Or.inr (by simp))⟩
        rw [pt_q (by decide), pt_e]; rfl
      · have p63 : pt σ 63 t 31 63 t = 31 := pt_e
        simp only [eq_false c4, i10, i01, eq_self, if_true, if_false, true_and, false_and, and_true, and_false, not_true, not_false_iff, true_or, or_true, false_or, or_false, ne_eq, not_true_eq_false, not_false_eq_true, b44_85, t1, t2, p63, b44_122]
        refine ⟨_, rfl, ?_, fun _ k => ?_, Fr_p (Fr_p Fr_r (Or.inr (by simp))) (Or.inr (by simp))⟩
        · rw [pt_q (by decide), pt_e]; rfl
        · first | exact k.elim | exact absurd k c4
    · obtain ⟨v, ev, hv⟩ := c_indexOf (d + 2) σ b1
      have ev' : Ex (d + 5) 274 0 [.retAddr 1, .int (nI (b F))] [] G0 σ = some (some (.int v), G0, σ) := ev
      have e16 := (by8_a (b F) b1).2.2.1
      simp only [eq_false c1, eq_false c2, i10, i01, eq_self, if_true, if_false, true_and, false_and, and_true, and_false, not_true, not_false_iff, true_or, or_true, false_or, or_false, ne_eq, not_true_eq_false, not_false_eq_true, e16, ev', Option.bind_some, Option.toList_some, Option.toList_none, List.cons_append, List.nil_append, i01a, i01b, if_true, if_false, b44_138, hv, t1, t2]
      by_cases cm : b F ∈ sg
      · simp only [eq_true cm, i10, i01, eq_self, if_true, if_false, true_and, false_and, and_true, and_false, not_true, not_false_iff, true_or, or_true, false_or, or_false, ne_eq, not_true_eq_false, not_false_eq_true]
        refine ⟨_, rfl, pt_e, fun k => ?_, Fr_p Fr_r (Or.inr (by simp))⟩
        first | exact k.elim | exact absurd k c2
      · simp only [eq_false cm, i10, i01, eq_self, if_true, if_false, true_and, false_and, and_true, and_false, not_true, not_false_iff, true_or, or_true, false_or, or_false, ne_eq, not_true_eq_false, not_false_eq_true]
        refine ⟨_, rfl, pt_e, fun k => ?_, Fr_p Fr_r (Or.inr (by simp))⟩
        first | exact k.elim | exact absurd k c2
/-- the table of TOKENS -/
def KT (b : Nat → Nat) (n N : Nat) (F E : Nat → Nat) (σ : Sig) : Prop := TOK (fun i => sr (b i)) n N F E ∧ n ≤ 400 ∧ σ 53 10 = nI N ∧ (∀ t, t < N → σ 63 t = nI (kN b (F t) (E t)) ∧ (sr (b (F t)) = 2 → E t - F t ≤ 4 → σ 64 t = nI (nv b (F t) (E t - F t))) ∧ σ 65 t = nI (F t)) ∧ σ 63 N = 32 ∧ σ 65 N = nI n
theorem c_open (d : Nat) {σ : Sig} {b : Nat → Nat} {n : Nat} (h : TPe b n σ) : ∃ (σ' : Sig) (N : Nat) (F E : Nat → Nat), Ex (d + 7) 41 0 [.ref 53, .int 1, .null] [] G0 σ = some (none, G0, σ') ∧ KT b n N F E σ' ∧ σ' 53 0 = 0 ∧ σ' 53 1 = 0 ∧ σ' 53 2 = -1 ∧ σ' 53 11 = 0 ∧ σ' 53 12 = 0 ∧ Fr [63, 64, 65, 66] [(53, 0), (53, 1), (53, 2), (53, 10), (53, 11), (53, 12)] σ σ' := by
  obtain ⟨hn, h53, hb⟩ := h
  have hn := hn
  have F0 : Fr [63, 64, 65, 66] [(53, 0), (53, 1), (53, 2), (53, 10), (53, 11), (53, 12)] σ (pt (pt (pt (pt (pt σ 53 1 0) 53 2 (-1)) 53 10 0) 53 11 0) 53 12 0) := Fr_p (Fr_p (Fr_p (Fr_p (Fr_p Fr_r (Or.inr (by simp))) (Or.inr (by simp))) (Or.inr (by simp))) (Or.inr (by simp))) (Or.inr (by simp))
  have k0 : pt (pt (pt (pt (pt σ 53 1 0) 53 2 (-1)) 53 10 0) 53 11 0) 53 12 0 53 0 = nI n ∧ pt (pt (pt (pt (pt σ 53 1 0) 53 2 (-1)) 53 10 0) 53 11 0) 53 12 0 53 1 = 0 ∧ pt (pt (pt (pt (pt σ 53 1 0) 53 2 (-1)) 53 10 0) 53 11 0) 53 12 0 53 2 = -1 ∧ pt (pt (pt (pt (pt σ 53 1 0) 53 2 (-1)) 53 10 0) 53 11 0) 53 12 0 53 10 = 0 ∧ pt (pt (pt (pt (pt σ 53 1 0) 53 2 (-1)) 53 10 0) 53 11 0) 53 12 0 53 11 = 0 ∧ pt (pt (pt (pt (pt σ 53 1 0) 53 2 (-1)) 53 10 0) 53 11 0) 53 12 0 53 12 = 0 := by
    simp only [pt_ap]; simp; exact h53
  have q10 : ((1 : Int32) = 0) = False := eq_false (by decide)
  rw [b41_0]
  simp only [q10, i10, i01, eq_self, if_true, if_false, true_and, false_and, and_true, and_false, not_true, not_false_iff, true_or, or_true, false_or, or_false, ne_eq, not_true_eq_false, not_false_eq_true]
  have e62 : ∀ i, pt (pt (pt (pt (pt σ 53 1 0) 53 2 (-1)) 53 10 0) 53 11 0) 53 12 0 62 i = σ 62 i := fun i => by
    rw [pt_q (by decide), pt_q (by decide), pt_q (by decide), pt_q (by decide), pt_q (by decide)]
  generalize pt (pt (pt (pt (pt σ 53 1 0) 53 2 (-1)) 53 10 0) 53 11 0) 53 12 0 = σ0 at F0 k0 e62
  have h0 : TPe b n σ0 := ⟨hn, k0.1, fun i hi => by rw [e62]; exact hb i hi⟩
  obtain ⟨σ1, N, F, E, e1, tk, hN, hFE, f1⟩ := c_cut (d + 4) h0 k0.2.2.2.1
  have e1' : Ex (d + 6) 42 0 [.ref 53, .null, .null, .null] [] G0 σ0 = some (none, G0, σ1) := e1
  have hNn : N ≤ n := tk.2.2.2
  have F1 : Fr [63, 64, 65, 66] [(53, 0), (53, 1), (53, 2), (53, 10), (53, 11), (53, 12)] σ0 σ1 := Fr_m f1 (by simp) (by simp)
  have h1 : TPe b n σ1 := ⟨hn, by rw [f1 53 0 (by decide) (by simp)]; exact k0.1, fun i hi => by rw [f1 62 i (by decide) (by simp)]; exact h0.2.2 i hi⟩
  simp only [e1', Option.bind_some, Option.toList_some, Option.toList_none, List.cons_append, List.nil_append, i01a, i01b, if_true, if_false, b41_33]
  obtain ⟨s, e, f, i1⟩ := loop_ex (fun t (s : Sig) => Ex (d + 7) 41 35 [.ref 53, .int 1, .int (nI t)] [] G0 s) (fun t s => Fr [63, 64] [] σ1 s ∧ ∀ k, k < t → s 63 k = nI (kN b (F k) (E k)) ∧ (sr (b (F k)) = 2 → E k - F k ≤ 4 → s 64 k = nI (nv b (F k) (E k - F k)))) N σ1 ⟨Fr_r, fun k hk => by omega⟩ (by
    rintro t s ht ⟨f, i1⟩
    show ∃ s', Ex (d + 7) 41 35 [.ref 53, .int 1, .int (nI t)] [] G0 s = _ ∧ _
    have q : (nI N ≤ nI t) = False := by rw [nJ_le (by omega) (by omega)]; exact eq_false (by omega)
    have e10 : s 53 10 = nI N := by rw [f 53 10 (by decide) (by simp)]; exact hN
    have hs : TPe b n s := ⟨hn, by rw [f 53 0 (by decide) (by simp)]; exact h1.2.1, fun i hi => by rw [f 62 i (by decide) (by simp)]; exact h1.2.2 i hi⟩
    obtain ⟨a1, a2, a3, a4, a5, a6, a7⟩ := tk.1 t ht
    obtain ⟨s1, g1, g2, g3, g4⟩ := c_name d hs (show t < 401 by omega) (by rw [f 65 t (by decide) (by simp)]; exact (hFE t ht).1) (by rw [f 66 t (by decide) (by simp)]; exact (hFE t ht).2) a2 a3 (fun k => (a7 k).1)
    rw [b41_35]
    simp only [e10, q, i10, i01, eq_self, if_true, if_false, true_and, false_and, and_true, and_false, not_true, not_false_iff, true_or, or_true, false_or, or_false, ne_eq, not_true_eq_false, not_false_eq_true, g1, Option.bind_some, Option.toList_some, Option.toList_none, List.cons_append, List.nil_append, i01a, i01b, if_true, if_false, b41_48, nI_s]
    refine ⟨s1, rfl, fun q k h1 h2 => ?_, fun k hk => ?_⟩
    · rw [g4 q k (by simp) (by simp at h1 ⊢; omega)]; exact f q k h1 h2
    · by_cases e : k = t
      · subst e; exact ⟨g2, g3⟩
      · rw [g4 63 k (by simp) (by simp; omega), g4 64 k (by simp) (by simp; omega)]
        exact i1 k (by omega))
  rw [show Ex (d + 6 + 1) 41 35 [.ref 53, .int 1, .int 0] [] G0 σ1 = _ from e]
  show ∃ (σ' : Sig) (N' : Nat) (F E : Nat → Nat), Ex (d + 7) 41 35 [.ref 53, .int 1, .int (nI N)] [] G0 s = _ ∧ _
  have q : (nI N ≤ nI N) = True := by rw [nJ_le (by omega) (by omega)]; exact eq_true (by omega)
  have e10 : s 53 10 = nI N := by rw [f 53 10 (by decide) (by simp)]; exact hN
  have e00 : s 53 0 = nI n := by rw [f 53 0 (by decide) (by simp)]; exact h1.2.1
  have p1 : pt s 63 N 32 53 10 = nI N := by rw [pt_q (by decide)]; exact e10
  have p2 : pt s 63 N 32 53 0 = nI n := by rw [pt_q (by decide)]; exact e00
  rw [b41_35]
  simp only [e10, q, i10, i01, eq_self, if_true, if_false, true_and, false_and, and_true, and_false, not_true, not_false_iff, true_or, or_true, false_or, or_false, ne_eq, not_true_eq_false, not_false_eq_true, b41_54, inb_n (show N < 401 by omega) (show N < 2 ^ 31 by omega), nI_c (show N < 2 ^ 31 by omega), p1, p2]
  have Fs : Fr [63, 64, 65, 66] [(53, 0), (53, 1), (53, 2), (53, 10), (53, 11), (53, 12)] σ s := Fr_t F0 (Fr_t F1 (Fr_m f (by simp) (by simp)))
  have c53 : ∀ k, k ≠ 0 → pt (pt (pt s 63 N 32) 65 N (nI n)) 53 0 0 53 k = s 53 k := fun k hk => by rw [pt_k hk, pt_q (by decide), pt_q (by decide)]
  refine ⟨_, N, F, E, rfl, ⟨tk, hn, by rw [c53 10 (by decide)]; exact e10, fun t ht => ⟨?_, fun k1 k2 => ?_, ?_⟩, ?_, ?_⟩, pt_e, ?_, ?_, ?_, ?_, Fr_p (Fr_p (Fr_p Fs (Or.inl (by simp))) (Or.inl (by simp))) (Or.inr (by simp))⟩
  · rw [pt_q (by decide), pt_q (by decide), pt_k (by omega)]; exact (i1 t ht).1
  · rw [pt_q (by decide), pt_q (by decide), pt_q (by decide)]; exact (i1 t ht).2 k1 k2
  · rw [pt_q (by decide), pt_k (by omega), pt_q (by decide), f 65 t (by decide) (by simp)]; exact (hFE t ht).1
  · rw [pt_q (by decide), pt_q (by decide), pt_e]
  · rw [pt_q (by decide), pt_e]
  · rw [c53 1 (by decide), f 53 1 (by decide) (by simp), f1 53 1 (by decide) (by simp)]; exact k0.2.1
  · rw [c53 2 (by decide), f 53 2 (by decide) (by simp), f1 53 2 (by decide) (by simp)]; exact k0.2.2.1
  · rw [c53 11 (by decide), f 53 11 (by decide) (by simp), f1 53 11 (by decide) (by simp)]; exact k0.2.2.2.2.1
  · rw [c53 12 (by decide), f 53 12 (by decide) (by simp), f1 53 12 (by decide) (by simp)]; exact k0.2.2.2.2.2
