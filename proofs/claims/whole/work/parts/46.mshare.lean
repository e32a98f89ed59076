/-! L3: the model's shares -/
theorem MR_fr {B T : LW} {ω σ σ' : Sig} (h : MR B T ω σ) (e : ∀ q, q ∈ [113, 116, 117, 118, 119, 120, 121, 122, 123, 126, 127, 128, 129, 130, 131, 133] → σ' q = σ q) (e2 : ∀ k, k ∈ [6, 7, 8, 9, 10, 11, 12, 43] → σ' 112 k = σ 112 k) : MR B T ω σ' := by
  intro i
  have hi := h i
  unfold mr at hi ⊢
  rw [e 113 (by decide), e 116 (by decide), e 117 (by decide), e 118 (by decide), e 119 (by decide), e 120 (by decide), e 121 (by decide), e 122 (by decide), e 123 (by decide), e 126 (by decide), e 127 (by decide), e 128 (by decide), e 129 (by decide), e 130 (by decide), e 131 (by decide), e 133 (by decide), e2 6 (by decide), e2 7 (by decide), e2 8 (by decide), e2 9 (by decide), e2 10 (by decide), e2 11 (by decide), e2 12 (by decide), e2 43 (by decide)]
  exact hi
theorem MR_S {B T : LW} {ω σ σ' : Sig} {S : List Nat} {U : List (Nat × Nat)} (h : MR B T ω σ) (f : Fr S U σ σ') (hS : ∀ q, q ∈ [112, 113, 116, 117, 118, 119, 120, 121, 122, 123, 126, 127, 128, 129, 130, 131, 133] → q ∉ S) (hU : ∀ x ∈ U, x.1 ∉ [113, 116, 117, 118, 119, 120, 121, 122, 123, 126, 127, 128, 129, 130, 131, 133] ∧ (x.1 = 112 → x.2 ∉ [6, 7, 8, 9, 10, 11, 12, 43])) : MR B T ω σ' := by
  refine MR_fr h (fun q hq => Fr_q f (hS q (List.mem_cons_of_mem _ hq)) (fun x hx e => (hU x hx).1 (e ▸ hq))) (fun k hk => f 112 k (hS 112 (by simp)) (fun hx => (hU _ hx).2 rfl hk))
theorem s3a (x : Int32) : x - 3 + 3 = x := Int32.sub_add_cancel x 3
theorem s1a (x : Int32) : x + 1 - 1 = x := Int32.add_sub_cancel x 1
theorem m_pl {B T : LW} {ω σ : Sig} (hM : MR B T ω σ) (hW : WI B T ω) : 2 * (σ 112 7 + 3) = nI (np ω) := by
  have h1 : mr B T ω σ 1 := hM 1
  rw [show σ 112 7 = ω 8 0 - 3 from h1, s3a]; exact (WI_np hW).2.2
theorem m_wh {B T : LW} {ω σ : Sig} (hM : MR B T ω σ) {p : Nat} (hp : p < 8) : σ 113 (7 + p) - 1 = ω 9 p := by
  have h1 : mr B T ω σ 14 := hM 14
  rw [h1 p hp, s1a]
theorem m_who (d : Nat) {B T : LW} {ω σ : Sig} (hM : MR B T ω σ) {p : Nat} (hp : p < 8) : Ex d 158 0 [.ref 112, .int (nI p)] [] G0 σ = some (some (.int (ω 9 p)), G0, σ) := by
  rw [m_whoAt d σ p hp, m_wh hM hp]
theorem m_holds (d : Nat) {B T : LW} {ω σ : Sig} (hM : MR B T ω σ) (hW : WI B T ω) (g : Int32) {p : Nat} (hp : p < 8) : Ex (d + 3) 207 0 [.ref 112, .int (nI p), .int g] [] G0 σ = some (some (.int (bI (hold ω g p))), G0, σ) := by
  have n8 := (WI_np hW).2.1
  have hip : (0 ≤ nI p ∧ nI p < nI (np ω)) = (p < np ω) := by
    rw [nJ_lt (by omega) (by omega)]
    have : (0 : Int32) ≤ nI p := by
      have := nJ_le (a := 0) (b := p) (by omega) (by omega)
      exact this.mpr (by omega)
    simp [this]
  simp only [b207_0, b207_5, b207_13, m_isPlace, m_pl hM hW, hip, m_who (d + 2) hM hp, Option.bind_some, Option.toList_some, Option.toList_none, List.cons_append, List.nil_append, i01a, i01b, if_true, if_false, bI_z, bI_o, bI_em, ite_not]
  by_cases a : p < np ω
  · by_cases b : ω 9 p = -1
    · rw [bI_F (fun h => h.2.1 b)]
      simp only [a, b, i10, i01, eq_self, if_true, if_false, true_and, false_and, and_true, and_false, not_true, not_false_iff, true_or, or_true, false_or, or_false, ne_eq, not_true_eq_false, not_false_eq_true]
    · by_cases c : (g >>> (nI p &&& 31)) &&& 1 = 0
      · rw [bI_T ⟨a, b, c⟩]
        simp only [a, b, c, i10, i01, eq_self, if_true, if_false, true_and, false_and, and_true, and_false, not_true, not_false_iff, true_or, or_true, false_or, or_false, ne_eq, not_true_eq_false, not_false_eq_true]
      · rw [bI_F (fun h => c h.2.2)]
        simp only [a, b, c, i10, i01, eq_self, if_true, if_false, true_and, false_and, and_true, and_false, not_true, not_false_iff, true_or, or_true, false_or, or_false, ne_eq, not_true_eq_false, not_false_eq_true]
  · rw [bI_F (fun h => a h.1)]
    simp only [a, i10, i01, eq_self, if_true, if_false, true_and, false_and, and_true, and_false, not_true, not_false_iff, true_or, or_true, false_or, or_false, ne_eq, not_true_eq_false, not_false_eq_true]
theorem m_topOf (d : Nat) {B T : LW} {ω σ : Sig} (hM : MR B T ω σ) (s : Int32) {p b : Nat} (hp : p < 8) (hb : b < 8) (hw : ω 9 p = nI b) : Ex (d + 1) 206 0 [.ref 112, .int (nI p), .int s] [] G0 σ = some (some (.int (topX ω s p b (ω 10 p))), G0, σ) := by
  have e : (15 : Int32) + nI p = nI (15 + p) := nI_add 15 p
  have h15 : mr B T ω σ 15 := hM 15
  have h17 : mr B T ω σ 17 := hM 17
  have h1 : mr B T ω σ 1 := hM 1
  simp only [b206_0, b206_9, b206_25, m_who d hM hp, hw, Option.bind_some, Option.toList_some, Option.toList_none, List.cons_append, List.nil_append, i01a, i01b, if_true, if_false, i8 hb, c8 hb, e, inb_n (show 15 + p < 31 by omega) (by omega), nI_c (show 15 + p < 2 ^ 31 by omega), m_pairs, i10, i01, eq_self, if_true, if_false, true_and, false_and, and_true, and_false, not_true, not_false_iff, true_or, or_true, false_or, or_false, ne_eq, not_true_eq_false, not_false_eq_true, h15 p hp, h17 b hb]
  rw [show σ 112 7 = ω 8 0 - 3 from h1, s3a]
  rfl
theorem m_canOf (d : Nat) {B T : LW} {ω σ : Sig} (hM : MR B T ω σ) {b : Nat} (hb : b < 8) : Ex d 205 0 [.ref 112, .int (nI b)] [] G0 σ = some (some (.int (canB ω b)), G0, σ) := by
  have e : (23 : Int32) + nI b = nI (23 + b) := nI_add 23 b
  have h16 : mr B T ω σ 16 := hM 16
  have h18 : mr B T ω σ 18 := hM 18
  rw [b205_0]
  simp only [i8 hb, c8 hb, e, inb_n (show 23 + b < 31 by omega) (by omega), nI_c (show 23 + b < 2 ^ 31 by omega), i10, i01, eq_self, if_true, if_false, true_and, false_and, and_true, and_false, not_true, not_false_iff, true_or, or_true, false_or, or_false, ne_eq, not_true_eq_false, not_false_eq_true, h16 b hb, h18 b hb]
  rfl
theorem mx0 {s : Int32} : (if s ≤ 0 then (0 : Int32) else s) = mx 0 s := by
  unfold mx
  by_cases h : s ≤ 0
  · rw [if_pos h, if_neg (Int32.not_lt.mpr h)]
  · rw [if_neg h, if_pos (Int32.not_le.mp h)]
theorem mx0n {s : Int32} (hs : bw s (-9) 9) : (if 0 ≤ s then (0 : Int32) else -s) = mx 0 (-s) := by
  have hn : (-s).toInt = -s.toInt := by
    rw [Int32.toInt_neg]; unfold bw at hs; exact Int.bmod_eq_of_le (by omega) (by omega)
  have z : (0 : Int32).toInt = 0 := rfl
  unfold mx
  by_cases h : 0 ≤ s
  · rw [if_pos h, if_neg]
    rw [Int32.lt_iff_toInt_lt, hn]
    rw [Int32.le_iff_toInt_le] at h
    omega
  · rw [if_neg h, if_pos]
    rw [Int32.lt_iff_toInt_lt, hn]
    have := Int32.not_le.mp h
    rw [Int32.lt_iff_toInt_lt] at this
    omega
theorem par8 : ∀ p, p < 8 → nI p - nI p / 2 * 2 = nI p &&& 1 := by decide
theorem m_asks (d : Nat) {B T : LW} {ω σ : Sig} (hM : MR B T ω σ) {s : Int32} (hs : bw s (-9) 9) {p b : Nat} (hp : p < 8) (hb : b < 8) (hw : ω 9 p = nI b) :
    ∃ σ', Ex (d + 1) 208 0 [.ref 112, .int (nI p), .int s, .null] [] G0 σ = some (none, G0, σ') ∧ Fr [134] [] σ σ' ∧ (∀ k, k < 10 → σ' 134 k = fxX ω s p b (ω 10 p) k) := by
  have e : (15 : Int32) + nI p = nI (15 + p) := nI_add 15 p
  have e23 : (23 : Int32) + nI b = nI (23 + b) := nI_add 23 b
  have h4 : σ 112 10 = ω 1 1 := hM 4
  have h15 : mr B T ω σ 15 := hM 15
  have h16 : mr B T ω σ 16 := hM 16
  have h17 : mr B T ω σ 17 := hM 17
  have h18 : mr B T ω σ 18 := hM 18
  have h20 : mr B T ω σ 20 := hM 20
  have fin : ∀ v7 v8 : Int32, v7 = mx 0 s → v8 = mx 0 (-s) → ∀ σ', σ' = pt (pt (pt (pt (pt (pt (pt (pt (pt (pt σ 134 0 (ω 3 b)) 134 1 (ω 4 b)) 134 2 (ω 6 b)) 134 3 (ω 7 b)) 134 4 (ω 10 p)) 134 5 (nI p / 2)) 134 6 (nI p &&& 1)) 134 7 v7) 134 8 v8) 134 9 (ω 1 1) → Fr [134] [] σ σ' ∧ (∀ k, k < 10 → σ' 134 k = fxX ω s p b (ω 10 p) k) := by
    intro v7 v8 e7 e8 σ' e'
    subst e'
    refine ⟨?_, ?_⟩
    · repeat (refine Fr_p ?_ (Or.inl (by simp)))
      exact Fr_r
    · intro k hk
      have : k = 0 ∨ k = 1 ∨ k = 2 ∨ k = 3 ∨ k = 4 ∨ k = 5 ∨ k = 6 ∨ k = 7 ∨ k = 8 ∨ k = 9 := by omega
      rcases this with e | e | e | e | e | e | e | e | e | e <;> subst e <;> simp only [pt_ap] <;> simp [fxX, e7, e8]
  have q : ∀ r, r ≠ 134 → ∀ (σ1 : Sig) (k : Nat) (v : Int32), pt σ1 134 k v r = σ1 r := fun r hr σ1 k v => pt_q hr
  simp only [b208_0, b208_5, b208_42, b208_81, b208_106, m_who d hM hp, hw, Option.bind_some, Option.toList_some, Option.toList_none, List.cons_append, List.nil_append, i01a, i01b, if_true, if_false, i8 hb, c8 hb, i10, i01, eq_self, if_true, if_false, true_and, false_and, and_true, and_false, not_true, not_false_iff, true_or, or_true, false_or, or_false, ne_eq, not_true_eq_false, not_false_eq_true, q 117 (by decide), q 119 (by decide), q 113 (by decide), q 112 (by decide), h17 b hb, h18 b hb, h20 b hb, e23, e, inb_n (show 23 + b < 31 by omega) (by omega), inb_n (show 15 + p < 31 by omega) (by omega), nI_c (show 23 + b < 2 ^ 31 by omega), nI_c (show 15 + p < 2 ^ 31 by omega), h15 p hp, h16 b hb, par8 p hp, h4]
  have a0 := mx0 (s := s)
  have a1 := mx0n hs
  by_cases k0 : s ≤ 0
  · rw [if_pos k0] at a0
    by_cases k1 : 0 ≤ s
    · rw [if_pos k1] at a1
      simp only [k0, k1, i10, i01, eq_self, if_true, if_false, true_and, false_and, and_true, and_false, not_true, not_false_iff, true_or, or_true, false_or, or_false, ne_eq, not_true_eq_false, not_false_eq_true]
      exact ⟨_, rfl, fin _ _ a0 a1 _ rfl⟩
    · rw [if_neg k1] at a1
      simp only [k0, k1, i10, i01, eq_self, if_true, if_false, true_and, false_and, and_true, and_false, not_true, not_false_iff, true_or, or_true, false_or, or_false, ne_eq, not_true_eq_false, not_false_eq_true]
      exact ⟨_, rfl, fin _ _ a0 a1 _ rfl⟩
  · rw [if_neg k0] at a0
    by_cases k1 : 0 ≤ s
    · rw [if_pos k1] at a1
      simp only [k0, k1, i10, i01, eq_self, if_true, if_false, true_and, false_and, and_true, and_false, not_true, not_false_iff, true_or, or_true, false_or, or_false, ne_eq, not_true_eq_false, not_false_eq_true]
      exact ⟨_, rfl, fin _ _ a0 a1 _ rfl⟩
    · rw [if_neg k1] at a1
      simp only [k0, k1, i10, i01, eq_self, if_true, if_false, true_and, false_and, and_true, and_false, not_true, not_false_iff, true_or, or_true, false_or, or_false, ne_eq, not_true_eq_false, not_false_eq_true]
      exact ⟨_, rfl, fin _ _ a0 a1 _ rfl⟩
theorem m_shareOf (d : Nat) {B T : LW} {ω σ : Sig} (hM : MR B T ω σ) (hW : WI B T ω) {s : Int32} (hs : bw s (-9) 9) (l : Int32) {p b : Nat} (hp : p < 8) (hb : b < 8) (hw : ω 9 p = nI b) :
    ∃ σ', Ex (d + 3) 209 0 [.ref 112, .int (nI p), .int s, .int l, .null] [] G0 σ = some (some (.int (shareX B ω s p b (ω 10 p) l)), G0, σ') ∧ Fr [134, 135] [] σ σ' := by
  obtain ⟨hc20, hk20, hf20⟩ : wi B T ω 20 := hW 20
  obtain ⟨σ1, e1, f1, g1⟩ := m_asks (d + 1) hM hs hp hb hw
  have hM1 : MR B T ω σ1 := MR_S hM f1 (by decide) (by simp)
  generalize hov : topX ω s p b (ω 10 p) - l = ov
  have f2 : Fr [134] [] σ (pt σ1 134 10 ov) := Fr_p f1 (Or.inl (by simp))
  have hM2 : MR B T ω (pt σ1 134 10 ov) := MR_S hM f2 (by decide) (by simp)
  have h27 : mr B T ω (pt σ1 134 10 ov) 27 := hM2 27
  have h29 : mr B T ω (pt σ1 134 10 ov) 29 := hM2 29
  obtain ⟨σ3, v, e3, f3, c3⟩ := m_lineOf d (pt σ1 134 10 ov) 0 B (by omega) (by
    rw [show (pt σ1 134 10 ov) 126 0 = ω 14 0 from h27]; exact hc20.1) hk20 h29
  have hl : ∀ o, lawS ((pt σ1 134 10 ov) 134) B o = lawS (fun k => if k = 10 then ov else fxX ω s p b (ω 10 p) k) B o := fun o => by
    refine lawS_f (j := 0) (fun k hk => ?_) B o hf20
    have := hk.2.1 rfl
    by_cases e : k = 10
    · subst e; rw [if_pos rfl, pt_e]
    · rw [if_neg e, pt_k e]; exact g1 k (by omega)
  have f3' : Fr [134, 135] [] σ σ3 := Fr_t (Fr_m f2 (by simp) (by simp)) (Fr_m f3 (by simp) (by simp))
  have hM3 : MR B T ω σ3 := MR_S hM f3' (by decide) (by simp)
  have h4 : σ3 112 10 = ω 1 1 := hM3 4
  have hshare : shareX B ω s p b (ω 10 p) l = mx 0 (mn 999 (lawS ((pt σ1 134 10 ov) 134) B (if ω 1 1 = 1 then 1 else ov))) := by
    unfold shareX; rw [hl, hov]
  have e3' : Ex (d + 2) 204 0 [.ref 112, .int 0, .null, .null] [] G0 (pt σ1 134 10 ov) = some (some (.int v), G0, σ3) := e3
  rw [hshare]
  rw [b209_0, e1]
  simp only [Option.bind_some, Option.toList_some, Option.toList_none, List.cons_append, List.nil_append, i01a, i01b, if_true, if_false, b209_6, m_topOf (d + 1) hM1 s hp hb hw, b209_18, hov, e3', b209_26, h4]
  have e10 : σ3 134 10 = ov := by rw [f3 134 10 (by decide) (by simp), pt_e]
  rcases c3 with ⟨hv, hlw⟩ | ⟨k, e, b', hg, hv, hlw⟩
  · rw [hlw]
    subst hv
    by_cases h1 : ω 1 1 = 1
    · simp only [h1, i10, i01, eq_self, if_true, if_false, true_and, false_and, and_true, and_false, not_true, not_false_iff, true_or, or_true, false_or, or_false, ne_eq, not_true_eq_false, not_false_eq_true, b209_76, m_held (d + 2) σ3 1 0 999 (by decide), Option.bind_some, Option.toList_some, Option.toList_none, List.cons_append, List.nil_append, i01a, i01b, if_true, if_false, b209_83]
      exact ⟨σ3, rfl, f3'⟩
    · simp only [h1, i10, i01, eq_self, if_true, if_false, true_and, false_and, and_true, and_false, not_true, not_false_iff, true_or, or_true, false_or, or_false, ne_eq, not_true_eq_false, not_false_eq_true, b209_76, e10, m_held (d + 2) σ3 ov 0 999 (by decide), Option.bind_some, Option.toList_some, Option.toList_none, List.cons_append, List.nil_append, i01a, i01b, if_true, if_false, b209_83]
      exact ⟨σ3, rfl, f3'⟩
  · rw [hlw]
    have hkl : k < B.length := by
      rcases Nat.lt_or_ge k B.length with h1 | h1
      · exact h1
      · rw [List.getElem?_eq_none h1] at hg; cases hg
    have hk16 := hk20.1
    have h29' : modLaw (σ3 127) (σ3 128) (σ3 129) (σ3 130) (σ3 131) (16 * 0) (400 * 0) B := hM3 29
    obtain ⟨a, ha, a1, a2, a3, a4, a5⟩ := mcode h29' hg
    have htl := hk20.2.2.1
    obtain ⟨⟨t, _, hce⟩, _⟩ := hk20.2.2.2 (e, b') (List.mem_of_getElem? hg)
    obtain ⟨σ4, e4, f4⟩ := m_runs (d + 1) σ3 0 a (a + e.length) e t (by omega) rfl (by omega) hce a4
    have e4' : Ex (d + 2) 203 0 [.ref 112, .int 0, .int (nI a), .int (nI (a + e.length)), .null, .null] [] G0 σ3 = _ := e4
    have nv : ¬ v = -1 := by
      rw [hv]; intro e
      have := congrArg Int32.toInt e
      rw [nI_i (by omega)] at this
      have h2 : (-1 : Int32).toInt = -1 := rfl
      omega
    have e134 : σ3 134 = (pt σ1 134 10 ov) 134 := Fr_q f3 (by decide) (by simp)
    simp only [nv, i10, i01, eq_self, if_true, if_false, true_and, false_and, and_true, and_false, not_true, not_false_iff, true_or, or_true, false_or, or_false, ne_eq, not_true_eq_false, not_false_eq_true]
    rw [hv] at *
    simp only [inb_n (show 16 * 0 + k < 48 by omega) (show 16 * 0 + k < 2 ^ 31 by omega), nI_c (show 16 * 0 + k < 2 ^ 31 by omega), i10, i01, eq_self, if_true, if_false, true_and, false_and, and_true, and_false, not_true, not_false_iff, true_or, or_true, false_or, or_false, ne_eq, not_true_eq_false, not_false_eq_true, a1, a2, e4', Option.bind_some, Option.toList_some, Option.toList_none, List.cons_append, List.nil_append, i01a, i01b, if_true, if_false, b209_76, e134, m_held (d + 2) σ4 _ 0 999 (by decide), b209_83]
    exact ⟨σ4, rfl, Fr_t f3' (Fr_m f4 (by simp) (by simp))⟩
