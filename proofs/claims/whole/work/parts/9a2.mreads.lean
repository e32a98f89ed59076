/-! L3: TOKENS: the model reads one -/
def kd (b : Nat → Nat) (N : Nat) (F E : Nat → Nat) (t : Nat) : Nat := if t < N then kN b (F t) (E t) else 32
def tkM (k : Nat) : Nat := if k < 27 then 2 else if k = 30 then 3 else if k = 31 then 1 else if k = 32 then 0 else 4
def RT (b : Nat → Nat) (n N : Nat) (F E : Nat → Nat) (j : Nat) (σ : Sig) : Prop := σ 112 25 = nI (tkM (kd b N F E j)) ∧ (kd b N F E j < 27 → σ 112 26 = nI (pmW (kd b N F E j))) ∧ (kd b N F E j = 30 → σ 112 26 = nI (nv b (F j) (E j - F j))) ∧ (33 ≤ kd b N F E j → σ 112 26 = nI (kd b N F E j)) ∧ σ 112 24 = nI (if j < N then F j else n) ∧ (j < N → σ 112 23 = nI (E j))
def SLD : List (Nat × Nat) := [(112, 23), (112, 24), (112, 25), (112, 26)]
theorem TPm_d {b : Nat → Nat} {n : Nat} {σ σ' : Sig} (h : TPm b n σ) (f : Fr [] SLD σ σ') : TPm b n σ' := TPm_fr h f (by simp) (by unfold SLD; simp)
def rwV (b : Nat → Nat) (n i : Nat) : Int32 := if i < n then nI (b i) else -1
theorem m_raw (d : Nat) {σ : Sig} {b : Nat → Nat} {n i : Nat} (h : TPm b n σ) (hi : i ≤ n) : Ex d 173 0 [.ref 112, .int (nI i)] [] G0 σ = some (some (.int (rwV b n i)), G0, σ) := by
  obtain ⟨hn, h22, hb, _⟩ := h
  have q : (nI n ≤ nI i) = (n ≤ i) := nJ_le (by omega) (by omega)
  rw [b173_0, h22]
  unfold rwV
  simp only [q]
  by_cases c : i < n
  · have c' : ¬ n ≤ i := by omega
    simp only [eq_false c', eq_true c, i10, i01, eq_self, if_true, if_false, true_and, false_and, and_true, and_false, not_true, not_false_iff, true_or, or_true, false_or, or_false, ne_eq, not_true_eq_false, not_false_eq_true, inb_n (show i < 400 by omega) (show i < 2 ^ 31 by omega), nI_c (show i < 2 ^ 31 by omega), (hb i c).2]
  · have c' : n ≤ i := by omega
    simp only [eq_true c', eq_false c, i10, i01, eq_self, if_true, if_false, true_and, false_and, and_true, and_false, not_true, not_false_iff, true_or, or_true, false_or, or_false, ne_eq, not_true_eq_false, not_false_eq_true]
theorem rw_lt {b : Nat → Nat} {n i : Nat} (h : i < n) : rwV b n i = nI (b i) := if_pos h
theorem rw_ge {b : Nat → Nat} {n i : Nat} (h : ¬ i < n) : rwV b n i = -1 := if_neg h
theorem sr_1i {c : Nat} : sr c = 1 ↔ (97 ≤ c ∧ c ≤ 122) ∨ (65 ≤ c ∧ c ≤ 90) := by
  unfold sr
  by_cases h0 : c = 32 ∨ c = 10
  · rw [if_pos h0]; exact ⟨fun h => (by cases h), fun h => (by omega)⟩
  · rw [if_neg h0]
    by_cases h1 : (97 ≤ c ∧ c ≤ 122) ∨ (65 ≤ c ∧ c ≤ 90)
    · rw [if_pos h1]; exact ⟨fun _ => h1, fun _ => rfl⟩
    · rw [if_neg h1]; exact ⟨fun h => (by split at h <;> cases h), fun h => absurd h h1⟩
theorem sr_2i {c : Nat} : sr c = 2 ↔ 48 ≤ c ∧ c ≤ 57 := by
  refine ⟨sr_2, fun h => ?_⟩
  unfold sr
  rw [if_neg (by omega), if_neg (by omega), if_pos h]
theorem sr_0i {c : Nat} : sr c = 0 ↔ c = 32 ∨ c = 10 := by
  unfold sr
  by_cases h0 : c = 32 ∨ c = 10
  · rw [if_pos h0]; exact ⟨fun _ => h0, fun _ => rfl⟩
  · rw [if_neg h0]
    refine ⟨fun h => ?_, fun h => absurd h h0⟩
    split at h
    · cases h
    · split at h <;> cases h
abbrev letP (b : Nat → Nat) (n i : Nat) : Prop := i < n ∧ sr (b i) = 1
abbrev digP (b : Nat → Nat) (n i : Nat) : Prop := i < n ∧ sr (b i) = 2
theorem m_isLetter (d : Nat) (σ : Sig) {b : Nat → Nat} {n i : Nat} (hb : i < n → b i < 256) : Ex (d + 1) 174 0 [.ref 112, .int (rwV b n i)] [] G0 σ = some (some (.int (bI (letP b n i))), G0, σ) := by
  by_cases c : i < n
  · rw [rw_lt c]
    have := hb c
    have q3 : ((97 : Int32) ≤ nI (b i) ∧ nI (b i) ≤ 122) = (97 ≤ b i ∧ b i ≤ 122) := in_le (a := 97) (b := 122) (by omega) (by omega) (by omega)
    have q4 : ((65 : Int32) ≤ nI (b i) ∧ nI (b i) ≤ 90) = (65 ≤ b i ∧ b i ≤ 90) := in_le (a := 65) (b := 90) (by omega) (by omega) (by omega)
    simp only [b174_0, m_isIn, Option.bind_some, Option.toList_some, Option.toList_none, List.cons_append, List.nil_append, i01a, i01b, if_true, if_false, b174_9, bI_z, bI_o, bI_em, ite_not, q3, q4, b174_21]
    by_cases c3 : 97 ≤ b i ∧ b i ≤ 122
    · rw [bI_T (show letP b n i from ⟨c, sr_1i.mpr (Or.inl c3)⟩)]; simp only [eq_true c3, i10, i01, eq_self, if_true, if_false, true_and, false_and, and_true, and_false, not_true, not_false_iff, true_or, or_true, false_or, or_false, ne_eq, not_true_eq_false, not_false_eq_true]
    · by_cases c4 : 65 ≤ b i ∧ b i ≤ 90
      · rw [bI_T (show letP b n i from ⟨c, sr_1i.mpr (Or.inr c4)⟩)]; simp only [eq_false c3, eq_true c4, i10, i01, eq_self, if_true, if_false, true_and, false_and, and_true, and_false, not_true, not_false_iff, true_or, or_true, false_or, or_false, ne_eq, not_true_eq_false, not_false_eq_true]
      · rw [bI_F (show ¬ letP b n i from fun h => (sr_1i.mp h.2).elim c3 c4)]; simp only [eq_false c3, eq_false c4, i10, i01, eq_self, if_true, if_false, true_and, false_and, and_true, and_false, not_true, not_false_iff, true_or, or_true, false_or, or_false, ne_eq, not_true_eq_false, not_false_eq_true]
  · rw [rw_ge c, bI_F (show ¬ letP b n i from fun h => c h.1)]
    have q3 : ((97 : Int32) ≤ -1 ∧ (-1 : Int32) ≤ 122) = False := eq_false (by decide)
    have q4 : ((65 : Int32) ≤ -1 ∧ (-1 : Int32) ≤ 90) = False := eq_false (by decide)
    simp only [b174_0, m_isIn, Option.bind_some, Option.toList_some, Option.toList_none, List.cons_append, List.nil_append, i01a, i01b, if_true, if_false, b174_9, bI_z, bI_o, bI_em, ite_not, q3, q4, b174_21, i10, i01, eq_self, if_true, if_false, true_and, false_and, and_true, and_false, not_true, not_false_iff, true_or, or_true, false_or, or_false, ne_eq, not_true_eq_false, not_false_eq_true]
theorem m_isDigit (d : Nat) (σ : Sig) {b : Nat → Nat} {n i : Nat} (hb : i < n → b i < 256) : Ex (d + 1) 175 0 [.ref 112, .int (rwV b n i)] [] G0 σ = some (some (.int (bI (digP b n i))), G0, σ) := by
  by_cases c : i < n
  · rw [rw_lt c]
    have := hb c
    have q3 : ((48 : Int32) ≤ nI (b i) ∧ nI (b i) ≤ 57) = (48 ≤ b i ∧ b i ≤ 57) := in_le (a := 48) (b := 57) (by omega) (by omega) (by omega)
    simp only [b175_0, m_isIn, Option.bind_some, Option.toList_some, Option.toList_none, List.cons_append, List.nil_append, i01a, i01b, if_true, if_false, b175_9, bI_01, if_true]
    have e : bI ((48 : Int32) ≤ nI (b i) ∧ nI (b i) ≤ 57) = bI (digP b n i) := bI_c (by rw [q3, ← sr_2i]; exact ⟨fun h => ⟨c, h⟩, fun h => h.2⟩)
    rw [e]
  · rw [rw_ge c]
    simp only [b175_0, m_isIn, Option.bind_some, Option.toList_some, Option.toList_none, List.cons_append, List.nil_append, i01a, i01b, if_true, if_false, b175_9, bI_01, if_true]
    have e : bI ((48 : Int32) ≤ -1 ∧ (-1 : Int32) ≤ 57) = bI (digP b n i) := bI_c ⟨fun h => absurd h (by decide), fun h => absurd h.1 c⟩
    rw [e]
theorem m_isMark (d : Nat) (σ : Sig) {c : Nat} (hc : c < 256) : Ex d 176 0 [.ref 112, .int (nI c)] [] G0 σ = some (some (.int (bI (c ∈ sg))), G0, σ) := by
  have q : ∀ k, k < 256 → (nI c = nI k) = (c = k) := fun k hk => nJ_e (by omega) (by omega)
  have q1 : (nI c = 59) = (c = 59) := q 59 (by decide)
  have q2 : (nI c = 43) = (c = 43) := q 43 (by decide)
  have q3 : (nI c = 45) = (c = 45) := q 45 (by decide)
  have q4 : (nI c = 42) = (c = 42) := q 42 (by decide)
  have q5 : (nI c = 47) = (c = 47) := q 47 (by decide)
  have q6 : (nI c = 40) = (c = 40) := q 40 (by decide)
  have q7 : (nI c = 41) = (c = 41) := q 41 (by decide)
  have q8 : (nI c = 60) = (c = 60) := q 60 (by decide)
  have q9 : (nI c = 61) = (c = 61) := q 61 (by decide)
  have q10 : (nI c = 62) = (c = 62) := q 62 (by decide)
  rw [b176_0]
  simp only [q1, q2, q3, q4, q5, q6, q7, q8, q9, b176_54, q10, b176_60, Option.bind_some, Option.toList_some, Option.toList_none, List.cons_append, List.nil_append, i01a, i01b, if_true, if_false]
  by_cases m : c ∈ sg
  · rw [bI_T m]
    have : c = 59 ∨ c = 43 ∨ c = 45 ∨ c = 42 ∨ c = 47 ∨ c = 40 ∨ c = 41 ∨ c = 60 ∨ c = 61 ∨ c = 62 := by simpa [sg] using m
    rcases this with e | e | e | e | e | e | e | e | e | e <;> subst e <;> simp
  · rw [bI_F m]
    have : c ≠ 59 ∧ c ≠ 43 ∧ c ≠ 45 ∧ c ≠ 42 ∧ c ≠ 47 ∧ c ≠ 40 ∧ c ≠ 41 ∧ c ≠ 60 ∧ c ≠ 61 ∧ c ≠ 62 := by simpa [sg] using m
    simp [this]
theorem nv_b {b : Nat → Nat} {F : Nat} : ∀ k, (∀ i, i < k → 48 ≤ b (F + i) ∧ b (F + i) ≤ 57) → nv b F k < 10 ^ k := by
  intro k
  induction k with
  | zero => intro _; exact Nat.zero_lt_one
  | succ k ih =>
    intro h
    have h1 := ih (fun i hi => h i (by omega))
    have h2 := h k (by omega)
    rw [nv, Nat.pow_succ]; omega
theorem m_reads (d : Nat) {σ : Sig} {b : Nat → Nat} {n N j : Nat} {F E : Nat → Nat} (h : TPm b n σ) (tk : TOK (fun i => sr (b i)) n N F E) (hj : j ≤ N) (hs : σ 112 23 = nI (lo E j)) : ∃ σ', Ex (d + 2) 178 0 [.ref 112, .null] [] G0 σ = some (none, G0, σ') ∧ RT b n N F E j σ' ∧ Fr [] SLD σ σ' := by
  have hn := h.1
  have hb256 : ∀ i, i < n → b i < 256 := fun i hi => (h.2.2.1 i hi).1
  -- blanks
  have skip : ∀ G, lo E j ≤ G → G ≤ n → (∀ i, lo E j ≤ i → i < G → sr (b i) = 0) → ∃ s, Ex (d + 2) 178 0 [.ref 112, .null] [] G0 σ = Ex (d + 2) 178 0 [.ref 112, .null] [] G0 s ∧ s 112 23 = nI G ∧ Fr [] SLD σ s := by
    intro G h1 h2 h3
    obtain ⟨s, e, e23, f⟩ := loop_ex (fun k (s : Sig) => Ex (d + 2) 178 0 [.ref 112, .null] [] G0 s) (fun k s => s 112 23 = nI (lo E j + k) ∧ Fr [] SLD σ s) (G - lo E j) σ ⟨hs, Fr_r⟩ (by
      rintro k s hk ⟨e23, f⟩
      show ∃ s', Ex (d + 2) 178 0 [.ref 112, .null] [] G0 s = Ex (d + 2) 178 0 [.ref 112, .null] [] G0 (s') ∧ _
      have hT := TPm_d h f
      have hlt : lo E j + k < n := by omega
      have r1 := m_raw (d + 1) hT (Nat.le_of_lt hlt)
      have z := sr_0i.mp (h3 (lo E j + k) (by omega) (by omega))
      rw [b178_0, e23, r1, rw_lt hlt]
      have F' : ∀ v, Fr [] SLD σ (pt s 112 23 v) := fun v => Fr_p f (Or.inr (by decide))
      rcases z with z | z
      · have q : (nI (b (lo E j + k)) = 32) = True := eq_true (by rw [z]; rfl)
        simp only [Option.bind_some, Option.toList_some, Option.toList_none, List.cons_append, List.nil_append, i01a, i01b, if_true, if_false, b178_8, q, i10, i01, eq_self, if_true, if_false, true_and, false_and, and_true, and_false, not_true, not_false_iff, true_or, or_true, false_or, or_false, ne_eq, not_true_eq_false, not_false_eq_true, e23, nI_s]
        exact ⟨_, rfl, by rw [pt_e]; rfl, F' _⟩
      · have q : (nI (b (lo E j + k)) = 32) = False := eq_false (by rw [z]; decide)
        have q2 : (nI (b (lo E j + k)) = 10) = True := eq_true (by rw [z]; rfl)
        rw [rw_lt hlt] at r1
        simp only [Option.bind_some, Option.toList_some, Option.toList_none, List.cons_append, List.nil_append, i01a, i01b, if_true, if_false, b178_8, q, i10, i01, eq_self, if_true, if_false, true_and, false_and, and_true, and_false, not_true, not_false_iff, true_or, or_true, false_or, or_false, ne_eq, not_true_eq_false, not_false_eq_true, e23, r1, b178_21, q2, nI_s]
        exact ⟨_, rfl, by rw [pt_e]; rfl, F' _⟩)
    refine ⟨s, e, ?_, f⟩
    rw [e23, show lo E j + (G - lo E j) = G by omega]
  have stop : ∀ x : Int32, x ≠ 32 → x ≠ 10 → (x = 32) = False ∧ (x = 10) = False := fun x h1 h2 => ⟨eq_false h1, eq_false h2⟩
  have dj : ∀ v w : Nat, ((112, v) : Nat × Nat) ∉ [((112, w) : Nat × Nat)] → True := fun _ _ _ => trivial
  by_cases cj : j < N
  · obtain ⟨a1, a2, a3, a4, a5, a6, a7⟩ := tk.1 j cj
    have hFn : F j < n := by omega
    have hF256 := hb256 (F j) hFn
    have a5' : sr (b (F j)) ≠ 0 := a5
    obtain ⟨s, e, e23, f⟩ := skip (F j) a1 (by omega) a4
    have hT := TPm_d h f
    have nz : ¬ (b (F j) = 32 ∨ b (F j) = 10) := fun k => a5' (sr_0i.mpr k)
    have q32 : (nI (b (F j)) = 32) = False := by
      have : (nI (b (F j)) = 32) = (b (F j) = 32) := nJ_e (b := 32) (by omega) (by omega)
      rw [this]; exact eq_false (fun k => nz (Or.inl k))
    have q10 : (nI (b (F j)) = 10) = False := by
      have : (nI (b (F j)) = 10) = (b (F j) = 10) := nJ_e (b := 10) (by omega) (by omega)
      rw [this]; exact eq_false (fun k => nz (Or.inr k))
    have q1 : (nI (b (F j)) = -1) = False := nI_ne (by omega)
    have r1 := m_raw (d + 1) hT (Nat.le_of_lt hFn)
    rw [rw_lt hFn] at r1
    have f2 : Fr [] SLD s (pt (pt s 112 24 (nI (F j))) 112 25 1) := Fr_p (Fr_p Fr_r (Or.inr (by decide))) (Or.inr (by decide))
    have r2 := m_raw (d + 1) (TPm_d hT f2) (Nat.le_of_lt hFn)
    rw [rw_lt hFn] at r2
    have g23 : pt (pt s 112 24 (nI (F j))) 112 25 1 112 23 = nI (F j) := by rw [pt_k (by decide), pt_k (by decide)]; exact e23
    rw [e, b178_0, e23, r1]
    simp only [Option.bind_some, Option.toList_some, Option.toList_none, List.cons_append, List.nil_append, i01a, i01b, if_true, if_false, b178_8, q32, i10, i01, eq_self, if_true, if_false, true_and, false_and, and_true, and_false, not_true, not_false_iff, true_or, or_true, false_or, or_false, ne_eq, not_true_eq_false, not_false_eq_true, e23, r1, b178_21, q10, g23, r2, b178_60, q1, nI_s]
    have f3 : Fr [] SLD σ (pt (pt (pt (pt s 112 24 (nI (F j))) 112 25 1) 112 23 (nI (F j + 1))) 112 26 (nI (b (F j)))) := Fr_t f (Fr_p (Fr_p (Fr_p (Fr_p Fr_r (Or.inr (by decide))) (Or.inr (by decide))) (Or.inr (by decide))) (Or.inr (by decide)))
    have c24 : pt (pt (pt (pt s 112 24 (nI (F j))) 112 25 1) 112 23 (nI (F j + 1))) 112 26 (nI (b (F j))) 112 24 = nI (F j) := by rw [pt_k (by decide), pt_k (by decide), pt_k (by decide), pt_e]
    have c25 : pt (pt (pt (pt s 112 24 (nI (F j))) 112 25 1) 112 23 (nI (F j + 1))) 112 26 (nI (b (F j))) 112 25 = 1 := by rw [pt_k (by decide), pt_k (by decide), pt_e]
    have c23 : pt (pt (pt (pt s 112 24 (nI (F j))) 112 25 1) 112 23 (nI (F j + 1))) 112 26 (nI (b (F j))) 112 23 = nI (F j + 1) := by rw [pt_k (by decide), pt_e]
    have c26 : pt (pt (pt (pt s 112 24 (nI (F j))) 112 25 1) 112 23 (nI (F j + 1))) 112 26 (nI (b (F j))) 112 26 = nI (b (F j)) := pt_e
    generalize pt (pt (pt (pt s 112 24 (nI (F j))) 112 25 1) 112 23 (nI (F j + 1))) 112 26 (nI (b (F j))) = s3 at f3 c24 c25 c23 c26
    have il : ∀ s, Ex (d + 1) 174 0 [.ref 112, .int (nI (b (F j)))] [] G0 s = some (some (.int (bI (letP b n (F j)))), G0, s) := fun s => by
      have := m_isLetter d s (b := b) (n := n) (i := F j) (fun _ => hF256)
      rwa [rw_lt hFn] at this
    have idg : ∀ s, Ex (d + 1) 175 0 [.ref 112, .int (nI (b (F j)))] [] G0 s = some (some (.int (bI (digP b n (F j)))), G0, s) := fun s => by
      have := m_isDigit d s (b := b) (n := n) (i := F j) (fun _ => hF256)
      rwa [rw_lt hFn] at this
    have kk : kd b N F E j = kN b (F j) (E j) := if_pos cj
    unfold RT
    rw [kk, if_pos cj]
    simp only [il, Option.bind_some, Option.toList_some, Option.toList_none, List.cons_append, List.nil_append, i01a, i01b, if_true, if_false, b178_92, bI_z, bI_o, bI_em, ite_not]
    by_cases k1 : sr (b (F j)) = 1
    · have l1 : letP b n (F j) := ⟨hFn, k1⟩
      have n3 : sr (b (F j)) ≠ 3 := by rw [k1]; decide
      obtain ⟨run, mx⟩ := a7 n3
      have kW : kN b (F j) (E j) = wcN b (F j) (E j) := by unfold kN; rw [if_pos k1]
      simp only [eq_true l1, i10, i01, eq_self, if_true, if_false, true_and, false_and, and_true, and_false, not_true, not_false_iff, true_or, or_true, false_or, or_false, ne_eq, not_true_eq_false, not_false_eq_true]
      obtain ⟨s4, e4, g23', f4⟩ := loop_ex (fun k (s : Sig) => Ex (d + 2) 178 95 [.ref 112, .int (nI (b (F j)))] [] G0 s) (fun k s => s 112 23 = nI (F j + 1 + k) ∧ Fr [] [(112, 23)] s3 s) (E j - (F j + 1)) s3 ⟨c23, Fr_r⟩ (by
        rintro k s hk ⟨e23, f⟩
        show ∃ s', Ex (d + 2) 178 95 [.ref 112, .int (nI (b (F j)))] [] G0 s = _ ∧ _
        have hT := TPm_d (TPm_d h f3) (Fr_m f (by simp) (by unfold SLD; simp))
        have hlt : F j + 1 + k < n := by omega
        have r1 := m_raw (d + 1) hT (Nat.le_of_lt hlt)
        have il2 := m_isLetter d s (b := b) (n := n) (i := F j + 1 + k) (fun h => hb256 _ h)
        have lp : letP b n (F j + 1 + k) := ⟨hlt, (run (F j + 1 + k) (by omega) (by omega)).trans k1⟩
        rw [b178_95, e23, r1]
        simp only [Option.bind_some, Option.toList_some, Option.toList_none, List.cons_append, List.nil_append, i01a, i01b, if_true, if_false, b178_104, il2, b178_107, bI_z, bI_o, bI_em, ite_not, eq_true lp, i10, i01, eq_self, if_true, if_false, true_and, false_and, and_true, and_false, not_true, not_false_iff, true_or, or_true, false_or, or_false, ne_eq, not_true_eq_false, not_false_eq_true, e23, nI_s]
        exact ⟨_, rfl, by rw [pt_e]; rfl, Fr_p f (Or.inr (by simp))⟩)
      rw [show Ex (d + 1 + 1) 178 95 [.ref 112, .int (nI (b (F j)))] [] G0 s3 = _ from e4]
      show ∃ σ', Ex (d + 2) 178 95 [.ref 112, .int (nI (b (F j)))] [] G0 s4 = _ ∧ _
      rw [show F j + 1 + (E j - (F j + 1)) = E j by omega] at g23'
      have F4 : Fr [] SLD σ s4 := Fr_t f3 (Fr_m f4 (by simp) (by unfold SLD; simp))
      have hT4 := TPm_d h F4
      have r4 := m_raw (d + 1) hT4 (show E j ≤ n by omega)
      have il4 := m_isLetter d s4 (b := b) (n := n) (i := E j) (fun h => hb256 _ h)
      have nl : ¬ letP b n (E j) := fun k => by
        rcases mx with m | m
        · have := k.1; omega
        · exact m (k.2.trans k1.symm)
      have d24 : s4 112 24 = nI (F j) := by rw [f4 112 24 (by simp) (by simp)]; exact c24
      have d25 : s4 112 25 = 1 := by rw [f4 112 25 (by simp) (by simp)]; exact c25
      have wa := m_wordAt (d + 1) hT4 a2 (show E j ≤ n by omega) (fun i i1 i2 e32 => by
        have h1 := (run i i1 i2).trans k1
        have h1' : sr (b i) = 1 := h1
        rw [e32] at h1'; exact absurd h1' (by decide))
      rw [wc_m] at wa
      rw [b178_95, g23', r4]
      have p26 : ∀ v, pt s4 112 26 v 112 26 = v := fun v => pt_e
      simp only [Option.bind_some, Option.toList_some, Option.toList_none, List.cons_append, List.nil_append, i01a, i01b, if_true, if_false, b178_104, il4, b178_107, bI_z, bI_o, bI_em, ite_not, eq_false nl, i10, i01, eq_self, if_true, if_false, true_and, false_and, and_true, and_false, not_true, not_false_iff, true_or, or_true, false_or, or_false, ne_eq, not_true_eq_false, not_false_eq_true, g23', d24, wa, b178_136, p26]
      rcases wcN_le b (F j) (E j) with w31 | w27
      · rw [kW, w31]
        simp only [i10, i01, eq_self, if_true, if_false, true_and, false_and, and_true, and_false, not_true, not_false_iff, true_or, or_true, false_or, or_false, ne_eq, not_true_eq_false, not_false_eq_true]
        refine ⟨_, rfl, ⟨by rw [pt_k (by decide), d25]; rfl, fun k => absurd k (by decide), fun k => absurd k (by decide), fun k => absurd k (by decide), by rw [pt_k (by decide)]; exact d24, fun _ => by rw [pt_k (by decide)]; exact g23'⟩, Fr_p F4 (Or.inr (by decide))⟩
      · have n31 : ¬ wcN b (F j) (E j) = 31 := by omega
        have hp : pmW (wcN b (F j) (E j)) < 100 := by unfold pmW; split <;> (try split) <;> omega
        have tk2 : tkM (wcN b (F j) (E j)) = 2 := by unfold tkM; rw [if_pos w27]
        rw [kW, tk2]
        simp only [eq_false n31, i10, i01, eq_self, if_true, if_false, true_and, false_and, and_true, and_false, not_true, not_false_iff, true_or, or_true, false_or, or_false, ne_eq, not_true_eq_false, not_false_eq_true, nI_ne (show pmW (wcN b (F j) (E j)) < 2 ^ 31 by omega)]
        refine ⟨_, rfl, ⟨by rw [pt_e]; rfl, fun _ => by rw [pt_k (by decide), pt_e], fun k => absurd k (by omega), fun k => absurd k (by omega), by rw [pt_k (by decide), pt_k (by decide)]; exact d24, fun _ => by rw [pt_k (by decide), pt_k (by decide)]; exact g23'⟩, Fr_p (Fr_p F4 (Or.inr (by decide))) (Or.inr (by decide))⟩
    · have l1 : ¬ letP b n (F j) := fun k => k1 k.2
      simp only [eq_false l1, i10, i01, eq_self, if_true, if_false, true_and, false_and, and_true, and_false, not_true, not_false_iff, true_or, or_true, false_or, or_false, ne_eq, not_true_eq_false, not_false_eq_true, idg, Option.bind_some, Option.toList_some, Option.toList_none, List.cons_append, List.nil_append, i01a, i01b, if_true, if_false, b178_160, bI_z, bI_o, bI_em, ite_not]
      by_cases k2 : sr (b (F j)) = 2
      · have dg : digP b n (F j) := ⟨hFn, k2⟩
        have n3 : sr (b (F j)) ≠ 3 := by rw [k2]; decide
        obtain ⟨run, mx⟩ := a7 n3
        have dgs : ∀ i, F j ≤ i → i < E j → 48 ≤ b i ∧ b i ≤ 57 := fun i i1 i2 => sr_2 ((run i i1 i2).trans k2)
        have kW : kN b (F j) (E j) = if E j - F j ≤ 4 then 30 else 31 := by unfold kN; rw [if_neg k1, if_pos k2]
        have e48 : nI (b (F j)) - 48 = nI (nv b (F j) 1) := by
          have := dgs (F j) (Nat.le_refl _) a2
          have e1 : nI (b (F j)) - nI 48 = nI (b (F j) - 48) := nI_sub' (by omega)
          refine Eq.trans e1 ?_
          show nI (b (F j) - 48) = nI (0 * 10 + b (F j + 0) - 48)
          rw [Nat.add_zero, Nat.zero_mul, Nat.zero_add]
        simp only [eq_true dg, i10, i01, eq_self, if_true, if_false, true_and, false_and, and_true, and_false, not_true, not_false_iff, true_or, or_true, false_or, or_false, ne_eq, not_true_eq_false, not_false_eq_true, e48]
        obtain ⟨s4, e4, g23', f4, v26⟩ := loop_ex (fun k (s : Sig) => Ex (d + 2) 178 171 [.ref 112, .int (nI (b (F j)))] [] G0 s) (fun k s => s 112 23 = nI (F j + 1 + k) ∧ Fr [] [(112, 23), (112, 26)] s3 s ∧ (1 + k ≤ 4 → s 112 26 = nI (nv b (F j) (1 + k)))) (E j - (F j + 1)) (pt s3 112 26 (nI (nv b (F j) 1))) ⟨by rw [pt_k (by decide)]; exact c23, Fr_p Fr_r (Or.inr (by simp)), fun _ => pt_e⟩ (by
          rintro k s hk ⟨e23, f, v26⟩
          show ∃ s', Ex (d + 2) 178 171 [.ref 112, .int (nI (b (F j)))] [] G0 s = _ ∧ _
          have hT := TPm_d (TPm_d h f3) (Fr_m f (by simp) (by unfold SLD; simp))
          have hlt : F j + 1 + k < n := by omega
          have r1 := m_raw (d + 1) hT (Nat.le_of_lt hlt)
          have il2 := m_isDigit d s (b := b) (n := n) (i := F j + 1 + k) (fun h => hb256 _ h)
          have dp : digP b n (F j + 1 + k) := ⟨hlt, (run (F j + 1 + k) (by omega) (by omega)).trans k2⟩
          have r1' := r1
          rw [rw_lt hlt] at r1'
          rw [b178_171, e23, r1]
          simp only [Option.bind_some, Option.toList_some, Option.toList_none, List.cons_append, List.nil_append, i01a, i01b, if_true, if_false, b178_180, il2, b178_183, bI_z, bI_o, bI_em, ite_not, eq_true dp, i10, i01, eq_self, if_true, if_false, true_and, false_and, and_true, and_false, not_true, not_false_iff, true_or, or_true, false_or, or_false, ne_eq, not_true_eq_false, not_false_eq_true, e23, r1', b178_212]
          have p23 : ∀ v, pt s 112 26 v 112 23 = nI (F j + 1 + k) := fun v => by rw [pt_k (by decide)]; exact e23
          simp only [p23, nI_s]
          have fin : ∀ v, (1 + (k + 1) ≤ 4 → v = nI (nv b (F j) (1 + (k + 1)))) → (pt (pt s 112 26 v) 112 23 (nI (F j + 1 + k + 1)) 112 23 = nI (F j + 1 + (k + 1)) ∧ Fr [] [(112, 23), (112, 26)] s3 (pt (pt s 112 26 v) 112 23 (nI (F j + 1 + k + 1))) ∧ (1 + (k + 1) ≤ 4 → pt (pt s 112 26 v) 112 23 (nI (F j + 1 + k + 1)) 112 26 = nI (nv b (F j) (1 + (k + 1))))) := fun v hv => ⟨by rw [pt_e]; rfl, Fr_p (Fr_p f (Or.inr (by simp))) (Or.inr (by simp)), fun k' => by rw [pt_k (by decide), pt_e]; exact hv k'⟩
          by_cases cc : (10000 : Int32) ≤ s 112 26
          · simp only [eq_true cc, i10, i01, eq_self, if_true, if_false, true_and, false_and, and_true, and_false, not_true, not_false_iff, true_or, or_true, false_or, or_false, ne_eq, not_true_eq_false, not_false_eq_true]
            refine ⟨_, rfl, fin _ (fun k4 => ?_)⟩
            have hv := v26 (by omega)
            have hb1 := nv_b (b := b) (F := F j) (1 + k) (fun i hi => dgs (F j + i) (by omega) (by omega))
            have hb2 : (10 : Nat) ^ (1 + k) ≤ 10 ^ 3 := Nat.pow_le_pow_right (by decide) (by omega)
            have hq : ((10000 : Int32) ≤ nI (nv b (F j) (1 + k))) = (10000 ≤ nv b (F j) (1 + k)) := nJ_le (a := 10000) (by omega) (by omega)
            rw [hv, hq] at cc
            omega
          · simp only [eq_false cc, i10, i01, eq_self, if_true, if_false, true_and, false_and, and_true, and_false, not_true, not_false_iff, true_or, or_true, false_or, or_false, ne_eq, not_true_eq_false, not_false_eq_true]
            refine ⟨_, rfl, fin _ (fun k4 => ?_)⟩
            have hv := v26 (by omega)
            have hd := dgs (F j + 1 + k) (by omega) (by omega)
            rw [hv]
            have e1 : nI 10 * nI (nv b (F j) (1 + k)) = nI (10 * nv b (F j) (1 + k)) := nI_mul' _ _
            have e2 : nI (10 * nv b (F j) (1 + k)) + nI (b (F j + 1 + k)) = nI (10 * nv b (F j) (1 + k) + b (F j + 1 + k)) := (Int32.ofNat_add _ _).symm
            have e3 : nI (10 * nv b (F j) (1 + k) + b (F j + 1 + k)) - nI 48 = nI (10 * nv b (F j) (1 + k) + b (F j + 1 + k) - 48) := nI_sub' (by omega)
            refine ((congrArg (· - (48 : Int32)) ((congrArg (· + nI (b (F j + 1 + k))) e1).trans e2)).trans e3).trans ?_
            rw [show 1 + (k + 1) = (1 + k) + 1 by omega, nv, show F j + (1 + k) = F j + 1 + k by omega, Nat.mul_comm])
        rw [show Ex (d + 1 + 1) 178 171 [.ref 112, .int (nI (b (F j)))] [] G0 (pt s3 112 26 (nI (nv b (F j) 1))) = _ from e4]
        show ∃ σ', Ex (d + 2) 178 171 [.ref 112, .int (nI (b (F j)))] [] G0 s4 = _ ∧ _
        rw [show F j + 1 + (E j - (F j + 1)) = E j by omega] at g23'
        rw [show 1 + (E j - (F j + 1)) = E j - F j by omega] at v26
        have F4 : Fr [] SLD σ s4 := Fr_t f3 (Fr_m f4 (by simp) (by unfold SLD; simp))
        have hT4 := TPm_d h F4
        have r4 := m_raw (d + 1) hT4 (show E j ≤ n by omega)
        have il4 := m_isDigit d s4 (b := b) (n := n) (i := E j) (fun h => hb256 _ h)
        have nl : ¬ digP b n (E j) := fun k => by
          rcases mx with m | m
          · have := k.1; omega
          · exact m (k.2.trans k2.symm)
        have d24 : s4 112 24 = nI (F j) := by rw [f4 112 24 (by simp) (by simp)]; exact c24
        have d25 : s4 112 25 = 1 := by rw [f4 112 25 (by simp) (by simp)]; exact c25
        have q5 : ((5 : Int32) ≤ nI (E j) - nI (F j)) = (5 ≤ E j - F j) := by
          rw [nI_sub' (by omega)]; exact nJ_le (a := 5) (by omega) (by omega)
        rw [b178_171, g23', r4]
        simp only [Option.bind_some, Option.toList_some, Option.toList_none, List.cons_append, List.nil_append, i01a, i01b, if_true, if_false, b178_180, il4, b178_183, bI_z, bI_o, bI_em, ite_not, eq_false nl, i10, i01, eq_self, if_true, if_false, true_and, false_and, and_true, and_false, not_true, not_false_iff, true_or, or_true, false_or, or_false, ne_eq, not_true_eq_false, not_false_eq_true, g23', d24, q5]
        by_cases c4 : E j - F j ≤ 4
        · have c5 : ¬ 5 ≤ E j - F j := by omega
          rw [kW, if_pos c4]
          simp only [eq_false c5, i10, i01, eq_self, if_true, if_false, true_and, false_and, and_true, and_false, not_true, not_false_iff, true_or, or_true, false_or, or_false, ne_eq, not_true_eq_false, not_false_eq_true]
          refine ⟨_, rfl, ⟨by rw [pt_e]; rfl, fun k => absurd k (by decide), fun _ => by rw [pt_k (by decide)]; exact v26 c4, fun k => absurd k (by decide), by rw [pt_k (by decide)]; exact d24, fun _ => by rw [pt_k (by decide)]; exact g23'⟩, Fr_p F4 (Or.inr (by decide))⟩
        · have c5 : 5 ≤ E j - F j := by omega
          rw [kW, if_neg c4]
          simp only [eq_true c5, i10, i01, eq_self, if_true, if_false, true_and, false_and, and_true, and_false, not_true, not_false_iff, true_or, or_true, false_or, or_false, ne_eq, not_true_eq_false, not_false_eq_true]
          exact ⟨_, rfl, ⟨d25, fun k => absurd k (by decide), fun k => absurd k (by decide), fun k => absurd k (by decide), d24, fun _ => g23'⟩, F4⟩
      · have dg : ¬ digP b n (F j) := fun k => k2 k.2
        have k3 : sr (b (F j)) = 3 := by have := sr_3 (b (F j)); omega
        have eE := a6 k3
        have mk := m_isMark (d + 1) s3 hF256
        have kW : kN b (F j) (E j) = if b (F j) ∈ sg then b (F j) else 31 := by unfold kN; rw [if_neg k1, if_neg k2]
        simp only [eq_false dg, i10, i01, eq_self, if_true, if_false, true_and, false_and, and_true, and_false, not_true, not_false_iff, true_or, or_true, false_or, or_false, ne_eq, not_true_eq_false, not_false_eq_true, mk, Option.bind_some, Option.toList_some, Option.toList_none, List.cons_append, List.nil_append, i01a, i01b, if_true, if_false, b178_265, bI_z, bI_o, bI_em, ite_not]
        by_cases cm : b (F j) ∈ sg
        · have hm : 40 ≤ b (F j) ∧ b (F j) ≤ 62 := by
            have : b (F j) = 59 ∨ b (F j) = 43 ∨ b (F j) = 45 ∨ b (F j) = 42 ∨ b (F j) = 47 ∨ b (F j) = 40 ∨ b (F j) = 41 ∨ b (F j) = 60 ∨ b (F j) = 61 ∨ b (F j) = 62 := by simpa [sg] using cm
            omega
          have tk4 : tkM (b (F j)) = 4 := by unfold tkM; rw [if_neg (by omega), if_neg (by omega), if_neg (by omega), if_neg (by omega)]
          have kW' : kN b (F j) (E j) = b (F j) := by rw [kW, if_pos cm]
          rw [kW', tk4]
          simp only [eq_true cm, i10, i01, eq_self, if_true, if_false, true_and, false_and, and_true, and_false, not_true, not_false_iff, true_or, or_true, false_or, or_false, ne_eq, not_true_eq_false, not_false_eq_true]
          refine ⟨_, rfl, ⟨by rw [pt_e]; rfl, fun k => absurd k (by omega), fun k => absurd k (by omega), fun _ => by rw [pt_k (by decide)]; exact c26, by rw [pt_k (by decide)]; exact c24, fun _ => by rw [pt_k (by decide), c23, eE]⟩, Fr_p f3 (Or.inr (by decide))⟩
        · have kW' : kN b (F j) (E j) = 31 := by rw [kW, if_neg cm]
          rw [kW']
          simp only [eq_false cm, i10, i01, eq_self, if_true, if_false, true_and, false_and, and_true, and_false, not_true, not_false_iff, true_or, or_true, false_or, or_false, ne_eq, not_true_eq_false, not_false_eq_true]
          exact ⟨_, rfl, ⟨c25, fun k => absurd k (by decide), fun k => absurd k (by decide), fun k => absurd k (by decide), c24, fun _ => by rw [c23, eE]⟩, f3⟩
  · have ej : j = N := by omega
    obtain ⟨s, e, e23, f⟩ := skip n (by rw [ej]; exact tk.2.2.1) (Nat.le_refl _) (by rw [ej]; exact tk.2.1)
    have hT := TPm_d h f
    have r1 := m_raw (d + 1) hT (Nat.le_refl n)
    rw [rw_ge (Nat.lt_irrefl n)] at r1
    have f2 : Fr [] SLD s (pt (pt s 112 24 (nI n)) 112 25 1) := Fr_p (Fr_p Fr_r (Or.inr (by decide))) (Or.inr (by decide))
    have r2 := m_raw (d + 1) (TPm_d hT f2) (Nat.le_refl n)
    rw [rw_ge (Nat.lt_irrefl n)] at r2
    have g23 : pt (pt s 112 24 (nI n)) 112 25 1 112 23 = nI n := by rw [pt_k (by decide), pt_k (by decide)]; exact e23
    have q32 : ((-1 : Int32) = 32) = False := eq_false (by decide)
    have q10 : ((-1 : Int32) = 10) = False := eq_false (by decide)
    rw [e, b178_0, e23, r1]
    simp only [Option.bind_some, Option.toList_some, Option.toList_none, List.cons_append, List.nil_append, i01a, i01b, if_true, if_false, b178_8, q32, i10, i01, eq_self, if_true, if_false, true_and, false_and, and_true, and_false, not_true, not_false_iff, true_or, or_true, false_or, or_false, ne_eq, not_true_eq_false, not_false_eq_true, e23, r1, b178_21, q10, g23, r2, b178_60]
    have kk : kd b N F E j = 32 := if_neg cj
    unfold RT
    rw [kk, if_neg cj]
    refine ⟨_, rfl, ⟨by rw [pt_e]; rfl, fun k => absurd k (by decide), fun k => absurd k (by decide), fun k => absurd k (by decide), by rw [pt_k (by decide), pt_k (by decide), pt_e], fun k => absurd k cj⟩, Fr_t f (Fr_p f2 (Or.inr (by decide)))⟩
