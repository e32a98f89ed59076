/-! L3: the grammar, the model: unit, product, sum, comparison -/
/-- nothing but the slots of P changes -/
def FX (P : Nat → Nat → Prop) (σ σ' : Sig) : Prop := ∀ q k, ¬ P q k → σ' q k = σ q k
theorem FX_r {P : Nat → Nat → Prop} {σ : Sig} : FX P σ σ := fun _ _ _ => rfl
theorem FX_t {P : Nat → Nat → Prop} {σ σ' σ'' : Sig} (h : FX P σ σ') (k : FX P σ' σ'') : FX P σ σ'' := fun q i hq => (k q i hq).trans (h q i hq)
theorem FX_m {P Q : Nat → Nat → Prop} {σ σ' : Sig} (h : FX P σ σ') (k : ∀ q i, P q i → Q q i) : FX Q σ σ' := fun q i hq => h q i (fun e => hq (k q i e))
theorem FX_p {P : Nat → Nat → Prop} {σ σ' : Sig} {q k : Nat} {v : Int32} (h : FX P σ σ') (hq : P q k) : FX P σ (pt σ' q k v) := fun q' k' a => by
  rw [pt_ap, if_neg (fun e => a (by rw [e.1, e.2]; exact hq))]; exact h q' k' a
theorem FX_f {P : Nat → Nat → Prop} {S : List Nat} {T : List (Nat × Nat)} {σ σ' : Sig} (h : Fr S T σ σ') (h1 : ∀ q ∈ S, ∀ k, P q k) (h2 : ∀ x ∈ T, P x.1 x.2) : FX P σ σ' := fun q k hq => h q k (fun e => hq (h1 q e k)) (fun e => hq (h2 _ e))
abbrev Ds (q k : Nat) : Prop := (q = 112 ∧ (k = 23 ∨ k = 24 ∨ k = 25 ∨ k = 26 ∨ k = 35 ∨ k = 39 ∨ k = 40)) ∨ ((q = 130 ∨ q = 131) ∧ 800 ≤ k)
abbrev Da (q k : Nat) : Prop := Ds q k ∨ (q = 112 ∧ (k = 36 ∨ k = 38)) ∨ q = 132
abbrev Dl (q k : Nat) : Prop := Da q k ∨ ((q = 127 ∨ q = 128 ∨ q = 129) ∧ 32 ≤ k) ∨ (q = 133 ∧ 160 ≤ k)
theorem TPm_x {b : Nat → Nat} {n : Nat} {σ σ' : Sig} (h : TPm b n σ) (f : FX Dl σ σ') : TPm b n σ' := by
  refine ⟨h.1, by rw [f 112 22 (by decide)]; exact h.2.1, fun i hi => ?_, fun i hi => ?_⟩
  · rw [f 124 i (by simp only [Dl, Da, Ds]; omega)]; exact h.2.2.1 i hi
  · rw [f 125 i (by simp only [Dl, Da, Ds]; omega)]; exact h.2.2.2 i hi
theorem DsDl {q k : Nat} (h : Ds q k) : Dl q k := Or.inl (Or.inl h)
def cmK (c o a : Int32) : Prop := o = mop c ∧ (0 ≤ c → a = c) ∧ (-16 < c → c < 0 → a = -1 - c)
def CM (C : List Int32) (σ : Sig) : Prop := σ 112 35 = nI C.length ∧ ∀ k, k < C.length → cmK (C.getD k 0) (σ 130 (800 + k)) (σ 131 (800 + k))
theorem CM_k {C : List Int32} {σ σ' : Sig} (h : CM C σ) (e1 : σ' 112 35 = σ 112 35) (e2 : σ' 130 = σ 130) (e3 : σ' 131 = σ 131) : CM C σ' := ⟨e1.trans h.1, by rw [e2, e3]; exact h.2⟩
theorem m_emits (d : Nat) {C : List Int32} {σ : Sig} {c o a : Int32} (h : CM C σ) (hl : C.length < 400) (hc : cmK c o a) : ∃ σ', Ex d 182 0 [.ref 112, .int o, .int a] [] G0 σ = some (none, G0, σ') ∧ CM (C ++ [c]) σ' ∧ FX (fun q k => (q = 112 ∧ k = 35) ∨ ((q = 130 ∨ q = 131) ∧ 800 ≤ k)) σ σ' := by
  obtain ⟨h1, h2⟩ := h
  have e : (800 : Int32) + nI C.length = nI (800 + C.length) := nI_add 800 C.length
  have i1 : inb (nI (800 + C.length)) 1200 = true := inb_n (by omega) (by omega)
  have c1 : (nI (800 + C.length)).toNatClampNeg = 800 + C.length := nI_c (by omega)
  have p1 : pt σ 130 (800 + C.length) o 112 35 = nI C.length := by rw [pt_q (by decide)]; exact h1
  have p2 : pt (pt σ 130 (800 + C.length) o) 131 (800 + C.length) a 112 35 = nI C.length := by rw [pt_q (by decide)]; exact p1
  rw [b182_0]
  simp only [h1, e, i1, c1, p1, p2, i10, i01, eq_self, if_true, if_false, true_and, false_and, and_true, and_false, not_true, not_false_iff, true_or, or_true, false_or, or_false, ne_eq, not_true_eq_false, not_false_eq_true, nI_s]
  refine ⟨_, rfl, ⟨by rw [pt_e, List.length_append]; rfl, fun k hk => ?_⟩, FX_p (FX_p (FX_p FX_r (Or.inr ⟨Or.inl rfl, by omega⟩)) (Or.inr ⟨Or.inr rfl, by omega⟩)) (Or.inl ⟨rfl, rfl⟩)⟩
  have g1 : ∀ v, pt (pt (pt σ 130 (800 + C.length) o) 131 (800 + C.length) a) 112 35 v 130 (800 + k) = pt σ 130 (800 + C.length) o 130 (800 + k) := fun v => by rw [pt_q (by decide), pt_q (by decide)]
  have g2 : ∀ v, pt (pt (pt σ 130 (800 + C.length) o) 131 (800 + C.length) a) 112 35 v 131 (800 + k) = pt (pt σ 130 (800 + C.length) o) 131 (800 + C.length) a 131 (800 + k) := fun v => by rw [pt_q (by decide)]
  rw [g1, g2]
  by_cases ek : k = C.length
  · subst ek
    rw [pt_e, pt_e, gd_r (Nat.le_refl _), Nat.sub_self]; exact hc
  · have : k < C.length := by rw [List.length_append] at hk; simp at hk; omega
    rw [pt_k (by omega), pt_k (by omega), gd_l this, pt_q (by decide)]; exact h2 k this
theorem m_errs (d : Nat) (σ : Sig) (k : Int32) : Ex d 179 0 [.ref 112, .int k] [] G0 σ = some (some (.int (-1)), G0, pt (pt σ 112 39 k) 112 40 (σ 112 24)) := by
  rw [b179_0, pt_k (by decide)]
theorem kd_r (b : Nat → Nat) (N : Nat) (F E : Nat → Nat) (t : Nat) : kd b N F E t < 27 ∨ kd b N F E t = 30 ∨ kd b N F E t = 31 ∨ kd b N F E t = 32 ∨ (33 ≤ kd b N F E t ∧ kd b N F E t < 100) := by
  unfold kd
  split
  · unfold kN
    split
    · rcases wcN_le b (F t) (E t) with e | e
      · exact Or.inr (Or.inr (Or.inl e))
      · exact Or.inl e
    · split
      · split
        · exact Or.inr (Or.inl rfl)
        · exact Or.inr (Or.inr (Or.inl rfl))
      · split
        · rename_i cm
          have : b (F t) = 59 ∨ b (F t) = 43 ∨ b (F t) = 45 ∨ b (F t) = 42 ∨ b (F t) = 47 ∨ b (F t) = 40 ∨ b (F t) = 41 ∨ b (F t) = 60 ∨ b (F t) = 61 ∨ b (F t) = 62 := by simpa [sg] using cm
          omega
        · exact Or.inr (Or.inr (Or.inl rfl))
  · exact Or.inr (Or.inr (Or.inr (Or.inl rfl)))
def vN (b : Nat → Nat) (F E : Nat → Nat) : Nat → Nat := fun t => nv b (F t) (E t - F t)
def fN (n N : Nat) (F : Nat → Nat) : Nat → Nat := fun t => if t < N then F t else n
theorem kd_e {b : Nat → Nat} {N : Nat} {F E : Nat → Nat} : endK (kd b N F E) N := if_neg (Nat.lt_irrefl N)
theorem kd_32 {b : Nat → Nat} {N : Nat} {F E : Nat → Nat} {t : Nat} (h : t < N) : kd b N F E t ≠ 32 := by
  unfold kd
  rw [if_pos h]
  unfold kN
  split
  · rcases wcN_le b (F t) (E t) with e | e <;> omega
  · split
    · split <;> decide
    · split
      · rename_i cm
        have : b (F t) = 59 ∨ b (F t) = 43 ∨ b (F t) = 45 ∨ b (F t) = 42 ∨ b (F t) = 47 ∨ b (F t) = 40 ∨ b (F t) = 41 ∨ b (F t) = 60 ∨ b (F t) = 61 ∨ b (F t) = 62 := by simpa [sg] using cm
        omega
      · decide
/-- a token of kind 30 is a number of at most four digits -/
theorem kd_30 {b : Nat → Nat} {n N : Nat} {F E : Nat → Nat} {t : Nat} (tk : TOK (fun i => sr (b i)) n N F E) (h : kd b N F E t = 30) : t < N ∧ sr (b (F t)) = 2 ∧ E t - F t ≤ 4 ∧ vN b F E t ≤ 9999 := by
  unfold kd at h
  by_cases c : t < N
  · rw [if_pos c] at h
    unfold kN at h
    obtain ⟨a1, a2, a3, a4, a5, a6, a7⟩ := tk.1 t c
    split at h
    · rcases wcN_le b (F t) (E t) with e | e <;> omega
    · split at h
      · rename_i k2
        split at h
        · rename_i k4
          refine ⟨c, k2, k4, ?_⟩
          have n3 : (fun i => sr (b i)) (F t) ≠ 3 := by show sr (b (F t)) ≠ 3; omega
          have run := (a7 n3).1
          have hb := nv_b (b := b) (F := F t) (E t - F t) (fun i hi => sr_2 ((run (F t + i) (by omega) (by omega)).trans k2))
          have : (10 : Nat) ^ (E t - F t) ≤ 10 ^ 4 := Nat.pow_le_pow_right (by decide) k4
          show nv b (F t) (E t - F t) ≤ 9999
          omega
        · cases h
      · split at h
        · rename_i cm
          have : b (F t) = 59 ∨ b (F t) = 43 ∨ b (F t) = 45 ∨ b (F t) = 42 ∨ b (F t) = 47 ∨ b (F t) = 40 ∨ b (F t) = 41 ∨ b (F t) = 60 ∨ b (F t) = 61 ∨ b (F t) = 62 := by simpa [sg] using cm
          omega
        · cases h
  · rw [if_neg c] at h; cases h
/-- the class's table is this one -/
theorem KT_t {b : Nat → Nat} {n N : Nat} {F E : Nat → Nat} {σ : Sig} (h : KT b n N F E σ) : TKb (kd b N F E) (vN b F E) (fN n N F) N σ := by
  obtain ⟨tk, hn, h10, ht, h63, h65⟩ := h
  have hN : N ≤ n := tk.2.2.2
  refine ⟨by omega, kd_e, fun t ht => kd_32 ht, fun t ht' => ⟨?_, ?_, ?_⟩, fun t ht' k => ?_⟩
  · have := kd_r b N F E t; omega
  · by_cases c : t < N
    · rw [(ht t c).1]; unfold kd; rw [if_pos c]
    · rw [show t = N by omega, h63]; unfold kd; rw [if_neg (Nat.lt_irrefl N)]; rfl
  · by_cases c : t < N
    · rw [(ht t c).2.2]; unfold fN; rw [if_pos c]
    · rw [show t = N by omega, h65]; unfold fN; rw [if_neg (Nat.lt_irrefl N)]
  · obtain ⟨k1, k2, k3, k4⟩ := kd_30 tk k
    exact ⟨k4, (ht t k1).2.1 k2 k3⟩
theorem pmW_e {k k0 : Nat} (h : k < 27) (h0 : k0 < 27) : (pmW k = pmW k0) = (k = k0) := by
  refine propext ⟨fun e => ?_, fun e => by rw [e]⟩
  unfold pmW at e
  split at e <;> split at e <;> (try split at e) <;> (try split at e) <;> omega
theorem pmW_27 {k : Nat} (h : k < 27) : pmW k < 27 := by unfold pmW; split <;> (try split) <;> omega
theorem tk_2 {k : Nat} (h : k < 100) : (nI (tkM k) = 2) = (k < 27) := by
  have : ∀ k, k < 100 → (nI (tkM k) = 2 ↔ k < 27) := by decide
  exact propext (this k h)
theorem tk_3 {k : Nat} (h : k < 100) : (nI (tkM k) = 3) = (k = 30) := by
  have : ∀ k, k < 100 → (nI (tkM k) = 3 ↔ k = 30) := by decide
  exact propext (this k h)
theorem tk_0 {k : Nat} (h : k < 100) : (nI (tkM k) = 0) = (k = 32) := by
  have : ∀ k, k < 100 → (nI (tkM k) = 0 ↔ k = 32) := by decide
  exact propext (this k h)
theorem tk_4 {k : Nat} (h : 33 ≤ k) : tkM k = 4 := by unfold tkM; rw [if_neg (by omega), if_neg (by omega), if_neg (by omega), if_neg (by omega)]
theorem tk_n4 {k : Nat} (h : k < 27 ∨ k = 30 ∨ k = 31 ∨ k = 32) : ¬ nI (tkM k) = 4 := by
  have : ∀ k, k < 33 → (k < 27 ∨ k = 30 ∨ k = 31 ∨ k = 32) → ¬ nI (tkM k) = 4 := by decide
  exact this k (by omega) h
section
variable {b : Nat → Nat} {n N : Nat} {F E : Nat → Nat}
theorem m_isWord (d : Nat) {j k0 : Nat} {σ : Sig} (h : RT b n N F E j σ) (hk : k0 < 27) : Ex d 180 0 [.ref 112, .int (nI (pmW k0))] [] G0 σ = some (some (.int (bI (kd b N F E j = k0))), G0, σ) := by
  have hr := kd_r b N F E j
  have h100 : kd b N F E j < 100 := by omega
  rw [b180_0, h.1]
  simp only [tk_2 h100, Option.bind_some, Option.toList_some, Option.toList_none, List.cons_append, List.nil_append, i01a, i01b, if_true, if_false]
  by_cases c : kd b N F E j < 27
  · have p1 := pmW_27 c
    have p2 := pmW_27 hk
    have q : (nI (pmW (kd b N F E j)) = nI (pmW k0)) = (kd b N F E j = k0) := by rw [nJ_e (by omega) (by omega)]; exact pmW_e c hk
    simp only [eq_true c, i10, i01, eq_self, if_true, if_false, true_and, false_and, and_true, and_false, not_true, not_false_iff, true_or, or_true, false_or, or_false, ne_eq, not_true_eq_false, not_false_eq_true, h.2.1 c, q]
    unfold bI; split <;> rfl
  · have c' : ¬ kd b N F E j = k0 := by omega
    simp only [eq_false c, i10, i01, eq_self, if_true, if_false, true_and, false_and, and_true, and_false, not_true, not_false_iff, true_or, or_true, false_or, or_false, ne_eq, not_true_eq_false, not_false_eq_true]
    rw [bI_F c']
theorem m_isSign (d : Nat) {j c : Nat} {σ : Sig} (h : RT b n N F E j σ) (hc : 33 ≤ c) (hc2 : c < 100) : Ex d 181 0 [.ref 112, .int (nI c)] [] G0 σ = some (some (.int (bI (kd b N F E j = c))), G0, σ) := by
  have hr := kd_r b N F E j
  rw [b181_0, h.1]
  by_cases k : 33 ≤ kd b N F E j
  · have q : (nI (kd b N F E j) = nI c) = (kd b N F E j = c) := nJ_e (by omega) (by omega)
    have e4 : (nI (tkM (kd b N F E j)) = 4) = True := eq_true (by rw [tk_4 k]; rfl)
    simp only [e4, i10, i01, eq_self, if_true, if_false, true_and, false_and, and_true, and_false, not_true, not_false_iff, true_or, or_true, false_or, or_false, ne_eq, not_true_eq_false, not_false_eq_true, h.2.2.2.1 k, q, Option.bind_some, Option.toList_some, Option.toList_none, List.cons_append, List.nil_append, i01a, i01b, if_true, if_false]
    unfold bI; split <;> rfl
  · have c' : ¬ kd b N F E j = c := by omega
    have e4 : (nI (tkM (kd b N F E j)) = 4) = False := eq_false (tk_n4 (by omega))
    simp only [e4, i10, i01, eq_self, if_true, if_false, true_and, false_and, and_true, and_false, not_true, not_false_iff, true_or, or_true, false_or, or_false, ne_eq, not_true_eq_false, not_false_eq_true, Option.bind_some, Option.toList_some, Option.toList_none, List.cons_append, List.nil_append, i01a, i01b, if_true, if_false]
    rw [bI_F c']
theorem RT_x {P : Nat → Nat → Prop} {j : Nat} {σ σ' : Sig} (h : RT b n N F E j σ) (f : FX P σ σ') (hp : ¬ P 112 23 ∧ ¬ P 112 24 ∧ ¬ P 112 25 ∧ ¬ P 112 26) : RT b n N F E j σ' := by
  unfold RT at h ⊢
  rw [f 112 23 hp.1, f 112 24 hp.2.1, f 112 25 hp.2.2.1, f 112 26 hp.2.2.2]; exact h
def MP (b : Nat → Nat) (n N : Nat) (F E : Nat → Nat) (g j : Nat) (C : List Int32) (σ : Sig) : Prop := TPm b n σ ∧ RT b n N F E j σ ∧ j ≤ N ∧ CM C σ ∧ σ 112 34 = nI (g - 15)
/-- what a piece of the model's parser leaves -/
def RM (b : Nat → Nat) (n N : Nat) (F E : Nat → Nat) (g : Nat) (C : List Int32) (r : PR) (v : Int32) (σ' : Sig) : Prop := match r with
  | .inl (k, x) => v = -1 ∧ σ' 112 39 = nI k ∧ σ' 112 40 = nI (fN n N F x)
  | .inr (c, j) => v = 0 ∧ MP b n N F E g j (C ++ c) σ'
theorem RM_p {g : Nat} {C c : List Int32} {r : PR} {v : Int32} {σ' : Sig} (h : RM b n N F E g (C ++ c) r v σ') : RM b n N F E g C (pre c r) v σ' := by
  cases r with
  | inl x => exact h
  | inr x =>
    obtain ⟨e, j⟩ := x
    exact ⟨h.1, by rw [← List.append_assoc]; exact h.2⟩
/-- the next token -/
theorem m_next (d : Nat) {g j : Nat} {C : List Int32} {σ : Sig} (tk : TOK (fun i => sr (b i)) n N F E) (h : MP b n N F E g j C σ) (hj : j < N) : ∃ σ', Ex (d + 2) 178 0 [.ref 112, .null] [] G0 σ = some (none, G0, σ') ∧ MP b n N F E g (j + 1) C σ' ∧ FX (fun q k => q = 112 ∧ (k = 23 ∨ k = 24 ∨ k = 25 ∨ k = 26)) σ σ' := by
  obtain ⟨h1, h2, h3, h4, h5⟩ := h
  obtain ⟨s, e, r, f⟩ := m_reads d h1 tk (show j + 1 ≤ N by omega) (h2.2.2.2.2.2 hj)
  refine ⟨s, e, ⟨TPm_d h1 f, r, by omega, CM_k h4 (f 112 35 (by simp) (by decide)) (Fr_q f (by simp) (by decide)) (Fr_q f (by simp) (by decide)), by rw [f 112 34 (by simp) (by decide)]; exact h5⟩, FX_f f (by simp) (by decide)⟩
theorem MP_f (d : Nat) {g j : Nat} {C : List Int32} {σ : Sig} (k : Nat) (h : MP b n N F E g j C σ) : Ex d 179 0 [.ref 112, .int (nI k)] [] G0 σ = some (some (.int (-1)), G0, pt (pt σ 112 39 (nI k)) 112 40 (σ 112 24)) ∧ RM b n N F E g C (.inl (k, j)) (-1) (pt (pt σ 112 39 (nI k)) 112 40 (σ 112 24)) ∧ FX (fun q k => q = 112 ∧ (k = 39 ∨ k = 40)) σ (pt (pt σ 112 39 (nI k)) 112 40 (σ 112 24)) := by
  refine ⟨m_errs d σ _, ⟨rfl, by rw [pt_k (by decide), pt_e], ?_⟩, FX_p (FX_p FX_r ⟨rfl, Or.inl rfl⟩) ⟨rfl, Or.inr rfl⟩⟩
  rw [pt_e, h.2.1.2.2.2.2.1]; rfl
theorem MP_e (d : Nat) {g j : Nat} {C : List Int32} {σ : Sig} {c o a : Int32} (h : MP b n N F E g j C σ) (hl : C.length < 400) (hc : cmK c o a) : ∃ σ', Ex d 182 0 [.ref 112, .int o, .int a] [] G0 σ = some (none, G0, σ') ∧ MP b n N F E g j (C ++ [c]) σ' ∧ FX (fun q k => (q = 112 ∧ k = 35) ∨ ((q = 130 ∨ q = 131) ∧ 800 ≤ k)) σ σ' := by
  obtain ⟨h1, h2, h3, h4, h5⟩ := h
  obtain ⟨s, e, r, f⟩ := m_emits d h4 hl hc
  exact ⟨s, e, ⟨TPm_x h1 (FX_m f (fun q k hq => by simp only [Dl, Da, Ds]; omega)), RT_x h2 f (by decide), h3, r, by rw [f 112 34 (by decide)]; exact h5⟩, f⟩
theorem mop_n {k : Nat} (h : k < 2 ^ 31) : cmK (nI k) 0 (nI k) := by
  have h0 : (0 : Int32) ≤ nI k := by
    have : ((0 : Int32) ≤ nI k) = (0 ≤ k) := nJ_le (a := 0) (by omega) h
    rw [this]; omega
  refine ⟨?_, fun _ => rfl, fun _ k => ?_⟩
  · unfold mop; rw [if_pos h0]
  · exact absurd h0 (Int32.not_le.mpr k)
theorem mop_a {k : Nat} (h : k < 15) : cmK (-1 - nI k) 1 (nI k) := by
  have hm : ∀ k, k < 15 → (1 : Int32) = mop (-1 - nI k) ∧ ¬ (0 : Int32) ≤ -1 - nI k := by decide
  refine ⟨(hm k h).1, fun e => absurd e (hm k h).2, fun _ _ => m1m1.symm⟩
theorem mop_o {c o : Int32} (h : o = mop c) (h2 : ¬ -16 < c) (h3 : ¬ 0 ≤ c) : cmK c o 0 := ⟨h, fun e => absurd e h3, fun e => absurd e h2⟩
theorem m_canAsk (d : Nat) {g k : Nat} {σ : Sig} (hg : g = 15 ∨ g = 16) (h : σ 112 34 = nI (g - 15)) (hk : k < 27) : Ex (d + 1) 183 0 [.ref 112, .int (nI (pmW k))] [] G0 σ = some (some (.int (bI (askP g k))), G0, σ) := by
  have a1 : ∀ k, k < 27 → ((6 : Int32) ≤ nI (pmW k) ∧ nI (pmW k) ≤ 15 ↔ k < 10) := by decide
  have a2 : ∀ k, k < 27 → (nI (pmW k) = 16 ↔ k = 10) := by decide
  have a3 : ∀ k, k < 27 → ((17 : Int32) ≤ nI (pmW k) ∧ nI (pmW k) ≤ 20 ↔ 11 ≤ k ∧ k ≤ 14) := by decide
  have q1 := propext (a1 k hk)
  have q2 := propext (a2 k hk)
  have q3 := propext (a3 k hk)
  have qw : (nI (g - 15) = 0) = (g = 15) := by
    rcases hg with e | e <;> subst e
    · exact propext ⟨fun _ => rfl, fun _ => rfl⟩
    · exact propext ⟨fun k => absurd k (by decide), fun k => absurd k (by decide)⟩
  simp only [b183_0, m_isIn, Option.bind_some, Option.toList_some, Option.toList_none, List.cons_append, List.nil_append, i01a, i01b, if_true, if_false, b183_9, bI_z, bI_o, bI_em, ite_not, q1, q2, h, qw, b183_37, q3]
  by_cases c1 : k < 10
  · rw [bI_T (show askP g k from Or.inl c1)]; simp only [eq_true c1, i10, i01, eq_self, if_true, if_false, true_and, false_and, and_true, and_false, not_true, not_false_iff, true_or, or_true, false_or, or_false, ne_eq, not_true_eq_false, not_false_eq_true]
  · by_cases c2 : g = 15
    · by_cases c3 : k = 10
      · rw [bI_T (show askP g k from Or.inr (Or.inl ⟨c3, c2⟩))]; simp only [eq_false c1, eq_true c2, eq_true c3, i10, i01, eq_self, if_true, if_false, true_and, false_and, and_true, and_false, not_true, not_false_iff, true_or, or_true, false_or, or_false, ne_eq, not_true_eq_false, not_false_eq_true]
      · rw [bI_F (show ¬ askP g k by unfold askP; omega)]; simp only [eq_false c1, eq_true c2, eq_false c3, i10, i01, eq_self, if_true, if_false, true_and, false_and, and_true, and_false, not_true, not_false_iff, true_or, or_true, false_or, or_false, ne_eq, not_true_eq_false, not_false_eq_true]
    · by_cases c4 : 11 ≤ k ∧ k ≤ 14
      · rw [bI_T (show askP g k by unfold askP; omega)]; simp only [eq_false c1, eq_false c2, eq_true c4, i10, i01, eq_self, if_true, if_false, true_and, false_and, and_true, and_false, not_true, not_false_iff, true_or, or_true, false_or, or_false, ne_eq, not_true_eq_false, not_false_eq_true]
      · rw [bI_F (show ¬ askP g k by unfold askP; omega)]; simp only [eq_false c1, eq_false c2, eq_false c4, i10, i01, eq_self, if_true, if_false, true_and, false_and, and_true, and_false, not_true, not_false_iff, true_or, or_true, false_or, or_false, ne_eq, not_true_eq_false, not_false_eq_true]
theorem m_unit (d : Nat) {g i : Nat} {C : List Int32} {σ : Sig} (tk : TOK (fun i => sr (b i)) n N F E) (hg : g = 15 ∨ g = 16) (h : MP b n N F E g i C σ) (hl : C.length ≤ i) :
    ∃ σ' v, Ex (d + 3) 184 0 [.ref 112, .null] [] G0 σ = some (some (.int v), G0, σ') ∧ RM b n N F E g C (pU (kd b N F E) (vN b F E) g i) v σ' ∧ FX Ds σ σ' := by
  have hN : N ≤ 400 := Nat.le_trans tk.2.2.2 h.1.1
  have hr := kd_r b N F E i
  have h100 : kd b N F E i < 100 := by omega
  have e25 := h.2.1.1
  have bad : ∀ a1 : Int32, ∃ σ' v, (Ex (d + 2) 179 0 [.ref 112, .int 1] [] G0 σ).bind (fun o => Ex (d + 2 + 1) 184 42 [.ref 112, .int a1] (o.1.toList ++ []) o.2.1 o.2.2) = some (some (.int v), G0, σ') ∧ RM b n N F E g C (.inl (1, i)) v σ' ∧ FX Ds σ σ' := by
    intro a1
    obtain ⟨e, r, f⟩ := MP_f (d + 2) 1 h
    have e' : Ex (d + 2) 179 0 [.ref 112, .int 1] [] G0 σ = _ := e
    rw [e']
    simp only [Option.bind_some, Option.toList_some, Option.toList_none, List.cons_append, List.nil_append, i01a, i01b, if_true, if_false, b184_42]
    exact ⟨_, _, rfl, r, FX_m f (fun q k hq => by simp only [Ds]; omega)⟩
  have good : ∀ (c o a : Int32) (a1 : Int32), i < N → cmK c o a → ∃ σ' v, (Ex (d + 2) 182 0 [.ref 112, .int o, .int a] [] G0 σ).bind (fun o => Ex (d + 2 + 1) 184 74 [.ref 112, .int a1] (o.1.toList ++ []) o.2.1 o.2.2) = some (some (.int v), G0, σ') ∧ RM b n N F E g C (.inr ([c], i + 1)) v σ' ∧ FX Ds σ σ' := by
    intro c o a a1 lt hc
    obtain ⟨s1, e1, m1, f1⟩ := MP_e (d + 2) h (show C.length < 400 by omega) hc
    have e1' : Ex (d + 2) 182 0 [.ref 112, .int o, .int a] [] G0 σ = _ := e1
    obtain ⟨s2, e2, m2, f2⟩ := m_next d tk m1 lt
    rw [e1']
    simp only [Option.bind_some, Option.toList_some, Option.toList_none, List.cons_append, List.nil_append, i01a, i01b, if_true, if_false, b184_74, e2, b184_78]
    exact ⟨s2, 0, rfl, ⟨rfl, m2⟩, FX_t (FX_m f1 (fun q k hq => by simp only [Ds]; omega)) (FX_m f2 (fun q k hq => by simp only [Ds]; omega))⟩
  rw [b184_0]
  simp only [e25, tk_2 h100, tk_3 h100]
  unfold pU
  by_cases c27 : kd b N F E i < 27
  · have n30 : ¬ kd b N F E i = 30 := by omega
    have lt := kLt kd_e h.2.2.1 (show kd b N F E i ≠ 32 by omega)
    have ca := m_canAsk (d + 1) hg h.2.2.2.2 c27
    have e3 : Ex (d + 2) 183 0 [.ref 112, .int (nI (pmW (kd b N F E i)))] [] G0 σ = some (some (.int (bI (askP g (kd b N F E i)))), G0, σ) := ca
    rw [if_neg n30]
    simp only [eq_true c27, i10, i01, eq_self, if_true, if_false, true_and, false_and, and_true, and_false, not_true, not_false_iff, true_or, or_true, false_or, or_false, ne_eq, not_true_eq_false, not_false_eq_true, h.2.1.2.1 c27, e3, Option.bind_some, Option.toList_some, Option.toList_none, List.cons_append, List.nil_append, i01a, i01b, if_true, if_false, b184_16, e25, tk_3 h100, eq_false n30, bI_z, bI_o, bI_em, ite_not]
    by_cases ca : askP g (kd b N F E i)
    · rw [if_pos ca]
      have h15 := askP_15 ca
      have e6 : nI (pmW (kd b N F E i)) - 6 = nI (kd b N F E i) := by
        have : ∀ k, k < 15 → nI (pmW k) - 6 = nI k := by decide
        exact this _ h15
      simp only [eq_true ca, i10, i01, eq_self, if_true, if_false, true_and, false_and, and_true, and_false, not_true, not_false_iff, true_or, or_true, false_or, or_false, ne_eq, not_true_eq_false, not_false_eq_true, b184_43, h.2.1.2.1 c27, e6]
      exact good _ _ _ _ lt (mop_a h15)
    · rw [if_neg ca]
      simp only [eq_false ca, i10, i01, eq_self, if_true, if_false, true_and, false_and, and_true, and_false, not_true, not_false_iff, true_or, or_true, false_or, or_false, ne_eq, not_true_eq_false, not_false_eq_true]
      exact bad 0
  · by_cases c30 : kd b N F E i = 30
    · have lt := kLt kd_e h.2.2.1 (show kd b N F E i ≠ 32 by omega)
      have hv := kd_30 tk c30
      rw [if_pos c30]
      simp only [eq_false c27, eq_true c30, i10, i01, eq_self, if_true, if_false, true_and, false_and, and_true, and_false, not_true, not_false_iff, true_or, or_true, false_or, or_false, ne_eq, not_true_eq_false, not_false_eq_true, b184_43, h.2.1.2.2.1 c30]
      exact good _ _ _ _ lt (mop_n (show vN b F E i < 2 ^ 31 by omega))
    · have na : ¬ askP g (kd b N F E i) := fun e => by have := askP_15 e; omega
      rw [if_neg c30, if_neg na]
      simp only [eq_false c27, eq_false c30, i10, i01, eq_self, if_true, if_false, true_and, false_and, and_true, and_false, not_true, not_false_iff, true_or, or_true, false_or, or_false, ne_eq, not_true_eq_false, not_false_eq_true]
      exact bad 0
theorem m_prodL (d : Nat) {g : Nat} (tk : TOK (fun i => sr (b i)) n N F E) (hg : g = 15 ∨ g = 16) : ∀ fp i C σ a1, N - i < fp → MP b n N F E g i C σ → C.length ≤ i →
    ∃ σ' v, Ex (d + 4) 185 10 [.ref 112, a1] [] G0 σ = some (some (.int v), G0, σ') ∧ RM b n N F E g C (pPl (kd b N F E) (vN b F E) g fp i) v σ' ∧ FX Ds σ σ' := by
  intro fp
  induction fp with
  | zero => intro i C σ a1 hf; omega
  | succ fp ih =>
    intro i C σ a1 hf h hl
    have hN : N ≤ 400 := Nat.le_trans tk.2.2.2 h.1.1
    have hi := h.2.2.1
    have s42 : Ex (d + 3) 181 0 [.ref 112, .int 42] [] G0 σ = _ := m_isSign (d + 3) h.2.1 (c := 42) (by decide) (by decide)
    have s47 : Ex (d + 3) 181 0 [.ref 112, .int 47] [] G0 σ = _ := m_isSign (d + 3) h.2.1 (c := 47) (by decide) (by decide)
    have n0 : ((0 : Int32) = -1) = False := eq_false (by decide)
    rw [b185_10, s42, pPl]
    simp only [Option.bind_some, Option.toList_some, Option.toList_none, List.cons_append, List.nil_append, i01a, i01b, if_true, if_false, b185_16, bI_z, bI_o, bI_em, ite_not, s42, s47, b185_25]
    by_cases k42 : kd b N F E i = 42
    · have lt := kLt kd_e hi (show kd b N F E i ≠ 32 by omega)
      obtain ⟨s1, e1, m1, f1⟩ := m_next (d + 1) tk h lt
      have e1' : Ex (d + 3) 178 0 [.ref 112, .null] [] G0 σ = _ := e1
      obtain ⟨s2, v, e2, r2, f2⟩ := m_unit d tk hg m1 (show C.length ≤ i + 1 by omega)
      have F12 : FX Ds σ s2 := FX_t (FX_m f1 (fun q k hq => by simp only [Ds]; omega)) f2
      have b1 : bI (kd b N F E i = 42) = 1 := bI_T k42
      simp only [b1, bI_tt, i10, i01, eq_self, if_true, if_false, true_and, false_and, and_true, and_false, not_true, not_false_iff, true_or, or_true, false_or, or_false, ne_eq, not_true_eq_false, not_false_eq_true, b185_34, e1', Option.bind_some, Option.toList_some, Option.toList_none, List.cons_append, List.nil_append, i01a, i01b, if_true, if_false, b185_39, e2, b185_78, eq_true k42]
      have pok := pU_ok (K := kd b N F E) (V := vN b F E) (g := g) kd_e (show i + 1 ≤ N by omega)
      cases hu : pU (kd b N F E) (vN b F E) g (i + 1) with
      | inl x =>
        rw [hu] at r2
        obtain ⟨x1, x2⟩ := x
        have v0 : v = -1 := r2.1
        simp only [v0, i10, i01, eq_self, if_true, if_false, true_and, false_and, and_true, and_false, not_true, not_false_iff, true_or, or_true, false_or, or_false, ne_eq, not_true_eq_false, not_false_eq_true]
        rw [v0] at r2
        exact ⟨s2, _, rfl, r2, F12⟩
      | inr x =>
        obtain ⟨c, j⟩ := x
        rw [hu] at r2
        obtain ⟨p1, p2⟩ := pok c j hu
        have v0 : v = 0 := r2.1
        have lc : (C ++ c).length + 1 ≤ j := by rw [List.length_append]; omega
        obtain ⟨s3, e3, m3, f3⟩ := MP_e (d + 3) r2.2 (show (C ++ c).length < 400 by omega) (mop_o (c := -43) (o := 4) (by decide) (by decide) (by decide))
        have e3' : Ex (d + 3) 182 0 [.ref 112, .int 4, .int 0] [] G0 s2 = _ := e3
        obtain ⟨s4, v4, e4, r4, f4⟩ := ih j (C ++ c ++ [-43]) s3 (.int 1) (by omega) m3 (by rw [List.length_append]; exact lc)
        simp only [v0, n0, i10, i01, eq_self, if_true, if_false, true_and, false_and, and_true, and_false, not_true, not_false_iff, true_or, or_true, false_or, or_false, ne_eq, not_true_eq_false, not_false_eq_true, e3', Option.bind_some, Option.toList_some, Option.toList_none, List.cons_append, List.nil_append, i01a, i01b, if_true, if_false, b185_98, e4]
        refine ⟨s4, v4, rfl, ?_, FX_t F12 (FX_t (FX_m f3 (fun q k hq => by simp only [Ds]; omega)) f4)⟩
        rw [List.append_assoc] at r4
        exact RM_p r4
    · by_cases k47 : kd b N F E i = 47
      · have lt := kLt kd_e hi (show kd b N F E i ≠ 32 by omega)
        obtain ⟨s1, e1, m1, f1⟩ := m_next (d + 1) tk h lt
        have e1' : Ex (d + 3) 178 0 [.ref 112, .null] [] G0 σ = _ := e1
        have F1 : FX Ds σ s1 := FX_m f1 (fun q k hq => by simp only [Ds]; omega)
        have hr := kd_r b N F E (i + 1)
        have h100 : kd b N F E (i + 1) < 100 := by omega
        have b1 : bI (kd b N F E i = 42) = 0 := bI_F k42
        simp only [b1, bI_ff, bI_tt, i10, i01, eq_self, if_true, if_false, true_and, false_and, and_true, and_false, not_true, not_false_iff, true_or, or_true, false_or, or_false, ne_eq, not_true_eq_false, not_false_eq_true, eq_false k42, eq_true k47, b185_34, e1', Option.bind_some, Option.toList_some, Option.toList_none, List.cons_append, List.nil_append, i01a, i01b, if_true, if_false, b185_39, m1.2.1.1, tk_3 h100]
        by_cases c30 : kd b N F E (i + 1) = 30
        · have hv := kd_30 tk c30
          have qz : (nI (vN b F E (i + 1)) = 0) = (vN b F E (i + 1) = 0) := nI_z (by omega)
          have e26 : s1 112 26 = nI (vN b F E (i + 1)) := m1.2.1.2.2.1 c30
          simp only [eq_true c30, i10, i01, eq_self, if_true, if_false, true_and, false_and, and_true, and_false, not_true, not_false_iff, true_or, or_true, false_or, or_false, ne_eq, not_true_eq_false, not_false_eq_true, e26, qz]
          by_cases z : vN b F E (i + 1) = 0
          · obtain ⟨e, r, f⟩ := MP_f (d + 3) 2 m1
            have e' : Ex (d + 3) 179 0 [.ref 112, .int 2] [] G0 s1 = _ := e
            simp only [eq_true z, i10, i01, eq_self, if_true, if_false, true_and, false_and, and_true, and_false, not_true, not_false_iff, true_or, or_true, false_or, or_false, ne_eq, not_true_eq_false, not_false_eq_true, e', Option.bind_some, Option.toList_some, Option.toList_none, List.cons_append, List.nil_append, i01a, i01b, if_true, if_false, b185_73]
            exact ⟨_, _, rfl, r, FX_t F1 (FX_m f (fun q k hq => by simp only [Ds]; omega))⟩
          · obtain ⟨s2, v, e2, r2, f2⟩ := m_unit d tk hg m1 (show C.length ≤ i + 1 by omega)
            have hu : pU (kd b N F E) (vN b F E) g (i + 1) = .inr ([nI (vN b F E (i + 1))], i + 2) := by unfold pU; rw [if_pos c30]
            rw [hu] at r2
            have v0 : v = 0 := r2.1
            have lt2 := kLt kd_e (show i + 1 ≤ N by omega) (show kd b N F E (i + 1) ≠ 32 by omega)
            obtain ⟨s3, e3, m3, f3⟩ := MP_e (d + 3) r2.2 (show (C ++ [nI (vN b F E (i + 1))]).length < 400 by rw [List.length_append]; simp; omega) (mop_o (c := -48) (o := 5) (by decide) (by decide) (by decide))
            have e3' : Ex (d + 3) 182 0 [.ref 112, .int 5, .int 0] [] G0 s2 = _ := e3
            obtain ⟨s4, v4, e4, r4, f4⟩ := ih (i + 2) (C ++ [nI (vN b F E (i + 1))] ++ [-48]) s3 (.int 0) (by omega) m3 (by rw [List.length_append, List.length_append]; simp; omega)
            simp only [eq_false z, i10, i01, eq_self, if_true, if_false, true_and, false_and, and_true, and_false, not_true, not_false_iff, true_or, or_true, false_or, or_false, ne_eq, not_true_eq_false, not_false_eq_true, e2, Option.bind_some, Option.toList_some, Option.toList_none, List.cons_append, List.nil_append, i01a, i01b, if_true, if_false, b185_78, v0, n0, e3', b185_98, e4]
            refine ⟨s4, v4, rfl, ?_, FX_t F1 (FX_t f2 (FX_t (FX_m f3 (fun q k hq => by simp only [Ds]; omega)) f4))⟩
            rw [List.append_assoc] at r4
            exact RM_p r4
        · obtain ⟨e, r, f⟩ := MP_f (d + 3) 1 m1
          have e' : Ex (d + 3) 179 0 [.ref 112, .int 1] [] G0 s1 = _ := e
          simp only [eq_false c30, i10, i01, eq_self, if_true, if_false, true_and, false_and, and_true, and_false, not_true, not_false_iff, true_or, or_true, false_or, or_false, ne_eq, not_true_eq_false, not_false_eq_true, e', Option.bind_some, Option.toList_some, Option.toList_none, List.cons_append, List.nil_append, i01a, i01b, if_true, if_false, b185_56]
          exact ⟨_, _, rfl, r, FX_t F1 (FX_m f (fun q k hq => by simp only [Ds]; omega))⟩
      · simp only [eq_false k42, eq_false k47, i10, i01, eq_self, if_true, if_false, true_and, false_and, and_true, and_false, not_true, not_false_iff, true_or, or_true, false_or, or_false, ne_eq, not_true_eq_false, not_false_eq_true]
        refine ⟨σ, 0, rfl, ⟨rfl, ?_⟩, FX_r⟩
        rw [List.append_nil]; exact h
theorem m_prod (d : Nat) {g i : Nat} {C : List Int32} {σ : Sig} (tk : TOK (fun i => sr (b i)) n N F E) (hg : g = 15 ∨ g = 16) (h : MP b n N F E g i C σ) (hl : C.length ≤ i) :
    ∃ σ' v, Ex (d + 4) 185 0 [.ref 112, .null] [] G0 σ = some (some (.int v), G0, σ') ∧ RM b n N F E g C (pP (kd b N F E) (vN b F E) g i) v σ' ∧ FX Ds σ σ' := by
  have hN : N ≤ 400 := Nat.le_trans tk.2.2.2 h.1.1
  obtain ⟨s1, v, e1, r1, f1⟩ := m_unit d tk hg h hl
  have pok := pU_ok (K := kd b N F E) (V := vN b F E) (g := g) kd_e h.2.2.1
  have n0 : ((0 : Int32) = -1) = False := eq_false (by decide)
  rw [b185_0, e1]
  simp only [Option.bind_some, Option.toList_some, Option.toList_none, List.cons_append, List.nil_append, i01a, i01b, if_true, if_false, b185_4]
  unfold pP
  cases hu : pU (kd b N F E) (vN b F E) g i with
  | inl x =>
    rw [hu] at r1
    obtain ⟨x1, x2⟩ := x
    have v0 : v = -1 := r1.1
    simp only [v0, i10, i01, eq_self, if_true, if_false, true_and, false_and, and_true, and_false, not_true, not_false_iff, true_or, or_true, false_or, or_false, ne_eq, not_true_eq_false, not_false_eq_true]
    rw [v0] at r1
    exact ⟨s1, _, rfl, r1, f1⟩
  | inr x =>
    obtain ⟨c, j⟩ := x
    rw [hu] at r1
    obtain ⟨p1, p2⟩ := pok c j hu
    have v0 : v = 0 := r1.1
    obtain ⟨s4, v4, e4, r4, f4⟩ := m_prodL d tk hg 401 j (C ++ c) s1 .null (by omega) r1.2 (by rw [List.length_append]; omega)
    simp only [v0, n0, i10, i01, eq_self, if_true, if_false, true_and, false_and, and_true, and_false, not_true, not_false_iff, true_or, or_true, false_or, or_false, ne_eq, not_true_eq_false, not_false_eq_true, e4]
    exact ⟨s4, v4, rfl, RM_p r4, FX_t f1 f4⟩
theorem m_sumL (d : Nat) {g : Nat} (tk : TOK (fun i => sr (b i)) n N F E) (hg : g = 15 ∨ g = 16) : ∀ fs i C σ a1, N - i < fs → MP b n N F E g i C σ → C.length ≤ i →
    ∃ σ' v, Ex (d + 5) 186 10 [.ref 112, a1] [] G0 σ = some (some (.int v), G0, σ') ∧ RM b n N F E g C (pSl (kd b N F E) (vN b F E) g fs i) v σ' ∧ FX Ds σ σ' := by
  intro fs
  induction fs with
  | zero => intro i C σ a1 hf; omega
  | succ fs ih =>
    intro i C σ a1 hf h hl
    have hN : N ≤ 400 := Nat.le_trans tk.2.2.2 h.1.1
    have hi := h.2.2.1
    have s43 : Ex (d + 4) 181 0 [.ref 112, .int 43] [] G0 σ = _ := m_isSign (d + 4) h.2.1 (c := 43) (by decide) (by decide)
    have s45 : Ex (d + 4) 181 0 [.ref 112, .int 45] [] G0 σ = _ := m_isSign (d + 4) h.2.1 (c := 45) (by decide) (by decide)
    have n0 : ((0 : Int32) = -1) = False := eq_false (by decide)
    rw [b186_10, s43, pSl]
    simp only [Option.bind_some, Option.toList_some, Option.toList_none, List.cons_append, List.nil_append, i01a, i01b, if_true, if_false, b186_16, bI_z, bI_o, bI_em, ite_not, s45, b186_25]
    by_cases ka : kd b N F E i = 43 ∨ kd b N F E i = 45
    · have lt := kLt kd_e hi (show kd b N F E i ≠ 32 by omega)
      have e26 : σ 112 26 = nI (kd b N F E i) := h.2.1.2.2.2.1 (by omega)
      obtain ⟨s1, e1, m1, f1⟩ := m_next (d + 2) tk h lt
      have e1' : Ex (d + 4) 178 0 [.ref 112, .null] [] G0 σ = _ := e1
      obtain ⟨s2, v, e2, r2, f2⟩ := m_prod d tk hg m1 (show C.length ≤ i + 1 by omega)
      have F12 : FX Ds σ s2 := FX_t (FX_m f1 (fun q k hq => by simp only [Ds]; omega)) f2
      have pok := pP_ok (K := kd b N F E) (V := vN b F E) (g := g) kd_e (show i + 1 ≤ N by omega)
      have rest : ∀ w : Int32, cmK (-1 - nI (kd b N F E i)) w 0 → ∃ σ' v, (Ex (d + 4) 178 0 [.ref 112, .null] [] G0 σ).bind (fun o => Ex (d + 4 + 1) 186 47 [.ref 112, .int w] (o.1.toList ++ []) o.2.1 o.2.2) = some (some (.int v), G0, σ') ∧ RM b n N F E g C (bnd (pP (kd b N F E) (vN b F E) g (i + 1)) (fun c j => pre (c ++ [-1 - nI (kd b N F E i)]) (pSl (kd b N F E) (vN b F E) g fs j))) v σ' ∧ FX Ds σ σ' := by
        intro w hw
        rw [e1']
        simp only [Option.bind_some, Option.toList_some, Option.toList_none, List.cons_append, List.nil_append, i01a, i01b, if_true, if_false, b186_47, e2, b186_51]
        cases hu : pP (kd b N F E) (vN b F E) g (i + 1) with
        | inl x =>
          rw [hu] at r2
          obtain ⟨x1, x2⟩ := x
          have v0 : v = -1 := r2.1
          simp only [v0, i10, i01, eq_self, if_true, if_false, true_and, false_and, and_true, and_false, not_true, not_false_iff, true_or, or_true, false_or, or_false, ne_eq, not_true_eq_false, not_false_eq_true]
          rw [v0] at r2
          exact ⟨s2, _, rfl, r2, F12⟩
        | inr x =>
          obtain ⟨c, j⟩ := x
          rw [hu] at r2
          obtain ⟨p1, p2⟩ := pok c j hu
          have v0 : v = 0 := r2.1
          have lc : (C ++ c).length + 1 ≤ j := by rw [List.length_append]; omega
          obtain ⟨s3, e3, m3, f3⟩ := MP_e (d + 4) r2.2 (show (C ++ c).length < 400 by omega) hw
          have e3' : Ex (d + 4) 182 0 [.ref 112, .int w, .int 0] [] G0 s2 = _ := e3
          obtain ⟨s4, v4, e4, r4, f4⟩ := ih j (C ++ c ++ [-1 - nI (kd b N F E i)]) s3 (.int w) (by omega) m3 (by rw [List.length_append]; exact lc)
          simp only [v0, n0, i10, i01, eq_self, if_true, if_false, true_and, false_and, and_true, and_false, not_true, not_false_iff, true_or, or_true, false_or, or_false, ne_eq, not_true_eq_false, not_false_eq_true, e3', Option.bind_some, Option.toList_some, Option.toList_none, List.cons_append, List.nil_append, i01a, i01b, if_true, if_false, b186_63, e4]
          refine ⟨s4, v4, rfl, ?_, FX_t F12 (FX_t (FX_m f3 (fun q k hq => by simp only [Ds]; omega)) f4)⟩
          rw [List.append_assoc] at r4
          exact RM_p r4
      rw [if_pos ka]
      rcases ka with k | k
      · have q : (nI (kd b N F E i) = 43) = True := eq_true (by rw [k]; rfl)
        simp only [eq_true k, i10, i01, eq_self, if_true, if_false, true_and, false_and, and_true, and_false, not_true, not_false_iff, true_or, or_true, false_or, or_false, ne_eq, not_true_eq_false, not_false_eq_true, e26, q]
        exact rest 2 (mop_o (by rw [k]; decide) (by rw [k]; decide) (by rw [k]; decide))
      · have k' : ¬ kd b N F E i = 43 := by omega
        have q : (nI (kd b N F E i) = 43) = False := eq_false (by rw [k]; decide)
        simp only [eq_false k', eq_true k, i10, i01, eq_self, if_true, if_false, true_and, false_and, and_true, and_false, not_true, not_false_iff, true_or, or_true, false_or, or_false, ne_eq, not_true_eq_false, not_false_eq_true, e26, q]
        exact rest 3 (mop_o (by rw [k]; decide) (by rw [k]; decide) (by rw [k]; decide))
    · rw [if_neg ka]
      have k1 : ¬ kd b N F E i = 43 := fun e => ka (Or.inl e)
      have k2 : ¬ kd b N F E i = 45 := fun e => ka (Or.inr e)
      simp only [eq_false k1, eq_false k2, i10, i01, eq_self, if_true, if_false, true_and, false_and, and_true, and_false, not_true, not_false_iff, true_or, or_true, false_or, or_false, ne_eq, not_true_eq_false, not_false_eq_true]
      refine ⟨σ, 0, rfl, ⟨rfl, ?_⟩, FX_r⟩
      rw [List.append_nil]; exact h
theorem m_sum (d : Nat) {g i : Nat} {C : List Int32} {σ : Sig} (tk : TOK (fun i => sr (b i)) n N F E) (hg : g = 15 ∨ g = 16) (h : MP b n N F E g i C σ) (hl : C.length ≤ i) :
    ∃ σ' v, Ex (d + 5) 186 0 [.ref 112, .null] [] G0 σ = some (some (.int v), G0, σ') ∧ RM b n N F E g C (pS (kd b N F E) (vN b F E) g i) v σ' ∧ FX Ds σ σ' := by
  have hN : N ≤ 400 := Nat.le_trans tk.2.2.2 h.1.1
  obtain ⟨s1, v, e1, r1, f1⟩ := m_prod d tk hg h hl
  have pok := pP_ok (K := kd b N F E) (V := vN b F E) (g := g) kd_e h.2.2.1
  have n0 : ((0 : Int32) = -1) = False := eq_false (by decide)
  rw [b186_0, e1]
  simp only [Option.bind_some, Option.toList_some, Option.toList_none, List.cons_append, List.nil_append, i01a, i01b, if_true, if_false, b186_4]
  unfold pS
  cases hu : pP (kd b N F E) (vN b F E) g i with
  | inl x =>
    rw [hu] at r1
    obtain ⟨x1, x2⟩ := x
    have v0 : v = -1 := r1.1
    simp only [v0, i10, i01, eq_self, if_true, if_false, true_and, false_and, and_true, and_false, not_true, not_false_iff, true_or, or_true, false_or, or_false, ne_eq, not_true_eq_false, not_false_eq_true]
    rw [v0] at r1
    exact ⟨s1, _, rfl, r1, f1⟩
  | inr x =>
    obtain ⟨c, j⟩ := x
    rw [hu] at r1
    obtain ⟨p1, p2⟩ := pok c j hu
    have v0 : v = 0 := r1.1
    obtain ⟨s4, v4, e4, r4, f4⟩ := m_sumL d tk hg 401 j (C ++ c) s1 .null (by omega) r1.2 (by rw [List.length_append]; omega)
    simp only [v0, n0, i10, i01, eq_self, if_true, if_false, true_and, false_and, and_true, and_false, not_true, not_false_iff, true_or, or_true, false_or, or_false, ne_eq, not_true_eq_false, not_false_eq_true, e4]
    exact ⟨s4, v4, rfl, RM_p r4, FX_t f1 f4⟩
theorem m_cmp (d : Nat) {g i : Nat} {C : List Int32} {σ : Sig} (tk : TOK (fun i => sr (b i)) n N F E) (hg : g = 15 ∨ g = 16) (h : MP b n N F E g i C σ) (hl : C.length ≤ i) :
    ∃ σ' v, Ex (d + 6) 187 0 [.ref 112, .null] [] G0 σ = some (some (.int v), G0, σ') ∧ RM b n N F E g C (pC (kd b N F E) (vN b F E) g i) v σ' ∧ FX Ds σ σ' := by
  have hN : N ≤ 400 := Nat.le_trans tk.2.2.2 h.1.1
  obtain ⟨s1, v, e1, r1, f1⟩ := m_sum d tk hg h hl
  have pok := pS_ok (K := kd b N F E) (V := vN b F E) (g := g) kd_e h.2.2.1
  have n0 : ((0 : Int32) = -1) = False := eq_false (by decide)
  rw [b187_0, e1]
  simp only [Option.bind_some, Option.toList_some, Option.toList_none, List.cons_append, List.nil_append, i01a, i01b, if_true, if_false, b187_4]
  unfold pC
  cases hu : pS (kd b N F E) (vN b F E) g i with
  | inl x =>
    rw [hu] at r1
    obtain ⟨x1, x2⟩ := x
    have v0 : v = -1 := r1.1
    simp only [v0, i10, i01, eq_self, if_true, if_false, true_and, false_and, and_true, and_false, not_true, not_false_iff, true_or, or_true, false_or, or_false, ne_eq, not_true_eq_false, not_false_eq_true]
    rw [v0] at r1
    exact ⟨s1, _, rfl, r1, f1⟩
  | inr x =>
    obtain ⟨c, j⟩ := x
    rw [hu] at r1
    obtain ⟨p1, p2⟩ := pok c j hu
    have v0 : v = 0 := r1.1
    have m1 := r1.2
    have s60 : Ex (d + 5) 181 0 [.ref 112, .int 60] [] G0 s1 = _ := m_isSign (d + 5) m1.2.1 (c := 60) (by decide) (by decide)
    have s61 : Ex (d + 5) 181 0 [.ref 112, .int 61] [] G0 s1 = _ := m_isSign (d + 5) m1.2.1 (c := 61) (by decide) (by decide)
    have s62 : Ex (d + 5) 181 0 [.ref 112, .int 62] [] G0 s1 = _ := m_isSign (d + 5) m1.2.1 (c := 62) (by decide) (by decide)
    simp only [v0, n0, i10, i01, eq_self, if_true, if_false, true_and, false_and, and_true, and_false, not_true, not_false_iff, true_or, or_true, false_or, or_false, ne_eq, not_true_eq_false, not_false_eq_true, s60, s61, s62, Option.bind_some, Option.toList_some, Option.toList_none, List.cons_append, List.nil_append, i01a, i01b, if_true, if_false, b187_16, b187_25, b187_34, bI_z, bI_o, bI_em, ite_not]
    show ∃ σ' v, _ ∧ RM b n N F E g C (if kd b N F E j = 60 ∨ kd b N F E j = 61 ∨ kd b N F E j = 62 then bnd (pS (kd b N F E) (vN b F E) g (j + 1)) (fun e k => .inr (c ++ e ++ [-1 - nI (kd b N F E j)], k)) else .inl (1, j)) v σ' ∧ _
    by_cases cs : kd b N F E j = 60 ∨ kd b N F E j = 61 ∨ kd b N F E j = 62
    · have lt := kLt kd_e p2 (show kd b N F E j ≠ 32 by omega)
      have e26 : s1 112 26 = nI (kd b N F E j) := m1.2.1.2.2.2.1 (by omega)
      obtain ⟨s2, e2, m2, f2⟩ := m_next (d + 3) tk m1 lt
      have e2' : Ex (d + 5) 178 0 [.ref 112, .null] [] G0 s1 = _ := e2
      obtain ⟨s3, v3, e3, r3, f3⟩ := m_sum d tk hg m2 (show (C ++ c).length ≤ j + 1 by rw [List.length_append]; omega)
      have pok2 := pS_ok (K := kd b N F E) (V := vN b F E) (g := g) kd_e (show j + 1 ≤ N by omega)
      have F13 : FX Ds σ s3 := FX_t f1 (FX_t (FX_m f2 (fun q k hq => by simp only [Ds]; omega)) f3)
      have rest : ∀ w : Int32, cmK (-1 - nI (kd b N F E j)) w 0 → ∃ σ' v, (Ex (d + 5) 178 0 [.ref 112, .null] [] G0 s1).bind (fun o => Ex (d + 5 + 1) 187 78 [.ref 112, .int w] (o.1.toList ++ []) o.2.1 o.2.2) = some (some (.int v), G0, σ') ∧ RM b n N F E g C (bnd (pS (kd b N F E) (vN b F E) g (j + 1)) (fun e k => .inr (c ++ e ++ [-1 - nI (kd b N F E j)], k))) v σ' ∧ FX Ds σ σ' := by
        intro w hw
        rw [e2']
        simp only [Option.bind_some, Option.toList_some, Option.toList_none, List.cons_append, List.nil_append, i01a, i01b, if_true, if_false, b187_78, e3, b187_82]
        cases hu2 : pS (kd b N F E) (vN b F E) g (j + 1) with
        | inl x =>
          rw [hu2] at r3
          obtain ⟨x1, x2⟩ := x
          have v0 : v3 = -1 := r3.1
          simp only [v0, i10, i01, eq_self, if_true, if_false, true_and, false_and, and_true, and_false, not_true, not_false_iff, true_or, or_true, false_or, or_false, ne_eq, not_true_eq_false, not_false_eq_true]
          rw [v0] at r3
          exact ⟨s3, _, rfl, r3, F13⟩
        | inr x =>
          obtain ⟨e, k⟩ := x
          rw [hu2] at r3
          obtain ⟨p3, p4⟩ := pok2 e k hu2
          have v0 : v3 = 0 := r3.1
          obtain ⟨s4, e4, m4, f4⟩ := MP_e (d + 5) r3.2 (show (C ++ c ++ e).length < 400 by rw [List.length_append, List.length_append]; omega) hw
          have e4' : Ex (d + 5) 182 0 [.ref 112, .int w, .int 0] [] G0 s3 = _ := e4
          simp only [v0, n0, i10, i01, eq_self, if_true, if_false, true_and, false_and, and_true, and_false, not_true, not_false_iff, true_or, or_true, false_or, or_false, ne_eq, not_true_eq_false, not_false_eq_true, e4', Option.bind_some, Option.toList_some, Option.toList_none, List.cons_append, List.nil_append, i01a, i01b, if_true, if_false, b187_94]
          refine ⟨s4, 0, rfl, ⟨rfl, ?_⟩, FX_t F13 (FX_m f4 (fun q k hq => by simp only [Ds]; omega))⟩
          rw [show C ++ (c ++ e ++ [-1 - nI (kd b N F E j)]) = C ++ c ++ e ++ [-1 - nI (kd b N F E j)] by simp]; exact m4
      rw [if_pos cs]
      rcases cs with k | k | k
      · have q : (nI (kd b N F E j) = 60) = True := eq_true (by rw [k]; rfl)
        simp only [eq_true k, i10, i01, eq_self, if_true, if_false, true_and, false_and, and_true, and_false, not_true, not_false_iff, true_or, or_true, false_or, or_false, ne_eq, not_true_eq_false, not_false_eq_true, b187_43, e26, q]
        exact rest 6 (mop_o (by rw [k]; decide) (by rw [k]; decide) (by rw [k]; decide))
      · have k' : ¬ kd b N F E j = 60 := by omega
        have q : (nI (kd b N F E j) = 60) = False := eq_false (by rw [k]; decide)
        have q2 : (nI (kd b N F E j) = 61) = True := eq_true (by rw [k]; rfl)
        simp only [eq_false k', eq_true k, i10, i01, eq_self, if_true, if_false, true_and, false_and, and_true, and_false, not_true, not_false_iff, true_or, or_true, false_or, or_false, ne_eq, not_true_eq_false, not_false_eq_true, b187_43, e26, q, q2]
        exact rest 7 (mop_o (by rw [k]; decide) (by rw [k]; decide) (by rw [k]; decide))
      · have k' : ¬ kd b N F E j = 60 := by omega
        have k'' : ¬ kd b N F E j = 61 := by omega
        have q : (nI (kd b N F E j) = 60) = False := eq_false (by rw [k]; decide)
        have q2 : (nI (kd b N F E j) = 61) = False := eq_false (by rw [k]; decide)
        simp only [eq_false k', eq_false k'', eq_true k, i10, i01, eq_self, if_true, if_false, true_and, false_and, and_true, and_false, not_true, not_false_iff, true_or, or_true, false_or, or_false, ne_eq, not_true_eq_false, not_false_eq_true, b187_43, e26, q, q2]
        exact rest 8 (mop_o (by rw [k]; decide) (by rw [k]; decide) (by rw [k]; decide))
    · rw [if_neg cs]
      have k1 : ¬ kd b N F E j = 60 := fun k => cs (Or.inl k)
      have k2 : ¬ kd b N F E j = 61 := fun k => cs (Or.inr (Or.inl k))
      have k3 : ¬ kd b N F E j = 62 := fun k => cs (Or.inr (Or.inr k))
      obtain ⟨e, r, f⟩ := MP_f (d + 5) 1 m1
      have e' : Ex (d + 5) 179 0 [.ref 112, .int 1] [] G0 s1 = _ := e
      simp only [eq_false k1, eq_false k2, eq_false k3, i10, i01, eq_self, if_true, if_false, true_and, false_and, and_true, and_false, not_true, not_false_iff, true_or, or_true, false_or, or_false, ne_eq, not_true_eq_false, not_false_eq_true, e', Option.bind_some, Option.toList_some, Option.toList_none, List.cons_append, List.nil_append, i01a, i01b, if_true, if_false, b187_42]
      exact ⟨_, _, rfl, r, FX_t f1 (FX_m f (fun q k hq => by simp only [Ds]; omega))⟩
end
