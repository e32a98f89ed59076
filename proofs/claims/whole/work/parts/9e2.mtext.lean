/-! L3: text, the model -/
abbrev DT (q k : Nat) : Prop := Dl q k ∨ (q = 112 ∧ (k = 0 ∨ k = 41 ∨ k = 42 ∨ k = 22 ∨ k = 34))
abbrev DW (w q k : Nat) : Prop := DT q k ∨ (q = 126 ∧ k = w) ∨ ((q = 127 ∨ q = 128 ∨ q = 129) ∧ 16 * w ≤ k ∧ k < 16 * w + 16) ∨ ((q = 130 ∨ q = 131) ∧ 400 * w ≤ k ∧ k < 400 * w + 400)
abbrev DV (q k : Nat) : Prop := DT q k ∨ (q = 133 ∧ k < 160) ∨ (q = 112 ∧ (k = 43 ∨ k = 3)) ∨ (q = 113 ∧ (k = 5 ∨ k = 6))
/-- what text does first -/
theorem mt_0 (σ : Sig) (a : Int32) : ∃ s, pt (pt (pt (pt (pt (pt (pt σ 112 0 0) 112 41 0) 112 42 (-1)) 112 23 0) 112 35 0) 112 36 0) 112 34 a = s ∧ s 112 0 = 0 ∧ s 112 41 = 0 ∧ s 112 42 = -1 ∧ s 112 23 = 0 ∧ s 112 35 = 0 ∧ s 112 36 = 0 ∧ s 112 34 = a ∧ FX (fun q k => q = 112 ∧ (k = 0 ∨ k = 41 ∨ k = 42 ∨ k = 23 ∨ k = 35 ∨ k = 36 ∨ k = 34)) σ s := by
  refine ⟨_, rfl, ?_, ?_, ?_, ?_, ?_, ?_, pt_e, ?_⟩
  · simp only [pt_ap]; simp
  · simp only [pt_ap]; simp
  · simp only [pt_ap]; simp
  · simp only [pt_ap]; simp
  · simp only [pt_ap]; simp
  · simp only [pt_ap]; simp
  · exact FX_p (FX_p (FX_p (FX_p (FX_p (FX_p (FX_p FX_r (by omega)) (by omega)) (by omega)) (by omega)) (by omega)) (by omega)) (by omega)
theorem TPm_0 {b : Nat → Nat} {n : Nat} {σ s : Sig} (h : TPm b n σ) (f : FX (fun q k => q = 112 ∧ (k = 0 ∨ k = 41 ∨ k = 42 ∨ k = 23 ∨ k = 35 ∨ k = 36 ∨ k = 34)) σ s) : TPm b n s := by
  refine ⟨h.1, by rw [f 112 22 (by decide)]; exact h.2.1, fun i hi => ?_, fun i hi => ?_⟩
  · rw [f 124 i (by omega)]; exact h.2.2.1 i hi
  · rw [f 125 i (by omega)]; exact h.2.2.2 i hi
def RTm (n N : Nat) (F : Nat → Nat) (w : Nat) (σ : Sig) (r : Sum (Nat × Nat) LW) (v : Int32) (σ' : Sig) : Prop := σ' 112 22 = 0 ∧ match r with
  | .inl (k, x) => v = -1 ∧ σ' 112 41 = nI k ∧ σ' 112 42 = nI (fN n N F x) ∧ FX DT σ σ'
  | .inr ls => v = nI ls.length ∧ σ' 112 41 = 0 ∧ σ' 112 42 = -1 ∧ modLaw (σ' 127) (σ' 128) (σ' 129) (σ' 130) (σ' 131) (16 * w) (400 * w) ls ∧ σ' 126 w = nI ls.length ∧ FX (DW w) σ σ'
section
variable {b : Nat → Nat} {n N : Nat} {F E : Nat → Nat}
theorem m_text0 (d : Nat) {σ : Sig} (h : TPm b n σ) (tk : TOK (fun i => sr (b i)) n N F E) : ∃ σ' v, Ex (d + 9) 200 0 [.ref 112, .int 0, .null] [] G0 σ = some (some (.int v), G0, σ') ∧ RTm n N F 0 σ (pLw (kd b N F E) (vN b F E) 15 16 0) v σ' := by
  have hN : N ≤ n := tk.2.2.2
  have hn := h.1
  obtain ⟨s0, es, _, k41, k42, k23, k35, k36, k34, f0⟩ := mt_0 σ 0
  have bb : bI ((0 : Int32) ≤ 0 ∧ (0 : Int32) ≤ 2) = 1 := bI_T (by decide)
  have T0 := TPm_0 h f0
  obtain ⟨s1, e1, r1, f1⟩ := m_reads (d + 6) T0 tk (Nat.zero_le N) k23
  have e1' : Ex (d + 8) 178 0 [.ref 112, .null] [] G0 s0 = some (none, G0, s1) := e1
  have m1 : MP b n N F E 15 0 [] s1 := ⟨TPm_d T0 f1, r1, Nat.zero_le _, ⟨by rw [f1 112 35 (by simp) (by decide)]; exact k35, fun k hk => absurd hk (Nat.not_lt_zero k)⟩, by rw [f1 112 34 (by simp) (by decide)]; exact k34⟩
  obtain ⟨s2, v, e2, r2, f2⟩ := m_readLaw d tk (by decide) m1 (by rw [f1 112 36 (by simp) (by decide)]; exact k36)
  have n2 : ((0 : Int32) = 2) = False := eq_false (by decide)
  have F2 : FX DT σ s2 := FX_t (FX_m f0 (fun q k hq => by simp only [DT, Dl, Da, Ds]; omega)) (FX_t (FX_f f1 (by simp) (by decide)) (FX_m f2 (fun q k hq => Or.inl hq)))
  rw [b200_0, es]
  simp only [m_isIn, bb, Option.bind_some, Option.toList_some, Option.toList_none, List.cons_append, List.nil_append, i01a, i01b, if_true, if_false, b200_44, i10, i01, eq_self, if_true, if_false, true_and, false_and, and_true, and_false, not_true, not_false_iff, true_or, or_true, false_or, or_false, ne_eq, not_true_eq_false, not_false_eq_true, e1', b200_51, n2, e2, b200_67]
  cases hw : pLw (kd b N F E) (vN b F E) 15 16 0 with
  | inl y =>
    rw [hw] at r2
    obtain ⟨y1, y2⟩ := y
    have p40 : pt s2 112 41 (s2 112 39) 112 40 = s2 112 40 := pt_k (by decide)
    simp only [r2.1, i10, i01, eq_self, if_true, if_false, true_and, false_and, and_true, and_false, not_true, not_false_iff, true_or, or_true, false_or, or_false, ne_eq, not_true_eq_false, not_false_eq_true, b200_89, p40]
    refine ⟨_, _, rfl, pt_e, rfl, ?_, ?_, FX_p (FX_p (FX_p F2 (Or.inr ⟨rfl, by decide⟩)) (Or.inr ⟨rfl, by decide⟩)) (Or.inr ⟨rfl, by decide⟩)⟩
    · rw [pt_k (by decide), pt_k (by decide), pt_e]; exact r2.2.1
    · rw [pt_k (by decide), pt_e]; exact r2.2.2
  | inr ls =>
    rw [hw] at r2
    obtain ⟨v1, c1, c2⟩ := r2
    obtain ⟨w1, w2, w3, w4, w5⟩ := pLw_k kd_e (fun t ht => (kd_30 tk ht).2.2.2) (by decide) 16 0 ls (Nat.zero_le _) hw
    have v1' : v = nI ls.length := v1
    have nv1 : (nI ls.length = -1) = False := nI_ne (by omega)
    have c1' : CM (tot ls) (pt s2 112 22 0) := CM_k c1 (pt_k (by decide)) (pt_q (by decide)) (pt_q (by decide))
    have c2' : ML ls (pt s2 112 22 0) := fun k hk => by rw [pt_q (by decide), pt_q (by decide), pt_q (by decide)]; exact c2 k hk
    have q34 : pt s2 112 22 0 112 34 = nI 0 := by rw [pt_k (by decide), f2 112 34 (by decide), f1 112 34 (by simp) (by decide)]; exact k34
    obtain ⟨s3, e3, M3, n3, f3⟩ := m_takesLaw (d + 8) (w := 0) (by decide) q34 c1' c2' w1 (by omega)
    have e3' : Ex (d + 8) 193 0 [.ref 112, .int (nI ls.length), .null] [] G0 (pt s2 112 22 0) = some (none, G0, s3) := e3
    simp only [v1', nv1, i10, i01, eq_self, if_true, if_false, true_and, false_and, and_true, and_false, not_true, not_false_iff, true_or, or_true, false_or, or_false, ne_eq, not_true_eq_false, not_false_eq_true, b200_89, n2, e3', Option.bind_some, Option.toList_some, Option.toList_none, List.cons_append, List.nil_append, i01a, i01b, if_true, if_false, b200_119]
    have z : ∀ k, s3 112 k = pt s2 112 22 0 112 k := fun k => f3 112 k (by omega)
    refine ⟨s3, _, rfl, by rw [z, pt_e], rfl, ?_, ?_, M3, n3, FX_t (FX_m (FX_p F2 (Or.inr ⟨rfl, by decide⟩)) (fun q k hq => Or.inl hq)) (FX_m f3 (fun q k hq => Or.inr hq))⟩
    · rw [z, pt_k (by decide), f2 112 41 (by decide), f1 112 41 (by simp) (by decide)]; exact k41
    · rw [z, pt_k (by decide), f2 112 42 (by decide), f1 112 42 (by simp) (by decide)]; exact k42
theorem m_text1 (d : Nat) {σ : Sig} (h : TPm b n σ) (tk : TOK (fun i => sr (b i)) n N F E) : ∃ σ' v, Ex (d + 9) 200 0 [.ref 112, .int 1, .null] [] G0 σ = some (some (.int v), G0, σ') ∧ RTm n N F 1 σ (pLw (kd b N F E) (vN b F E) 16 16 0) v σ' := by
  have hN : N ≤ n := tk.2.2.2
  have hn := h.1
  obtain ⟨s0, es, _, k41, k42, k23, k35, k36, k34, f0⟩ := mt_0 σ 1
  have bb : bI ((0 : Int32) ≤ 1 ∧ (1 : Int32) ≤ 2) = 1 := bI_T (by decide)
  have T0 := TPm_0 h f0
  obtain ⟨s1, e1, r1, f1⟩ := m_reads (d + 6) T0 tk (Nat.zero_le N) k23
  have e1' : Ex (d + 8) 178 0 [.ref 112, .null] [] G0 s0 = some (none, G0, s1) := e1
  have m1 : MP b n N F E 16 0 [] s1 := ⟨TPm_d T0 f1, r1, Nat.zero_le _, ⟨by rw [f1 112 35 (by simp) (by decide)]; exact k35, fun k hk => absurd hk (Nat.not_lt_zero k)⟩, by rw [f1 112 34 (by simp) (by decide)]; exact k34⟩
  obtain ⟨s2, v, e2, r2, f2⟩ := m_readLaw d tk (by decide) m1 (by rw [f1 112 36 (by simp) (by decide)]; exact k36)
  have n2 : ((1 : Int32) = 2) = False := eq_false (by decide)
  have F2 : FX DT σ s2 := FX_t (FX_m f0 (fun q k hq => by simp only [DT, Dl, Da, Ds]; omega)) (FX_t (FX_f f1 (by simp) (by decide)) (FX_m f2 (fun q k hq => Or.inl hq)))
  rw [b200_0, es]
  simp only [m_isIn, bb, Option.bind_some, Option.toList_some, Option.toList_none, List.cons_append, List.nil_append, i01a, i01b, if_true, if_false, b200_44, i10, i01, eq_self, if_true, if_false, true_and, false_and, and_true, and_false, not_true, not_false_iff, true_or, or_true, false_or, or_false, ne_eq, not_true_eq_false, not_false_eq_true, e1', b200_51, n2, e2, b200_67]
  cases hw : pLw (kd b N F E) (vN b F E) 16 16 0 with
  | inl y =>
    rw [hw] at r2
    obtain ⟨y1, y2⟩ := y
    have p40 : pt s2 112 41 (s2 112 39) 112 40 = s2 112 40 := pt_k (by decide)
    simp only [r2.1, i10, i01, eq_self, if_true, if_false, true_and, false_and, and_true, and_false, not_true, not_false_iff, true_or, or_true, false_or, or_false, ne_eq, not_true_eq_false, not_false_eq_true, b200_89, p40]
    refine ⟨_, _, rfl, pt_e, rfl, ?_, ?_, FX_p (FX_p (FX_p F2 (Or.inr ⟨rfl, by decide⟩)) (Or.inr ⟨rfl, by decide⟩)) (Or.inr ⟨rfl, by decide⟩)⟩
    · rw [pt_k (by decide), pt_k (by decide), pt_e]; exact r2.2.1
    · rw [pt_k (by decide), pt_e]; exact r2.2.2
  | inr ls =>
    rw [hw] at r2
    obtain ⟨v1, c1, c2⟩ := r2
    obtain ⟨w1, w2, w3, w4, w5⟩ := pLw_k kd_e (fun t ht => (kd_30 tk ht).2.2.2) (by decide) 16 0 ls (Nat.zero_le _) hw
    have v1' : v = nI ls.length := v1
    have nv1 : (nI ls.length = -1) = False := nI_ne (by omega)
    have c1' : CM (tot ls) (pt s2 112 22 0) := CM_k c1 (pt_k (by decide)) (pt_q (by decide)) (pt_q (by decide))
    have c2' : ML ls (pt s2 112 22 0) := fun k hk => by rw [pt_q (by decide), pt_q (by decide), pt_q (by decide)]; exact c2 k hk
    have q34 : pt s2 112 22 0 112 34 = nI 1 := by rw [pt_k (by decide), f2 112 34 (by decide), f1 112 34 (by simp) (by decide)]; exact k34
    obtain ⟨s3, e3, M3, n3, f3⟩ := m_takesLaw (d + 8) (w := 1) (by decide) q34 c1' c2' w1 (by omega)
    have e3' : Ex (d + 8) 193 0 [.ref 112, .int (nI ls.length), .null] [] G0 (pt s2 112 22 0) = some (none, G0, s3) := e3
    simp only [v1', nv1, i10, i01, eq_self, if_true, if_false, true_and, false_and, and_true, and_false, not_true, not_false_iff, true_or, or_true, false_or, or_false, ne_eq, not_true_eq_false, not_false_eq_true, b200_89, n2, e3', Option.bind_some, Option.toList_some, Option.toList_none, List.cons_append, List.nil_append, i01a, i01b, if_true, if_false, b200_119]
    have z : ∀ k, s3 112 k = pt s2 112 22 0 112 k := fun k => f3 112 k (by omega)
    refine ⟨s3, _, rfl, by rw [z, pt_e], rfl, ?_, ?_, M3, n3, FX_t (FX_m (FX_p F2 (Or.inr ⟨rfl, by decide⟩)) (fun q k hq => Or.inl hq)) (FX_m f3 (fun q k hq => Or.inr hq))⟩
    · rw [z, pt_k (by decide), f2 112 41 (by decide), f1 112 41 (by simp) (by decide)]; exact k41
    · rw [z, pt_k (by decide), f2 112 42 (by decide), f1 112 42 (by simp) (by decide)]; exact k42
def RTn (n N : Nat) (F : Nat → Nat) (σ : Sig) (r : Sum (Nat × Nat) (List WLn)) (v : Int32) (σ' : Sig) : Prop := σ' 112 22 = 0 ∧ match r with
  | .inl (k, x) => v = -1 ∧ σ' 112 41 = nI k ∧ σ' 112 42 = nI (fN n N F x) ∧ FX DT σ σ'
  | .inr ls => v = nI ls.length ∧ σ' 112 41 = 0 ∧ σ' 112 42 = -1 ∧ YA 0 ls σ' ∧ σ' 112 43 = nI ls.length ∧ σ' 113 5 = 0 ∧ σ' 113 6 = 0 ∧ σ' 112 3 = 0 ∧ FX DV σ σ'
theorem m_text2 (d : Nat) {σ : Sig} {P Bn : Nat} (h : TPm b n σ) (hP : 2 * (σ 112 7 + 3) = nI P) (hB : σ 112 12 = nI Bn) (hP8 : 1 ≤ P ∧ P ≤ 8) (hB8 : Bn ≤ 8) (tk : TOK (fun i => sr (b i)) n N F E) : ∃ σ' v, Ex (d + 9) 200 0 [.ref 112, .int 2, .null] [] G0 σ = some (some (.int v), G0, σ') ∧ RTn n N F σ (pWy (kd b N F E) (vN b F E) P Bn 40 0) v σ' := by
  have hN : N ≤ n := tk.2.2.2
  have hn := h.1
  obtain ⟨s0, es, _, k41, k42, k23, k35, k36, k34, f0⟩ := mt_0 σ 2
  have bb : bI ((0 : Int32) ≤ 2 ∧ (2 : Int32) ≤ 2) = 1 := bI_T (by decide)
  have T0 := TPm_0 h f0
  obtain ⟨s1, e1, r1, f1⟩ := m_reads (d + 6) T0 tk (Nat.zero_le N) k23
  have e1' : Ex (d + 8) 178 0 [.ref 112, .null] [] G0 s0 = some (none, G0, s1) := e1
  have m1 : MY b n N F E 0 s1 := ⟨TPm_d T0 f1, r1, Nat.zero_le _⟩
  obtain ⟨s2, v, e2, r2, f2⟩ := m_readWay (d + 2) (P := P) (Bn := Bn) tk m1 (by rw [f1 112 7 (by simp) (by decide), f0 112 7 (by decide)]; exact hP) (by rw [f1 112 12 (by simp) (by decide), f0 112 12 (by decide)]; exact hB)
  have e2' : Ex (d + 8) 198 0 [.ref 112, .null] [] G0 s1 = some (some (.int v), G0, s2) := e2
  have F2 : FX DT σ s2 := FX_t (FX_m f0 (fun q k hq => by simp only [DT, Dl, Da, Ds]; omega)) (FX_t (FX_f f1 (by simp) (by decide)) (FX_m f2 (fun q k hq => Or.inl hq)))
  rw [b200_0, es]
  simp only [m_isIn, bb, Option.bind_some, Option.toList_some, Option.toList_none, List.cons_append, List.nil_append, i01a, i01b, if_true, if_false, b200_44, i10, i01, eq_self, if_true, if_false, true_and, false_and, and_true, and_false, not_true, not_false_iff, true_or, or_true, false_or, or_false, ne_eq, not_true_eq_false, not_false_eq_true, e1', b200_51, e2', b200_60, b200_67]
  cases hw : pWy (kd b N F E) (vN b F E) P Bn 40 0 with
  | inl y =>
    rw [hw] at r2
    obtain ⟨y1, y2⟩ := y
    have p40 : pt s2 112 41 (s2 112 39) 112 40 = s2 112 40 := pt_k (by decide)
    simp only [r2.1, i10, i01, eq_self, if_true, if_false, true_and, false_and, and_true, and_false, not_true, not_false_iff, true_or, or_true, false_or, or_false, ne_eq, not_true_eq_false, not_false_eq_true, b200_89, p40]
    refine ⟨_, _, rfl, pt_e, rfl, ?_, ?_, FX_p (FX_p (FX_p F2 (Or.inr ⟨rfl, by decide⟩)) (Or.inr ⟨rfl, by decide⟩)) (Or.inr ⟨rfl, by decide⟩)⟩
    · rw [pt_k (by decide), pt_k (by decide), pt_e]; exact r2.2.1
    · rw [pt_k (by decide), pt_e]; exact r2.2.2
  | inr ls =>
    rw [hw] at r2
    obtain ⟨v1, c1⟩ := r2
    have hl := (pWy_ok kd_e (fun t ht => (kd_30 tk ht).2.2.2) hP8 hB8 40 0 ls (Nat.zero_le _) hw).1
    have v1' : v = nI ls.length := v1
    have nv1 : (nI ls.length = -1) = False := nI_ne (by omega)
    have c1' : YA 160 ls (pt s2 112 22 0) := fun l hl => YL_k (c1 l hl) (fun k _ _ => by rw [pt_q (by decide)])
    obtain ⟨s3, e3, M3, n1, n2, n3, n4, f3⟩ := m_takesWay (d + 8) c1' hl
    have e3' : Ex (d + 8) 199 0 [.ref 112, .int (nI ls.length), .null] [] G0 (pt s2 112 22 0) = some (none, G0, s3) := e3
    simp only [v1', nv1, i10, i01, eq_self, if_true, if_false, true_and, false_and, and_true, and_false, not_true, not_false_iff, true_or, or_true, false_or, or_false, ne_eq, not_true_eq_false, not_false_eq_true, b200_89, e3', Option.bind_some, Option.toList_some, Option.toList_none, List.cons_append, List.nil_append, i01a, i01b, if_true, if_false, b200_111, b200_119]
    have z : ∀ k, k ≠ 43 → k ≠ 3 → s3 112 k = pt s2 112 22 0 112 k := fun k _ _ => f3 112 k (by omega)
    refine ⟨s3, _, rfl, by rw [z 22 (by decide) (by decide), pt_e], rfl, ?_, ?_, M3, n1, n2, n3, n4, FX_t (FX_m (FX_p F2 (Or.inr ⟨rfl, by decide⟩)) (fun q k hq => Or.inl hq)) (FX_m f3 (fun q k hq => Or.inr hq))⟩
    · rw [z 41 (by decide) (by decide), pt_k (by decide), f2 112 41 (by decide), f1 112 41 (by simp) (by decide)]; exact k41
    · rw [z 42 (by decide) (by decide), pt_k (by decide), f2 112 42 (by decide), f1 112 42 (by simp) (by decide)]; exact k42
end
theorem m_text_ (d : Nat) {σ : Sig} {k : Int32} (h0 : ¬ k = 0) (h1 : ¬ k = 1) (h2 : ¬ k = 2) : ∃ σ', Ex (d + 9) 200 0 [.ref 112, .int k, .null] [] G0 σ = some (some (.int (-1)), G0, σ') ∧ σ' 112 22 = 0 ∧ σ' 112 41 = 0 ∧ σ' 112 42 = -1 ∧ FX DT σ σ' := by
  have nk : ¬ ((0 : Int32) ≤ k ∧ k ≤ 2) := by
    rintro ⟨a, b⟩
    rw [Int32.le_iff_toInt_le] at a b
    have z0 : (0 : Int32).toInt = 0 := rfl
    have z2 : (2 : Int32).toInt = 2 := rfl
    have : k.toInt = 0 ∨ k.toInt = 1 ∨ k.toInt = 2 := by omega
    rcases this with e | e | e
    · exact h0 (Int32.toInt_inj.mp e)
    · exact h1 (Int32.toInt_inj.mp e)
    · exact h2 (Int32.toInt_inj.mp e)
  obtain ⟨s0, es, _, k41, k42, k23, k35, k36, k34, f0⟩ := mt_0 σ k
  rw [b200_0, es]
  simp only [m_isIn, bI_F nk, Option.bind_some, Option.toList_some, Option.toList_none, List.cons_append, List.nil_append, i01a, i01b, if_true, if_false, b200_44, i10, i01, eq_self, if_true, if_false, true_and, false_and, and_true, and_false, not_true, not_false_iff, true_or, or_true, false_or, or_false, ne_eq, not_true_eq_false, not_false_eq_true, b200_89]
  exact ⟨_, rfl, pt_e, by rw [pt_k (by decide)]; exact k41, by rw [pt_k (by decide)]; exact k42, FX_p (FX_m f0 (fun q k hq => by simp only [DT, Dl, Da, Ds]; omega)) (Or.inr ⟨rfl, by decide⟩)⟩
