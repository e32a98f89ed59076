/-! L3: image, the model: slot by slot -/
def oS (p : Nat) : Nat × Nat :=
  if p < 31 then (113, p) else if p < 38 then (112, p - 25) else if p < 94 then (116 + (p - 38) % 7, (p - 38) / 7) else if p < 95 then (112, 43) else if p < 255 then (133, p - 95) else if p < 855 then (123, p - 255)
  else if p < 856 then (126, 0) else if p < 904 then (127 + (p - 856) % 3, (p - 856) / 3) else if p < 1704 then (130 + (p - 904) % 2, (p - 904) / 2)
  else if p < 1705 then (126, 1) else if p < 1753 then (127 + (p - 1705) % 3, 16 + (p - 1705) / 3) else (130 + (p - 1753) % 2, 400 + (p - 1753) / 2)
/-- where a slot is kept -/
def psS2 (q k : Nat) : Nat :=
  if q = 113 then k else if q = 112 then (if k = 43 then 94 else k + 25) else if q < 123 then 38 + 7 * k + (q - 116) else if q = 133 then 95 + k else if q = 123 then 255 + k
  else if q = 126 then (if k = 0 then 855 else 1704) else if q < 130 then (if k < 16 then 856 + 3 * k + (q - 127) else 1705 + 3 * (k - 16) + (q - 127)) else if k < 400 then 904 + 2 * k + (q - 130) else 1753 + 2 * (k - 400) + (q - 130)
theorem oS_p : ∀ p, p < 2553 → psS2 (oS p).1 (oS p).2 = p := by decide +kernel
theorem oS_i {p q : Nat} (hp : p < 2553) (hq : q < 2553) (e : oS p = oS q) : p = q := by
  rw [← oS_p p hp, ← oS_p q hq, e]
theorem oS_r : ∀ p, p < 2553 → (oS p).1 ≠ 142 ∧ ((oS p).1 = 112 → (oS p).2 ≠ 59 ∧ (oS p).2 ≠ 57 ∧ (oS p).2 ≠ 58 ∧ (oS p).2 ≠ 0 ∧ (oS p).2 ≠ 3) := by decide +kernel
theorem oS_7 : ∀ i, i < 8 → ∀ j, j < 7 → oS (38 + 7 * i + j) = (116 + j, i) := by decide +kernel
theorem oS_w : ∀ i, i < 160 → oS (95 + i) = (133, i) := by decide +kernel
theorem oS_b : ∀ i, i < 600 → oS (255 + i) = (123, i) := by decide +kernel
theorem oS_l0 : ∀ i, i < 16 → ∀ j, j < 3 → oS (856 + 3 * i + j) = (127 + j, i) := by decide +kernel
theorem oS_c0 : ∀ i, i < 400 → ∀ j, j < 2 → oS (904 + 2 * i + j) = (130 + j, i) := by decide +kernel
theorem oS_l1 : ∀ i, i < 16 → ∀ j, j < 3 → oS (1705 + 3 * i + j) = (127 + j, 16 + i) := by decide +kernel
theorem oS_c1 : ∀ i, i < 400 → ∀ j, j < 2 → oS (1753 + 2 * i + j) = (130 + j, 400 + i) := by decide +kernel
theorem pt_s {σ : Sig} {q k : Nat} {v : Int32} (h : σ q k = v) : pt σ q k v = σ := by
  funext a b; rw [pt_ap]; split
  · rename_i e; rw [e.1, e.2]; exact h.symm
  · rfl
/-- the first p slots are taken (m) or given -/
def IR (m : Bool) (p : Nat) (σ s : Sig) : Prop := s 112 59 = nI p ∧ (m = true → s 112 57 = 1 ∧ FX (fun q k => q = 142 ∨ (q = 112 ∧ k = 59)) σ s ∧ ∀ i, i < p → s 142 i = σ (oS i).1 (oS i).2)
  ∧ (m = false → s 112 57 = 0 ∧ (∀ i, i < p → s (oS i).1 (oS i).2 = σ 142 i) ∧ ∀ q k, (∀ i, i < p → oS i ≠ (q, k)) → ¬ (q = 112 ∧ k = 59) → s q k = σ q k)
theorem m_kept (d : Nat) {m : Bool} {p q k : Nat} {σ s : Sig} (h : IR m p σ s) (hp : p < 2553) (e : oS p = (q, k)) : ∃ s' v, Ex d 265 0 [.ref 112, .int (s q k)] [] G0 s = some (some (.int v), G0, s') ∧ IR m (p + 1) σ (pt s' q k v) := by
  obtain ⟨h59, hT, hG⟩ := h
  have r := oS_r p hp
  rw [e] at r
  have r1 : q ≠ 142 := r.1
  have r2 : q = 112 → k ≠ 59 ∧ k ≠ 57 ∧ k ≠ 58 ∧ k ≠ 0 ∧ k ≠ 3 := r.2
  have a57 : pt s 112 59 (nI (p + 1)) 112 57 = s 112 57 := pt_k (by decide)
  have a59 : pt s 112 59 (nI (p + 1)) 112 59 - 1 = nI p := by rw [pt_e]; exact nI_p1 (n := p + 1) (by omega)
  have a142 : pt s 112 59 (nI (p + 1)) 142 p = s 142 p := by rw [pt_q (by decide)]
  rw [b265_0, h59]
  simp only [nI_s, a57, a59, inb_n (show p < 2600 by omega) (show p < 2 ^ 31 by omega), nI_c (show p < 2 ^ 31 by omega), i10, i01, eq_self, if_true, if_false, true_and, false_and, and_true, and_false, not_true, not_false_iff, true_or, or_true, false_or, or_false, ne_eq, not_true_eq_false, not_false_eq_true, a142]
  cases m with
  | true =>
    obtain ⟨t1, t2, t3⟩ := hT rfl
    simp only [t1, i10, i01, eq_self, if_true, if_false, true_and, false_and, and_true, and_false, not_true, not_false_iff, true_or, or_true, false_or, or_false, ne_eq, not_true_eq_false, not_false_eq_true]
    have hqk : pt (pt s 112 59 (nI (p + 1))) 142 p (s q k) q k = s q k := by
      rw [pt_q r1, pt_ap, if_neg (fun x => (r2 x.1).1 x.2)]
    refine ⟨_, _, rfl, ?_⟩
    rw [pt_s hqk]
    refine ⟨by rw [pt_q (by decide), pt_e], fun _ => ⟨by rw [pt_q (by decide), a57]; exact t1, FX_p (FX_p t2 (Or.inr ⟨rfl, rfl⟩)) (Or.inl rfl), fun i hi => ?_⟩, fun x => by cases x⟩
    by_cases c : i = p
    · subst c
      rw [pt_e, e]; exact t2 q k (fun x => x.elim r1 (fun y => (r2 y.1).1 y.2))
    · rw [pt_k c, pt_q (by decide)]; exact t3 i (by omega)
  | false =>
    obtain ⟨t1, t2, t3⟩ := hG rfl
    simp only [t1, i10, i01, eq_self, if_true, if_false, true_and, false_and, and_true, and_false, not_true, not_false_iff, true_or, or_true, false_or, or_false, ne_eq, not_true_eq_false, not_false_eq_true]
    have v142 : s 142 p = σ 142 p := t3 142 p (fun i hi x => (oS_r i (by omega)).1 (by rw [x])) (fun x => by have := x.1; omega)
    refine ⟨_, _, rfl, ?_, fun x => (by cases x), fun _ => ⟨?_, fun i hi => ?_, fun a b hx hy => ?_⟩⟩
    · rw [pt_ap, if_neg (fun x => (r2 x.1.symm).1 x.2.symm), pt_e]
    · rw [pt_ap, if_neg (fun x => (r2 x.1.symm).2.1 x.2.symm), a57]; exact t1
    · by_cases c : i = p
      · subst c; rw [e, pt_e]; exact v142
      · have ne : ¬ ((oS i).1 = q ∧ (oS i).2 = k) := fun x => c (oS_i (by omega) hp (by rw [e]; exact Prod.ext x.1 x.2))
        have ri := oS_r i (by omega)
        rw [pt_ap, if_neg ne, pt_ap, if_neg (fun x => (ri.2 x.1).1 x.2)]
        exact t2 i (by omega)
    · have n1 : ¬ (a = q ∧ b = k) := fun x => hx p (by omega) (by rw [e, x.1, x.2])
      rw [pt_ap, if_neg n1, pt_ap, if_neg hy]
      exact t3 a b (fun i hi => hx i (by omega)) hy
theorem m_keepsLoad (d : Nat) {m : Bool} {σ s : Sig} (h : IR m 31 σ s) : ∃ s', Ex (d + 1) 267 0 [.ref 112, .null] [] G0 s = some (none, G0, s') ∧ IR m 255 σ s' := by
  obtain ⟨s1, v1, e1, i1⟩ := m_kept d h (by omega) (q := 112) (k := 6) rfl
  obtain ⟨s2, v2, e2, i2⟩ := m_kept d i1 (by omega) (q := 112) (k := 7) rfl
  obtain ⟨s3, v3, e3, i3⟩ := m_kept d i2 (by omega) (q := 112) (k := 8) rfl
  obtain ⟨s4, v4, e4, i4⟩ := m_kept d i3 (by omega) (q := 112) (k := 9) rfl
  obtain ⟨s5, v5, e5, i5⟩ := m_kept d i4 (by omega) (q := 112) (k := 10) rfl
  obtain ⟨s6, v6, e6, i6⟩ := m_kept d i5 (by omega) (q := 112) (k := 11) rfl
  obtain ⟨s7, v7, e7, i7⟩ := m_kept d i6 (by omega) (q := 112) (k := 12) rfl
  rw [b267_0, e1]
  simp only [Option.bind_some, Option.toList_some, Option.toList_none, List.cons_append, List.nil_append, i01a, i01b, if_true, if_false, b267_9, e2, b267_21, e3, b267_33, e4, b267_45, e5, b267_57, e6, b267_69, e7, b267_81]
  generalize pt s7 112 12 v7 = t at i7
  obtain ⟨u, eu, iu⟩ := loop_ex (fun i (x : Sig) => Ex (d + 1) 267 86 [.ref 112, .int (nI i)] [] G0 x) (fun i x => IR m (38 + 7 * i) σ x) 8 t i7 (by
    intro i x hi hx
    show ∃ a', Ex (d + 1) 267 86 [.ref 112, .int (nI i)] [] G0 x = _ ∧ _
    have q : ((8 : Int32) ≤ nI i) = False := by
      have : ((8 : Int32) ≤ nI i) = (8 ≤ i) := nJ_le (a := 8) (by omega) (by omega)
      rw [this]; exact eq_false (by omega)
    have b8 : inb (nI i) 8 = true := inb_n hi (by omega)
    have c8 : (nI i).toNatClampNeg = i := nI_c (by omega)
    obtain ⟨s1, v1, e1, i1⟩ := m_kept d hx (by omega) (q := 116) (k := i) (oS_7 i hi 0 (by decide))
    obtain ⟨s2, v2, e2, i2⟩ := m_kept d i1 (by omega) (q := 117) (k := i) (oS_7 i hi 1 (by decide))
    obtain ⟨s3, v3, e3, i3⟩ := m_kept d i2 (by omega) (q := 118) (k := i) (oS_7 i hi 2 (by decide))
    obtain ⟨s4, v4, e4, i4⟩ := m_kept d i3 (by omega) (q := 119) (k := i) (oS_7 i hi 3 (by decide))
    obtain ⟨s5, v5, e5, i5⟩ := m_kept d i4 (by omega) (q := 120) (k := i) (oS_7 i hi 4 (by decide))
    obtain ⟨s6, v6, e6, i6⟩ := m_kept d i5 (by omega) (q := 121) (k := i) (oS_7 i hi 5 (by decide))
    obtain ⟨s7, v7, e7, i7⟩ := m_kept d i6 (by omega) (q := 122) (k := i) (oS_7 i hi 6 (by decide))
    rw [b267_86]
    simp only [q, b8, c8, i10, i01, eq_self, if_true, if_false, true_and, false_and, and_true, and_false, not_true, not_false_iff, true_or, or_true, false_or, or_false, ne_eq, not_true_eq_false, not_false_eq_true, e1, Option.bind_some, Option.toList_some, Option.toList_none, List.cons_append, List.nil_append, i01a, i01b, if_true, if_false, b267_107, e2, b267_123, e3, b267_139, e4, b267_155, e5, b267_171, e6, b267_187, e7, b267_203, nI_s]
    exact ⟨_, rfl, i7⟩)
  rw [show Ex (d + 1) 267 86 [.ref 112, .int 0] [] G0 t = _ from eu]
  show ∃ s', Ex (d + 1) 267 86 [.ref 112, .int (nI 8)] [] G0 u = _ ∧ _
  have q8 : ((8 : Int32) ≤ nI 8) = True := eq_true (by decide)
  obtain ⟨s8, v8, e8, i8⟩ := m_kept d iu (by omega) (q := 112) (k := 43) rfl
  rw [b267_86]
  simp only [q8, i10, i01, eq_self, if_true, if_false, true_and, false_and, and_true, and_false, not_true, not_false_iff, true_or, or_true, false_or, or_false, ne_eq, not_true_eq_false, not_false_eq_true, e8, Option.bind_some, Option.toList_some, Option.toList_none, List.cons_append, List.nil_append, i01a, i01b, if_true, if_false, b267_219]
  generalize pt s8 112 43 v8 = t2 at i8
  obtain ⟨u2, eu2, iu2⟩ := loop_ex (fun i (x : Sig) => Ex (d + 1) 267 224 [.ref 112, .int (nI i)] [] G0 x) (fun i x => IR m (95 + i) σ x) 160 t2 i8 (by
    intro i x hi hx
    show ∃ a', Ex (d + 1) 267 224 [.ref 112, .int (nI i)] [] G0 x = _ ∧ _
    have q : ((160 : Int32) ≤ nI i) = False := by
      have : ((160 : Int32) ≤ nI i) = (160 ≤ i) := nJ_le (a := 160) (by omega) (by omega)
      rw [this]; exact eq_false (by omega)
    have b8 : inb (nI i) 320 = true := inb_n (by omega) (by omega)
    have c8 : (nI i).toNatClampNeg = i := nI_c (by omega)
    obtain ⟨s1, v1, e1, i1⟩ := m_kept d hx (by omega) (q := 133) (k := i) (oS_w i hi)
    rw [b267_224]
    simp only [q, b8, c8, i10, i01, eq_self, if_true, if_false, true_and, false_and, and_true, and_false, not_true, not_false_iff, true_or, or_true, false_or, or_false, ne_eq, not_true_eq_false, not_false_eq_true, e1, Option.bind_some, Option.toList_some, Option.toList_none, List.cons_append, List.nil_append, i01a, i01b, if_true, if_false, b267_246, nI_s]
    exact ⟨_, rfl, i1⟩)
  rw [show Ex (d + 1) 267 224 [.ref 112, .int 0] [] G0 t2 = _ from eu2]
  show ∃ s', Ex (d + 1) 267 224 [.ref 112, .int (nI 160)] [] G0 u2 = _ ∧ _
  have q16 : ((160 : Int32) ≤ nI 160) = True := eq_true (by decide)
  rw [b267_224]
  simp only [q16, i10, i01, eq_self, if_true, if_false, true_and, false_and, and_true, and_false, not_true, not_false_iff, true_or, or_true, false_or, or_false, ne_eq, not_true_eq_false, not_false_eq_true]
  exact ⟨u2, rfl, iu2⟩
theorem m_keepsLaw0 (d : Nat) {m : Bool} {σ s : Sig} (h : IR m 855 σ s) : ∃ s', Ex (d + 1) 266 0 [.ref 112, .int 0, .null] [] G0 s = some (none, G0, s') ∧ IR m 1704 σ s' := by
  have b2 : inb (0 : Int32) 2 = true := by decide
  have c2 : (0 : Int32).toNatClampNeg = 0 := by decide
  have m16 : (16 : Int32) * 0 = nI (0 + 0) := by decide
  have m32 : (16 : Int32) * 0 + 16 = nI (0 + 16) := by decide
  have m40 : (400 : Int32) * 0 = nI (0 + 0) := by decide
  have m80 : (400 : Int32) * 0 + 400 = nI (0 + 400) := by decide
  obtain ⟨s1, v1, e1, i1⟩ := m_kept d h (by omega) (q := 126) (k := 0) rfl
  rw [b266_0]
  simp only [b2, c2, i10, i01, eq_self, if_true, if_false, true_and, false_and, and_true, and_false, not_true, not_false_iff, true_or, or_true, false_or, or_false, ne_eq, not_true_eq_false, not_false_eq_true, e1, Option.bind_some, Option.toList_some, Option.toList_none, List.cons_append, List.nil_append, i01a, i01b, if_true, if_false, b266_15, m16]
  generalize pt s1 126 0 v1 = t at i1
  obtain ⟨u, eu, iu⟩ := loop_ex (fun i (x : Sig) => Ex (d + 1) 266 21 [.ref 112, .int 0, .int (nI (0 + i))] [] G0 x) (fun i x => IR m (856 + 3 * i) σ x) 16 t i1 (by
    intro i x hi hx
    show ∃ a', Ex (d + 1) 266 21 [.ref 112, .int 0, .int (nI (0 + i))] [] G0 x = _ ∧ _
    have q : (nI (0 + 16) ≤ nI (0 + i)) = False := by rw [nJ_le (by omega) (by omega)]; exact eq_false (by omega)
    have b8 : inb (nI (0 + i)) 48 = true := inb_n (by omega) (by omega)
    have c8 : (nI (0 + i)).toNatClampNeg = 0 + i := nI_c (by omega)
    obtain ⟨s1, v1, e1, i1⟩ := m_kept d hx (by omega) (q := 127) (k := 0 + i) ((oS_l0 i hi 0 (by decide)).trans (by congr 1; try omega))
    obtain ⟨s2, v2, e2, i2⟩ := m_kept d i1 (by omega) (q := 128) (k := 0 + i) ((oS_l0 i hi 1 (by decide)).trans (by congr 1; try omega))
    obtain ⟨s3, v3, e3, i3⟩ := m_kept d i2 (by omega) (q := 129) (k := 0 + i) ((oS_l0 i hi 2 (by decide)).trans (by congr 1; try omega))
    rw [b266_21]
    simp only [m32, q, b8, c8, i10, i01, eq_self, if_true, if_false, true_and, false_and, and_true, and_false, not_true, not_false_iff, true_or, or_true, false_or, or_false, ne_eq, not_true_eq_false, not_false_eq_true, e1, Option.bind_some, Option.toList_some, Option.toList_none, List.cons_append, List.nil_append, i01a, i01b, if_true, if_false, b266_47, e2, b266_63, e3, b266_79, nI_s]
    exact ⟨_, rfl, i3⟩)
  rw [show Ex (d + 1) 266 21 [.ref 112, .int 0, .int (nI (0 + 0))] [] G0 t = _ from eu]
  show ∃ s', Ex (d + 1) 266 21 [.ref 112, .int 0, .int (nI (0 + 16))] [] G0 u = _ ∧ _
  have q8 : (nI (0 + 16) ≤ nI (0 + 16)) = True := by rw [nJ_le (by omega) (by omega)]; exact eq_true (by omega)
  rw [b266_21]
  simp only [m32, q8, i10, i01, eq_self, if_true, if_false, true_and, false_and, and_true, and_false, not_true, not_false_iff, true_or, or_true, false_or, or_false, ne_eq, not_true_eq_false, not_false_eq_true, m40]
  obtain ⟨u2, eu2, iu2⟩ := loop_ex (fun i (x : Sig) => Ex (d + 1) 266 92 [.ref 112, .int 0, .int (nI (0 + i))] [] G0 x) (fun i x => IR m (904 + 2 * i) σ x) 400 u iu (by
    intro i x hi hx
    show ∃ a', Ex (d + 1) 266 92 [.ref 112, .int 0, .int (nI (0 + i))] [] G0 x = _ ∧ _
    have q : (nI (0 + 400) ≤ nI (0 + i)) = False := by rw [nJ_le (by omega) (by omega)]; exact eq_false (by omega)
    have b8 : inb (nI (0 + i)) 1200 = true := inb_n (by omega) (by omega)
    have c8 : (nI (0 + i)).toNatClampNeg = 0 + i := nI_c (by omega)
    obtain ⟨s1, v1, e1, i1⟩ := m_kept d hx (by omega) (q := 130) (k := 0 + i) ((oS_c0 i hi 0 (by decide)).trans (by congr 1; try omega))
    obtain ⟨s2, v2, e2, i2⟩ := m_kept d i1 (by omega) (q := 131) (k := 0 + i) ((oS_c0 i hi 1 (by decide)).trans (by congr 1; try omega))
    rw [b266_92]
    simp only [m80, q, b8, c8, i10, i01, eq_self, if_true, if_false, true_and, false_and, and_true, and_false, not_true, not_false_iff, true_or, or_true, false_or, or_false, ne_eq, not_true_eq_false, not_false_eq_true, e1, Option.bind_some, Option.toList_some, Option.toList_none, List.cons_append, List.nil_append, i01a, i01b, if_true, if_false, b266_120, e2, b266_136, nI_s]
    exact ⟨_, rfl, i2⟩)
  rw [show Ex (d + 1) 266 92 [.ref 112, .int 0, .int (nI (0 + 0))] [] G0 u = _ from eu2]
  show ∃ s', Ex (d + 1) 266 92 [.ref 112, .int 0, .int (nI (0 + 400))] [] G0 u2 = _ ∧ _
  have q16 : (nI (0 + 400) ≤ nI (0 + 400)) = True := by rw [nJ_le (by omega) (by omega)]; exact eq_true (by omega)
  rw [b266_92]
  simp only [m80, q16, i10, i01, eq_self, if_true, if_false, true_and, false_and, and_true, and_false, not_true, not_false_iff, true_or, or_true, false_or, or_false, ne_eq, not_true_eq_false, not_false_eq_true]
  exact ⟨u2, rfl, iu2⟩
theorem m_keepsLaw1 (d : Nat) {m : Bool} {σ s : Sig} (h : IR m 1704 σ s) : ∃ s', Ex (d + 1) 266 0 [.ref 112, .int 1, .null] [] G0 s = some (none, G0, s') ∧ IR m 2553 σ s' := by
  have b2 : inb (1 : Int32) 2 = true := by decide
  have c2 : (1 : Int32).toNatClampNeg = 1 := by decide
  have m16 : (16 : Int32) * 1 = nI (16 + 0) := by decide
  have m32 : (16 : Int32) * 1 + 16 = nI (16 + 16) := by decide
  have m40 : (400 : Int32) * 1 = nI (400 + 0) := by decide
  have m80 : (400 : Int32) * 1 + 400 = nI (400 + 400) := by decide
  obtain ⟨s1, v1, e1, i1⟩ := m_kept d h (by omega) (q := 126) (k := 1) rfl
  rw [b266_0]
  simp only [b2, c2, i10, i01, eq_self, if_true, if_false, true_and, false_and, and_true, and_false, not_true, not_false_iff, true_or, or_true, false_or, or_false, ne_eq, not_true_eq_false, not_false_eq_true, e1, Option.bind_some, Option.toList_some, Option.toList_none, List.cons_append, List.nil_append, i01a, i01b, if_true, if_false, b266_15, m16]
  generalize pt s1 126 1 v1 = t at i1
  obtain ⟨u, eu, iu⟩ := loop_ex (fun i (x : Sig) => Ex (d + 1) 266 21 [.ref 112, .int 1, .int (nI (16 + i))] [] G0 x) (fun i x => IR m (1705 + 3 * i) σ x) 16 t i1 (by
    intro i x hi hx
    show ∃ a', Ex (d + 1) 266 21 [.ref 112, .int 1, .int (nI (16 + i))] [] G0 x = _ ∧ _
    have q : (nI (16 + 16) ≤ nI (16 + i)) = False := by rw [nJ_le (by omega) (by omega)]; exact eq_false (by omega)
    have b8 : inb (nI (16 + i)) 48 = true := inb_n (by omega) (by omega)
    have c8 : (nI (16 + i)).toNatClampNeg = 16 + i := nI_c (by omega)
    obtain ⟨s1, v1, e1, i1⟩ := m_kept d hx (by omega) (q := 127) (k := 16 + i) ((oS_l1 i hi 0 (by decide)).trans (by congr 1; try omega))
    obtain ⟨s2, v2, e2, i2⟩ := m_kept d i1 (by omega) (q := 128) (k := 16 + i) ((oS_l1 i hi 1 (by decide)).trans (by congr 1; try omega))
    obtain ⟨s3, v3, e3, i3⟩ := m_kept d i2 (by omega) (q := 129) (k := 16 + i) ((oS_l1 i hi 2 (by decide)).trans (by congr 1; try omega))
    rw [b266_21]
    simp only [m32, q, b8, c8, i10, i01, eq_self, if_true, if_false, true_and, false_and, and_true, and_false, not_true, not_false_iff, true_or, or_true, false_or, or_false, ne_eq, not_true_eq_false, not_false_eq_true, e1, Option.bind_some, Option.toList_some, Option.toList_none, List.cons_append, List.nil_append, i01a, i01b, if_true, if_false, b266_47, e2, b266_63, e3, b266_79, nI_s]
    exact ⟨_, rfl, i3⟩)
  rw [show Ex (d + 1) 266 21 [.ref 112, .int 1, .int (nI (16 + 0))] [] G0 t = _ from eu]
  show ∃ s', Ex (d + 1) 266 21 [.ref 112, .int 1, .int (nI (16 + 16))] [] G0 u = _ ∧ _
  have q8 : (nI (16 + 16) ≤ nI (16 + 16)) = True := by rw [nJ_le (by omega) (by omega)]; exact eq_true (by omega)
  rw [b266_21]
  simp only [m32, q8, i10, i01, eq_self, if_true, if_false, true_and, false_and, and_true, and_false, not_true, not_false_iff, true_or, or_true, false_or, or_false, ne_eq, not_true_eq_false, not_false_eq_true, m40]
  obtain ⟨u2, eu2, iu2⟩ := loop_ex (fun i (x : Sig) => Ex (d + 1) 266 92 [.ref 112, .int 1, .int (nI (400 + i))] [] G0 x) (fun i x => IR m (1753 + 2 * i) σ x) 400 u iu (by
    intro i x hi hx
    show ∃ a', Ex (d + 1) 266 92 [.ref 112, .int 1, .int (nI (400 + i))] [] G0 x = _ ∧ _
    have q : (nI (400 + 400) ≤ nI (400 + i)) = False := by rw [nJ_le (by omega) (by omega)]; exact eq_false (by omega)
    have b8 : inb (nI (400 + i)) 1200 = true := inb_n (by omega) (by omega)
    have c8 : (nI (400 + i)).toNatClampNeg = 400 + i := nI_c (by omega)
    obtain ⟨s1, v1, e1, i1⟩ := m_kept d hx (by omega) (q := 130) (k := 400 + i) ((oS_c1 i hi 0 (by decide)).trans (by congr 1; try omega))
    obtain ⟨s2, v2, e2, i2⟩ := m_kept d i1 (by omega) (q := 131) (k := 400 + i) ((oS_c1 i hi 1 (by decide)).trans (by congr 1; try omega))
    rw [b266_92]
    simp only [m80, q, b8, c8, i10, i01, eq_self, if_true, if_false, true_and, false_and, and_true, and_false, not_true, not_false_iff, true_or, or_true, false_or, or_false, ne_eq, not_true_eq_false, not_false_eq_true, e1, Option.bind_some, Option.toList_some, Option.toList_none, List.cons_append, List.nil_append, i01a, i01b, if_true, if_false, b266_120, e2, b266_136, nI_s]
    exact ⟨_, rfl, i2⟩)
  rw [show Ex (d + 1) 266 92 [.ref 112, .int 1, .int (nI (400 + 0))] [] G0 u = _ from eu2]
  show ∃ s', Ex (d + 1) 266 92 [.ref 112, .int 1, .int (nI (400 + 400))] [] G0 u2 = _ ∧ _
  have q16 : (nI (400 + 400) ≤ nI (400 + 400)) = True := by rw [nJ_le (by omega) (by omega)]; exact eq_true (by omega)
  rw [b266_92]
  simp only [m80, q16, i10, i01, eq_self, if_true, if_false, true_and, false_and, and_true, and_false, not_true, not_false_iff, true_or, or_true, false_or, or_false, ne_eq, not_true_eq_false, not_false_eq_true]
  exact ⟨u2, rfl, iu2⟩
/-- from the first slot to the last -/
theorem m_img (d : Nat) {m : Bool} {σ s : Sig} (a : Int32) (h : IR m 0 σ s) : ∃ s', Ex (d + 2) 268 35 [.ref 112, .int a, .int 0] [] G0 s = Ex (d + 2) 268 108 [.ref 112, .int a, .int (nI 600)] [] G0 (s') ∧ IR m 2553 σ s' := by
  obtain ⟨u, eu, iu⟩ := loop_ex (fun i (x : Sig) => Ex (d + 2) 268 35 [.ref 112, .int a, .int (nI i)] [] G0 x) (fun i x => IR m i σ x) 31 s h (by
    intro i x hi hx
    show ∃ a', Ex (d + 2) 268 35 [.ref 112, .int a, .int (nI i)] [] G0 x = _ ∧ _
    have q : ((31 : Int32) ≤ nI i) = False := by
      have : ((31 : Int32) ≤ nI i) = (31 ≤ i) := nJ_le (a := 31) (by omega) (by omega)
      rw [this]; exact eq_false (by omega)
    have b8 : inb (nI i) 31 = true := inb_n (by omega) (by omega)
    have c8 : (nI i).toNatClampNeg = i := nI_c (by omega)
    obtain ⟨s1, v1, e1, i1⟩ := m_kept (d + 1) hx (by omega) (q := 113) (k := i) (by unfold oS; rw [if_pos hi])
    have e1' : Ex (d + 1) 265 0 [.ref 112, .int (x 113 i)] [] G0 x = some (some (.int v1), G0, s1) := e1
    rw [b268_35]
    simp only [q, b8, c8, i10, i01, eq_self, if_true, if_false, true_and, false_and, and_true, and_false, not_true, not_false_iff, true_or, or_true, false_or, or_false, ne_eq, not_true_eq_false, not_false_eq_true, e1', Option.bind_some, Option.toList_some, Option.toList_none, List.cons_append, List.nil_append, i01a, i01b, if_true, if_false, b268_56, nI_s]
    exact ⟨_, rfl, i1⟩)
  obtain ⟨t1, f1, j1⟩ := m_keepsLoad d iu
  have q31 : ((31 : Int32) ≤ nI 31) = True := eq_true (by decide)
  have g1 : Ex (d + 2) 268 35 [.ref 112, .int a, .int (nI 31)] [] G0 u = Ex (d + 2) 268 69 [.ref 112, .int a, .int (nI 0)] [] G0 t1 := by
    rw [b268_35]
    simp only [q31, i10, i01, eq_self, if_true, if_false, true_and, false_and, and_true, and_false, not_true, not_false_iff, true_or, or_true, false_or, or_false, ne_eq, not_true_eq_false, not_false_eq_true, f1, Option.bind_some, Option.toList_some, Option.toList_none, List.cons_append, List.nil_append, i01a, i01b, if_true, if_false, b268_67]
    rfl
  obtain ⟨u2, eu2, iu2⟩ := loop_ex (fun i (x : Sig) => Ex (d + 2) 268 69 [.ref 112, .int a, .int (nI i)] [] G0 x) (fun i x => IR m (255 + i) σ x) 600 t1 j1 (by
    intro i x hi hx
    show ∃ a', Ex (d + 2) 268 69 [.ref 112, .int a, .int (nI i)] [] G0 x = _ ∧ _
    have q : ((600 : Int32) ≤ nI i) = False := by
      have : ((600 : Int32) ≤ nI i) = (600 ≤ i) := nJ_le (a := 600) (by omega) (by omega)
      rw [this]; exact eq_false (by omega)
    have b8 : inb (nI i) 600 = true := inb_n (by omega) (by omega)
    have c8 : (nI i).toNatClampNeg = i := nI_c (by omega)
    obtain ⟨s1, v1, e1, i1⟩ := m_kept (d + 1) hx (by omega) (q := 123) (k := i) (oS_b i hi)
    have e1' : Ex (d + 1) 265 0 [.ref 112, .int (x 123 i)] [] G0 x = some (some (.int v1), G0, s1) := e1
    rw [b268_69]
    simp only [q, b8, c8, i10, i01, eq_self, if_true, if_false, true_and, false_and, and_true, and_false, not_true, not_false_iff, true_or, or_true, false_or, or_false, ne_eq, not_true_eq_false, not_false_eq_true, e1', Option.bind_some, Option.toList_some, Option.toList_none, List.cons_append, List.nil_append, i01a, i01b, if_true, if_false, b268_91, nI_s]
    exact ⟨_, rfl, i1⟩)
  obtain ⟨t2, f2, j2⟩ := m_keepsLaw0 d iu2
  obtain ⟨t3, f3, j3⟩ := m_keepsLaw1 d j2
  have q6 : ((600 : Int32) ≤ nI 600) = True := eq_true (by decide)
  refine ⟨t3, ?_, j3⟩
  refine Eq.trans (eu : Ex (d + 2) 268 35 [.ref 112, .int a, .int 0] [] G0 s = _) (Eq.trans g1 (Eq.trans eu2 ?_))
  show Ex (d + 2) 268 69 [.ref 112, .int a, .int (nI 600)] [] G0 u2 = _
  rw [b268_69]
  simp only [q6, i10, i01, eq_self, if_true, if_false, true_and, false_and, and_true, and_false, not_true, not_false_iff, true_or, or_true, false_or, or_false, ne_eq, not_true_eq_false, not_false_eq_true, f2, Option.bind_some, Option.toList_some, Option.toList_none, List.cons_append, List.nil_append, i01a, i01b, if_true, if_false, b268_103, f3]
theorem m_image1 (d : Nat) {σ : Sig} : ∃ σ', Ex (d + 2) 268 0 [.ref 112, .int 1, .null] [] G0 σ = some (some (.int 1), G0, σ') ∧ (∀ i, i < 2553 → σ' 142 i = σ (oS i).1 (oS i).2) ∧ σ' 112 58 = 1 ∧ FX (fun q k => q = 142 ∨ (q = 112 ∧ (k = 0 ∨ k = 57 ∨ k = 58 ∨ k = 59))) σ σ' := by
  have F0 : FX (fun q k => q = 142 ∨ (q = 112 ∧ (k = 0 ∨ k = 57 ∨ k = 58 ∨ k = 59))) σ (pt (pt (pt (pt σ 112 0 0) 112 57 1) 112 58 1) 112 59 0) := FX_p (FX_p (FX_p (FX_p FX_r (by omega)) (by omega)) (by omega)) (by omega)
  have k57 : pt (pt (pt (pt σ 112 0 0) 112 57 1) 112 58 1) 112 59 0 112 57 = 1 := by rw [pt_k (by decide), pt_k (by decide), pt_e]
  have k58 : pt (pt (pt (pt σ 112 0 0) 112 57 1) 112 58 1) 112 59 0 112 58 = 1 := by rw [pt_k (by decide), pt_e]
  have k59 : pt (pt (pt (pt σ 112 0 0) 112 57 1) 112 58 1) 112 59 0 112 59 = nI 0 := pt_e
  rw [b268_0]
  simp only [i10, i01b, i10, i01, eq_self, if_true, if_false, true_and, false_and, and_true, and_false, not_true, not_false_iff, true_or, or_true, false_or, or_false, ne_eq, not_true_eq_false, not_false_eq_true]
  generalize pt (pt (pt (pt σ 112 0 0) 112 57 1) 112 58 1) 112 59 0 = s at F0 k57 k58 k59
  obtain ⟨t, e, i⟩ := m_img d (m := true) (σ := s) (s := s) 1 ⟨k59, fun _ => ⟨k57, FX_r, fun i hi => absurd hi (Nat.not_lt_zero i)⟩, fun x => by cases x⟩
  obtain ⟨t1, t2, t3⟩ := i.2.1 rfl
  rw [e, b268_108]
  simp only [i10, i10, i01, eq_self, if_true, if_false, true_and, false_and, and_true, and_false, not_true, not_false_iff, true_or, or_true, false_or, or_false, ne_eq, not_true_eq_false, not_false_eq_true]
  refine ⟨t, rfl, fun i hi => ?_, by rw [t2 112 58 (by omega)]; exact k58, FX_t F0 (FX_m t2 (fun q k hq => by omega))⟩
  rw [t3 i hi]
  have r := oS_r i hi
  exact F0 _ _ (fun x => x.elim r.1 (fun y => by have := r.2 y.1; omega))
theorem m_image0 (d : Nat) {σ : Sig} (h : σ 112 58 = 1) : ∃ σ', Ex (d + 2) 268 0 [.ref 112, .int 0, .null] [] G0 σ = some (some (.int 1), G0, σ') ∧ (∀ i, i < 2553 → σ' (oS i).1 (oS i).2 = σ 142 i) ∧ σ' 112 58 = 1 ∧ σ' 112 3 = 0 ∧ ∀ q k, (∀ i, i < 2553 → oS i ≠ (q, k)) → ¬ (q = 112 ∧ (k = 0 ∨ k = 57 ∨ k = 58 ∨ k = 59 ∨ k = 3)) → σ' q k = σ q k := by
  have F0 : FX (fun q k => q = 112 ∧ (k = 0 ∨ k = 57 ∨ k = 58 ∨ k = 59)) σ (pt (pt (pt (pt σ 112 0 0) 112 57 0) 112 58 1) 112 59 0) := FX_p (FX_p (FX_p (FX_p FX_r (by omega)) (by omega)) (by omega)) (by omega)
  have k57 : pt (pt (pt (pt σ 112 0 0) 112 57 0) 112 58 1) 112 59 0 112 57 = 0 := by rw [pt_k (by decide), pt_k (by decide), pt_e]
  have k58 : pt (pt (pt (pt σ 112 0 0) 112 57 0) 112 58 1) 112 59 0 112 58 = 1 := by rw [pt_k (by decide), pt_e]
  have k59 : pt (pt (pt (pt σ 112 0 0) 112 57 0) 112 58 1) 112 59 0 112 59 = nI 0 := pt_e
  have h58 : pt σ 112 0 0 112 58 = 1 := by rw [pt_k (by decide)]; exact h
  rw [b268_0]
  simp only [h58, i10, i01a, i10, i01, eq_self, if_true, if_false, true_and, false_and, and_true, and_false, not_true, not_false_iff, true_or, or_true, false_or, or_false, ne_eq, not_true_eq_false, not_false_eq_true]
  generalize pt (pt (pt (pt σ 112 0 0) 112 57 0) 112 58 1) 112 59 0 = s at F0 k57 k58 k59
  obtain ⟨t, e, i⟩ := m_img d (m := false) (σ := s) (s := s) 0 ⟨k59, fun x => (by cases x), fun _ => ⟨k57, fun i hi => absurd hi (Nat.not_lt_zero i), fun _ _ _ _ => rfl⟩⟩
  obtain ⟨t1, t2, t3⟩ := i.2.2 rfl
  rw [e, b268_108]
  simp only [i10, i01, eq_self, if_true, if_false, true_and, false_and, and_true, and_false, not_true, not_false_iff, true_or, or_true, false_or, or_false, ne_eq, not_true_eq_false, not_false_eq_true]
  refine ⟨_, rfl, fun i hi => ?_, ?_, pt_e, fun q k hx hy => ?_⟩
  · have r := oS_r i hi
    rw [pt_ap, if_neg (fun x => by have := r.2 x.1; omega), t2 i hi]
    exact F0 142 i (by omega)
  · rw [pt_k (by decide), t3 112 58 (fun i hi x => by have r := oS_r i hi; rw [x] at r; exact (r.2 rfl).2.2.1 rfl) (by omega)]; exact k58
  · rw [pt_ap, if_neg (fun x => hy ⟨x.1, by omega⟩), t3 q k hx (fun x => hy ⟨x.1, by omega⟩)]
    exact F0 q k (fun x => hy ⟨x.1, by omega⟩)
theorem m_imageN (d : Nat) {σ : Sig} (h : σ 112 58 = 0) : Ex (d + 2) 268 0 [.ref 112, .int 0, .null] [] G0 σ = some (some (.int 0), G0, pt σ 112 0 0) := by
  have h58 : pt σ 112 0 0 112 58 = 0 := by rw [pt_k (by decide)]; exact h
  rw [b268_0]
  simp only [h58, i10, i01, eq_self, if_true, if_false, true_and, false_and, and_true, and_false, not_true, not_false_iff, true_or, or_true, false_or, or_false, ne_eq, not_true_eq_false, not_false_eq_true]
/-- a model state that agrees with s on all kept slots tells the same world -/
theorem MR_o {B T : LW} {ω s σ : Sig} (hW : WI B T ω) (hM : MR B T ω s) (h : ∀ i, i < 2553 → σ (oS i).1 (oS i).2 = s (oS i).1 (oS i).2) : MR B T ω σ := by
  have at_ : ∀ p q k, p < 2553 → oS p = (q, k) → σ q k = s q k := fun p q k hp e => by have := h p hp; rw [e] at this; exact this
  have a113 : ∀ k, k < 31 → σ 113 k = s 113 k := fun k hk => at_ k 113 k (by omega) (by unfold oS; rw [if_pos hk])
  have a112 : ∀ k, 6 ≤ k → k ≤ 12 → σ 112 k = s 112 k := fun k h1 h2 => at_ (k + 25) 112 k (by omega) (by unfold oS; rw [if_neg (by omega), if_pos (by omega)]; congr 1)
  have a43 : σ 112 43 = s 112 43 := at_ 94 112 43 (by omega) rfl
  have a7 : ∀ i, i < 8 → ∀ j, j < 7 → σ (116 + j) i = s (116 + j) i := fun i hi j hj => at_ _ _ _ (by omega) (oS_7 i hi j hj)
  have a133 : ∀ k, k < 160 → σ 133 k = s 133 k := fun k hk => at_ _ _ _ (by omega) (oS_w k hk)
  have a123 : ∀ k, k < 600 → σ 123 k = s 123 k := fun k hk => at_ _ _ _ (by omega) (oS_b k hk)
  have a126 : σ 126 0 = s 126 0 ∧ σ 126 1 = s 126 1 := ⟨at_ 855 126 0 (by omega) rfl, at_ 1704 126 1 (by omega) rfl⟩
  have l0 : ∀ i, i < 16 → ∀ j, j < 3 → σ (127 + j) i = s (127 + j) i := fun i hi j hj => at_ _ _ _ (by omega) (oS_l0 i hi j hj)
  have c0 : ∀ i, i < 400 → ∀ j, j < 2 → σ (130 + j) i = s (130 + j) i := fun i hi j hj => at_ _ _ _ (by omega) (oS_c0 i hi j hj)
  have l1 : ∀ i, i < 16 → ∀ j, j < 3 → σ (127 + j) (16 + i) = s (127 + j) (16 + i) := fun i hi j hj => at_ _ _ _ (by omega) (oS_l1 i hi j hj)
  have c1 : ∀ i, i < 400 → ∀ j, j < 2 → σ (130 + j) (400 + i) = s (130 + j) (400 + i) := fun i hi j hj => at_ _ _ _ (by omega) (oS_c1 i hi j hj)
  have hwl : wl ω ≤ 40 := (hW 15).2
  have hnb : (ω 25 0).toNatClampNeg ≤ 150 := by
    have h14 : bw (ω 25 0) 0 150 := hW 14
    have e : (ω 25 0).toNatClampNeg = (ω 25 0).toInt.toNat := rfl
    unfold bw at h14
    omega
  have okB : okL B := (hW 20).2.1
  have okT : okL T := (hW 21).2.1
  intro i
  have h := hM i
  match i, h with
  | 0, h => simp only [mr] at h ⊢; rw [a112 6 (by omega) (by omega)]; exact h
  | 1, h => simp only [mr] at h ⊢; rw [a112 7 (by omega) (by omega)]; exact h
  | 2, h => simp only [mr] at h ⊢; rw [a112 8 (by omega) (by omega)]; exact h
  | 3, h => simp only [mr] at h ⊢; rw [a112 9 (by omega) (by omega)]; exact h
  | 4, h => simp only [mr] at h ⊢; rw [a112 10 (by omega) (by omega)]; exact h
  | 5, h => simp only [mr] at h ⊢; rw [a112 11 (by omega) (by omega)]; exact h
  | 6, h => simp only [mr] at h ⊢; rw [a112 12 (by omega) (by omega)]; exact h
  | 7, h => simp only [mr] at h ⊢; rw [a113 0 (by omega)]; exact h
  | 8, h => simp only [mr] at h ⊢; rw [a113 1 (by omega)]; exact h
  | 9, h => simp only [mr] at h ⊢; rw [a113 2 (by omega)]; exact h
  | 10, h => simp only [mr] at h ⊢; rw [a113 3 (by omega)]; exact h
  | 11, h => simp only [mr] at h ⊢; rw [a113 4 (by omega)]; exact h
  | 12, h => simp only [mr] at h ⊢; rw [a113 5 (by omega)]; exact h
  | 13, h => simp only [mr] at h ⊢; rw [a113 6 (by omega)]; exact h
  | 14, h => simp only [mr] at h ⊢; intro p hp; rw [a113 (7 + p) (by omega)]; exact h p hp
  | 15, h => simp only [mr] at h ⊢; intro p hp; rw [a113 (15 + p) (by omega)]; exact h p hp
  | 16, h => simp only [mr] at h ⊢; intro p hp; rw [a113 (23 + p) (by omega)]; exact h p hp
  | 17, h => simp only [mr] at h ⊢; intro p hp; have e : σ 116 p = s 116 p := a7 p hp 0 (by omega); rw [e]; exact h p hp
  | 18, h => simp only [mr] at h ⊢; intro p hp; have e : σ 117 p = s 117 p := a7 p hp 1 (by omega); rw [e]; exact h p hp
  | 19, h => simp only [mr] at h ⊢; intro p hp; have e : σ 118 p = s 118 p := a7 p hp 2 (by omega); rw [e]; exact h p hp
  | 20, h => simp only [mr] at h ⊢; intro p hp; have e : σ 119 p = s 119 p := a7 p hp 3 (by omega); rw [e]; exact h p hp
  | 21, h => simp only [mr] at h ⊢; intro p hp; have e : σ 120 p = s 120 p := a7 p hp 4 (by omega); rw [e]; exact h p hp
  | 22, h => simp only [mr] at h ⊢; intro p hp; have e : σ 121 p = s 121 p := a7 p hp 5 (by omega); rw [e]; exact h p hp
  | 23, h => simp only [mr] at h ⊢; intro p hp; have e : σ 122 p = s 122 p := a7 p hp 6 (by omega); rw [e]; exact h p hp
  | 24, h => simp only [mr] at h ⊢; rw [a43]; exact h
  | 25, h => simp only [mr] at h ⊢; intro l hl; rw [a133 (4 * l) (by omega), a133 (4 * l + 1) (by omega), a133 (4 * l + 2) (by omega), a133 (4 * l + 3) (by omega)]; exact h l hl
  | 26, h => simp only [mr] at h ⊢; intro i hi; rw [a123 i (by omega)]; exact h i hi
  | 27, h => simp only [mr] at h ⊢; rw [a126.1]; exact h
  | 28, h => simp only [mr] at h ⊢; rw [a126.2]; exact h
  | 29, h =>
    simp only [mr, modLaw] at h ⊢
    refine ⟨fun k hk => ?_, fun i hi => ?_⟩
    · have hk' : k < 16 := by have := okB.1; omega
      have e1 : σ 127 (0 + k) = s 127 (0 + k) := by rw [Nat.zero_add]; exact l0 k hk' 0 (by omega)
      have e2 : σ 128 (0 + k) = s 128 (0 + k) := by rw [Nat.zero_add]; exact l0 k hk' 1 (by omega)
      have e3 : σ 129 (0 + k) = s 129 (0 + k) := by rw [Nat.zero_add]; exact l0 k hk' 2 (by omega)
      rw [e1, e2, e3]; exact h.1 k hk
    · have hi' : i < 400 := by have := okB.2.2.1; omega
      have e1 : σ 130 (0 + i) = s 130 (0 + i) := by rw [Nat.zero_add]; exact c0 i hi' 0 (by omega)
      have e2 : σ 131 (0 + i) = s 131 (0 + i) := by rw [Nat.zero_add]; exact c0 i hi' 1 (by omega)
      rw [e1, e2]; exact h.2 i hi
  | 30, h =>
    simp only [mr, modLaw] at h ⊢
    refine ⟨fun k hk => ?_, fun i hi => ?_⟩
    · have hk' : k < 16 := by have := okT.1; omega
      have e1 : σ 127 (16 + k) = s 127 (16 + k) := l1 k hk' 0 (by omega)
      have e2 : σ 128 (16 + k) = s 128 (16 + k) := l1 k hk' 1 (by omega)
      have e3 : σ 129 (16 + k) = s 129 (16 + k) := l1 k hk' 2 (by omega)
      rw [e1, e2, e3]; exact h.1 k hk
    · have hi' : i < 400 := by have := okT.2.2.1; omega
      have e1 : σ 130 (400 + i) = s 130 (400 + i) := c1 i hi' 0 (by omega)
      have e2 : σ 131 (400 + i) = s 131 (400 + i) := c1 i hi' 1 (by omega)
      rw [e1, e2]; exact h.2 i hi
  | _ + 31, _ => trivial
