/-! L3: the grammar, the model: a LAW -/
theorem tot_a : ∀ (ls : LW) (x : List Int32 × List Int32), tot (ls ++ [x]) = tot ls ++ (x.1 ++ x.2)
  | [], (e, b) => by show e ++ b ++ [] = [] ++ (e ++ b); rw [List.append_nil, List.nil_append]
  | (e, b) :: r, x => by show e ++ b ++ tot (r ++ [x]) = e ++ b ++ tot r ++ (x.1 ++ x.2); rw [tot_a r x, List.append_assoc (e ++ b)]
/-- lines of the draft -/
def ML (ls : LW) (σ : Sig) : Prop := ∀ k, k < ls.length → σ 127 (32 + k) = nI (tot (ls.take k)).length ∧ σ 128 (32 + k) = nI ((tot (ls.take k)).length + (ls.getD k ([], [])).1.length) ∧ σ 129 (32 + k) = nI (tot (ls.take (k + 1))).length
theorem ML_a {ls : LW} {x : List Int32 × List Int32} {σ σ' : Sig} (h : ML ls σ) (h1 : ∀ k, k < ls.length → σ' 127 (32 + k) = σ 127 (32 + k) ∧ σ' 128 (32 + k) = σ 128 (32 + k) ∧ σ' 129 (32 + k) = σ 129 (32 + k))
    (e1 : σ' 127 (32 + ls.length) = nI (tot ls).length) (e2 : σ' 128 (32 + ls.length) = nI ((tot ls).length + x.1.length)) (e3 : σ' 129 (32 + ls.length) = nI (tot (ls ++ [x])).length) : ML (ls ++ [x]) σ' := by
  intro k hk
  by_cases c : k < ls.length
  · obtain ⟨a1, a2, a3⟩ := h k c
    obtain ⟨b1, b2, b3⟩ := h1 k c
    rw [b1, b2, b3, List.take_append_of_le_length (by omega), List.take_append_of_le_length (by omega)]
    refine ⟨a1, ?_, a3⟩
    rw [show (ls ++ [x]).getD k ([], []) = ls.getD k ([], []) by rw [List.getD, List.getD, List.getElem?_append_left c]]
    exact a2
  · have ek : k = ls.length := by rw [List.length_append] at hk; simp at hk; omega
    subst ek
    rw [List.take_append_of_le_length (Nat.le_refl _), List.take_length]
    refine ⟨e1, ?_, ?_⟩
    · rw [show (ls ++ [x]).getD ls.length ([], []) = x by rw [List.getD, List.getElem?_append_right (Nat.le_refl _), Nat.sub_self]; rfl]
      exact e2
    · rw [List.take_of_length_le (by rw [List.length_append]; simp)]; exact e3
section
variable {b : Nat → Nat} {n N : Nat} {F E : Nat → Nat}
theorem MP_l {g j : Nat} {C : List Int32} {σ : Sig} {q k : Nat} {v : Int32} (h : MP b n N F E g j C σ) (hq : (q = 127 ∨ q = 128 ∨ q = 129) ∧ 32 ≤ k) : MP b n N F E g j C (pt σ q k v) := by
  obtain ⟨h1, h2, h3, h4, h5⟩ := h
  have f : FX (fun q k => (q = 127 ∨ q = 128 ∨ q = 129) ∧ 32 ≤ k) σ (pt σ q k v) := FX_p FX_r hq
  refine ⟨TPm_x h1 (FX_m f (fun q k hq => by simp only [Dl, Da, Ds]; omega)), RT_x h2 f (by decide), h3, CM_k h4 (f 112 35 (by decide)) ?_ ?_, by rw [f 112 34 (by decide)]; exact h5⟩
  · funext k; exact f 130 k (by omega)
  · funext k; exact f 131 k (by omega)
theorem m_isLine (d : Nat) {g j : Nat} {C : List Int32} {σ : Sig} (hg : g = 15 ∨ g = 16) (h : MP b n N F E g j C σ) : Ex (d + 1) 191 0 [.ref 112] [] G0 σ = some (some (.int (bI (kd b N F E j = g))), G0, σ) := by
  rw [b191_0, h.2.2.2.2]
  rcases hg with e | e <;> subst e
  · have i : Ex d 180 0 [.ref 112, .int 0] [] G0 σ = _ := m_isWord d h.2.1 (k0 := 15) (by decide)
    simp only [show nI (15 - 15) = 0 from rfl, i10, i01, eq_self, if_true, if_false, true_and, false_and, and_true, and_false, not_true, not_false_iff, true_or, or_true, false_or, or_false, ne_eq, not_true_eq_false, not_false_eq_true, i, Option.bind_some, Option.toList_some, Option.toList_none, List.cons_append, List.nil_append, i01a, i01b, if_true, if_false, b191_16, bI_01]
  · have i : Ex d 180 0 [.ref 112, .int 1] [] G0 σ = _ := m_isWord d h.2.1 (k0 := 16) (by decide)
    simp only [show nI (16 - 15) = 1 from rfl, i10, i01, eq_self, if_true, if_false, true_and, false_and, and_true, and_false, not_true, not_false_iff, true_or, or_true, false_or, or_false, ne_eq, not_true_eq_false, not_false_eq_true, i, Option.bind_some, Option.toList_some, Option.toList_none, List.cons_append, List.nil_append, i01a, i01b, if_true, if_false, b191_16, bI_01]
def RLm (n N : Nat) (F : Nat → Nat) (ls : LW) (r : Sum (Nat × Nat) LW) (v : Int32) (σ' : Sig) : Prop := match r with
  | .inl (k, x) => v = -1 ∧ σ' 112 39 = nI k ∧ σ' 112 40 = nI (fN n N F x)
  | .inr r => v = nI (ls ++ r).length ∧ CM (tot (ls ++ r)) σ' ∧ ML (ls ++ r) σ'
theorem m_lawL (d : Nat) {g : Nat} (tk : TOK (fun i => sr (b i)) n N F E) (hV : ∀ t, kd b N F E t = 30 → vN b F E t ≤ 9999) (hg : g = 15 ∨ g = 16) : ∀ m ls i σ a2, ls.length + m = 16 → MP b n N F E g i (tot ls) σ → ML ls σ → σ 112 36 = 0 → (tot ls).length ≤ i →
    ∃ σ' v, Ex (d + 8) 192 2 [.ref 112, .int (nI ls.length), a2] [] G0 σ = some (some (.int v), G0, σ') ∧ RLm n N F ls (pLw (kd b N F E) (vN b F E) g m i) v σ' ∧ FX Dl σ σ' := by
  have end_ : ∀ m ls i σ a2, ls.length + m = 16 → MP b n N F E g i (tot ls) σ → ML ls σ → ¬ kd b N F E i = g →
    ∃ σ' v, Ex (d + 8) 192 2 [.ref 112, .int (nI ls.length), a2] [] G0 σ = some (some (.int v), G0, σ') ∧ RLm n N F ls (if kd b N F E i = 32 then .inr [] else .inl (1, i)) v σ' ∧ FX Dl σ σ' := by
    intro m ls i σ a2 hm h hL cg
    have hr := kd_r b N F E i
    have il : Ex (d + 7) 191 0 [.ref 112] [] G0 σ = _ := m_isLine (d + 6) hg h
    have b0 : bI (kd b N F E i = g) = 0 := bI_F cg
    rw [b192_2, il]
    simp only [b0, Option.bind_some, Option.toList_some, Option.toList_none, List.cons_append, List.nil_append, i01a, i01b, if_true, if_false, b192_6, i10, i01, eq_self, if_true, if_false, true_and, false_and, and_true, and_false, not_true, not_false_iff, true_or, or_true, false_or, or_false, ne_eq, not_true_eq_false, not_false_eq_true, h.2.1.1, tk_0 (show kd b N F E i < 100 by omega)]
    by_cases c32 : kd b N F E i = 32
    · simp only [eq_true c32, i10, i01, eq_self, if_true, if_false, true_and, false_and, and_true, and_false, not_true, not_false_iff, true_or, or_true, false_or, or_false, ne_eq, not_true_eq_false, not_false_eq_true, b192_134]
      refine ⟨σ, _, rfl, ?_, FX_r⟩
      show _ ∧ CM (tot (ls ++ [])) σ ∧ ML (ls ++ []) σ
      rw [List.append_nil]
      exact ⟨rfl, h.2.2.2.1, hL⟩
    · obtain ⟨e, r, f⟩ := MP_f (d + 7) 1 h
      have e' : Ex (d + 7) 179 0 [.ref 112, .int 1] [] G0 σ = _ := e
      simp only [eq_false c32, i10, i01, eq_self, if_true, if_false, true_and, false_and, and_true, and_false, not_true, not_false_iff, true_or, or_true, false_or, or_false, ne_eq, not_true_eq_false, not_false_eq_true, e', Option.bind_some, Option.toList_some, Option.toList_none, List.cons_append, List.nil_append, i01a, i01b, if_true, if_false, b192_134]
      exact ⟨_, _, rfl, r, FX_m f (fun q k hq => by simp only [Dl, Da, Ds]; omega)⟩
  intro m
  induction m with
  | zero =>
    intro ls i σ a2 hm h hL h36 hl
    rw [pLw]
    by_cases cg : kd b N F E i = g
    · have n32 : ¬ kd b N F E i = 32 := by omega
      have il : Ex (d + 7) 191 0 [.ref 112] [] G0 σ = _ := m_isLine (d + 6) hg h
      have b0 : bI (kd b N F E i = g) = 1 := bI_T cg
      have e16 : (nI ls.length = 16) = True := by rw [show ls.length = 16 by omega]; exact eq_true rfl
      obtain ⟨e, r, f⟩ := MP_f (d + 7) 3 h
      have e' : Ex (d + 7) 179 0 [.ref 112, .int 3] [] G0 σ = _ := e
      rw [if_neg n32, if_pos cg, b192_2, il]
      simp only [b0, Option.bind_some, Option.toList_some, Option.toList_none, List.cons_append, List.nil_append, i01a, i01b, if_true, if_false, b192_6, i10, i01, eq_self, if_true, if_false, true_and, false_and, and_true, and_false, not_true, not_false_iff, true_or, or_true, false_or, or_false, ne_eq, not_true_eq_false, not_false_eq_true, e16, e', b192_20]
      exact ⟨_, _, rfl, r, FX_m f (fun q k hq => by simp only [Dl, Da, Ds]; omega)⟩
    · rw [if_neg cg]
      exact end_ 0 ls i σ a2 hm h hL cg
  | succ m ih =>
    intro ls i σ a2 hm h hL h36 hl
    rw [pLw]
    by_cases cg : kd b N F E i = g
    · have n32 : ¬ kd b N F E i = 32 := by omega
      have hN : N ≤ 400 := Nat.le_trans tk.2.2.2 h.1.1
      have lt := kLt kd_e h.2.2.1 n32
      have il : Ex (d + 7) 191 0 [.ref 112] [] G0 σ = _ := m_isLine (d + 6) hg h
      have b0 : bI (kd b N F E i = g) = 1 := bI_T cg
      have e16 : (nI ls.length = 16) = False := by
        have : (nI ls.length = 16) = (ls.length = 16) := nJ_e (b := 16) (by omega) (by omega)
        rw [this]; exact eq_false (by omega)
      have e32 : (32 : Int32) + nI ls.length = nI (32 + ls.length) := nI_add 32 ls.length
      have i48 : inb (nI (32 + ls.length)) 48 = true := inb_n (by omega) (by omega)
      have c48 : (nI (32 + ls.length)).toNatClampNeg = 32 + ls.length := nI_c (by omega)
      have n0 : ((0 : Int32) = -1) = False := eq_false (by decide)
      obtain ⟨s1, e1, m1, f1⟩ := m_next (d + 5) tk h lt
      have e1' : Ex (d + 7) 178 0 [.ref 112, .null] [] G0 σ = some (none, G0, s1) := e1
      rw [if_neg n32, if_pos cg, b192_2, il]
      simp only [b0, Option.bind_some, Option.toList_some, Option.toList_none, List.cons_append, List.nil_append, i01a, i01b, if_true, if_false, b192_6, i10, i01, eq_self, if_true, if_false, true_and, false_and, and_true, and_false, not_true, not_false_iff, true_or, or_true, false_or, or_false, ne_eq, not_true_eq_false, not_false_eq_true, e16, e1', e32, b192_30, i48, c48, m1.2.2.2.1.1]
      have m2 : MP b n N F E g (i + 1) (tot ls) (pt s1 127 (32 + ls.length) (nI (tot ls).length)) := MP_l m1 ⟨Or.inl rfl, by omega⟩
      have p127 : pt s1 127 (32 + ls.length) (nI (tot ls).length) 127 (32 + ls.length) = nI (tot ls).length := pt_e
      have L2 : ML ls (pt s1 127 (32 + ls.length) (nI (tot ls).length)) := by
        intro k hk
        rw [pt_k (by omega), pt_q (by decide), pt_q (by decide), f1 127 _ (by omega), f1 128 _ (by omega), f1 129 _ (by omega)]
        exact hL k hk
      have o2 : pt s1 127 (32 + ls.length) (nI (tot ls).length) 112 36 = 0 := by rw [pt_q (by decide), f1 112 36 (by decide)]; exact h36
      have F2 : FX Dl σ (pt s1 127 (32 + ls.length) (nI (tot ls).length)) := FX_p (FX_m f1 (fun q k hq => by simp only [Dl, Da, Ds]; omega)) (Or.inr (Or.inl ⟨Or.inl rfl, by omega⟩))
      generalize pt s1 127 (32 + ls.length) (nI (tot ls).length) = s2 at m2 p127 L2 o2 F2
      obtain ⟨s3, v, e3, r3, f3⟩ := m_sum (d + 2) tk hg m2 (show (tot ls).length ≤ i + 1 by omega)
      have e3' : Ex (d + 7) 186 0 [.ref 112, .null] [] G0 s2 = some (some (.int v), G0, s3) := e3
      have F3 : FX Dl σ s3 := FX_t F2 (FX_m f3 (fun q k hq => DsDl hq))
      have o3 : s3 112 36 = 0 := by rw [f3 112 36 (by decide)]; exact o2
      have L3 : ML ls s3 := by
        intro k hk
        rw [f3 127 _ (by simp only [Ds]; omega), f3 128 _ (by simp only [Ds]; omega), f3 129 _ (by simp only [Ds]; omega)]; exact L2 k hk
      have q127 : s3 127 (32 + ls.length) = nI (tot ls).length := by rw [f3 127 _ (by simp only [Ds]; omega)]; exact p127
      rw [e3']
      simp only [Option.bind_some, Option.toList_some, Option.toList_none, List.cons_append, List.nil_append, i01a, i01b, if_true, if_false, b192_44]
      have pok := pS_ok (K := kd b N F E) (V := vN b F E) (g := g) kd_e (show i + 1 ≤ N by omega)
      cases hu : pS (kd b N F E) (vN b F E) g (i + 1) with
      | inl y =>
        rw [hu] at r3
        obtain ⟨y1, y2⟩ := y
        have v0 : v = -1 := r3.1
        have hx : pLn (kd b N F E) (vN b F E) g (i + 1) = .inl (y1, y2) := by unfold pLn; rw [hu]
        rw [hx]
        simp only [v0, i10, i01, eq_self, if_true, if_false, true_and, false_and, and_true, and_false, not_true, not_false_iff, true_or, or_true, false_or, or_false, ne_eq, not_true_eq_false, not_false_eq_true]
        exact ⟨s3, _, rfl, ⟨rfl, r3.2.1, r3.2.2⟩, F3⟩
      | inr y =>
        obtain ⟨e, j⟩ := y
        rw [hu] at r3
        obtain ⟨pj, pN'⟩ := pok e j hu
        have v0 : v = 0 := r3.1
        have m3 := r3.2
        have m4 : MP b n N F E g j (tot ls ++ e) (pt s3 128 (32 + ls.length) (nI (tot ls ++ e).length)) := MP_l m3 ⟨Or.inr (Or.inl rfl), by omega⟩
        have p128 : pt s3 128 (32 + ls.length) (nI (tot ls ++ e).length) 128 (32 + ls.length) = nI ((tot ls).length + e.length) := by rw [pt_e, List.length_append]
        have p127' : pt s3 128 (32 + ls.length) (nI (tot ls ++ e).length) 127 (32 + ls.length) = nI (tot ls).length := by rw [pt_q (by decide)]; exact q127
        have L4 : ML ls (pt s3 128 (32 + ls.length) (nI (tot ls ++ e).length)) := by
          intro k hk
          rw [pt_q (by decide), pt_k (by omega), pt_q (by decide)]
          exact L3 k hk
        have o4 : pt s3 128 (32 + ls.length) (nI (tot ls ++ e).length) 112 36 = 0 := by rw [pt_q (by decide)]; exact o3
        have F4 : FX Dl σ (pt s3 128 (32 + ls.length) (nI (tot ls ++ e).length)) := FX_p F3 (Or.inr (Or.inl ⟨Or.inr (Or.inl rfl), by omega⟩))
        simp only [v0, n0, i10, i01, eq_self, if_true, if_false, true_and, false_and, and_true, and_false, not_true, not_false_iff, true_or, or_true, false_or, or_false, ne_eq, not_true_eq_false, not_false_eq_true, i48, c48, m3.2.2.2.1.1]
        generalize pt s3 128 (32 + ls.length) (nI (tot ls ++ e).length) = s4 at m4 p128 p127' L4 o4 F4
        have iw : Ex (d + 7) 180 0 [.ref 112, .int 2] [] G0 s4 = _ := m_isWord (d + 7) m4.2.1 (k0 := 17) (by decide)
        rw [iw]
        simp only [Option.bind_some, Option.toList_some, Option.toList_none, List.cons_append, List.nil_append, i01a, i01b, if_true, if_false, b192_65, bI_z, bI_o, bI_em, ite_not]
        -- from where lineTo is told
        have tail : ∀ (x : List Int32 × List Int32) (k : Nat) (s : Sig), x.1 = e → (if kd b N F E k = 59 then pLn (kd b N F E) (vN b F E) g (i + 1) = .inr (x, k + 1) else pLn (kd b N F E) (vN b F E) g (i + 1) = .inl (1, k)) → MP b n N F E g k (tot ls ++ (x.1 ++ x.2)) s → (tot ls ++ (x.1 ++ x.2)).length ≤ k → ML ls s → s 127 (32 + ls.length) = nI (tot ls).length → s 128 (32 + ls.length) = nI ((tot ls).length + e.length) → s 112 36 = 0 → FX Dl σ s →
            ∃ σ' v, (Ex (d + 7) 181 0 [.ref 112, .int 59] [] G0 (pt s 129 (32 + ls.length) (s 112 35))).bind (fun o => Ex (d + 7 + 1) 192 98 [.ref 112, .int (nI ls.length), .int (nI (32 + ls.length))] (o.1.toList ++ []) o.2.1 o.2.2) = some (some (.int v), G0, σ') ∧ RLm n N F ls (match pLn (kd b N F E) (vN b F E) g (i + 1) with
              | .inl x => .inl x
              | .inr (l, j) => match pLw (kd b N F E) (vN b F E) g m j with
                | .inl x => .inl x
                | .inr r => .inr (l :: r)) v σ' ∧ FX Dl σ σ' := by
          intro x k s hx1 hx ms hls Ls s127 s128 so Fs
          have mt : MP b n N F E g k (tot ls ++ (x.1 ++ x.2)) (pt s 129 (32 + ls.length) (s 112 35)) := MP_l ms ⟨Or.inr (Or.inr rfl), by omega⟩
          have p129 : pt s 129 (32 + ls.length) (s 112 35) 129 (32 + ls.length) = nI (tot (ls ++ [x])).length := by rw [pt_e, ms.2.2.2.1.1, tot_a]
          have Lt : ML (ls ++ [x]) (pt s 129 (32 + ls.length) (s 112 35)) := ML_a Ls (fun k hk => ⟨by rw [pt_q (by decide)], by rw [pt_q (by decide)], by rw [pt_k (by omega)]⟩) (by rw [pt_q (by decide)]; exact s127) (by rw [pt_q (by decide), hx1]; exact s128) p129
          have ot : pt s 129 (32 + ls.length) (s 112 35) 112 36 = 0 := by rw [pt_q (by decide)]; exact so
          have Ft : FX Dl σ (pt s 129 (32 + ls.length) (s 112 35)) := FX_p Fs (Or.inr (Or.inl ⟨Or.inr (Or.inr rfl), by omega⟩))
          generalize pt s 129 (32 + ls.length) (s 112 35) = t at mt p129 Lt ot Ft
          have is : Ex (d + 7) 181 0 [.ref 112, .int 59] [] G0 t = _ := m_isSign (d + 7) mt.2.1 (c := 59) (by decide) (by decide)
          rw [is]
          simp only [Option.bind_some, Option.toList_some, Option.toList_none, List.cons_append, List.nil_append, i01a, i01b, if_true, if_false, b192_98, bI_z, bI_o, bI_em, ite_not]
          by_cases c59 : kd b N F E k = 59
          · rw [if_pos c59] at hx
            have ltk := kLt kd_e mt.2.2.1 (show kd b N F E k ≠ 32 by omega)
            obtain ⟨u, eu, mu, fu⟩ := m_next (d + 5) tk mt ltk
            have eu' : Ex (d + 7) 178 0 [.ref 112, .null] [] G0 t = some (none, G0, u) := eu
            rw [← tot_a] at mu hls
            obtain ⟨s', w, e', r', f'⟩ := ih (ls ++ [x]) (k + 1) u (.int (nI (32 + ls.length))) (by rw [List.length_append]; simp; omega) mu (by
              intro k' hk'
              rw [fu 127 _ (by omega), fu 128 _ (by omega), fu 129 _ (by omega)]; exact Lt k' hk') (by rw [fu 112 36 (by decide)]; exact ot) (by omega)
            have el : (ls ++ [x]).length = ls.length + 1 := by rw [List.length_append]; rfl
            rw [el] at e'
            simp only [eq_true c59, i10, i01, eq_self, if_true, if_false, true_and, false_and, and_true, and_false, not_true, not_false_iff, true_or, or_true, false_or, or_false, ne_eq, not_true_eq_false, not_false_eq_true, eu', Option.bind_some, Option.toList_some, Option.toList_none, List.cons_append, List.nil_append, i01a, i01b, if_true, if_false, b192_111, nI_s, e']
            refine ⟨s', w, rfl, ?_, FX_t Ft (FX_t (FX_m fu (fun q k hq => by simp only [Dl, Da, Ds]; omega)) f')⟩
            rw [hx]
            show RLm n N F ls (match pLw (kd b N F E) (vN b F E) g m (k + 1) with
              | .inl x => .inl x
              | .inr r => .inr (x :: r)) w s'
            cases hw : pLw (kd b N F E) (vN b F E) g m (k + 1) with
            | inl y => rw [hw] at r'; exact r'
            | inr r =>
              rw [hw] at r'
              have ea : ls ++ [x] ++ r = ls ++ x :: r := by rw [List.append_assoc]; rfl
              obtain ⟨a1, a3, a4⟩ := r'
              rw [ea] at a1 a3 a4
              exact ⟨a1, a3, a4⟩
          · rw [if_neg c59] at hx
            obtain ⟨ee, rr, ff⟩ := MP_f (d + 7) 1 mt
            have ee' : Ex (d + 7) 179 0 [.ref 112, .int 1] [] G0 t = _ := ee
            rw [hx]
            simp only [eq_false c59, i10, i01, eq_self, if_true, if_false, true_and, false_and, and_true, and_false, not_true, not_false_iff, true_or, or_true, false_or, or_false, ne_eq, not_true_eq_false, not_false_eq_true, ee', Option.bind_some, Option.toList_some, Option.toList_none, List.cons_append, List.nil_append, i01a, i01b, if_true, if_false, b192_106]
            exact ⟨_, _, rfl, rr, FX_t Ft (FX_m ff (fun q k hq => by simp only [Dl, Da, Ds]; omega))⟩
        by_cases c17 : kd b N F E j = 17
        · have lt2 := kLt kd_e pN' (show kd b N F E j ≠ 32 by omega)
          obtain ⟨s5, e5, m5, f5⟩ := m_next (d + 5) tk m4 lt2
          have e5' : Ex (d + 7) 178 0 [.ref 112, .null] [] G0 s4 = some (none, G0, s5) := e5
          obtain ⟨s6, v6, e6, r6, o6, f6⟩ := m_any d tk hg m5 (by rw [f5 112 36 (by decide)]; exact o4) (by rw [List.length_append]; omega)
          have F6 : FX Dl σ s6 := FX_t F4 (FX_t (FX_m f5 (fun q k hq => by simp only [Dl, Da, Ds]; omega)) (FX_m f6 (fun q k hq => Or.inl hq)))
          simp only [eq_true c17, i10, i01, eq_self, if_true, if_false, true_and, false_and, and_true, and_false, not_true, not_false_iff, true_or, or_true, false_or, or_false, ne_eq, not_true_eq_false, not_false_eq_true, e5', Option.bind_some, Option.toList_some, Option.toList_none, List.cons_append, List.nil_append, i01a, i01b, if_true, if_false, b192_72, e6, b192_76]
          cases hb : pB (kd b N F E) (pN (kd b N F E) (vN b F E) g 8) (j + 1) with
          | inl y =>
            rw [hb] at r6
            obtain ⟨y1, y2⟩ := y
            have v0' : v6 = -1 := r6.1
            have hx : pLn (kd b N F E) (vN b F E) g (i + 1) = .inl (y1, y2) := by unfold pLn; rw [hu]; simp only [eq_true c17, if_true]; rw [hb]
            rw [hx]
            simp only [v0', i10, i01, eq_self, if_true, if_false, true_and, false_and, and_true, and_false, not_true, not_false_iff, true_or, or_true, false_or, or_false, ne_eq, not_true_eq_false, not_false_eq_true]
            exact ⟨s6, _, rfl, ⟨rfl, r6.2.1, r6.2.2⟩, F6⟩
          | inr y =>
            obtain ⟨c, k⟩ := y
            rw [hb] at r6
            obtain ⟨p1, p2⟩ := pB_ok kd_e (pN_ok kd_e 8) (show j + 1 ≤ N by omega) c k hb
            have v0' : v6 = 0 := r6.1
            have g127 : ∀ k, s6 127 k = s4 127 k := fun k => by rw [f6 127 _ (by simp only [Da, Ds]; omega), f5 127 _ (by omega)]
            have g128 : ∀ k, s6 128 k = s4 128 k := fun k => by rw [f6 128 _ (by simp only [Da, Ds]; omega), f5 128 _ (by omega)]
            have g129 : ∀ k, s6 129 k = s4 129 k := fun k => by rw [f6 129 _ (by simp only [Da, Ds]; omega), f5 129 _ (by omega)]
            have T := tail (e, c) k s6 rfl (by
              unfold pLn; rw [hu]; simp only [eq_true c17, if_true]; rw [hb]
              by_cases c59 : kd b N F E k = 59
              · simp only [eq_true c59, if_true]
              · simp only [eq_false c59, if_false]) (by rw [← List.append_assoc]; exact r6.2) (by rw [List.length_append, List.length_append]; show _ + (e.length + c.length) ≤ k; omega) (fun k' hk' => by rw [g127, g128, g129]; exact L4 k' hk') (by rw [g127]; exact p127') (by rw [g128]; exact p128) (o6 v0') F6
            simp only [v0', n0, i10, i01, eq_self, if_true, if_false, true_and, false_and, and_true, and_false, not_true, not_false_iff, true_or, or_true, false_or, or_false, ne_eq, not_true_eq_false, not_false_eq_true, i48, c48]
            exact T
        · have T := tail (e, []) j s4 rfl (by
            unfold pLn; rw [hu]; simp only [eq_false c17, if_false]
            by_cases c59 : kd b N F E j = 59
            · simp only [eq_true c59, if_true]
            · simp only [eq_false c59, if_false]) (by rw [List.append_nil]; exact m4) (by rw [List.append_nil, List.length_append]; show _ + e.length ≤ j; omega) L4 p127' p128 o4 F4
          simp only [eq_false c17, i10, i01, eq_self, if_true, if_false, true_and, false_and, and_true, and_false, not_true, not_false_iff, true_or, or_true, false_or, or_false, ne_eq, not_true_eq_false, not_false_eq_true, i48, c48]
          exact T
    · rw [if_neg cg]
      exact end_ (m + 1) ls i σ a2 hm h hL cg
theorem m_readLaw (d : Nat) {g : Nat} {σ : Sig} (tk : TOK (fun i => sr (b i)) n N F E) (hg : g = 15 ∨ g = 16) (h : MP b n N F E g 0 [] σ) (h36 : σ 112 36 = 0) :
    ∃ σ' v, Ex (d + 8) 192 0 [.ref 112, .null, .null] [] G0 σ = some (some (.int v), G0, σ') ∧ RLm n N F [] (pLw (kd b N F E) (vN b F E) g 16 0) v σ' ∧ FX Dl σ σ' := by
  obtain ⟨s, v, e, r, f⟩ := m_lawL d tk (fun t ht => (kd_30 tk ht).2.2.2) hg 16 [] 0 σ .null rfl h (fun k hk => absurd hk (Nat.not_lt_zero k)) h36 (Nat.zero_le _)
  rw [b192_0]
  exact ⟨s, v, e, r, f⟩
end
/-- the draft becomes the law w -/
theorem m_takesLaw (d : Nat) {w : Nat} {ls : LW} {σ : Sig} (hw : w < 2) (h34 : σ 112 34 = nI w) (hC : CM (tot ls) σ) (hL : ML ls σ) (h16 : ls.length ≤ 16) (h4 : (tot ls).length ≤ 400) :
    ∃ σ', Ex d 193 0 [.ref 112, .int (nI ls.length), .null] [] G0 σ = some (none, G0, σ') ∧ modLaw (σ' 127) (σ' 128) (σ' 129) (σ' 130) (σ' 131) (16 * w) (400 * w) ls ∧ σ' 126 w = nI ls.length ∧ FX (fun q k => (q = 126 ∧ k = w) ∨ ((q = 127 ∨ q = 128 ∨ q = 129) ∧ 16 * w ≤ k ∧ k < 16 * w + 16) ∨ ((q = 130 ∨ q = 131) ∧ 400 * w ≤ k ∧ k < 400 * w + 400)) σ σ' := by
  rw [b193_0]
  have em : (16 : Int32) * nI w = nI (16 * w) := nI_mul' 16 w
  have em4 : (400 : Int32) * nI w = nI (400 * w) := nI_mul' 400 w
  obtain ⟨s1, e1, f1, a1⟩ := loop_ex (fun l (s : Sig) => Ex d 193 2 [.ref 112, .int (nI ls.length), .int (nI l)] [] G0 s) (fun l s => FX (fun q k => (q = 127 ∨ q = 128 ∨ q = 129) ∧ 16 * w ≤ k ∧ k < 16 * w + 16) σ s ∧ ∀ k, k < l → s 127 (16 * w + k) = σ 127 (32 + k) ∧ s 128 (16 * w + k) = σ 128 (32 + k) ∧ s 129 (16 * w + k) = σ 129 (32 + k)) ls.length σ ⟨FX_r, fun k hk => absurd hk (Nat.not_lt_zero k)⟩ (by
    rintro l s hl ⟨f, a⟩
    show ∃ s', Ex d 193 2 [.ref 112, .int (nI ls.length), .int (nI l)] [] G0 s = _ ∧ _
    have q : (nI ls.length ≤ nI l) = False := by rw [nJ_le (by omega) (by omega)]; exact eq_false (by omega)
    have s34 : s 112 34 = nI w := by rw [f 112 34 (by omega)]; exact h34
    have e32 : (32 : Int32) + nI l = nI (32 + l) := nI_add 32 l
    have ew : nI (16 * w) + nI l = nI (16 * w + l) := (Int32.ofNat_add _ _).symm
    have i1 : inb (nI (32 + l)) 48 = true := inb_n (by omega) (by omega)
    have i2 : inb (nI (16 * w + l)) 48 = true := inb_n (by omega) (by omega)
    have c1 : (nI (32 + l)).toNatClampNeg = 32 + l := nI_c (by omega)
    have c2 : (nI (16 * w + l)).toNatClampNeg = 16 * w + l := nI_c (by omega)
    have p1 : ∀ v, pt s 127 (16 * w + l) v 112 34 = nI w := fun v => by rw [pt_q (by decide)]; exact s34
    have p2 : ∀ v u, pt (pt s 127 (16 * w + l) v) 128 (16 * w + l) u 112 34 = nI w := fun v u => by rw [pt_q (by decide)]; exact p1 v
    have o1 : ∀ k, s 127 (32 + k) = σ 127 (32 + k) := fun k => f 127 _ (by omega)
    have o2 : ∀ k, s 128 (32 + k) = σ 128 (32 + k) := fun k => f 128 _ (by omega)
    have o3 : ∀ k, s 129 (32 + k) = σ 129 (32 + k) := fun k => f 129 _ (by omega)
    rw [b193_2]
    simp only [q, i10, i01, eq_self, if_true, if_false, true_and, false_and, and_true, and_false, not_true, not_false_iff, true_or, or_true, false_or, or_false, ne_eq, not_true_eq_false, not_false_eq_true, e32, i1, s34, em, ew, i2, c1, c2, p1, p2, b193_53, nI_s]
    refine ⟨_, rfl, FX_p (FX_p (FX_p f ⟨Or.inl rfl, by omega, by omega⟩) ⟨Or.inr (Or.inl rfl), by omega, by omega⟩) ⟨Or.inr (Or.inr rfl), by omega, by omega⟩, fun k hk => ?_⟩
    by_cases e : k = l
    · subst e
      refine ⟨?_, ?_, ?_⟩
      · rw [pt_q (by decide), pt_q (by decide), pt_e, o1]
      · rw [pt_q (by decide), pt_e, pt_q (by decide), o2]
      · rw [pt_e, pt_q (by decide), pt_q (by decide), o3]
    · obtain ⟨b1, b2, b3⟩ := a k (by omega)
      refine ⟨?_, ?_, ?_⟩
      · rw [pt_q (by decide), pt_q (by decide), pt_k (by omega), b1]
      · rw [pt_q (by decide), pt_k (by omega), pt_q (by decide), b2]
      · rw [pt_k (by omega), pt_q (by decide), pt_q (by decide), b3])
  rw [show Ex d 193 2 [.ref 112, .int (nI ls.length), .int 0] [] G0 σ = _ from e1]
  show ∃ σ', Ex d 193 2 [.ref 112, .int (nI ls.length), .int (nI ls.length)] [] G0 s1 = _ ∧ _
  have q : (nI ls.length ≤ nI ls.length) = True := by rw [nJ_le (by omega) (by omega)]; exact eq_true (by omega)
  rw [b193_2]
  simp only [q, i10, i01, eq_self, if_true, if_false, true_and, false_and, and_true, and_false, not_true, not_false_iff, true_or, or_true, false_or, or_false, ne_eq, not_true_eq_false, not_false_eq_true]
  obtain ⟨s2, e2, f2, a2⟩ := loop_ex (fun l (s : Sig) => Ex d 193 84 [.ref 112, .int (nI ls.length), .int (nI l)] [] G0 s) (fun l s => FX (fun q k => (q = 130 ∨ q = 131) ∧ 400 * w ≤ k ∧ k < 400 * w + 400) s1 s ∧ ∀ k, k < l → s 130 (400 * w + k) = σ 130 (800 + k) ∧ s 131 (400 * w + k) = σ 131 (800 + k)) (tot ls).length s1 ⟨FX_r, fun k hk => absurd hk (Nat.not_lt_zero k)⟩ (by
    rintro l s hl ⟨f, a⟩
    show ∃ s', Ex d 193 84 [.ref 112, .int (nI ls.length), .int (nI l)] [] G0 s = _ ∧ _
    have s35 : s 112 35 = nI (tot ls).length := by rw [f 112 35 (by omega), f1 112 35 (by omega)]; exact hC.1
    have s34 : s 112 34 = nI w := by rw [f 112 34 (by omega), f1 112 34 (by omega)]; exact h34
    have q : (nI (tot ls).length ≤ nI l) = False := by rw [nJ_le (by omega) (by omega)]; exact eq_false (by omega)
    have e8 : (800 : Int32) + nI l = nI (800 + l) := nI_add 800 l
    have ew : nI (400 * w) + nI l = nI (400 * w + l) := (Int32.ofNat_add _ _).symm
    have i1 : inb (nI (800 + l)) 1200 = true := inb_n (by omega) (by omega)
    have i2 : inb (nI (400 * w + l)) 1200 = true := inb_n (by omega) (by omega)
    have c1 : (nI (800 + l)).toNatClampNeg = 800 + l := nI_c (by omega)
    have c2 : (nI (400 * w + l)).toNatClampNeg = 400 * w + l := nI_c (by omega)
    have p1 : ∀ v, pt s 130 (400 * w + l) v 112 34 = nI w := fun v => by rw [pt_q (by decide)]; exact s34
    have o1 : ∀ k, s 130 (800 + k) = σ 130 (800 + k) := fun k => by rw [f 130 _ (by omega), f1 130 _ (by omega)]
    have o2 : ∀ k, s 131 (800 + k) = σ 131 (800 + k) := fun k => by rw [f 131 _ (by omega), f1 131 _ (by omega)]
    rw [b193_84]
    simp only [s35, q, i10, i01, eq_self, if_true, if_false, true_and, false_and, and_true, and_false, not_true, not_false_iff, true_or, or_true, false_or, or_false, ne_eq, not_true_eq_false, not_false_eq_true, e8, i1, s34, em4, ew, i2, c1, c2, p1, b193_142, nI_s]
    refine ⟨_, rfl, FX_p (FX_p f ⟨Or.inl rfl, by omega, by omega⟩) ⟨Or.inr rfl, by omega, by omega⟩, fun k hk => ?_⟩
    by_cases e : k = l
    · subst e
      refine ⟨?_, ?_⟩
      · rw [pt_q (by decide), pt_e, o1]
      · rw [pt_e, pt_q (by decide), o2]
    · obtain ⟨b1, b2⟩ := a k (by omega)
      refine ⟨?_, ?_⟩
      · rw [pt_q (by decide), pt_k (by omega), b1]
      · rw [pt_k (by omega), pt_q (by decide), b2])
  rw [show Ex d 193 84 [.ref 112, .int (nI ls.length), .int 0] [] G0 s1 = _ from e2]
  show ∃ σ', Ex d 193 84 [.ref 112, .int (nI ls.length), .int (nI (tot ls).length)] [] G0 s2 = _ ∧ _
  have s35 : s2 112 35 = nI (tot ls).length := by rw [f2 112 35 (by omega), f1 112 35 (by omega)]; exact hC.1
  have s34 : s2 112 34 = nI w := by rw [f2 112 34 (by omega), f1 112 34 (by omega)]; exact h34
  have q2 : (nI (tot ls).length ≤ nI (tot ls).length) = True := by rw [nJ_le (by omega) (by omega)]; exact eq_true (by omega)
  rw [b193_84]
  simp only [s35, q2, i10, i01, eq_self, if_true, if_false, true_and, false_and, and_true, and_false, not_true, not_false_iff, true_or, or_true, false_or, or_false, ne_eq, not_true_eq_false, not_false_eq_true, s34, inb_n hw (show w < 2 ^ 31 by omega), nI_c (show w < 2 ^ 31 by omega)]
  refine ⟨_, rfl, ⟨fun k hk => ?_, fun k hk => ?_⟩, pt_e, FX_p (FX_t (FX_m f1 (fun q k hq => by omega)) (FX_m f2 (fun q k hq => by omega))) (Or.inl ⟨rfl, rfl⟩)⟩
  · rw [pt_q (by decide), pt_q (by decide), pt_q (by decide), f2 127 _ (by omega), f2 128 _ (by omega), f2 129 _ (by omega), (a1 k hk).1, (a1 k hk).2.1, (a1 k hk).2.2]
    exact hL k hk
  · rw [pt_q (by decide), pt_q (by decide), (a2 k hk).1, (a2 k hk).2]
    exact hC.2 k hk
