/-! L3: the class's parting, all rounds -/
theorem su_mono {f : Nat → Nat} {n m : Nat} (h : n ≤ m) : su f n ≤ su f m := by
  induction h with
  | refl => exact Nat.le_refl _
  | step _ ih => rw [su]; omega
theorem c_part (d : Nat) (σ : Sig) (a1 a2 : Int32) (h : Nat → Bool) (s c : Nat → Nat)
    (hs : ∀ p, p < 8 → h p = true → σ 71 p = nI (s p) ∧ 0 < s p ∧ s p ≤ 999) (hc : ∀ p, p < 8 → h p = true → σ 72 p = nI (c p) ∧ c p ≤ 300) :
    ∀ f, f ≤ 9 → ∀ (l : Nat) (h' : Nat → Bool) (am : Int32) (σ1 : Sig) (ld : Nat → Nat) (t : Bool) (v6 v7 : Value), l ≤ 999 → isM am h' → (∀ p, p < 8 → h' p = true → h p = true) → Fr [68] [(67, 3)] σ σ1 →
      (∀ p, p < 8 → h p = true → ¬ h' p = true → σ1 68 p = nI (ld p)) → (∀ p, p < 8 → ¬ h p = true → σ1 68 p = σ 68 p) → σ1 67 3 = bI (t = true) →
      ∃ σ', Ex (d + 1) 7 8 [.ref 67, .int a1, .int a2, .int (nI l), .int am, .int (nI (9 - f)), v6, v7] [] G0 σ1 = some (some (.int (bI ((partS c f l (fun p => if h' p = true then s p else 0) ld).isSome = true))), G0, σ')
        ∧ Fr [68] [(67, 3)] σ σ'
        ∧ (match partS c f l (fun p => if h' p = true then s p else 0) ld with
          | some g => ∀ p, p < 8 → σ' 68 p = if h p = true then nI (g p) else σ 68 p
          | none => ∀ p, p < 8 → σ' 68 p = 0)
        ∧ σ' 67 3 = bI (t = true ∨ (0 < f ∧ su (fun p => if h' p = true then s p else 0) 8 ≠ 0 ∧ anyB (byd c l (fun p => if h' p = true then s p else 0)) = true)) := by
  intro f
  induction f with
  | zero =>
    intro _ l h' am σ1 ld t v6 v7 hl ha hh f1 f2 f3 f4
    rw [b7_8]
    have e9 : ((8 : Int32) < nI (9 - 0)) = True := eq_true (by decide)
    simp only [e9, i10, i01, eq_self, if_true, if_false, true_and, false_and, and_true, and_false, not_true, not_false_iff, true_or, or_true, false_or, or_false, ne_eq, not_true_eq_false, not_false_eq_true, c_fill68, Option.bind_some, Option.toList_some, Option.toList_none, List.cons_append, List.nil_append, i01a, i01b, if_true, if_false, b7_0, b7_27, b7_62, b7_109, b7_138]
    refine ⟨_, rfl, ?_, ?_, ?_⟩
    · intro q k hq ht
      rw [fiS_q (fun e => hq (by simp [e]))]; exact f1 q k hq ht
    · exact fun p hp => fiS_k hp
    · rw [fiS_q (by decide), f4]; simp
  | succ f ih =>
    intro hf l h' am σ1 ld t v6 v7 hl ha hh f1 f2 f3 f4
    generalize hS : (fun p => if h' p = true then s p else 0) = S
    have hSp : ∀ p, h' p = true → S p = s p := fun p k => by rw [← hS]; simp only [k, if_true]
    have hSn : ∀ p, ¬ h' p = true → S p = 0 := fun p k => by rw [← hS]; simp only [k]; rfl
    rw [b7_8]
    have e9 : ((8 : Int32) < nI (9 - (f + 1))) = False := by
      have : ((8 : Int32) < nI (9 - (f + 1))) = (8 < 9 - (f + 1)) := nJ_lt (a := 8) (by omega) (by omega)
      rw [this]; exact eq_false (by omega)
    simp only [e9, M_z ha, i10, i01, eq_self, if_true, if_false, true_and, false_and, and_true, and_false, not_true, not_false_iff, true_or, or_true, false_or, or_false, ne_eq, not_true_eq_false, not_false_eq_true]
    by_cases ne : ∀ p, p < 8 → h' p = false
    · have z : su S 8 = 0 := su_z.mpr (fun p hp => hSn p (by rw [ne p hp]; decide))
      simp only [eq_true ne, i10, i01, eq_self, if_true, if_false, true_and, false_and, and_true, and_false, not_true, not_false_iff, true_or, or_true, false_or, or_false, ne_eq, not_true_eq_false, not_false_eq_true, c_fill68, Option.bind_some, Option.toList_some, Option.toList_none, List.cons_append, List.nil_append, i01a, i01b, if_true, if_false, b7_0, b7_27, b7_62, b7_109, b7_138]
      have pz : partS c (f + 1) l S ld = none := by rw [partS, if_pos z]
      refine ⟨_, by rw [pz]; rfl, ?_, ?_, ?_⟩
      · intro q k hq ht
        rw [fiS_q (fun e => hq (by simp [e]))]; exact f1 q k hq ht
      · rw [pz]; exact fun p hp => fiS_k hp
      · rw [fiS_q (by decide), f4]
        have : ¬ su S 8 ≠ 0 := fun e => e z
        simp [z]
    · have ne' : ∃ p, p < 8 ∧ h' p = true := by
        apply Classical.byContradiction
        intro k
        refine ne (fun p hp => ?_)
        cases e : h' p with
        | false => rfl
        | true => exact absurd ⟨p, hp, e⟩ k
      have e71 : σ1 71 = σ 71 := Fr_q f1 (by decide) (by simp)
      have e72 : σ1 72 = σ 72 := Fr_q f1 (by decide) (by simp)
      have hpos : 0 < su S 8 := by
        obtain ⟨p, hp, k⟩ := ne'
        have := su_one (f := S) hp
        rw [hSp p k] at this
        have := (hs p hp (hh p hp k)).2.1
        omega
      obtain ⟨σ2, r, e, g1, g2, g3⟩ := c_partOnce d σ1 l am h' s c hl ha (fun p hp k => by rw [e71]; exact hs p hp (hh p hp k)) (fun p hp k => by rw [e72]; exact hc p hp (hh p hp k)) ne'
      rw [hS] at g2 g3
      simp only [eq_false ne, i10, i01, eq_self, if_true, if_false, true_and, false_and, and_true, and_false, not_true, not_false_iff, true_or, or_true, false_or, or_false, ne_eq, not_true_eq_false, not_false_eq_true, e, Option.bind_some, Option.toList_some, Option.toList_none, List.cons_append, List.nil_append, i01a, i01b, if_true, if_false]
      have z2 : σ2 67 3 = bI (t = true) := by rw [g1 67 3 (by decide) (by simp)]; exact f4
      have fr2 : Fr [68] [(67, 3)] σ σ2 := Fr_t f1 (Fr_m g1 (fun q hq => hq) (fun x hx => by simp at hx))
      have hz := M_z g2
      have hz2 : (∀ p, p < 8 → (h' p && byd c l S p) = false) = (anyB (byd c l S) = false) := by
        refine propext ⟨fun k => anyB_f.mpr (fun p hp => ?_), fun k p hp => by rw [anyB_f.mp k p hp, Bool.and_false]⟩
        have := k p hp
        by_cases m : h' p = true
        · rw [m, Bool.true_and] at this; exact this
        · refine decide_eq_false ?_
          unfold qt; rw [hSn p m, Nat.mul_zero, Nat.zero_div]; omega
      rw [hz2] at hz
      have hSc : ∀ p, ¬ h' p = true → byd c l S p = false := fun p m => by
        refine decide_eq_false ?_
        unfold qt; rw [hSn p m, Nat.mul_zero, Nat.zero_div]; omega
      by_cases nb : anyB (byd c l S) = false
      · -- nobody beyond what he CAN
        rw [eq_true nb] at hz
        have hz' : r = 0 := of_eq_true hz
        subst hz'
        have hqs : su (fun p => if h' p = true then qt l S p else 0) 8 = su (qt l S) 8 := su_c (fun p hp => by
          by_cases m : h' p = true
          · simp only [m, if_true]
          · simp only [m]; unfold qt; rw [hSn p m, Nat.mul_zero, Nat.zero_div]; rfl)
        have hq1 : su (qt l S) 8 ≤ l := (su_div8 hpos).1
        have ps : partS c (f + 1) l S ld = some (fin l S ld) := by
          rw [partS, if_neg (by omega), if_neg (by rw [nb]; decide)]
        have hh2 : (fun p => decide (0 < S p)) = h' ∨ True := Or.inr trivial
        have hnd_eq : ∀ n, n ≤ 8 → ∀ x : Nat × (Nat → Nat), hnd (fun p => decide (0 < S p)) n x = hnd h' n x := by
          intro n
          induction n with
          | zero => intro _ x; rfl
          | succ n ihn =>
            intro hn x
            rw [hnd, hnd, ihn (by omega)]
            have : (decide (0 < S n) = true) = (h' n = true) := by
              by_cases m : h' n = true
              · rw [hSp n m, eq_true m]
                exact eq_true (decide_eq_true (hs n (by omega) (hh n (by omega) m)).2.1)
              · rw [hSn n m, eq_false m]; simp
            simp only [this]
        have hnd_ld : ∀ n, n ≤ 8 → ∀ (x : Nat) (A B : Nat → Nat), (∀ p, p < 8 → h' p = true → A p = B p) → (hnd h' n (x, A)).1 = (hnd h' n (x, B)).1 ∧ (∀ p, p < 8 → h' p = true → (hnd h' n (x, A)).2 p = (hnd h' n (x, B)).2 p) ∧ (∀ p, ¬ h' p = true → (hnd h' n (x, A)).2 p = A p) := by
          intro n
          induction n with
          | zero => intro _ x A B hAB; exact ⟨rfl, hAB, fun _ _ => rfl⟩
          | succ n ihn =>
            intro hn x A B hAB
            obtain ⟨j1, j2, j3⟩ := ihn (by omega) x A B hAB
            rw [hnd, hnd]
            by_cases m : h' n = true ∧ 0 < (hnd h' n (x, B)).1
            · have m2 : h' n = true ∧ 0 < (hnd h' n (x, A)).1 := by rw [j1]; exact m
              simp only [m, m2, and_self, if_true]
              refine ⟨by rw [j1], fun p hp k => ?_, fun p k => ?_⟩
              · by_cases eq : p = n
                · subst eq; simp only [if_true]; rw [j2 p hp k]
                · simp only [eq, if_false]; exact j2 p hp k
              · by_cases eq : p = n
                · subst eq; exact absurd m.1 k
                · simp only [eq, if_false]; exact j3 p k
            · have m2 : ¬ (h' n = true ∧ 0 < (hnd h' n (x, A)).1) := by rw [j1]; exact m
              simp only [m, m2, if_false]
              exact ⟨j1, j2, j3⟩
        have fin_eq : ∀ p, p < 8 → fin l S ld p = if h' p = true then (hnd h' 8 (l - su (qt l S) 8, qt l S)).2 p else ld p := by
          intro p hp
          unfold fin
          rw [hnd_eq 8 (Nat.le_refl 8)]
          obtain ⟨_, j2, j3⟩ := hnd_ld 8 (Nat.le_refl 8) (l - su (qt l S) 8) (fun p => if 0 < S p then qt l S p else ld p) (qt l S) (fun q hq m => by
            rw [if_pos (by rw [hSp q m]; exact (hs q hq (hh q hq m)).2.1)])
          by_cases m : h' p = true
          · rw [if_pos m]; exact j2 p hp m
          · rw [if_neg m, j3 p m, hSn p m]; rfl
        have ho : ∀ v : Int32, ∃ σ', Ex d 9 0 [.ref 67, .int (nI l), .int am, .null, .null] [] G0 (pt σ2 67 3 v) = some (none, G0, σ') ∧ Fr [68] [(67, 3)] σ σ' ∧ σ' 67 3 = v ∧ ∀ p, p < 8 → σ' 68 p = if h p = true then nI (fin l S ld p) else σ 68 p := by
          intro v
          obtain ⟨σ3, e3, k1, k2⟩ := c_handOut d (pt σ2 67 3 v) l am h' (qt l S) hl ha (fun p hp m => by
            rw [pt_q (by decide), g3 p hp, if_pos m]) (by rw [hqs]; exact hq1)
          refine ⟨σ3, e3, ?_, ?_, fun p hp => ?_⟩
          · exact Fr_t (Fr_p fr2 (Or.inr (by simp))) (Fr_m k1 (fun q hq => hq) (fun x hx => by simp at hx))
          · rw [k1 67 3 (by decide) (by simp), pt_e]
          · rw [k2 p hp, hqs, fin_eq p hp, pt_q (by decide), g3 p hp]
            by_cases m : h' p = true
            · rw [if_pos m, if_pos (hh p hp m), if_pos m]
            · rw [if_neg m, if_neg m, if_neg m]
              by_cases mm : h p = true
              · rw [if_pos mm]; exact f2 p hp mm m
              · rw [if_neg mm]; exact f3 p hp mm
        cases t with
        | false =>
          have z3 : σ2 67 3 = 0 := z2
          obtain ⟨σ3, e3, k1, k2, k3⟩ := ho 0
          rw [b7_27]
          simp only [z3, i10, i01, eq_self, if_true, if_false, true_and, false_and, and_true, and_false, not_true, not_false_iff, true_or, or_true, false_or, or_false, ne_eq, not_true_eq_false, not_false_eq_true, i01a, e3, Option.bind_some, Option.toList_some, Option.toList_none, List.cons_append, List.nil_append, i01a, i01b, if_true, if_false, b7_62]
          refine ⟨σ3, by rw [ps]; rfl, k1, by rw [ps]; exact k3, ?_⟩
          rw [k2, nb]; simp [bI]
        | true =>
          have z3 : σ2 67 3 = 1 := z2
          obtain ⟨σ3, e3, k1, k2, k3⟩ := ho 1
          rw [b7_27]
          simp only [z3, i10, i01, eq_self, if_true, if_false, true_and, false_and, and_true, and_false, not_true, not_false_iff, true_or, or_true, false_or, or_false, ne_eq, not_true_eq_false, not_false_eq_true, i01b, e3, Option.bind_some, Option.toList_some, Option.toList_none, List.cons_append, List.nil_append, i01a, i01b, if_true, if_false, b7_62]
          refine ⟨σ3, by rw [ps]; rfl, k1, by rw [ps]; exact k3, ?_⟩
          rw [k2]; simp [bI]
      · -- somebody is full
        have nb' : anyB (byd c l S) = true := by
          cases e : anyB (byd c l S) with
          | true => rfl
          | false => exact absurd e nb
        rw [eq_false nb] at hz
        have hlt := byd_lt nb' hpos
        have inner : ∀ v6 : Value, ∃ σ3, Ex (d + 1) 7 67 [.ref 67, .int a1, .int a2, .int (nI l), .int am, .int (nI (9 - (f + 1))), .int r, .int 0] [] G0 (pt σ2 67 3 1)
            = Ex (d + 1) 7 8 [.ref 67, .int a1, .int a2, .int (nI (stp c l S ld).1), .int (am &&& (r ^^^ (-1))), .int (nI (9 - f)), .int r, .int (nI 8)] [] G0 σ3
            ∧ Fr [68] [(67, 3)] σ σ3 ∧ σ3 67 3 = 1 ∧ ∀ p, p < 8 → σ3 68 p = if h' p = true ∧ byd c l S p = true then nI (c p) else σ2 68 p := by
          intro _
          generalize hT : (fun p => if byd c l S p = true then c p else 0) = T at hlt
          obtain ⟨⟨σ3, a⟩, e, i⟩ := loop_ex (fun p (x : Sig × Int32) => Ex (d + 1) 7 67 [.ref 67, .int a1, .int a2, .int x.2, .int am, .int (nI (9 - (f + 1))), .int r, .int (nI p)] [] G0 (x.1))
            (fun p x => Fr [68] [(67, 3)] σ x.1 ∧ x.1 67 3 = 1 ∧ x.2 = nI (l - su T p) ∧ ∀ q, q < 8 → x.1 68 q = if q < p ∧ h' q = true ∧ byd c l S q = true then nI (c q) else σ2 68 q) 8 (pt σ2 67 3 1, nI l)
            ⟨Fr_p fr2 (Or.inr (by simp)), by dsimp only; rw [pt_e], rfl, fun q hq => by simp only [Nat.not_lt_zero, false_and, if_false]; rw [pt_q (by decide)]⟩ (by
            intro p ⟨σ4, a⟩ hp ⟨j1, j2, j3, j4⟩
            dsimp only at j1 j2 j3 j4
            subst j3
            show ∃ a', Ex (d + 1) 7 67 [.ref 67, .int a1, .int a2, .int (nI (l - su T p)), .int am, .int (nI (9 - (f + 1))), .int r, .int (nI p)] [] G0 σ4 = _ ∧ _
            rw [b7_67]
            simp only [b7_0, b7_27, b7_62, b7_109, b7_138, n8 hp, i8 hp, c8 hp, M_t1 g2 hp, i10, i01, eq_self, if_true, if_false, true_and, false_and, and_true, and_false, not_true, not_false_iff, true_or, or_true, false_or, or_false, ne_eq, not_true_eq_false, not_false_eq_true, nI_s]
            have m8 := su_mono (f := T) (show p + 1 ≤ 8 by omega)
            rw [su] at m8
            by_cases k : (h' p && byd c l S p) = true
            · have k' := (Bool.and_eq_true _ _).mp k
              have hT' : T p = c p := by rw [← hT]; simp only [k'.2, if_true]
              have e4 : σ4 72 p = nI (c p) := by
                rw [Fr_q j1 (show (72 : Nat) ∉ [68] by decide) (by simp)]
                exact (hc p hp (hh p hp k'.1)).1
              simp only [k, i10, i01, eq_self, if_true, if_false, true_and, false_and, and_true, and_false, not_true, not_false_iff, true_or, or_true, false_or, or_false, ne_eq, not_true_eq_false, not_false_eq_true, pt_q (show (72 : Nat) ≠ 68 by decide), e4]
              refine ⟨(pt σ4 68 p (nI (c p)), nI (l - su T p) - nI (c p)), rfl, Fr_p j1 (Or.inl (by simp)), by dsimp only; rw [pt_q (by decide)]; exact j2, ?_, fun q hq => ?_⟩
              all_goals dsimp only
              · rw [hT'] at m8
                rw [nI_sub' (by omega), su, hT', Nat.sub_sub]
              · by_cases eq : q = p
                · subst eq; rw [pt_e, if_pos ⟨by omega, k'⟩]
                · rw [pt_k eq, j4 q hq]
                  have : (q < p + 1) = (q < p) := propext (by omega)
                  simp only [this]
            · simp only [k, i10, i01, eq_self, if_true, if_false, true_and, false_and, and_true, and_false, not_true, not_false_iff, true_or, or_true, false_or, or_false, ne_eq, not_true_eq_false, not_false_eq_true]
              have hT' : T p = 0 := by
                rw [← hT]
                by_cases m : h' p = true
                · have : ¬ byd c l S p = true := fun b => k (by rw [m, b]; rfl)
                  simp only [this]; rfl
                · simp only [hSc p m]; rfl
              refine ⟨(σ4, nI (l - su T p)), rfl, j1, j2, ?_, fun q hq => ?_⟩
              · rw [su, hT', Nat.add_zero]
              · show σ4 68 q = _
                rw [j4 q hq]
                by_cases eq : q = p
                · subst eq
                  have : ¬ (h' q = true ∧ byd c l S q = true) := fun b => k ((Bool.and_eq_true _ _).mpr b)
                  simp only [this, and_false]
                · have : (q < p + 1) = (q < p) := propext (by omega)
                  simp only [this])
          obtain ⟨j1, j2, j3, j4⟩ := i
          dsimp only at j1 j2 j3 j4
          refine ⟨σ3, ?_, j1, j2, fun p hp => ?_⟩
          · refine (e : Ex (d + 1) 7 67 [.ref 67, .int a1, .int a2, .int (nI l), .int am, .int (nI (9 - (f + 1))), .int r, .int 0] [] G0 (pt σ2 67 3 1) = _).trans ?_
            show Ex (d + 1) 7 67 [.ref 67, .int a1, .int a2, .int a, .int am, .int (nI (9 - (f + 1))), .int r, .int (nI 8)] [] G0 σ3 = _
            rw [b7_67]
            simp only [n88, i10, i01, eq_self, if_true, if_false, true_and, false_and, and_true, and_false, not_true, not_false_iff, true_or, or_true, false_or, or_false, ne_eq, not_true_eq_false, not_false_eq_true, j3, nI_s]
            rw [show 9 - (f + 1) + 1 = 9 - f by omega]
            unfold stp
            dsimp only
            rw [hT]
          · rw [j4 p hp]
            simp only [hp, true_and]
        obtain ⟨σ3, e3, k1, k2, k3⟩ := inner .null
        have hS2 : (fun p => if (h' p && !(h' p && byd c l S p)) = true then s p else 0) = (stp c l S ld).2.1 := by
          funext p
          unfold stp
          dsimp only
          by_cases m : h' p = true
          · by_cases b : byd c l S p = true
            · simp [m, b]
            · have b' : byd c l S p = false := by simpa using b
              simp [m, b', hSp p m]
          · have m' : h' p = false := by simpa using m
            simp [m', hSc p m, hSn p m]
        have ps : partS c (f + 1) l S ld = partS c f (stp c l S ld).1 (stp c l S ld).2.1 (stp c l S ld).2.2 := by
          rw [partS, if_neg (by omega), if_pos nb']
        obtain ⟨σ', e', q1, q2, q3⟩ := ih (by omega) (stp c l S ld).1 (fun p => h' p && !(h' p && byd c l S p)) (am &&& (r ^^^ (-1))) σ3 (stp c l S ld).2.2 true (.int r) (.int (nI 8))
          (by unfold stp; dsimp only; omega) (M_dif ha g2) (fun p hp k => hh p hp ((Bool.and_eq_true _ _).mp k).1) k1 (fun p hp m n => by
            rw [k3 p hp]
            unfold stp
            dsimp only
            by_cases mm : h' p = true
            · have b : byd c l S p = true := by
                cases e : byd c l S p with
                | true => rfl
                | false => exact absurd (by simp [mm, e]) n
              rw [if_pos ⟨mm, b⟩, if_pos b]
            · rw [if_neg (fun e => mm e.1), g3 p hp, if_neg mm, hSc p mm, hSn p mm]
              exact f2 p hp m mm) (fun p hp m => by
            have mm : ¬ h' p = true := fun e => m (hh p hp e)
            rw [k3 p hp, if_neg (fun e => mm e.1), g3 p hp, if_neg mm]
            exact f3 p hp m) k2
        rw [hS2] at e' q2 q3
        have hr0 : (r = 0) = False := hz
        rw [b7_27]
        have fin3 : ∀ x : Option Out, x = Ex (d + 1) 7 67 [.ref 67, .int a1, .int a2, .int (nI l), .int am, .int (nI (9 - (f + 1))), .int r, .int 0] [] G0 (pt σ2 67 3 1) →
            ∃ σ', x = some (some (.int (bI ((partS c (f + 1) l S ld).isSome = true))), G0, σ') ∧ Fr [68] [(67, 3)] σ σ' ∧ (match partS c (f + 1) l S ld with
          | some g => ∀ p, p < 8 → σ' 68 p = if h p = true then nI (g p) else σ 68 p
          | none => ∀ p, p < 8 → σ' 68 p = 0)
            ∧ σ' 67 3 = bI (t = true ∨ (0 < f + 1 ∧ su S 8 ≠ 0 ∧ anyB (byd c l S) = true)) := by
          intro x hx
          refine ⟨σ', by rw [hx, e3, e', ps], q1, by rw [ps]; exact q2, ?_⟩
          rw [q3, bI_T (Or.inl rfl), bI_T (Or.inr ⟨by omega, by omega, nb'⟩)]
        cases t with
        | false =>
          have z3 : σ2 67 3 = 0 := z2
          simp only [z3, hr0, i10, i01, eq_self, if_true, if_false, true_and, false_and, and_true, and_false, not_true, not_false_iff, true_or, or_true, false_or, or_false, ne_eq, not_true_eq_false, not_false_eq_true, i01b]
          exact fin3 _ rfl
        | true =>
          have z3 : σ2 67 3 = 1 := z2
          simp only [z3, hr0, i10, i01, eq_self, if_true, if_false, true_and, false_and, and_true, and_false, not_true, not_false_iff, true_or, or_true, false_or, or_false, ne_eq, not_true_eq_false, not_false_eq_true, i01b]
          exact fin3 _ rfl
