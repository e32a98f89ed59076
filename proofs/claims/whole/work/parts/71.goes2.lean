/-! L3: goes, both sides -/
theorem c_goesOn (d : Nat) {B T : LW} {σ : Sig} (a : Int32) (hW : WI B T σ) (h0 : σ 67 8 = 0) :
    ∃ σ', Ex (d + 6) 83 0 [.ref 74, .int a, .null, .null, .null] [] G0 σ = some (some (.int (if a = 0 then nI (tjN B T 8000 σ) else if a = 1 then fnW B T σ 1 7 - σ 1 7 else mtS (fnW B T σ))), G0, σ') ∧ Wb σ σ' ∧ Fr SCW SLC σ σ' := by
  obtain ⟨σ1, e1, f1, m1⟩ := c_take75 (d + 3) σ
  rw [b83_0, e1]
  simp only [Option.bind_some, Option.toList_some, Option.toList_none, List.cons_append, List.nil_append, i01a, i01b, if_true, if_false, b83_11]
  have f1' : Fr SCW SLC σ σ1 := Fr_m f1 (by decide) (by simp)
  have r1 : RW true σ σ1 := RW_fr (RW_r hW true) f1 (by decide) (by simp)
  -- the end of thought
  have back : ∀ (σ2 w : Sig) (n : Nat), WI B T w → RW true w σ2 → Ts σ w → MM σ 75 σ2 → Fr SCW SLC σ σ2 → ∃ σ', Ex (d + 5 + 1) 83 50 [.ref 74, .int a, .int (nI n), .null, .null] [] G0 σ2 = some (some (.int (if a = 0 then nI n else if a = 1 then w 1 7 - σ 1 7 else mtS w)), G0, σ') ∧ Wb σ σ' ∧ Fr SCW SLC σ σ' := by
    intro σ2 w n hWw r t m f
    obtain ⟨σ3, e3, f3, m3, k3⟩ := c_give75 (d + 3) σ2
    have hmt := c_mostTired (d + 4) (σ := σ2) hWw (RW_q r (by omega) (by omega) (by omega) (by omega)) (RW_q r (by omega) (by omega) (by omega) (by omega))
    have wb := Th_end (RW_Th r t) m f3 m3 k3
    have s17 : σ2 1 7 = w 1 7 := by rw [RW_q r (by omega) (by omega) (by omega) (by omega)]
    have s37 : σ3 1 7 = σ 1 7 := by rw [wb.1 1 (by omega) (by omega) (by omega) (by omega) (by omega)]
    simp only [b83_50, hmt, Option.bind_some, Option.toList_some, Option.toList_none, List.cons_append, List.nil_append, i01a, i01b, if_true, if_false, b83_68, e3, b83_81, s17, s37]
    refine ⟨σ3, ?_, wb, Fr_t f (Fr_m f3 (by decide) (by decide))⟩
    split
    · rfl
    · split <;> rfl
  have exit : ∀ (σ2 w : Sig) (n : Nat), WI B T w → RW true w σ2 → Ts σ w → MM σ 75 σ2 → Fr SCW SLC σ σ2 → n ≤ 8000 → ∃ σ', (if nI n ≤ 0 then Ex (d + 5 + 1) 83 50 [.ref 74, .int a, .int (nI n), .null, .null] [] G0 σ2 else (Ex (d + 5) 73 0 [.ref 74, .null] [] G0 σ2).bind fun o => Ex (d + 5 + 1) 83 50 [.ref 74, .int a, .int (nI n), .null, .null] (o.1.toList ++ []) o.2.1 o.2.2) = some (some (.int (if a = 0 then nI n else if a = 1 then (if n = 0 then w else psS true w) 1 7 - σ 1 7 else mtS (if n = 0 then w else psS true w))), G0, σ') ∧ Wb σ σ' ∧ Fr SCW SLC σ σ' := by
    intro σ2 w n hWw r t m f hn
    have q : (nI n ≤ 0) = (n = 0) := nI_le0 (by omega)
    by_cases z : n = 0
    · have := back σ2 w n hWw r t m f
      simp only [q, eq_true z, i10, i01, eq_self, if_true, if_false, true_and, false_and, and_true, and_false, not_true, not_false_iff, true_or, or_true, false_or, or_false, ne_eq, not_true_eq_false, not_false_eq_true]
      exact this
    · obtain ⟨σ3, e3, r3, f3⟩ := c_passLines (d + 2) hWw r
      simp only [q, eq_false z, i10, i01, eq_self, if_true, if_false, true_and, false_and, and_true, and_false, not_true, not_false_iff, true_or, or_true, false_or, or_false, ne_eq, not_true_eq_false, not_false_eq_true, e3, Option.bind_some, Option.toList_some, Option.toList_none, List.cons_append, List.nil_append, i01a, i01b, if_true, if_false]
      exact back σ3 (psS true w) n (WI_ps hWw) r3 (Ts_t t (Ts_ps hWw)) (MM_fr m (Fr_q f3 (by decide) (by simp)) (Fr_q f3 (by decide) (by simp)) (Fr_q f3 (by decide) (by simp)) (Fr_q f3 (by decide) (by simp))) (Fr_t f (Fr_m f3 (by decide) (by simp)))
  have main : ∀ k n (w σ2 : Sig), n + k = 8000 → WI B T w → mu w ≤ k → RW true w σ2 → Ts σ w → MM σ 75 σ2 → Fr SCW SLC σ σ2 → ∃ σ', Ex (d + 6) 83 13 [.ref 74, .int a, .int (nI n), .null, .null] [] G0 σ2 = some (some (.int (if a = 0 then nI (n + tjN B T k w) else if a = 1 then (if n + tjN B T k w = 0 then tjW B T k w else psS true (tjW B T k w)) 1 7 - σ 1 7 else mtS (if n + tjN B T k w = 0 then tjW B T k w else psS true (tjW B T k w)))), G0, σ') ∧ Wb σ σ' ∧ Fr SCW SLC σ σ' := by
    intro k
    induction k with
    | zero =>
      intro n w σ2 hn hWw hmu r t m f
      rw [b83_13]
      have q : ((8000 : Int32) ≤ nI n) = True := by
        have : ((8000 : Int32) ≤ nI n) = (8000 ≤ n) := nJ_le (a := 8000) (by omega) (by omega)
        rw [this]; exact eq_true (by omega)
      simp only [q, i10, i01, eq_self, if_true, if_false, true_and, false_and, and_true, and_false, not_true, not_false_iff, true_or, or_true, false_or, or_false, ne_eq, not_true_eq_false, not_false_eq_true]
      exact exit σ2 w n hWw r t m f (by omega)
    | succ k ih =>
      intro n w σ2 hn hWw hmu r t m f
      rw [b83_13]
      have q : ((8000 : Int32) ≤ nI n) = False := by
        have : ((8000 : Int32) ≤ nI n) = (8000 ≤ n) := nJ_le (a := 8000) (by omega) (by omega)
        rw [this]; exact eq_false (by omega)
      simp only [q, i10, i01, eq_self, if_true, if_false, true_and, false_and, and_true, and_false, not_true, not_false_iff, true_or, or_true, false_or, or_false, ne_eq, not_true_eq_false, not_false_eq_true, (fun d => c_hasPace d hWw r), Option.bind_some, Option.toList_some, Option.toList_none, List.cons_append, List.nil_append, i01a, i01b, if_true, if_false, b83_24]
      by_cases hp : hasP w
      · obtain ⟨p1, p2, p3⟩ := ps_ok (th := true) hWw hp
        obtain ⟨σ3, e3, r3, f3⟩ := c_passLines (d + 2) hWw r
        obtain ⟨σ4, e4, r4, f4⟩ := c_takePace d p1 r3 (by rw [f3 67 8 (by decide) (by simp), f 67 8 (by decide) (by decide)]; exact h0) p2 p3
        have e4' : Ex (d + 5) 75 0 [.ref 74, .int 0, .null, .null, .null] [] G0 σ3 = _ := e4
        rw [@bI_T _ (Classical.propDecidable _) hp]
        simp only [i10, i01, eq_self, if_true, if_false, true_and, false_and, and_true, and_false, not_true, not_false_iff, true_or, or_true, false_or, or_false, ne_eq, not_true_eq_false, not_false_eq_true, e3, Option.bind_some, Option.toList_some, Option.toList_none, List.cons_append, List.nil_append, i01a, i01b, if_true, if_false, b83_31, e4', b83_36, nI_s]
        have hmp := mu_pp hWw hp
        obtain ⟨y1, y2⟩ := tj_y (B := B) (T := T) (k := k) hp
        have m4 : MM σ 75 σ4 := MM_fr (MM_fr m (Fr_q f3 (by decide) (by simp)) (Fr_q f3 (by decide) (by simp)) (Fr_q f3 (by decide) (by simp)) (Fr_q f3 (by decide) (by simp))) (Fr_q f4 (by decide) (by decide)) (Fr_q f4 (by decide) (by decide)) (Fr_q f4 (by decide) (by decide)) (Fr_q f4 (by decide) (by decide))
        obtain ⟨σ', e', w', g'⟩ := ih (n + 1) (ppW B T w) σ4 (by omega) (WI_pc p1 p2 p3) (by omega) r4 (Ts_t t (Ts_t (Ts_ps hWw) (Ts_pc p1))) m4 (Fr_t f (Fr_t (Fr_m f3 (by decide) (by simp)) (Fr_m f4 (by decide) (fun x hx => Or.inl hx))))
        refine ⟨σ', ?_, w', g'⟩
        rw [e', y1, y2, show n + 1 + tjN B T k (ppW B T w) = n + (tjN B T k (ppW B T w) + 1) by omega]
      · obtain ⟨y1, y2⟩ := tj_n (B := B) (T := T) (k := k + 1) hp
        rw [@bI_F _ (Classical.propDecidable _) hp, y1, y2, Nat.add_zero]
        simp only [i10, i01, eq_self, if_true, if_false, true_and, false_and, and_true, and_false, not_true, not_false_iff, true_or, or_true, false_or, or_false, ne_eq, not_true_eq_false, not_false_eq_true]
        exact exit σ2 w n hWw r t m f (by omega)
  have hmu : mu σ ≤ 8000 := by have := WI_nx hW; unfold mu; omega
  obtain ⟨σ', e', w', g'⟩ := main 8000 0 σ σ1 rfl hW hmu r1 Ts_r m1 f1'
  refine ⟨σ', ?_, w', g'⟩
  have e2 : Ex (d + 6) 83 13 [.ref 74, .int a, .int 0, .null, .null] [] G0 σ1 = _ := e'
  rw [e2]
  unfold fnW
  rw [Nat.zero_add]
  by_cases z : tjN B T 8000 σ = 0
  · have hp : ¬ hasP σ := fun h => by
      have : tjN B T 8000 σ = _ := (tj_y (B := B) (T := T) (k := 7999) h).1
      omega
    have := (tj_n (B := B) (T := T) (k := 8000) hp).2
    simp only [z, if_true, this]
  · simp only [z, if_false]
theorem c_goes (d : Nat) {B T : LW} {σ : Sig} (a : Int32) (hW : WI B T σ) (h0 : σ 67 8 = 0) : ∃ σ', Ex (d + 7) 121 0 [.ref 0, .int a] [] G0 σ = some (some (.int (goesA B T σ a)), G0, σ') ∧ Wb σ σ' ∧ Fr SCW SLC σ σ' := by
  simp only [b121_0, c_within, Option.bind_some, Option.toList_some, Option.toList_none, List.cons_append, List.nil_append, i01a, i01b, if_true, if_false, b121_6, bI_z, bI_o, bI_em, ite_not]
  unfold goesA
  by_cases h : 0 ≤ a ∧ a ≤ 2
  · obtain ⟨σ', e, w, f⟩ := c_goesOn d a hW h0
    simp only [h, i10, i01, eq_self, if_true, if_false, true_and, false_and, and_true, and_false, not_true, not_false_iff, true_or, or_true, false_or, or_false, ne_eq, not_true_eq_false, not_false_eq_true, e, Option.bind_some, Option.toList_some, Option.toList_none, List.cons_append, List.nil_append, i01a, i01b, if_true, if_false, b121_17]
    exact ⟨σ', rfl, w, f⟩
  · simp only [h, i10, i01, eq_self, if_true, if_false, true_and, false_and, and_true, and_false, not_true, not_false_iff, true_or, or_true, false_or, or_false, ne_eq, not_true_eq_false, not_false_eq_true]
    exact ⟨σ, rfl, Wb_r, Fr_r⟩
theorem pc_6 {B T : LW} {th : Bool} {ω : Sig} : pcW B T th ω 1 6 = ω 1 6 + 1 := by
  unfold pcW
  have : ∀ g, stW B T th (lgS th ω (nx ω)).1 (ω 23 (nx ω)) (ω 24 (nx ω)) g 1 6 = ω 1 6 + 1 := fun g => by
    unfold stW; rw [pt_e, lg_1 (by decide)]
  split
  · rw [pt_k (by decide), this]
  · rw [pt_k (by decide), pt_k (by decide), this]
theorem m_goes (d : Nat) {B T : LW} {ω σ : Sig} (a : Int32) (hM : MR B T ω σ) (hW : WI B T ω) (h5 : σ 112 5 = 0) :
    ∃ σ', Ex (d + 8) 257 0 [.ref 112, .int a, .null] [] G0 σ = some (some (.int (goesA B T ω a)), G0, σ') ∧ Fr SCF [(112, 0), (112, 49), (112, 5)] σ σ' ∧ (∀ k, k < 31 → σ' 113 k = σ 113 k) ∧ σ' 112 5 = 0 ∧ MR B T ω σ' := by
  have f0 : Fr SCF [(112, 0), (112, 49), (112, 5)] σ (pt σ 112 0 0) := Fr_p Fr_r (Or.inr (by simp))
  have hM0 : MR B T ω (pt σ 112 0 0) := MR_S hM (Fr_p Fr_r (Or.inr (by simp)) : Fr [] [(112, 0)] σ (pt σ 112 0 0)) (by decide) (by simp)
  simp only [b257_0, m_isIn, Option.bind_some, Option.toList_some, Option.toList_none, List.cons_append, List.nil_append, i01a, i01b, if_true, if_false, b257_12, bI_z, bI_o, bI_em, ite_not]
  unfold goesA
  by_cases h : 0 ≤ a ∧ a ≤ 2
  · obtain ⟨σ1, e1, f1, k1, t1⟩ := m_thinks (d + 7) (pt σ 112 0 0)
    have hM1 : MR B T ω σ1 := MR_S hM0 f1 (by decide) (by decide)
    simp only [h, i10, i01, eq_self, if_true, if_false, true_and, false_and, and_true, and_false, not_true, not_false_iff, true_or, or_true, false_or, or_false, ne_eq, not_true_eq_false, not_false_eq_true, e1, Option.bind_some, Option.toList_some, Option.toList_none, List.cons_append, List.nil_append, i01a, i01b, if_true, if_false]
    have fr1 : Fr SCF [(112, 0), (112, 49), (112, 5)] σ σ1 := Fr_t f0 (Fr_m f1 (by decide) (by decide))
    have k1' : ∀ k, k < 31 → σ1 115 k = σ 113 k := fun k hk => by rw [k1 k hk, pt_q (by decide)]
    have exit : ∀ (n : Nat) (w u σ2 : Sig), WI B T w → WI B T u → ¬ hasP u → u = (if n = 0 then w else psS true w) → w 1 6 = ω 1 6 + nI n → MR B T u σ2 → Fr SCF [(112, 0), (112, 49), (112, 5)] σ σ2 → (∀ k, k < 31 → σ2 115 k = σ 113 k) →
        ∃ σ', Ex (d + 8) 257 21 [.ref 112, .int a, .null] [] G0 σ2 = some (some (.int (if a = 0 then nI n else if a = 1 then (if n = 0 then w else psS true w) 1 7 - ω 1 7 else mtS (if n = 0 then w else psS true w))), G0, σ') ∧ Fr SCF [(112, 0), (112, 49), (112, 5)] σ σ' ∧ (∀ k, k < 31 → σ' 113 k = σ 113 k) ∧ σ' 112 5 = 0 ∧ MR B T ω σ' := by
      intro n w u σ2 hWw hWu nu eu h6 m f k2
      have hn := WI_nx hWw
      have u6 : u 1 6 = ω 1 6 + nI n := by
        rw [eu]
        split
        · exact h6
        · have a8 := (psW_spec (th := true) (wl w - nx w) w hWw (by omega)).2.2.2.2.2.2.2
          rw [show psS true w 1 6 = w 1 6 from a8 6 (by decide)]; exact h6
      obtain ⟨σ3, e3, f3, k3, t3, _⟩ := m_ends (d + 6) σ2
      have f4 : Fr SCF [(112, 0), (112, 49), (112, 5)] σ σ3 := Fr_t f (Fr_m f3 (by decide) (by decide))
      have h113 : ∀ k, k < 31 → σ3 113 k = σ 113 k := fun k c => by rw [k3 k c, k2 k c]
      have mb : MR B T ω σ3 := MR_back hM h113 (fun q hq => Fr_q f4 (by revert hq; unfold SCF; simp; omega) (by revert hq; simp; omega)) (fun k hk => f4 112 k (by decide) (by revert hk; simp; omega))
      have v0 : σ2 113 0 - σ2 115 0 = nI n := by
        rw [show σ2 113 0 = u 1 6 from m 7, k2 0 (by decide), show σ 113 0 = ω 1 6 from hM 7, u6, Int32.add_comm, Int32.add_sub_cancel]
      have v3 : σ2 113 3 - σ2 115 3 = u 1 7 - ω 1 7 := by
        rw [show σ2 113 3 = u 1 7 from m 10, k2 3 (by decide), show σ 113 3 = ω 1 7 from hM 10]
      rw [b257_21]
      simp only [(fun d => m_hasPace d m hWu), Option.bind_some, Option.toList_some, Option.toList_none, List.cons_append, List.nil_append, i01a, i01b, if_true, if_false, b257_25]
      rw [@bI_F _ (Classical.propDecidable _) nu, ← eu]
      simp only [i10, i01, eq_self, if_true, if_false, true_and, false_and, and_true, and_false, not_true, not_false_iff, true_or, or_true, false_or, or_false, ne_eq, not_true_eq_false, not_false_eq_true, v0, v3, (fun d => m_mostTired d m hWu), Option.bind_some, Option.toList_some, Option.toList_none, List.cons_append, List.nil_append, i01a, i01b, if_true, if_false, b257_80, e3, b257_85]
      refine ⟨σ3, ?_, f4, h113, t3, mb⟩
      by_cases z : a = 0
      · simp only [z, i10, i01, eq_self, if_true, if_false, true_and, false_and, and_true, and_false, not_true, not_false_iff, true_or, or_true, false_or, or_false, ne_eq, not_true_eq_false, not_false_eq_true]
      · by_cases z1 : a = 1
        · simp only [z1, i10, i01, eq_self, if_true, if_false, true_and, false_and, and_true, and_false, not_true, not_false_iff, true_or, or_true, false_or, or_false, ne_eq, not_true_eq_false, not_false_eq_true]
        · simp only [z, z1, i10, i01, eq_self, if_true, if_false, true_and, false_and, and_true, and_false, not_true, not_false_iff, true_or, or_true, false_or, or_false, ne_eq, not_true_eq_false, not_false_eq_true]
    have main : ∀ k n (w u σ2 : Sig), WI B T w → WI B T u → mu w ≤ k → (hasP w → u = w) → (¬ hasP w → u = if n = 0 then w else psS true w) → (hasP u → hasP w) → w 1 6 = ω 1 6 + nI n → n + k ≤ 8000 → MR B T u σ2 → σ2 112 5 = 1 → Fr SCF [(112, 0), (112, 49), (112, 5)] σ σ2 → (∀ k, k < 31 → σ2 115 k = σ 113 k) →
        ∃ σ', Ex (d + 8) 257 21 [.ref 112, .int a, .null] [] G0 σ2 = some (some (.int (if a = 0 then nI (n + tjN B T k w) else if a = 1 then (if n + tjN B T k w = 0 then tjW B T k w else psS true (tjW B T k w)) 1 7 - ω 1 7 else mtS (if n + tjN B T k w = 0 then tjW B T k w else psS true (tjW B T k w)))), G0, σ') ∧ Fr SCF [(112, 0), (112, 49), (112, 5)] σ σ' ∧ (∀ k, k < 31 → σ' 113 k = σ 113 k) ∧ σ' 112 5 = 0 ∧ MR B T ω σ' := by
      intro k
      induction k with
      | zero =>
        intro n w u σ2 hWw hWu hmu hy hno hup h6 hnk m t f k2
        have np : ¬ hasP w := fun h => by have := mu_has hWw h; omega
        exact exit n w u σ2 hWw hWu (fun h => np (hup h)) (hno np) h6 m f k2
      | succ k ih =>
        intro n w u σ2 hWw hWu hmu hy hno hup h6 hnk m t f k2
        by_cases hp : hasP w
        · have eu := hy hp
          subst eu
          obtain ⟨p1, p2, p3⟩ := ps_ok (th := true) hWw hp
          obtain ⟨σ3, e3, _, g3, m3⟩ := m_goesBy d m hWw (th := true) (by rw [t]; rfl) hp
          have f3 := g3 rfl
          rw [b257_21]
          simp only [(fun d => m_hasPace d m hWw), Option.bind_some, Option.toList_some, Option.toList_none, List.cons_append, List.nil_append, i01a, i01b, if_true, if_false, b257_25]
          rw [@bI_T _ (Classical.propDecidable _) hp]
          simp only [i10, i01, eq_self, if_true, if_false, true_and, false_and, and_true, and_false, not_true, not_false_iff, true_or, or_true, false_or, or_false, ne_eq, not_true_eq_false, not_false_eq_true, e3, Option.bind_some, Option.toList_some, Option.toList_none, List.cons_append, List.nil_append, i01a, i01b, if_true, if_false, b257_32]
          have hWp : WI B T (ppW B T u) := WI_pc p1 p2 p3
          have hWg := WI_go (th := true) hWw hp
          have hn := WI_nx hWw
          have hmp := mu_pp hWw hp
          obtain ⟨y1, y2⟩ := tj_y (B := B) (T := T) (k := k) hp
          have g1 : hasP (ppW B T u) → goW B T true u = ppW B T u := fun h => by unfold goW; exact if_pos h
          have g2 : ¬ hasP (ppW B T u) → goW B T true u = psS true (ppW B T u) := fun h => by unfold goW; exact if_neg h
          have a8 := (psW_spec (th := true) (wl u - nx u) u hWw (by omega)).2.2.2.2.2.2.2
          obtain ⟨σ', e', w'⟩ := ih (n + 1) (ppW B T u) (goW B T true u) σ3 hWp hWg (by omega) g1 (fun h => by rw [g2 h, if_neg (by omega)]) (fun h => by
            apply Classical.byContradiction
            intro np
            rw [g2 np] at h
            obtain ⟨l, l1, l2, l3⟩ := h
            have hn2 := WI_nx hWp
            obtain ⟨_, b2, b3, _, _, _, b7, _⟩ := psW_spec (th := true) (wl (ppW B T u) - nx (ppW B T u)) (ppW B T u) hWp (by omega)
            refine np ⟨l, Nat.le_trans b3 l1, by rw [← b2]; exact l2, ?_⟩
            have e21 : psS true (ppW B T u) 21 = ppW B T u 21 := b7 21 (by decide)
            unfold paced at l3 ⊢; rw [e21] at l3; exact l3) (by
            unfold ppW; rw [pc_6, show psS true u 1 6 = u 1 6 from a8 6 (by decide), h6, Int32.add_assoc, nI_s]) (by omega) m3 (by rw [f3 112 5 (by decide) (by simp)]; exact t) (Fr_t f (Fr_m f3 (by decide) (by simp))) (fun j hj => by rw [f3 115 j (by decide) (by simp)]; exact k2 j hj)
          refine ⟨σ', ?_, w'⟩
          rw [e', y1, y2, show n + 1 + tjN B T k (ppW B T u) = n + (tjN B T k (ppW B T u) + 1) by omega]
        · obtain ⟨y1, y2⟩ := tj_n (B := B) (T := T) (k := k + 1) hp
          rw [y1, y2, Nat.add_zero]
          exact exit n w u σ2 hWw hWu (fun h => hp (hup h)) (hno hp) h6 m f k2
    have hmu : mu ω ≤ 8000 := by have := WI_nx hW; unfold mu; omega
    obtain ⟨σ', e', w'⟩ := main 8000 0 ω ω σ1 hW hW hmu (fun _ => rfl) (fun _ => by rw [if_pos rfl]) (fun h => h) (by show ω 1 6 = ω 1 6 + 0; rw [Int32.add_zero]) (by omega) hM1 t1 fr1 k1'
    refine ⟨σ', ?_, w'⟩
    rw [e']
    unfold fnW
    rw [Nat.zero_add]
    by_cases z : tjN B T 8000 ω = 0
    · have hp : ¬ hasP ω := fun h => by
        have : tjN B T 8000 ω = _ := (tj_y (B := B) (T := T) (k := 7999) h).1
        omega
      have := (tj_n (B := B) (T := T) (k := 8000) hp).2
      simp only [z, if_true, this]
    · simp only [z, if_false]
  · simp only [h, i10, i01, eq_self, if_true, if_false, true_and, false_and, and_true, and_false, not_true, not_false_iff, true_or, or_true, false_or, or_false, ne_eq, not_true_eq_false, not_false_eq_true]
    exact ⟨_, rfl, f0, fun k hk => by rw [pt_q (by decide)], by rw [pt_k (by decide)]; exact h5, hM0⟩
