/-! L3: the model bears -/
def SCM : List Nat := [134, 135, 136, 137]
theorem m_sharesLeft (d : Nat) (σ : Sig) (s : Nat → Nat) (hs : ∀ p, p < 8 → σ 137 p = nI (s p)) : Ex d 211 0 [.ref 112, .null, .null] [] G0 σ = some (some (.int (nI (su s 8))), G0, σ) := by
  rw [b211_0]
  obtain ⟨a, e, i⟩ := loop_ex (fun p (a : Int32) => Ex d 211 4 [.ref 112, .int a, .int (nI p)] [] G0 σ) (fun p a => a = nI (su s p)) 8 0 rfl (by
    intro p a hp i
    subst i
    rw [b211_4]
    simp only [b211_0, b211_10, b211_25, n8 hp, i8 hp, c8 hp, i10, i01, eq_self, if_true, if_false, true_and, false_and, and_true, and_false, not_true, not_false_iff, true_or, or_true, false_or, or_false, ne_eq, not_true_eq_false, not_false_eq_true, nI_s, hs p hp]
    exact ⟨_, rfl, by rw [nI_add, su]⟩)
  rw [show Ex d 211 4 [.ref 112, .int 0, .int 0] [] G0 σ = _ from e, b211_4]
  simp only [b211_0, b211_10, b211_25, n88, i10, i01, eq_self, if_true, if_false, true_and, false_and, and_true, and_false, not_true, not_false_iff, true_or, or_true, false_or, or_false, ne_eq, not_true_eq_false, not_false_eq_true, i]
theorem m_fills (d : Nat) {B T : LW} {ω σ : Sig} (hM : MR B T ω σ) (hW : WI B T ω) (l : Nat) (s ld : Nat → Nat) (hl : l ≤ 999) (hs : ∀ p, p < 8 → σ 137 p = nI (s p) ∧ s p ≤ 999) (hld : ∀ p, p < 8 → σ 136 p = nI (ld p)) (hh : ∀ p, p < 8 → 0 < s p → ω 9 p ≠ -1) (hpos : 0 < su s 8) :
    ∃ σ', Ex (d + 1) 212 0 [.ref 112, .int (nI l), .int (nI (su s 8)), .null, .null] [] G0 σ = some (some (.int (nI (su (fun p => if byd (canN ω) l s p = true then canN ω p else 0) 8))), G0, σ') ∧ Fr [136, 137] [(112, 49)] σ σ'
      ∧ (∀ p, p < 8 → σ' 137 p = nI ((stp (canN ω) l s ld).2.1 p)) ∧ (∀ p, p < 8 → σ' 136 p = nI ((stp (canN ω) l s ld).2.2 p)) ∧ σ' 112 49 = if anyB (byd (canN ω) l s) = true then 1 else σ 112 49 := by
  have hall : su s 8 ≤ 7992 := su_bd (fun p hp => (hs p hp).2)
  have nz : (nI (su s 8) = 0) = False := by rw [nI_z (by omega)]; exact eq_false (by omega)
  rw [b212_0]
  have hbd : ∀ p, p < 8 → byd (canN ω) l s p = true → 0 < s p := fun p hp h => by
    have := of_decide_eq_true h
    apply Nat.pos_of_ne_zero
    intro e
    unfold qt at this
    rw [e, Nat.mul_zero, Nat.zero_div] at this
    omega
  obtain ⟨⟨σ1, a⟩, e, i⟩ := loop_ex (fun p (x : Sig × Int32) => Ex (d + 1) 212 5 [.ref 112, .int (nI l), .int (nI (su s 8)), .int x.2, .int (nI p)] [] G0 (x.1))
    (fun p x => Fr [136, 137] [(112, 49)] σ x.1 ∧ x.2 = nI (su (fun p => if byd (canN ω) l s p = true then canN ω p else 0) p)
      ∧ (∀ q, q < 8 → x.1 137 q = if q < p then nI ((stp (canN ω) l s ld).2.1 q) else nI (s q)) ∧ (∀ q, q < 8 → x.1 136 q = if q < p then nI ((stp (canN ω) l s ld).2.2 q) else nI (ld q))
      ∧ ((∃ q, q < p ∧ byd (canN ω) l s q = true) → x.1 112 49 = 1) ∧ ((∀ q, q < p → byd (canN ω) l s q = false) → x.1 112 49 = σ 112 49)) 8 (σ, 0)
    ⟨Fr_r, rfl, fun q hq => by simp [(hs q hq).1], fun q hq => by simp [hld q hq], fun ⟨q, h, _⟩ => absurd h (by omega), fun _ => rfl⟩ (by
    intro p ⟨σ1, a⟩ hp ⟨j1, j2, j3, j4, j5, j6⟩
    dsimp only at j1 j2 j3 j4 j5 j6
    subst j2
    have e137 : σ1 137 p = nI (s p) := by rw [j3 p hp]; simp
    have e136 : σ1 136 p = nI (ld p) := by rw [j4 p hp]; simp
    have sp := (hs p hp).2
    show ∃ a', Ex (d + 1) 212 5 [.ref 112, .int (nI l), .int (nI (su s 8)), .int (nI (su (fun p => if byd (canN ω) l s p = true then canN ω p else 0) p)), .int (nI p)] [] G0 σ1 = _ ∧ _
    rw [b212_5]
    simp only [n8 hp, i8 hp, c8 hp, e137, e136, nI_le0 (show s p < 2 ^ 31 by omega), nz, i10, i01, eq_self, if_true, if_false, true_and, false_and, and_true, and_false, not_true, not_false_iff, true_or, or_true, false_or, or_false, ne_eq, not_true_eq_false, not_false_eq_true]
    have ext : ∀ (f : Nat → Nat) (g : Nat → Nat) (σ2 : Sig) (c : Nat), σ2 c p = nI (f p) → (∀ q, q ≠ p → σ2 c q = σ1 c q) → (∀ q, q < 8 → σ1 c q = if q < p then nI (f q) else nI (g q)) → ∀ q, q < 8 → σ2 c q = if q < p + 1 then nI (f q) else nI (g q) := by
      intro f g σ2 c h1 h2 h3 q hq
      by_cases e : q = p
      · subst e; rw [h1, if_pos (by omega)]
      · rw [h2 q e, h3 q hq]
        have : (q < p + 1) = (q < p) := propext (by omega)
        simp only [this]
    have nbx : byd (canN ω) l s p = false → (((∃ q, q < p + 1 ∧ byd (canN ω) l s q = true) → σ1 112 49 = 1) ∧ ((∀ q, q < p + 1 → byd (canN ω) l s q = false) → σ1 112 49 = σ 112 49)) := by
      intro nb
      refine ⟨fun ⟨q, h1, h2⟩ => j5 ⟨q, ?_, h2⟩, fun h => j6 (fun q hq => h q (by omega))⟩
      have : q ≠ p := fun e => by rw [e, nb] at h2; cases h2
      omega
    by_cases z : s p = 0
    · have nb : byd (canN ω) l s p = false := by
        cases e : byd (canN ω) l s p with
        | false => rfl
        | true => have := hbd p hp e; omega
      simp only [z, i10, i01, eq_self, if_true, if_false, true_and, false_and, and_true, and_false, not_true, not_false_iff, true_or, or_true, false_or, or_false, ne_eq, not_true_eq_false, not_false_eq_true, b212_49, i8 hp, c8 hp, pt_q (show (137 : Nat) ≠ 136 by decide), e137, nI_z (show s p < 2 ^ 31 by omega), nI_s]
      have f2 : (stp (canN ω) l s ld).2.1 p = s p := by unfold stp; dsimp only; rw [nb]; rfl
      have f3 : (stp (canN ω) l s ld).2.2 p = ld p := by unfold stp; dsimp only; rw [nb, z]; rfl
      refine ⟨(pt σ1 136 p (nI (ld p)), _), rfl, Fr_p j1 (Or.inl (by simp)), ?_, ?_, ?_, ?_⟩
      · dsimp only; rw [su, nb]; rfl
      · exact ext _ _ _ 137 (by dsimp only; rw [pt_q (by decide), e137, f2]) (fun q hq => by dsimp only; rw [pt_q (by decide)]) j3
      · exact ext _ _ _ 136 (by dsimp only; rw [pt_e, f3]) (fun q hq => by dsimp only; rw [pt_k hq]) j4
      · dsimp only; rw [pt_q (by decide)]; exact nbx nb
    · have zp : 0 < s p := by omega
      have hm : l * s p < 2 ^ 31 := Nat.lt_of_le_of_lt (Nat.mul_le_mul hl sp) (by decide)
      have hq : nI l * nI (s p) / nI (su s 8) = nI (qt l s p) := by rw [nI_mul', nI_div hm (by omega)]; rfl
      have hqb : qt l s p < 2 ^ 31 := Nat.lt_of_le_of_lt (Nat.div_le_self _ _) hm
      obtain ⟨_, _, hb8, ew⟩ := WI_who hW hp (hh p hp zp)
      have hcn := can_n hW hb8
      have hM2 : ∀ v, MR B T ω (pt σ1 136 p v) := fun v => MR_S hM (Fr_p j1 (Or.inl (by simp)) : Fr [136, 137] [(112, 49)] σ _) (by decide) (by simp)
      have hlt : (canB ω (wN ω p) < nI (qt l s p)) = (byd (canN ω) l s p = true) := by
        rw [hcn.1, nJ_lt (by have := hcn.2; omega) hqb]
        unfold byd canN; rw [decide_eq_true_eq]
      simp only [z, i10, i01, eq_self, if_true, if_false, true_and, false_and, and_true, and_false, not_true, not_false_iff, true_or, or_true, false_or, or_false, ne_eq, not_true_eq_false, not_false_eq_true, hq, b212_49, i8 hp, c8 hp, pt_q (show (137 : Nat) ≠ 136 by decide), e137, nI_z (show s p < 2 ^ 31 by omega), pt_e, m_who d (hM2 _) hp, Option.bind_some, Option.toList_some, Option.toList_none, List.cons_append, List.nil_append, i01a, i01b, if_true, if_false, b212_74]
      rw [ew]
      simp only [m_canOf d (hM2 _) hb8, Option.bind_some, Option.toList_some, Option.toList_none, List.cons_append, List.nil_append, i01a, i01b, if_true, if_false, b212_77, hlt]
      by_cases nb : byd (canN ω) l s p = true
      · simp only [nb, i10, i01, eq_self, if_true, if_false, true_and, false_and, and_true, and_false, not_true, not_false_iff, true_or, or_true, false_or, or_false, ne_eq, not_true_eq_false, not_false_eq_true, m_who d (hM2 _) hp, Option.bind_some, Option.toList_some, Option.toList_none, List.cons_append, List.nil_append, i01a, i01b, if_true, if_false, b212_96]
        rw [ew]
        simp only [m_canOf d (hM2 _) hb8, Option.bind_some, Option.toList_some, Option.toList_none, List.cons_append, List.nil_append, i01a, i01b, if_true, if_false, b212_99, i8 hp, c8 hp, pt_e, i10, i01, eq_self, if_true, if_false, true_and, false_and, and_true, and_false, not_true, not_false_iff, true_or, or_true, false_or, or_false, ne_eq, not_true_eq_false, not_false_eq_true, nI_s]
        have ec : canB ω (wN ω p) = nI (canN ω p) := hcn.1
        have f2 : (stp (canN ω) l s ld).2.1 p = 0 := by unfold stp; dsimp only; rw [if_pos nb]
        have f3 : (stp (canN ω) l s ld).2.2 p = canN ω p := by unfold stp; dsimp only; rw [if_pos nb]
        refine ⟨(pt (pt (pt (pt σ1 136 p (nI (qt l s p))) 136 p (canB ω (wN ω p))) 137 p 0) 112 49 1, _), rfl, Fr_p (Fr_p (Fr_p (Fr_p j1 (Or.inl (by simp))) (Or.inl (by simp))) (Or.inl (by simp))) (Or.inr (by simp)), ?_, ?_, ?_, ?_, ?_⟩
        · dsimp only; rw [su, if_pos nb, ec, nI_add]
        · exact ext _ _ _ 137 (by dsimp only; rw [pt_q (by decide), pt_e, f2]; rfl) (fun q hq => by dsimp only; rw [pt_q (by decide), pt_k hq, pt_q (by decide), pt_q (by decide)]) j3
        · exact ext _ _ _ 136 (by dsimp only; rw [pt_q (by decide), pt_q (by decide), pt_e, f3, ec]) (fun q hq => by dsimp only; rw [pt_q (by decide), pt_q (by decide), pt_k hq, pt_k hq]) j4
        · intro _; dsimp only; rw [pt_e]
        · intro h; rw [h p (by omega)] at nb; cases nb
      · have nb' : byd (canN ω) l s p = false := by simpa using nb
        simp only [nb, i10, i01, eq_self, if_true, if_false, true_and, false_and, and_true, and_false, not_true, not_false_iff, true_or, or_true, false_or, or_false, ne_eq, not_true_eq_false, not_false_eq_true, nI_s]
        have f2 : (stp (canN ω) l s ld).2.1 p = s p := by unfold stp; dsimp only; rw [nb']; rfl
        have f3 : (stp (canN ω) l s ld).2.2 p = qt l s p := by unfold stp; dsimp only; rw [nb', if_pos zp]; rfl
        refine ⟨(pt σ1 136 p (nI (qt l s p)), _), rfl, Fr_p j1 (Or.inl (by simp)), ?_, ?_, ?_, ?_⟩
        · dsimp only; rw [su, nb']; rfl
        · exact ext _ _ _ 137 (by dsimp only; rw [pt_q (by decide), e137, f2]) (fun q hq => by dsimp only; rw [pt_q (by decide)]) j3
        · exact ext _ _ _ 136 (by dsimp only; rw [pt_e, f3]) (fun q hq => by dsimp only; rw [pt_k hq]) j4
        · dsimp only; rw [pt_q (by decide)]; exact nbx nb')
  obtain ⟨j1, j2, j3, j4, j5, j6⟩ := i
  dsimp only at j1 j2 j3 j4 j5 j6
  refine ⟨σ1, ?_, j1, fun p hp => by rw [j3 p hp, if_pos hp], fun p hp => by rw [j4 p hp, if_pos hp], ?_⟩
  · refine (e : Ex (d + 1) 212 5 [.ref 112, .int (nI l), .int (nI (su s 8)), .int 0, .int 0] [] G0 σ = _).trans ?_
    show Ex (d + 1) 212 5 [.ref 112, .int (nI l), .int (nI (su s 8)), .int a, .int (nI 8)] [] G0 σ1 = _
    rw [b212_5]
    simp only [n88, i10, i01, eq_self, if_true, if_false, true_and, false_and, and_true, and_false, not_true, not_false_iff, true_or, or_true, false_or, or_false, ne_eq, not_true_eq_false, not_false_eq_true, j2]
  · by_cases h : anyB (byd (canN ω) l s) = true
    · rw [if_pos h]
      exact j5 (anyB_t.mp h)
    · rw [if_neg h]
      exact j6 (anyB_f.mp (by simpa using h))
