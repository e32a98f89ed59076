/-! L3: the model finds the line of a law -/
theorem tot_app : ∀ (a b : List (List Int32 × List Int32)), tot (a ++ b) = tot a ++ tot b
  | [], _ => rfl
  | (e, c) :: r, b => by
    show e ++ c ++ tot (r ++ b) = e ++ c ++ tot r ++ tot b
    rw [tot_app r b]; simp
theorem tot_k {ls : List (List Int32 × List Int32)} {k : Nat} {e b : List Int32} (h : ls[k]? = some (e, b)) : ∃ r, tot ls = tot (ls.take k) ++ (e ++ b) ++ r ∧ tot (ls.take (k + 1)) = tot (ls.take k) ++ (e ++ b) := by
  have hk : k < ls.length := by
    rcases Nat.lt_or_ge k ls.length with h1 | h1
    · exact h1
    · rw [List.getElem?_eq_none h1] at h; cases h
  have hg : ls[k] = (e, b) := by
    rw [List.getElem?_eq_getElem hk] at h; exact Option.some.inj h
  have h2 : ls.take (k + 1) = ls.take k ++ [(e, b)] := by rw [List.take_succ_eq_append_getElem hk, hg]
  have h3 : tot (ls.take (k + 1)) = tot (ls.take k) ++ (e ++ b) := by
    rw [h2, tot_app]; show _ ++ (e ++ b ++ []) = _; rw [List.append_nil]
  refine ⟨tot (ls.drop (k + 1)), ?_, h3⟩
  have : ls = ls.take (k + 1) ++ ls.drop (k + 1) := (List.take_append_drop _ _).symm
  conv => lhs; rw [this]
  rw [tot_app, h3]
/-- the code of line k -/
theorem mcode {σ : Sig} {j : Nat} {ls : List (List Int32 × List Int32)} (hm : modLaw (σ 127) (σ 128) (σ 129) (σ 130) (σ 131) (16 * j) (400 * j) ls) {k : Nat} {e b : List Int32} (h : ls[k]? = some (e, b)) :
    ∃ a, a + (e.length + b.length) ≤ (tot ls).length ∧ σ 127 (16 * j + k) = nI a ∧ σ 128 (16 * j + k) = nI (a + e.length) ∧ σ 129 (16 * j + k) = nI (a + e.length + b.length)
      ∧ (∀ i, i < e.length → σ 130 (400 * j + a + i) = mop (e.getD i 0) ∧ (0 ≤ e.getD i 0 → σ 131 (400 * j + a + i) = e.getD i 0) ∧ (-16 < e.getD i 0 → e.getD i 0 < 0 → σ 131 (400 * j + a + i) = -1 - e.getD i 0))
      ∧ (∀ i, i < b.length → σ 130 (400 * j + (a + e.length) + i) = mop (b.getD i 0) ∧ (0 ≤ b.getD i 0 → σ 131 (400 * j + (a + e.length) + i) = b.getD i 0) ∧ (-16 < b.getD i 0 → b.getD i 0 < 0 → σ 131 (400 * j + (a + e.length) + i) = -1 - b.getD i 0)) := by
  have hk : k < ls.length := by
    rcases Nat.lt_or_ge k ls.length with h1 | h1
    · exact h1
    · rw [List.getElem?_eq_none h1] at h; cases h
  obtain ⟨r, t1, t2⟩ := tot_k h
  obtain ⟨m1, m2, m3⟩ := hm.1 k hk
  have hgd : ls.getD k ([], []) = (e, b) := by rw [List.getD_eq_getElem?_getD, h]; rfl
  rw [hgd] at m2
  rw [t2] at m3
  refine ⟨(tot (ls.take k)).length, ?_, m1, m2, ?_, fun i hi => ?_, fun i hi => ?_⟩
  · rw [t1]; simp only [List.length_append]; omega
  · rw [m3]; simp only [List.length_append]; congr 1; omega
  · have := hm.2 ((tot (ls.take k)).length + i) (by rw [t1]; simp only [List.length_append]; omega)
    have hg : (tot ls).getD ((tot (ls.take k)).length + i) 0 = e.getD i 0 := by
      rw [t1, List.append_assoc, gd_r (by omega), Nat.add_sub_cancel_left, List.append_assoc, gd_l hi]
    rw [hg, ← Nat.add_assoc] at this
    exact this
  · have := hm.2 ((tot (ls.take k)).length + (e.length + i)) (by rw [t1]; simp only [List.length_append]; omega)
    have hg : (tot ls).getD ((tot (ls.take k)).length + (e.length + i)) 0 = b.getD i 0 := by
      rw [t1, List.append_assoc, gd_r (by omega), Nat.add_sub_cancel_left, List.append_assoc, gd_r (by omega), Nat.add_sub_cancel_left, gd_l hi]
    rw [hg, show 400 * j + ((tot (ls.take k)).length + (e.length + i)) = 400 * j + ((tot (ls.take k)).length + e.length) + i by omega] at this
    exact this
theorem modLaw_fr {σ σ' : Sig} {lb cb : Nat} {ls : List (List Int32 × List Int32)} (h : modLaw (σ 127) (σ 128) (σ 129) (σ 130) (σ 131) lb cb ls) (e : ∀ q, q ∈ [127, 128, 129, 130, 131] → σ' q = σ q) : modLaw (σ' 127) (σ' 128) (σ' 129) (σ' 130) (σ' 131) lb cb ls := by
  rw [e 127 (by simp), e 128 (by simp), e 129 (by simp), e 130 (by simp), e 131 (by simp)]; exact h
theorem m_lineOf (d : Nat) (σ : Sig) (j : Nat) (ls : List (List Int32 × List Int32)) (hj : j < 2) (hn : σ 126 j = nI ls.length) (hk : okL ls) (hm : modLaw (σ 127) (σ 128) (σ 129) (σ 130) (σ 131) (16 * j) (400 * j) ls) :
    ∃ σ2 v, Ex (d + 2) 204 0 [.ref 112, .int (nI j), .null, .null] [] G0 σ = some (some (.int v), G0, σ2) ∧ Fr [135] [] σ σ2
      ∧ ((v = -1 ∧ ∀ o, lawS (σ 134) ls o = o) ∨ ∃ k e b, ls[k]? = some (e, b) ∧ v = nI (16 * j + k) ∧ ∀ o, lawS (σ 134) ls o = (evR (σ 134) e []).getD 0 0) := by
  have hl16 := hk.1
  rw [b204_0]
  have main : ∀ m k, k + m = ls.length → ∀ (σ1 : Sig) (v3 : Value), Fr [135] [] σ σ1 → (∀ o, lawS (σ 134) ls o = lawS (σ 134) (ls.drop k) o) →
      ∃ σ2 v, Ex (d + 2) 204 2 [.ref 112, .int (nI j), .int (nI k), v3] [] G0 σ1 = some (some (.int v), G0, σ2) ∧ Fr [135] [] σ σ2
      ∧ ((v = -1 ∧ ∀ o, lawS (σ 134) ls o = o) ∨ ∃ k e b, ls[k]? = some (e, b) ∧ v = nI (16 * j + k) ∧ ∀ o, lawS (σ 134) ls o = (evR (σ 134) e []).getD 0 0) := by
    intro m
    induction m with
    | zero =>
      intro k hkm σ1 v3 f1 hd
      have e6 : σ1 126 = σ 126 := Fr_q f1 (by decide) (by simp)
      have q : (nI ls.length ≤ nI k) = True := by rw [nJ_le (by omega) (by omega)]; exact eq_true (by omega)
      rw [b204_2]
      simp only [inb_n hj (show j < 2 ^ 31 by omega), nI_c (show j < 2 ^ 31 by omega), e6, hn, q, i10, i01, eq_self, if_true, if_false, true_and, false_and, and_true, and_false, not_true, not_false_iff, true_or, or_true, false_or, or_false, ne_eq, not_true_eq_false, not_false_eq_true]
      refine ⟨σ1, _, rfl, f1, Or.inl ⟨rfl, fun o => ?_⟩⟩
      rw [hd o, List.drop_eq_nil_of_le (by omega)]; rfl
    | succ m ih =>
      intro k hkm σ1 v3 f1 hd
      have e6 : σ1 126 = σ 126 := Fr_q f1 (by decide) (by simp)
      have e8 : σ1 128 = σ 128 := Fr_q f1 (by decide) (by simp)
      have e9 : σ1 129 = σ 129 := Fr_q f1 (by decide) (by simp)
      have e30 : σ1 130 = σ 130 := Fr_q f1 (by decide) (by simp)
      have e31 : σ1 131 = σ 131 := Fr_q f1 (by decide) (by simp)
      have e34 : σ1 134 = σ 134 := Fr_q f1 (by decide) (by simp)
      have hkl : k < ls.length := by omega
      obtain ⟨⟨e, b⟩, hg⟩ : ∃ x, ls[k]? = some x := ⟨ls[k], List.getElem?_eq_getElem hkl⟩
      have hgm : (e, b) ∈ ls := List.mem_of_getElem? hg
      have hdk : ls.drop k = (e, b) :: ls.drop (k + 1) := by
        rw [List.drop_eq_getElem_cons hkl]
        congr 1
        rw [List.getElem?_eq_getElem hkl] at hg; exact Option.some.inj hg
      obtain ⟨a, ha, a1, a2, a3, a4, a5⟩ := mcode hm hg
      have hok := hk.2.2.2 (e, b) hgm
      have htl := hk.2.2.1
      have q : (nI ls.length ≤ nI k) = False := by rw [nJ_le (by omega) (by omega)]; exact eq_false (by omega)
      have q16 : (16 : Int32) * nI j + nI k = nI (16 * j + k) := by
        have : (16 : Int32) * nI j = nI (16 * j) := nI_mul' 16 j
        rw [this, nI_add]
      have i48 : inb (nI (16 * j + k)) 48 = true := inb_n (by omega) (by omega)
      have c48 : (nI (16 * j + k)).toNatClampNeg = 16 * j + k := nI_c (by omega)
      have heq : (nI (a + e.length) = nI (a + e.length + b.length)) = (b = []) := by
        rw [nJ_e (by omega) (by omega)]
        refine propext ⟨fun h => List.eq_nil_of_length_eq_zero (by omega), fun h => by rw [h]; rfl⟩
      rw [b204_2]
      simp only [inb_n hj (show j < 2 ^ 31 by omega), nI_c (show j < 2 ^ 31 by omega), e6, e8, e9, hn, q, q16, i48, c48, a2, a3, heq, i10, i01, eq_self, if_true, if_false, true_and, false_and, and_true, and_false, not_true, not_false_iff, true_or, or_true, false_or, or_false, ne_eq, not_true_eq_false, not_false_eq_true]
      by_cases hb : b = []
      · simp only [hb, i10, i01, eq_self, if_true, if_false, true_and, false_and, and_true, and_false, not_true, not_false_iff, true_or, or_true, false_or, or_false, ne_eq, not_true_eq_false, not_false_eq_true]
        refine ⟨σ1, _, rfl, f1, Or.inr ⟨k, e, b, hg, rfl, fun o => ?_⟩⟩
        rw [hd o, hdk, lawS, if_pos (Or.inl hb)]
      · have hb1 := hok.2.resolve_left hb
        dsimp only at hb1
        obtain ⟨σ2, e2, f2⟩ := m_runs d σ1 j (a + e.length) (a + e.length + b.length) b 1 hj rfl (by omega) hb1 (by rw [e30, e31]; exact a5)
        simp only [hb, e2, i10, i01, eq_self, if_true, if_false, true_and, false_and, and_true, and_false, not_true, not_false_iff, true_or, or_true, false_or, or_false, ne_eq, not_true_eq_false, not_false_eq_true, Option.bind_some, Option.toList_some, Option.toList_none, List.cons_append, List.nil_append, i01a, i01b, if_true, if_false, b204_0, b204_51, e34, nI_s]
        by_cases z : (evR (σ 134) b []).getD 0 0 = 0
        · simp only [z, i10, i01, eq_self, if_true, if_false, true_and, false_and, and_true, and_false, not_true, not_false_iff, true_or, or_true, false_or, or_false, ne_eq, not_true_eq_false, not_false_eq_true]
          refine ih (k + 1) (by omega) σ2 (.int (nI (16 * j + k))) (Fr_t f1 f2) (fun o => ?_)
          rw [hd o, hdk, lawS, if_neg (fun e => e.elim hb (fun e => e z))]
        · simp only [z, i10, i01, eq_self, if_true, if_false, true_and, false_and, and_true, and_false, not_true, not_false_iff, true_or, or_true, false_or, or_false, ne_eq, not_true_eq_false, not_false_eq_true]
          refine ⟨σ2, _, rfl, Fr_t f1 f2, Or.inr ⟨k, e, b, hg, rfl, fun o => ?_⟩⟩
          rw [hd o, hdk, lawS, if_pos (Or.inr z)]
  exact main ls.length 0 (by omega) σ .null Fr_r (fun o => rfl)
