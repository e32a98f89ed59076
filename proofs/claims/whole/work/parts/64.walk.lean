/-! L3: on the way: the world and what the class holds of it (th: in thought, where the class writes the book on and the model doesn't) -/
def SCV : List Nat := [1, 2, 3, 4, 5, 6, 7, 8, 9, 10, 11, 12, 13, 14, 15, 16, 17, 18, 19, 20, 21, 22, 23, 24, 25, 26, 68, 69, 70, 71, 72, 73]
def RW (th : Bool) (ω σ : Sig) : Prop :=
  (∀ q, 1 ≤ q → q ≤ 26 → q ∉ [16, 19, 25, 26] → σ q = ω q) ∧ (th = false → σ 25 = ω 25 ∧ σ 26 = ω 26)
  ∧ (th = true → bw (σ 25 0) 0 150 ∧ (ω 25 0).toNatClampNeg ≤ (σ 25 0).toNatClampNeg ∧ (∀ k, k ≠ 0 → σ 25 k = ω 25 k) ∧ ∀ i, i < 4 * (ω 25 0).toNatClampNeg → σ 26 i = ω 26 i)
theorem RW_r {B T : LW} {σ : Sig} (hW : WI B T σ) (th : Bool) : RW th σ σ := ⟨fun _ _ _ _ => rfl, fun _ => ⟨rfl, rfl⟩, fun _ => ⟨hW 14, Nat.le_refl _, fun _ _ => rfl, fun _ _ => rfl⟩⟩
theorem RW_q {th : Bool} {ω σ : Sig} (h : RW th ω σ) {q : Nat} (h1 : 1 ≤ q) (h2 : q ≤ 24) (h3 : q ≠ 16) (h4 : q ≠ 19) : σ q = ω q := h.1 q h1 (by omega) (by simp; omega)
theorem RW_fr {th : Bool} {ω σ σ' : Sig} {S : List Nat} {U : List (Nat × Nat)} (h : RW th ω σ) (f : Fr S U σ σ') (hS : ∀ q ∈ S, q = 16 ∨ q = 19 ∨ 27 ≤ q ∨ q = 0) (hU : ∀ x ∈ U, x.1 = 16 ∨ x.1 = 19 ∨ 27 ≤ x.1 ∨ x.1 = 0) : RW th ω σ' := by
  have q : ∀ q, 1 ≤ q → q ≤ 26 → q ≠ 16 → q ≠ 19 → σ' q = σ q := fun q h1 h2 h3 h4 => Fr_q f (fun e => by have := hS q e; omega) (fun x hx e => by have := hU x hx; omega)
  refine ⟨fun r a b c => ?_, fun ht => ?_, fun ht => ?_⟩
  · rw [q r a b (by simp at c; omega) (by simp at c; omega)]; exact h.1 r a b c
  · rw [q 25 (by omega) (by omega) (by omega) (by omega), q 26 (by omega) (by omega) (by omega) (by omega)]; exact h.2.1 ht
  · rw [q 25 (by omega) (by omega) (by omega) (by omega), q 26 (by omega) (by omega) (by omega) (by omega)]; exact h.2.2 ht
theorem RW_WI {B T : LW} {th : Bool} {ω σ : Sig} (h : RW th ω σ) (hW : WI B T ω) : WI B T σ := by
  have q : ∀ q, 1 ≤ q ∧ q ≤ 24 ∧ q ≠ 16 ∧ q ≠ 19 → σ q = ω q := fun q k => RW_q h k.1 k.2.1 k.2.2.1 k.2.2.2
  have h14 : bw (σ 25 0) 0 150 := by
    cases th with
    | true => exact (h.2.2 rfl).1
    | false => rw [(h.2.1 rfl).1]; exact hW 14
  intro i
  have h := hW i
  match i, h with
  | 0, h => (simp only [wi, np, pr, sz, wl, paced] at h ⊢; (try simp (disch := decide) only [q]); first | done | exact h)
  | 1, h => (simp only [wi, np, pr, sz, wl, paced] at h ⊢; (try simp (disch := decide) only [q]); first | done | exact h)
  | 2, h => (simp only [wi, np, pr, sz, wl, paced] at h ⊢; (try simp (disch := decide) only [q]); first | done | exact h)
  | 3, h => (simp only [wi, np, pr, sz, wl, paced] at h ⊢; (try simp (disch := decide) only [q]); first | done | exact h)
  | 4, h => (simp only [wi, np, pr, sz, wl, paced] at h ⊢; (try simp (disch := decide) only [q]); first | done | exact h)
  | 5, h => (simp only [wi, np, pr, sz, wl, paced] at h ⊢; (try simp (disch := decide) only [q]); first | done | exact h)
  | 6, h => (simp only [wi, np, pr, sz, wl, paced] at h ⊢; (try simp (disch := decide) only [q]); first | done | exact h)
  | 7, h => (simp only [wi, np, pr, sz, wl, paced] at h ⊢; (try simp (disch := decide) only [q]); first | done | exact h)
  | 8, h => (simp only [wi, np, pr, sz, wl, paced] at h ⊢; (try simp (disch := decide) only [q]); first | done | exact h)
  | 9, h => (simp only [wi, np, pr, sz, wl, paced] at h ⊢; (try simp (disch := decide) only [q]); first | done | exact h)
  | 10, h => (simp only [wi, np, pr, sz, wl, paced] at h ⊢; (try simp (disch := decide) only [q]); first | done | exact h)
  | 11, h => (simp only [wi, np, pr, sz, wl, paced] at h ⊢; (try simp (disch := decide) only [q]); first | done | exact h)
  | 12, h => (simp only [wi, np, pr, sz, wl, paced] at h ⊢; (try simp (disch := decide) only [q]); first | done | exact h)
  | 13, h => (simp only [wi, np, pr, sz, wl, paced] at h ⊢; (try simp (disch := decide) only [q]); first | done | exact h)
  | 14, h => exact h14
  | 15, h => (simp only [wi, np, pr, sz, wl, paced] at h ⊢; (try simp (disch := decide) only [q]); first | done | exact h)
  | 16, h => (simp only [wi, np, pr, sz, wl, paced] at h ⊢; (try simp (disch := decide) only [q]); first | done | exact h)
  | 17, h => (simp only [wi, np, pr, sz, wl, paced] at h ⊢; (try simp (disch := decide) only [q]); first | done | exact h)
  | 18, h => (simp only [wi, np, pr, sz, wl, paced] at h ⊢; (try simp (disch := decide) only [q]); first | done | exact h)
  | 19, h => (simp only [wi, np, pr, sz, wl, paced] at h ⊢; (try simp (disch := decide) only [q]); first | done | exact h)
  | 20, h => (simp only [wi, np, pr, sz, wl, paced] at h ⊢; (try simp (disch := decide) only [q]); first | done | exact h)
  | 21, h => (simp only [wi, np, pr, sz, wl, paced] at h ⊢; (try simp (disch := decide) only [q]); first | done | exact h)
  | 22, h => (simp only [wi, np, pr, sz, wl, paced] at h ⊢; (try simp (disch := decide) only [q]); first | done | exact h)
  | _ + 23, _ => trivial
theorem RW_C {th : Bool} {ω σ : Sig} (h : RW th ω σ) : Cq ω σ := by
  have e := RW_q h (q := 1) (by omega) (by omega) (by omega) (by omega)
  exact ⟨by rw [e], by rw [e], by rw [e], by rw [e], fun q h1 h2 => RW_q h (by omega) (by omega) (by omega) (by omega)⟩
theorem RW_pt {th : Bool} {ω σ : Sig} {q k : Nat} {v : Int32} (h : RW th ω σ) (h25 : q ≠ 25) (h26 : q ≠ 26) : RW th (pt ω q k v) (pt σ q k v) := by
  refine ⟨fun r a b c => ?_, fun ht => ?_, fun ht => ?_⟩
  · funext j; rw [pt_ap, pt_ap, h.1 r a b c]
  · rw [pt_q (Ne.symm h25), pt_q (Ne.symm h26), pt_q (Ne.symm h25), pt_q (Ne.symm h26)]; exact h.2.1 ht
  · rw [pt_q (Ne.symm h25), pt_q (Ne.symm h26), pt_q (Ne.symm h25), pt_q (Ne.symm h26)]; exact h.2.2 ht
/-- any change of cell 7 alone -/
theorem RW_7 {th : Bool} {ω σ ω' σ' : Sig} (h : RW th ω σ) (hω : ∀ q, q ≠ 7 → ω' q = ω q) (hσ : ∀ q, q ≠ 7 → σ' q = σ q) (h7 : σ' 7 = ω' 7) : RW th ω' σ' := by
  refine ⟨fun r a b c => ?_, fun ht => ?_, fun ht => ?_⟩
  · by_cases e : r = 7
    · subst e; exact h7
    · rw [hσ r e, hω r e]; exact h.1 r a b c
  · rw [hσ 25 (by decide), hσ 26 (by decide), hω 25 (by decide), hω 26 (by decide)]; exact h.2.1 ht
  · rw [hσ 25 (by decide), hσ 26 (by decide), hω 25 (by decide), hω 26 (by decide)]; exact h.2.2 ht
theorem RW_ea {th : Bool} {ω σ : Sig} (h : RW th ω σ) (x : Int32) : RW th (eaS ω x) (eaS σ x) := by
  refine RW_7 h (fun q hq => eaS_q hq) (fun q hq => eaS_q hq) ?_
  have e7 := RW_q h (q := 7) (by omega) (by omega) (by omega) (by omega)
  have e2 : sz σ = sz ω := by unfold sz; rw [RW_q h (q := 2) (by omega) (by omega) (by omega) (by omega)]
  funext b
  unfold eaS
  rw [eaN_b, eaN_b, e7, e2]
theorem RW_car {B T : LW} {th : Bool} {ω σ : Sig} (h : RW th ω σ) (s gr g : Int32) : RW th (carW B T ω s gr g) (carW B T σ s gr g) := by
  have hc := RW_C h
  have hsw : swN σ (wrongS σ g) = swN ω (wrongS ω g) := by
    unfold swN; rw [sp_wrong hc, hc.2.2.1, hc.2.2.2.1]
  unfold carW
  rw [hsw]
  exact RW_pt (RW_7 h (fun q hq => carT_q hq 8) (fun q hq => carT_q hq 8) (sp_carT hc s gr g 8)) (by decide) (by decide)
theorem RW_note {B T : LW} {th : Bool} {ω σ : Sig} (hW : WI B T ω) (h : RW th ω σ) (w a b : Int32) : RW th (noW th ω w a b) (noW false σ w a b) := by
  have hWs := RW_WI h hW
  obtain ⟨n, hn, en, cn⟩ := bkN hWs
  cases th with
  | false =>
    have e1 := RW_q h (q := 1) (by omega) (by omega) (by omega) (by omega)
    obtain ⟨e25, e26⟩ := h.2.1 rfl
    unfold noW
    rw [e25]
    split
    · exact h
    · refine ⟨fun r a' b' c => ?_, fun _ => ⟨?_, ?_⟩, fun ht => by cases ht⟩
      · rw [noR_q (by simp at c; omega) (by simp at c; omega), noR_q (by simp at c; omega) (by simp at c; omega)]; exact h.1 r a' b' c
      · unfold noR; funext j; simp only [pt_ap]; simp [e25]
      · unfold noR; funext j; simp only [pt_ap]; simp [e26, e1]
  | true =>
    obtain ⟨hb, hl, hk, hr⟩ := h.2.2 rfl
    have ew : noW true ω w a b = ω := by unfold noW; rw [if_pos (Or.inl rfl)]
    rw [ew]
    unfold noW
    split
    · exact h
    · rename_i hc
      have hlt : (σ 25 0).toNatClampNeg < 150 := by
        apply Classical.byContradiction; intro k; exact hc (Or.inr k)
      rw [cn] at hlt hl ⊢
      refine ⟨fun r a' b' c => ?_, fun ht => (by cases ht), fun _ => ⟨?_, ?_, fun k hk' => ?_, fun i hi => ?_⟩⟩
      · rw [noR_q (by simp at c; omega) (by simp at c; omega)]; exact h.1 r a' b' c
      · unfold noR; rw [pt_e]; unfold bw; rw [nI_i (by omega)]; omega
      · unfold noR; rw [pt_e, nI_c (by omega)]; omega
      · unfold noR; rw [pt_k hk', pt_q (by decide), pt_q (by decide), pt_q (by decide), pt_q (by decide)]; exact hk k hk'
      · unfold noR; rw [pt_q (by decide), pt_k (by omega), pt_k (by omega), pt_k (by omega), pt_k (by omega)]; exact hr i hi
/-- somebody is set at a place -/
def putW (ω : Sig) (p : Nat) (x : Int32) : Sig := if x = -1 ∨ plS ω x = -1 then pt ω 9 p x else pt (pt ω 9 (plS ω x).toNatClampNeg (-1)) 9 p x
theorem pl_b {ω : Sig} {x : Int32} (h : plS ω x ≠ -1) : ∃ q, q < 8 ∧ plS ω x = nI q ∧ ω 9 q = x := by
  have key : ∀ n m, lp (plB ω x) m n ≠ -1 → ∃ q, m ≤ q ∧ q < m + n ∧ lp (plB ω x) m n = nI q ∧ ω 9 q = x := by
    intro n
    induction n with
    | zero => intro m h; exact absurd rfl h
    | succ n ih =>
      intro m h
      rw [lp] at h ⊢
      by_cases k : plB ω x m = true
      · rw [if_pos k]; exact ⟨m, by omega, by omega, rfl, of_decide_eq_true k⟩
      · rw [if_neg k] at h ⊢
        obtain ⟨q, a, b, c, e⟩ := ih (m + 1) h
        exact ⟨q, by omega, by omega, c, e⟩
  obtain ⟨q, _, b, c, e⟩ := key 8 0 h
  exact ⟨q, by omega, c, e⟩
theorem c_put (d : Nat) {B T : LW} {σ : Sig} (hW : WI B T σ) {p : Nat} (hp : p < 8) (x : Int32) : Ex (d + 1) 35 0 [.ref 8, .int (nI p), .int x, .null] [] G0 σ = some (none, G0, putW σ p x) := by
  rw [b35_0]
  unfold putW
  by_cases h : x = -1
  · simp only [h, i10, i01, eq_self, if_true, if_false, true_and, false_and, and_true, and_false, not_true, not_false_iff, true_or, or_true, false_or, or_false, ne_eq, not_true_eq_false, not_false_eq_true, b35_14, i8 hp, c8 hp]
  · simp only [h, i10, i01, eq_self, if_true, if_false, true_and, false_and, and_true, and_false, not_true, not_false_iff, true_or, or_true, false_or, or_false, ne_eq, not_true_eq_false, not_false_eq_true, c_placeOf d hW h, Option.bind_some, Option.toList_some, Option.toList_none, List.cons_append, List.nil_append, i01a, i01b, if_true, if_false, b35_14]
    by_cases k : plS σ x = -1
    · simp only [k, i10, i01, eq_self, if_true, if_false, true_and, false_and, and_true, and_false, not_true, not_false_iff, true_or, or_true, false_or, or_false, ne_eq, not_true_eq_false, not_false_eq_true, i8 hp, c8 hp]
    · obtain ⟨q, hq, eq, _⟩ := pl_b k
      simp only [k, i10, i01, eq_self, if_true, if_false, true_and, false_and, and_true, and_false, not_true, not_false_iff, true_or, or_true, false_or, or_false, ne_eq, not_true_eq_false, not_false_eq_true]
      rw [eq]
      simp only [i8 hq, i8 hp, c8 hq, c8 hp, i10, i01, eq_self, if_true, if_false, true_and, false_and, and_true, and_false, not_true, not_false_iff, true_or, or_true, false_or, or_false, ne_eq, not_true_eq_false, not_false_eq_true]
theorem RW_put {th : Bool} {ω σ : Sig} (h : RW th ω σ) (p : Nat) (x : Int32) : RW th (putW ω p x) (putW σ p x) := by
  have e9 := RW_q h (q := 9) (by omega) (by omega) (by omega) (by omega)
  have ep : plS σ x = plS ω x := by unfold plS plB; rw [e9]
  unfold putW
  rw [ep]
  split
  · exact RW_pt h (by decide) (by decide)
  · exact RW_pt (RW_pt h (by decide) (by decide)) (by decide) (by decide)
theorem putW_q {ω : Sig} {p : Nat} {x : Int32} {q : Nat} (h : q ≠ 9) : putW ω p x q = ω q := by
  unfold putW; split
  · rw [pt_q h]
  · rw [pt_q h, pt_q h]
theorem WI_9 {B T : LW} {ω ω' : Sig} (hW : WI B T ω) (q : ∀ q, q ≠ 9 → ω' q = ω q) (h6 : ∀ p, p < 8 → ω' 9 p = -1 ∨ (p < np ω ∧ ∃ b, b < sz ω ∧ ω' 9 p = nI b)) (h7 : ∀ p r, p < 8 → r < 8 → ω' 9 p = ω' 9 r → ω' 9 p ≠ -1 → p = r) : WI B T ω' := by
  have eN : np ω' = np ω := by unfold np pr; rw [q 8 (by decide)]
  have eS : sz ω' = sz ω := by unfold sz; rw [q 2 (by decide)]
  intro i
  have h := hW i
  match i, h with
  | 0, h => (simp only [wi, np, pr, sz, wl, paced] at h ⊢; (try simp (disch := decide) only [q]); first | done | exact h)
  | 1, h => (simp only [wi, np, pr, sz, wl, paced] at h ⊢; (try simp (disch := decide) only [q]); first | done | exact h)
  | 2, h => (simp only [wi, np, pr, sz, wl, paced] at h ⊢; (try simp (disch := decide) only [q]); first | done | exact h)
  | 3, h => (simp only [wi, np, pr, sz, wl, paced] at h ⊢; (try simp (disch := decide) only [q]); first | done | exact h)
  | 4, h => (simp only [wi, np, pr, sz, wl, paced] at h ⊢; (try simp (disch := decide) only [q]); first | done | exact h)
  | 5, h => (simp only [wi, np, pr, sz, wl, paced] at h ⊢; (try simp (disch := decide) only [q]); first | done | exact h)
  | 6, h => (show ∀ p, p < 8 → ω' 9 p = -1 ∨ (p < np ω' ∧ ∃ b, b < sz ω' ∧ ω' 9 p = nI b); rw [eN, eS]; exact h6)
  | 7, h => exact h7
  | 8, h => (simp only [wi, np, pr, sz, wl, paced] at h ⊢; (try simp (disch := decide) only [q]); first | done | exact h)
  | 9, h => (simp only [wi, np, pr, sz, wl, paced] at h ⊢; (try simp (disch := decide) only [q]); first | done | exact h)
  | 10, h => (simp only [wi, np, pr, sz, wl, paced] at h ⊢; (try simp (disch := decide) only [q]); first | done | exact h)
  | 11, h => (simp only [wi, np, pr, sz, wl, paced] at h ⊢; (try simp (disch := decide) only [q]); first | done | exact h)
  | 12, h => (simp only [wi, np, pr, sz, wl, paced] at h ⊢; (try simp (disch := decide) only [q]); first | done | exact h)
  | 13, h => (simp only [wi, np, pr, sz, wl, paced] at h ⊢; (try simp (disch := decide) only [q]); first | done | exact h)
  | 14, h => (simp only [wi, np, pr, sz, wl, paced] at h ⊢; (try simp (disch := decide) only [q]); first | done | exact h)
  | 15, h => (simp only [wi, np, pr, sz, wl, paced] at h ⊢; (try simp (disch := decide) only [q]); first | done | exact h)
  | 16, h => (simp only [wi, np, pr, sz, wl, paced] at h ⊢; (try simp (disch := decide) only [q]); first | done | exact h)
  | 17, h => (simp only [wi, np, pr, sz, wl, paced] at h ⊢; (try simp (disch := decide) only [q]); first | done | exact h)
  | 18, h => (simp only [wi, np, pr, sz, wl, paced] at h ⊢; (try simp (disch := decide) only [q]); first | done | exact h)
  | 19, h => (simp only [wi, np, pr, sz, wl, paced] at h ⊢; (try simp (disch := decide) only [q]); first | done | exact h)
  | 20, h => (simp only [wi, np, pr, sz, wl, paced] at h ⊢; (try simp (disch := decide) only [q]); first | done | exact h)
  | 21, h => (simp only [wi, np, pr, sz, wl, paced] at h ⊢; (try simp (disch := decide) only [q]); first | done | exact h)
  | 22, h => (simp only [wi, np, pr, sz, wl, paced] at h ⊢; (try simp (disch := decide) only [q]); first | done | exact h)
  | _ + 23, _ => trivial
theorem WI_putW {B T : LW} {ω : Sig} (hW : WI B T ω) {p : Nat} (hp : p < np ω) {x : Int32} (hx : x = -1 ∨ ∃ b, b < sz ω ∧ x = nI b) : WI B T (putW ω p x) := by
  have n8' := (WI_np hW).2.1
  have h6 : wi B T ω 6 := hW 6
  have h7 : wi B T ω 7 := hW 7
  refine WI_9 hW (fun q hq => putW_q hq) ?_ ?_
  · intro r hr
    unfold putW
    by_cases e : r = p
    · subst e
      have : (if x = -1 ∨ plS ω x = -1 then pt ω 9 r x else pt (pt ω 9 (plS ω x).toNatClampNeg (-1)) 9 r x) 9 r = x := by split <;> rw [pt_e]
      rw [this]
      rcases hx with hx | ⟨b, hb, hx⟩
      · exact Or.inl hx
      · exact Or.inr ⟨hp, b, hb, hx⟩
    · split
      · rw [pt_k e]; exact h6 r hr
      · rw [pt_k e]
        by_cases e2 : r = (plS ω x).toNatClampNeg
        · subst e2; rw [pt_e]; exact Or.inl rfl
        · rw [pt_k e2]; exact h6 r hr
  · -- nobody else has x
    have key : ∀ r, r < 8 → r ≠ p → x ≠ -1 → (putW ω p x) 9 r ≠ x := by
      intro r hr hrp hx1
      unfold putW
      by_cases c : x = -1 ∨ plS ω x = -1
      · rw [if_pos c, pt_k hrp]
        exact pl_none (c.resolve_left hx1) hr
      · rw [if_neg c, pt_k hrp]
        have c2 : plS ω x ≠ -1 := fun e => c (Or.inr e)
        obtain ⟨q, hq, eq, e9⟩ := pl_b c2
        rw [eq, nI_c (by omega)]
        by_cases e2 : r = q
        · subst e2; rw [pt_e]; exact Ne.symm hx1
        · rw [pt_k e2]
          intro e
          exact e2 (h7 r q hr hq (by rw [e, e9]) (by rw [e]; exact hx1))
    have sub : ∀ r, r < 8 → r ≠ p → (putW ω p x) 9 r ≠ -1 → (putW ω p x) 9 r = ω 9 r := by
      intro r hr hrp
      unfold putW
      split
      · rw [pt_k hrp]; intro _; rfl
      · rw [pt_k hrp]
        by_cases e2 : r = (plS ω x).toNatClampNeg
        · subst e2; rw [pt_e]; intro h; exact absurd rfl h
        · rw [pt_k e2]; intro _; rfl
    have atp : (putW ω p x) 9 p = x := by unfold putW; split <;> rw [pt_e]
    intro r t hr ht e hne
    by_cases e1 : r = p
    · by_cases e2 : t = p
      · omega
      · subst e1
        rw [atp] at e hne
        exact absurd e.symm (key t ht e2 hne)
    · by_cases e2 : t = p
      · subst e2
        rw [atp] at e
        exact absurd e (key r hr e1 (by rw [← e]; exact hne))
      · have a1 := sub r hr e1 hne
        have a2 := sub t ht e2 (by rw [← e]; exact hne)
        exact h7 r t hr ht (by rw [← a1, ← a2]; exact e) (by rw [← a1]; exact hne)
