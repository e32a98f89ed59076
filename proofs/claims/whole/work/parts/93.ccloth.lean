/-! L3: CLOTHS, the class -/
def inS : List Nat → Nat
  | [] => 0
  | b :: r => inS r + b
def cC (ω : Sig) (pre : List Nat) (b : Nat) : Bool := if ω 9 pre.length = -1 then decide (b = 0) else true
def vC (ω : Sig) (w : List Nat) : Prop := ∀ p, p < w.length → wv w p ≤ 3 ∧ (ω 9 p = -1 → wv w p = 0)
theorem vC_0 {ω : Sig} : vC ω [] := fun p hp => by simp at hp
theorem vC_s {ω : Sig} {w : List Nat} {b : Nat} (h : vC ω w) (hb : b ≤ 3) (hc : cC ω w b = true) : vC ω (b :: w) := by
  intro p hp
  by_cases e : p = w.length
  · subst e; rw [wv_n]
    refine ⟨hb, fun k => ?_⟩
    unfold cC at hc
    rw [if_pos k] at hc
    exact of_decide_eq_true hc
  · have : p < w.length := by simp at hp; omega
    rw [wv_o this]; exact h p this
theorem vC_d {ω : Sig} {w : List Nat} {b : Nat} (h : vC ω (b :: w)) : vC ω w ∧ b ≤ 3 ∧ (ω 9 w.length = -1 → b = 0) := by
  have hn := h w.length (by simp)
  rw [wv_n] at hn
  exact ⟨fun p hp => by have := h p (by simp; omega); rwa [wv_o hp] at this, hn⟩
theorem inS_b {ω : Sig} : ∀ {w : List Nat}, vC ω w → inS w ≤ 3 * w.length := by
  intro w
  induction w with
  | nil => intro _; exact Nat.le_refl _
  | cons b w ih =>
    intro h
    obtain ⟨h1, h2, _⟩ := vC_d h
    have := ih h1
    show inS w + b ≤ 3 * (w.length + 1)
    omega
def tc (ω : Sig) (pre : List Nat) : Sig := fun q k => if q = 10 ∧ k < np ω then nI (wv pre k) else ω q k
theorem tc_q {ω : Sig} {pre : List Nat} {q : Nat} (h : q ≠ 10) : tc ω pre q = ω q := by
  funext k; unfold tc; rw [if_neg (fun e => h e.1)]
theorem tc_k {ω : Sig} {pre : List Nat} {k : Nat} (h : k < np ω) : tc ω pre 10 k = nI (wv pre k) := if_pos ⟨rfl, h⟩
theorem tc_o {ω : Sig} {pre : List Nat} {k : Nat} (h : np ω ≤ k) : tc ω pre 10 k = ω 10 k := if_neg (fun e => by omega)
theorem WI_c10 {B T : LW} {ω ω' : Sig} (hW : WI B T ω) (q : ∀ q, q ≠ 10 → ω' q = ω q) (h8 : ∀ p, p < 8 → bw (ω' 10 p) 0 6) : WI B T ω' := by
  intro i
  have h := hW i
  match i, h with
  | 0, h => (simp only [wi, np, pr, sz, wl, paced] at h ⊢; (try simp (disch := decide) only [q]); first | done | exact h)
  | 1, h => (simp only [wi, np, pr, sz, wl, paced] at h ⊢; (try simp (disch := decide) only [q]); first | done | exact h)
  | 2, h => (simp only [wi, np, pr, sz, wl, paced] at h ⊢; (try simp (disch := decide) only [q]); first | done | exact h)
  | 3, h => (simp only [wi, np, pr, sz, wl, paced] at h ⊢; (try simp (disch := decide) only [q]); first | done | exact h)
  | 4, h => (simp only [wi, np, pr, sz, wl, paced] at h ⊢; (try simp (disch := decide) only [q]); first | done | exact h)
  | 5, h => (simp only [wi, np, pr, sz, wl, paced] at h ⊢; (try simp (disch := decide) only [q]); first | done | exact h)
  | 6, h => (simp only [wi, np, pr, sz, wl, paced] at h ⊢; (try simp (disch := decide) only [q]); first | done | exact h)
  | 7, h => (simp only [wi, np, pr, sz, wl, paced] at h ⊢; (try simp (disch := decide) only [q]); first | done | exact h)
  | 8, h => exact h8
  | 9, h => (simp only [wi, np, pr, sz, wl, paced] at h ⊢; (try simp (disch := decide) only [q]); first | done | exact h)
  | 10, h => (simp only [wi, np, pr, sz, wl, paced] at h ⊢; (try simp (disch := decide) only [q]); first | done | exact h)
  | 11, h => (simp only [wi, np, pr, sz, wl, paced] at h ⊢; (try simp (disch := decide) only [q]); first | done | exact h)
  | 12, h => (simp only [wi, np, pr, sz, wl, paced] at h ⊢; (try simp (disch := decide) only [q]); first | done | exact h)
  | 13, h => (simp only [wi, np, pr, sz, wl, paced] at h ⊢; (try simp (disch := decide) only [q]); first | done | exact h)
  | 14, h => (simp only [wi, np, pr, sz, wl, paced] at h ⊢; (try simp (disch := decide) only [q]); first | done | exact h)
  | 15, h => (simp only [wi, np, pr, sz, wl, paced] at h ⊢; (try simp (disch := decide) only [q]); first | done | exact h)
  | 16, h => (simp only [wi, np, pr, sz, wl, paced] at h ⊢; (try simp (disch := decide) only [q]); first | done | exact h)
  | 17, h => (simp only [wi, np, pr, sz, wl, paced] at h ⊢; (try simp (disch := decide) only [q]); first | done | exact h)
  | 18, h => (simp only [wi, np, pr, sz, wl, paced] at h ⊢; (try simp (disch := decide) only [q]); first | done | exact h)
  | 19, h => (simp only [wi, np, pr, sz, wl, paced] at h ⊢; (try simp (disch := decide) only [q]); first | done | exact h)
  | 20, h => (simp only [wi, np, pr, sz, wl, paced] at h ⊢; (try simp (disch := decide) only [q]); first | done | exact h)
  | 21, h => (simp only [wi, np, pr, sz, wl, paced] at h ⊢; (try simp (disch := decide) only [q]); first | done | exact h)
  | 22, h => (simp only [wi, np, pr, sz, wl, paced] at h ⊢; (try simp (disch := decide) only [q]); first | done | exact h)
  | _ + 23, _ => trivial
theorem WI_tc {B T : LW} {ω : Sig} {pre : List Nat} (hW : WI B T ω) (hl : pre.length = np ω) (hv : vC ω pre) : WI B T (tc ω pre) := by
  have n8' := (WI_np hW).2.1
  have h8 : wi B T ω 8 := hW 8
  refine WI_c10 hW (fun q hq => tc_q hq) (fun p hp => ?_)
  by_cases k : p < np ω
  · rw [tc_k k]
    have := (hv p (by omega)).1
    unfold bw; rw [nI_i (by omega)]; omega
  · rw [tc_o (by omega)]; exact h8 p hp
noncomputable def jC (B : LW) (ω : Sig) (pre : List Nat) (st : Option (Nat × Nat × List Nat)) : Option (Nat × Nat × List Nat) :=
  @ite (Option (Nat × Nat × List Nat)) (bearS B (tc ω pre) 0 0 ∧ (∀ x, st = some x → spN B (tc ω pre) < x.1 ∨ (spN B (tc ω pre) = x.1 ∧ inS pre < x.2.1))) (Classical.propDecidable _) (some (spN B (tc ω pre), inS pre, pre)) st
theorem jC_y {B : LW} {ω : Sig} {pre : List Nat} {st : Option (Nat × Nat × List Nat)} (h : bearS B (tc ω pre) 0 0 ∧ (∀ x, st = some x → spN B (tc ω pre) < x.1 ∨ (spN B (tc ω pre) = x.1 ∧ inS pre < x.2.1))) : jC B ω pre st = some (spN B (tc ω pre), inS pre, pre) := if_pos h
theorem jC_n {B : LW} {ω : Sig} {pre : List Nat} {st : Option (Nat × Nat × List Nat)} (h : ¬ (bearS B (tc ω pre) 0 0 ∧ (∀ x, st = some x → spN B (tc ω pre) < x.1 ∨ (spN B (tc ω pre) = x.1 ∧ inS pre < x.2.1)))) : jC B ω pre st = st := if_neg h
noncomputable def coS (B : LW) (ω : Sig) : Option (Nat × Nat × List Nat) := fdl (jC B ω) (exL (cC ω) 4 (np ω) []) none
/-- inches only grow -/
theorem exB_in {c : List Nat → Nat → Bool} {g : List Nat → List (List Nat)} {pre : List Nat} {n : Nat} (hg : ∀ b w, w ∈ g (b :: pre) → inS pre + b ≤ inS w) : ∀ m, (n ≤ inS pre + (4 - m)) → m ≤ 4 → ∀ w, w ∈ exB c 4 g pre m → n ≤ inS w := by
  intro m
  induction m with
  | zero => intro _ _ w hw; cases hw
  | succ m ih =>
    intro h1 h2 w hw
    rw [exB, List.mem_append] at hw
    rcases hw with hw | hw
    · split at hw
      · have := hg _ _ hw; omega
      · cases hw
    · exact ih (by omega) (by omega) w hw
theorem exL_in {c : List Nat → Nat → Bool} : ∀ k pre w, w ∈ exL c 4 k pre → inS pre ≤ inS w := by
  intro k
  induction k with
  | zero => intro pre w hw; rw [exL] at hw; simp at hw; subst hw; exact Nat.le_refl _
  | succ k ih =>
    intro pre w hw
    rw [exL] at hw
    exact exB_in (n := inS pre) (fun b w hw => ih (b :: pre) w hw) 4 (by omega) (by omega) w hw
theorem fdl_in {B : LW} {ω : Sig} {n : Nat} {b : List Nat} : ∀ L, (∀ w, w ∈ L → n ≤ inS w) → fdl (jC B ω) L (some (0, n, b)) = some (0, n, b) := by
  intro L
  induction L with
  | nil => intro _; rfl
  | cons x L ih =>
    intro h
    show fdl (jC B ω) L (jC B ω x (some (0, n, b))) = _
    rw [jC_n (fun e => by
      have h1 := h x (by simp)
      rcases e.2 _ rfl with h2 | ⟨_, h2⟩
      · exact absurd h2 (Nat.not_lt_zero _)
      · have : inS x < n := h2
        omega)]
    exact ih (fun w hw => h w (List.mem_cons_of_mem _ hw))
def Wy (ω σ : Sig) : Prop := ∀ q, 1 ≤ q → q ≤ 26 → q ≠ 10 → q ≠ 16 → q ≠ 19 → σ q = ω q
theorem Wy_s {B : LW} {ω σ : Sig} (h : Wy ω σ) : shareX B σ = shareX B ω :=
  shareX_e (h 1 (by omega) (by omega) (by omega) (by omega) (by omega)) (h 3 (by omega) (by omega) (by omega) (by omega) (by omega)) (h 4 (by omega) (by omega) (by omega) (by omega) (by omega)) (h 6 (by omega) (by omega) (by omega) (by omega) (by omega)) (h 7 (by omega) (by omega) (by omega) (by omega) (by omega)) (h 8 (by omega) (by omega) (by omega) (by omega) (by omega))
theorem Wy_w {ω σ : Sig} (h : Wy ω σ) (p : Nat) : wN σ p = wN ω p := by unfold wN; rw [h 9 (by omega) (by omega) (by omega) (by omega) (by omega)]
def MO2 (B : LW) (ω σ : Sig) : Prop := σ 67 8 = 1 ∧ σ 67 9 = 1 ∧ ∀ p x j, p < 8 → x < 8 → j < 47 → σ 73 ((p * 8 + x) * 47 + j) = -1 ∨ σ 73 ((p * 8 + x) * 47 + j) = shareX B ω 0 p (wN ω p) (nI x) (nI (40 + j))
theorem MO2_MEM {B : LW} {ω σ : Sig} (h : Wy ω σ) (m : MO2 B ω σ) : MEM B σ := by
  obtain ⟨m8, m9, mm⟩ := m
  have z : ¬ σ 67 9 = 0 := by rw [m9]; decide
  refine Or.inr ⟨m8, Or.inr m9, fun p x j hp hx hj => ?_⟩
  rw [if_neg z, if_neg z, Wy_s h, Wy_w h]
  exact mm p x j hp hx hj
theorem MEM_MO2 {B : LW} {ω σ : Sig} (h : Wy ω σ) (m : MEM B σ) (m8 : σ 67 8 = 1) (m9 : σ 67 9 = 1) : MO2 B ω σ := by
  have z : ¬ σ 67 9 = 0 := by rw [m9]; decide
  rcases m with m | ⟨_, _, mm⟩
  · rw [m8] at m; exact absurd m (by decide)
  · refine ⟨m8, m9, fun p x j hp hx hj => ?_⟩
    have := mm p x j hp hx hj
    rwa [if_neg z, if_neg z, Wy_s h, Wy_w h] at this
def FY (B : LW) (ω : Sig) (pre : List Nat) (σ : Sig) : Prop := Wy ω σ ∧ MO2 B ω σ ∧ (∀ p, p < pre.length → σ 10 p = nI (wv pre p)) ∧ (∀ p, np ω ≤ p → σ 10 p = ω 10 p)
theorem FY_q {B : LW} {ω : Sig} {pre : List Nat} {σ : Sig} (i : FY B ω pre σ) (hl : pre.length = np ω) : Wq (tc ω pre) σ := by
  obtain ⟨w, _, a, b⟩ := i
  intro q h1 h2 h3 h4
  by_cases e : q = 10
  · subst e
    funext k
    by_cases c : k < np ω
    · rw [tc_k c]; exact a k (by omega)
    · rw [tc_o (by omega)]; exact b k (by omega)
  · rw [tc_q e]; exact w q h1 h2 e h3 h4
theorem FY_fr {B : LW} {ω : Sig} {pre : List Nat} {σ σ' : Sig} (i : FY B ω pre σ) (f : ∀ q, 1 ≤ q → q ≤ 26 → q ≠ 16 → q ≠ 19 → σ' q = σ q) (m : MEM B σ') (e8 : σ' 67 8 = σ 67 8) (e9 : σ' 67 9 = σ 67 9) : FY B ω pre σ' := by
  obtain ⟨w, o, a, b⟩ := i
  have w' : Wy ω σ' := fun q h1 h2 h3 h4 h5 => (f q h1 h2 h4 h5).trans (w q h1 h2 h3 h4 h5)
  have f10 := f 10 (by omega) (by omega) (by omega) (by omega)
  refine ⟨w', MEM_MO2 w' m (e8.trans o.1) (e9.trans o.2.1), ?_, ?_⟩ <;> rw [f10]
  · exact a
  · exact b
theorem FY_d {B : LW} {ω : Sig} {pre : List Nat} {b : Nat} {σ : Sig} (i : FY B ω (b :: pre) σ) : FY B ω pre σ := by
  obtain ⟨w, o, a, e⟩ := i
  refine ⟨w, o, fun p hp => ?_, e⟩
  rw [a p (by simp; omega), wv_o hp]
theorem FY_s {B : LW} {ω : Sig} {pre : List Nat} {b : Nat} {σ : Sig} (hl : pre.length < np ω) (i : FY B ω pre σ) : FY B ω (b :: pre) (pt σ 10 pre.length (nI b)) := by
  obtain ⟨w, o, a, e⟩ := i
  refine ⟨fun q h1 h2 h3 h4 h5 => by rw [pt_q h3]; exact w q h1 h2 h3 h4 h5, ⟨by rw [pt_q (by decide)]; exact o.1, by rw [pt_q (by decide)]; exact o.2.1, by rw [pt_q (by decide)]; exact o.2.2⟩, fun p hp => ?_, fun p hp => ?_⟩
  · by_cases k : p = pre.length
    · subst k; rw [wv_n, pt_e]
    · have : p < pre.length := by simp at hp; omega
      rw [pt_k k, wv_o this, a p this]
  · rw [pt_k (by omega)]; exact e p hp
def SCZ : List Nat := [10, 16, 68, 69, 70, 71, 72, 73, 81]
def SLZ : List (Nat × Nat) := [(67, 2), (67, 3), (79, 2), (79, 3)]
def coA (st : Option (Nat × Nat × List Nat)) : Int32 := match st with
  | none => -1
  | some x => nI x.1
def coI (st : Option (Nat × Nat × List Nat)) : Int32 := match st with
  | none => 0
  | some x => nI x.2.1
def KZ (ω : Sig) (st : Option (Nat × Nat × List Nat)) (σ : Sig) : Prop := σ 79 2 = coA st ∧ σ 79 3 = coI st ∧ ∀ x, st = some x → x.1 ≤ 1000 ∧ x.2.1 ≤ 24 ∧ ∀ p, p < np ω → σ 81 p = nI (wv x.2.2 p)
theorem c_judgeC (d : Nat) {B T : LW} {ω : Sig} (hW : WI B T ω) {pre : List Nat} {st : Option (Nat × Nat × List Nat)} {σ : Sig} (hl : pre.length = np ω) (hv : vC ω pre) (i : FY B ω pre σ) (k : KZ ω st σ) :
    ∃ σ', Ex (d + 4) 69 0 [.ref 79, .int (nI (inS pre)), .null, .null] [] G0 σ = some (none, G0, σ') ∧ FY B ω pre σ' ∧ KZ ω (jC B ω pre st) σ' ∧ Fr SCZ SLZ σ σ' := by
  have n8' := (WI_np hW).2.1
  have hWt := WI_tc hW hl hv
  have hin : inS pre ≤ 24 := by have := inS_b hv; omega
  obtain ⟨σ1, e1, f1, m1, q1, b1⟩ := c_bearsW d 0 (FY_q i hl) hWt bw0 (MO2_MEM i.1 i.2.1) (fun _ => rfl)
  have fq : ∀ q, 1 ≤ q → q ≤ 26 → q ≠ 16 → q ≠ 19 → σ1 q = σ q := fun q h1 h2 h3 h4 => Fr_q f1 (by unfold SCB; simp; omega) (by simp; omega)
  have i1 : FY B ω pre σ1 := FY_fr i fq m1 (f1 67 8 (by decide) (by simp)) (f1 67 9 (by decide) (by simp))
  have F1 : Fr SCZ SLZ σ σ1 := Fr_m f1 (by decide) (by decide)
  have a2 : σ1 79 2 = coA st := by rw [f1 79 2 (by decide) (by simp)]; exact k.1
  have a3 : σ1 79 3 = coI st := by rw [f1 79 3 (by decide) (by simp)]; exact k.2.1
  have k1 : KZ ω st σ1 := ⟨a2, a3, fun x hx => ⟨(k.2.2 x hx).1, (k.2.2 x hx).2.1, fun p hp => by rw [f1 81 p (by decide) (by simp)]; exact (k.2.2 x hx).2.2 p hp⟩⟩
  simp only [b69_0, e1, Option.bind_some, Option.toList_some, Option.toList_none, List.cons_append, List.nil_append, i01a, i01b, if_true, if_false, b69_13, bI_z, bI_o, bI_em, ite_not]
  by_cases hb : bearS B (tc ω pre) 0 0
  · obtain ⟨es, hs⟩ := spread_n hWt hb
    simp only [eq_true hb, i10, i01, eq_self, if_true, if_false, true_and, false_and, and_true, and_false, not_true, not_false_iff, true_or, or_true, false_or, or_false, ne_eq, not_true_eq_false, not_false_eq_true, (fun d => c_spread d hWt b1 hb), Option.bind_some, Option.toList_some, Option.toList_none, List.cons_append, List.nil_append, i01a, i01b, if_true, if_false, b69_24, a2, es]
    have cp : ∀ d σ, Ex (d + 1) 140 0 [.ref 10, .ref 81] [] G0 σ = some (none, G0, cpS σ 10 81 8) := fun d σ => c_copy d σ 10 81 8 rfl rfl (by decide)
    have take : (∀ x, st = some x → spN B (tc ω pre) < x.1 ∨ (spN B (tc ω pre) = x.1 ∧ inS pre < x.2.1)) → ∃ σ', some (none, G0, cpS (pt (pt σ1 79 2 (nI (spN B (tc ω pre)))) 79 3 (nI (inS pre))) 10 81 8) = some ((none : Option Value), G0, σ') ∧ FY B ω pre σ' ∧ KZ ω (jC B ω pre st) σ' ∧ Fr SCZ SLZ σ σ' := by
      intro hx
      rw [jC_y ⟨hb, hx⟩]
      refine ⟨_, rfl, ?_, ⟨?_, ?_, fun x hx => ?_⟩, ?_⟩
      · refine FY_fr i1 (fun q h1 h2 h3 h4 => by rw [cpS_q (by omega), pt_q (by omega), pt_q (by omega)]) ?_ (by rw [cpS_q (by decide), pt_q (by decide), pt_q (by decide)]) (by rw [cpS_q (by decide), pt_q (by decide), pt_q (by decide)])
        exact MEM_fr m1 (fun q hq => by rw [cpS_q (by simp at hq; omega), pt_q (by simp at hq; omega), pt_q (by simp at hq; omega)]) (by rw [cpS_q (by decide), pt_q (by decide), pt_q (by decide)]) (by rw [cpS_q (by decide), pt_q (by decide), pt_q (by decide)])
      · rw [cpS_q (by decide), pt_k (by decide), pt_e]; rfl
      · rw [cpS_q (by decide), pt_e]; rfl
      · cases hx
        refine ⟨hs, hin, fun p hp => ?_⟩
        rw [cpS_k (by omega), pt_q (by decide), pt_q (by decide)]
        exact i1.2.2.1 p (by omega)
      · refine Fr_t F1 (Fr_c (Fr_p (Fr_p Fr_r (Or.inr (by decide))) (Or.inr (by decide))) (by decide))
    have skip : ¬ (∀ x, st = some x → spN B (tc ω pre) < x.1 ∨ (spN B (tc ω pre) = x.1 ∧ inS pre < x.2.1)) → ∃ σ', some (none, G0, σ1) = some ((none : Option Value), G0, σ') ∧ FY B ω pre σ' ∧ KZ ω (jC B ω pre st) σ' ∧ Fr SCZ SLZ σ σ' := fun h => ⟨σ1, rfl, i1, by rw [jC_n (fun e => h e.2)]; exact k1, F1⟩
    cases st with
    | none =>
      have : (coA none = -1) = True := eq_true rfl
      simp only [this, i10, i01, eq_self, if_true, if_false, true_and, false_and, and_true, and_false, not_true, not_false_iff, true_or, or_true, false_or, or_false, ne_eq, not_true_eq_false, not_false_eq_true, b69_46, cp, Option.bind_some, Option.toList_some, Option.toList_none, List.cons_append, List.nil_append, i01a, i01b, if_true, if_false, b69_94]
      exact take (fun x hx => by cases hx)
    | some x =>
      obtain ⟨hx, hx2, _⟩ := k.2.2 x rfl
      have e : coA (some x) = nI x.1 := rfl
      have e' : coI (some x) = nI x.2.1 := rfl
      rw [e] at a2 ⊢
      rw [e'] at a3
      simp only [nI_ne (show x.1 < 2 ^ 31 by omega), nJ_le (show x.1 < 2 ^ 31 by omega) (show spN B (tc ω pre) < 2 ^ 31 by omega), i10, i01, eq_self, if_true, if_false, true_and, false_and, and_true, and_false, not_true, not_false_iff, true_or, or_true, false_or, or_false, ne_eq, not_true_eq_false, not_false_eq_true, b69_46, a2, a3, nJ_e (show spN B (tc ω pre) < 2 ^ 31 by omega) (show x.1 < 2 ^ 31 by omega), nJ_le (show x.2.1 < 2 ^ 31 by omega) (show inS pre < 2 ^ 31 by omega)]
      by_cases c : x.1 ≤ spN B (tc ω pre)
      · simp only [eq_true c, i10, i01, eq_self, if_true, if_false, true_and, false_and, and_true, and_false, not_true, not_false_iff, true_or, or_true, false_or, or_false, ne_eq, not_true_eq_false, not_false_eq_true]
        by_cases c2 : spN B (tc ω pre) = x.1
        · simp only [eq_true c2, i10, i01, eq_self, if_true, if_false, true_and, false_and, and_true, and_false, not_true, not_false_iff, true_or, or_true, false_or, or_false, ne_eq, not_true_eq_false, not_false_eq_true]
          by_cases c3 : x.2.1 ≤ inS pre
          · simp only [eq_true c3, i10, i01, eq_self, if_true, if_false, true_and, false_and, and_true, and_false, not_true, not_false_iff, true_or, or_true, false_or, or_false, ne_eq, not_true_eq_false, not_false_eq_true, b69_94]
            exact skip (fun h => by rcases h x rfl with h | h <;> omega)
          · simp only [eq_false c3, i10, i01, eq_self, if_true, if_false, true_and, false_and, and_true, and_false, not_true, not_false_iff, true_or, or_true, false_or, or_false, ne_eq, not_true_eq_false, not_false_eq_true, b69_94, cp, Option.bind_some, Option.toList_some, Option.toList_none, List.cons_append, List.nil_append, i01a, i01b, if_true, if_false]
            exact take (fun y hy => by cases hy; exact Or.inr ⟨c2, by omega⟩)
        · simp only [eq_false c2, i10, i01, eq_self, if_true, if_false, true_and, false_and, and_true, and_false, not_true, not_false_iff, true_or, or_true, false_or, or_false, ne_eq, not_true_eq_false, not_false_eq_true, b69_94]
          exact skip (fun h => by rcases h x rfl with h | h <;> omega)
      · simp only [eq_false c, i10, i01, eq_self, if_true, if_false, true_and, false_and, and_true, and_false, not_true, not_false_iff, true_or, or_true, false_or, or_false, ne_eq, not_true_eq_false, not_false_eq_true, b69_94, cp, Option.bind_some, Option.toList_some, Option.toList_none, List.cons_append, List.nil_append, i01a, i01b, if_true, if_false]
        exact take (fun y hy => by cases hy; exact Or.inl (by omega))
  · simp only [eq_false hb, i10, i01, eq_self, if_true, if_false, true_and, false_and, and_true, and_false, not_true, not_false_iff, true_or, or_true, false_or, or_false, ne_eq, not_true_eq_false, not_false_eq_true]
    refine ⟨σ1, rfl, i1, ?_, F1⟩
    rw [jC_n (fun e => hb e.1)]; exact k1
