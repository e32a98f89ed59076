/-! L3: CLOTHS, the model -/
def Cd (a b : Sig) : Prop := (∀ q, q ≠ 10 → b q = a q) ∧ ∀ p, p < np a → b 10 p = a 10 p
theorem Cd_hold {a b : Sig} (h : Cd a b) (g : Int32) (p : Nat) : hold b g p = hold a g p := by
  unfold hold np pr; rw [h.1 8 (by decide), h.1 9 (by decide)]
theorem Cd_wN {a b : Sig} (h : Cd a b) (p : Nat) : wN b p = wN a p := by unfold wN; rw [h.1 9 (by decide)]
theorem Cd_share {B : LW} {a b : Sig} (h : Cd a b) : shareX B b = shareX B a := shareX_e (h.1 1 (by decide)) (h.1 3 (by decide)) (h.1 4 (by decide)) (h.1 6 (by decide)) (h.1 7 (by decide)) (h.1 8 (by decide))
theorem Cd_top {a b : Sig} (h : Cd a b) (s : Int32) {p : Nat} (hp : p < np a) : topS b s p = topS a s p := by
  have : topX b = topX a := by funext s p b' c; unfold topX; rw [h.1 3 (by decide), h.1 8 (by decide)]
  unfold topS; rw [this, Cd_wN h, h.2 p hp]
theorem Cd_least {a b : Sig} (h : Cd a b) (s g : Int32) : leastS b s g = leastS a s g := by
  have : leastF b s g = leastF a s g := by
    funext p x
    unfold leastF
    by_cases k : hold a g p
    · rw [if_pos k, if_pos (by rw [Cd_hold h]; exact k), Cd_top h s k.1]
    · rw [if_neg k, if_neg (by rw [Cd_hold h]; exact k)]
  unfold leastS; rw [this]
theorem Cd_sh0 {B : LW} {a b : Sig} (h : Cd a b) (s g : Int32) : sh0 B b s g = sh0 B a s g := by
  funext p
  unfold sh0
  by_cases k : hold a g p
  · rw [if_pos k, if_pos (by rw [Cd_hold h]; exact k), Cd_least h]
    unfold shareS
    rw [Cd_share h, Cd_wN h, h.2 p k.1]
  · rw [if_neg k, if_neg (by rw [Cd_hold h]; exact k)]
theorem Cd_sh {B : LW} {a b : Sig} (h : Cd a b) (s g : Int32) : sh B b s g = sh B a s g := by
  funext p
  have e : (if hold b g p then (1 : Nat) else 0) = (if hold a g p then (1 : Nat) else 0) := by
    by_cases k : hold a g p
    · rw [if_pos k, if_pos (by rw [Cd_hold h]; exact k)]
    · rw [if_neg k, if_neg (by rw [Cd_hold h]; exact k)]
  unfold sh
  rw [Cd_sh0 h, e]
theorem Cd_loadO {B : LW} {a b : Sig} (h : Cd a b) (s g : Int32) : loadO B b s g = loadO B a s g := by
  have e1 : canN b = canN a := by
    funext p; unfold canN canB; rw [Cd_wN h, h.1 4 (by decide), h.1 7 (by decide)]
  have e2 : pdN b = pdN a := by unfold pdN; rw [h.1 1 (by decide)]
  unfold loadO; rw [e1, e2, Cd_sh h]
theorem Cd_loadS {B : LW} {a b : Sig} (h : Cd a b) (s g : Int32) : loadS B b s g = loadS B a s g := by
  funext p; unfold loadS; rw [Cd_loadO h]
theorem Cd_bear {B : LW} {a b : Sig} (h : Cd a b) (s g : Int32) : bearS B b s g = bearS B a s g := by
  unfold bearS; rw [Cd_loadO h]
theorem Cd_spread {B : LW} {a b : Sig} (h : Cd a b) (s g : Int32) : spreadS B b s g = spreadS B a s g := by
  have e1 : ∀ v, gMx b g v = gMx a g v := fun v => by
    funext p x; unfold gMx
    by_cases k : hold a g p
    · rw [if_pos k, if_pos (by rw [Cd_hold h]; exact k)]
    · rw [if_neg k, if_neg (by rw [Cd_hold h]; exact k)]
  have e2 : ∀ v, gMn b g v = gMn a g v := fun v => by
    funext p x; unfold gMn
    by_cases k : hold a g p
    · rw [if_pos k, if_pos (by rw [Cd_hold h]; exact k)]
    · rw [if_neg k, if_neg (by rw [Cd_hold h]; exact k)]
  unfold spreadS; rw [e1, e2, Cd_loadS h]
/-- the model's world: cloths told by a list, none beyond -/
def tm (ω : Sig) (pre : List Nat) : Sig := fun q k => if q = 10 ∧ k < 8 then (if k < pre.length then nI (wv pre k) else 0) else ω q k
theorem tm_q {ω : Sig} {pre : List Nat} {q : Nat} (h : q ≠ 10) : tm ω pre q = ω q := by
  funext k; unfold tm; rw [if_neg (fun e => h e.1)]
theorem tm_k {ω : Sig} {pre : List Nat} {k : Nat} (h : k < pre.length) (h8 : k < 8) : tm ω pre 10 k = nI (wv pre k) := by
  unfold tm; rw [if_pos ⟨rfl, h8⟩, if_pos h]
theorem tm_z {ω : Sig} {pre : List Nat} {k : Nat} (h : pre.length ≤ k) (h8 : k < 8) : tm ω pre 10 k = 0 := by
  unfold tm; rw [if_pos ⟨rfl, h8⟩, if_neg (by omega)]
theorem tm_C {ω : Sig} {w : List Nat} (h8 : np ω ≤ 8) (hl : w.length = np ω) : Cd (tc ω w) (tm ω w) := by
  refine ⟨fun q hq => by rw [tm_q hq, tc_q hq], fun p hp => ?_⟩
  have e : np (tc ω w) = np ω := by unfold np pr; rw [tc_q (by decide)]
  rw [e] at hp
  rw [tm_k (by omega) (by omega), tc_k hp]
theorem tm_s {ω : Sig} {pre : List Nat} {b : Nat} (h8 : pre.length < 8) (x : Nat) : tm ω (b :: pre) = pt (tm ω (x :: pre)) 10 pre.length (nI b) := by
  funext q k
  rw [pt_ap]
  by_cases e : q = 10 ∧ k = pre.length
  · rw [if_pos e, e.1, e.2, tm_k (by simp) h8, wv_n]
  · rw [if_neg e]
    unfold tm
    by_cases c : q = 10 ∧ k < 8
    · rw [if_pos c, if_pos c, List.length_cons, List.length_cons]
      by_cases j : k < pre.length + 1
      · have : k < pre.length := by have : k ≠ pre.length := fun e2 => e ⟨c.1, e2⟩; omega
        rw [if_pos j, if_pos j, wv_o this, wv_o this]
      · rw [if_neg j, if_neg j]
    · rw [if_neg c, if_neg c]
theorem tm_d {ω : Sig} {pre : List Nat} (h8 : pre.length < 8) (x : Nat) : tm ω pre = pt (tm ω (x :: pre)) 10 pre.length 0 := by
  funext q k
  rw [pt_ap]
  by_cases e : q = 10 ∧ k = pre.length
  · rw [if_pos e, e.1, e.2, tm_z (Nat.le_refl _) h8]
  · rw [if_neg e]
    unfold tm
    by_cases c : q = 10 ∧ k < 8
    · have ne : k ≠ pre.length := fun e2 => e ⟨c.1, e2⟩
      rw [if_pos c, if_pos c, List.length_cons]
      by_cases j : k < pre.length
      · rw [if_pos j, if_pos (by omega), wv_o j]
      · rw [if_neg j, if_neg (by omega)]
    · rw [if_neg c, if_neg c]
def zz : Nat → List Nat → List Nat
  | 0, u => u
  | k + 1, u => zz k (0 :: u)
theorem zz_l : ∀ k u, (zz k u).length = u.length + k := by
  intro k
  induction k with
  | zero => intro u; rfl
  | succ k ih => intro u; rw [zz, ih, List.length_cons]; omega
theorem zz_t {ω : Sig} : ∀ k u, tm ω (zz k u) = tm ω u := by
  intro k
  induction k with
  | zero => intro u; rfl
  | succ k ih =>
    intro u
    rw [zz, ih]
    funext q j
    unfold tm
    by_cases c : q = 10 ∧ j < 8
    · rw [if_pos c, if_pos c, List.length_cons]
      by_cases l : j < u.length
      · rw [if_pos l, if_pos (by omega), wv_o l]
      · rw [if_neg l]
        by_cases e : j = u.length
        · rw [if_pos (by omega), e, wv_n]; rfl
        · rw [if_neg (by omega)]
    · rw [if_neg c, if_neg c]
theorem cC_0 {ω : Sig} {pre : List Nat} : cC ω pre 0 = true := by
  unfold cC; split <;> rfl
theorem zz_v {ω : Sig} : ∀ k u, vC ω u → vC ω (zz k u) := by
  intro k
  induction k with
  | zero => intro u h; exact h
  | succ k ih => intro u h; rw [zz]; exact ih _ (vC_s h (by omega) cC_0)
theorem zz_e {ω : Sig} : ∀ k u, ∃ L, exL (cC ω) 4 k u = zz k u :: L ∧ upR (cC ω) 4 0 (zz k u) = L ++ upR (cC ω) 4 k u := by
  intro k
  induction k with
  | zero => intro u; exact ⟨[], by rw [exL]; rfl, rfl⟩
  | succ k ih =>
    intro u
    obtain ⟨L, e1, e2⟩ := ih (0 :: u)
    refine ⟨L ++ exB (cC ω) 4 (exL (cC ω) 4 k) u 3, ?_, ?_⟩
    · rw [exL, exB_s (show 4 - (3 + 1) = 0 by rfl), if_pos cC_0, e1]; rfl
    · rw [zz, e2, upR, List.append_assoc]
theorem m_nextC {B T : LW} {ω : Sig} (hW : WI B T ω) : ∀ pre k d σ, pre.length + k = np ω → vC ω pre → MR B T (tm ω pre) σ →
    (upR (cC ω) 4 k pre = [] → ∃ σ', Ex (d + 2) 247 7 [.ref 112, .int (nI pre.length - 1)] [] G0 σ = some (some (.int 0), G0, σ') ∧ Fr [113] [] σ σ') ∧
    (∀ w L, upR (cC ω) 4 k pre = w :: L → ∃ σ', Ex (d + 2) 247 7 [.ref 112, .int (nI pre.length - 1)] [] G0 σ = some (some (.int 1), G0, σ') ∧ w.length = np ω ∧ vC ω w ∧ MR B T (tm ω w) σ' ∧ upR (cC ω) 4 0 w = L ∧ Fr [113] [] σ σ') := by
  obtain ⟨_, n8', en⟩ := WI_np hW
  intro pre
  induction pre with
  | nil =>
    intro k d σ hl hv hM
    refine ⟨fun _ => ?_, fun w L e => (by cases e)⟩
    have e0 : nI ([] : List Nat).length - 1 = -1 := rfl
    have q : ((-1 : Int32) < 0) = True := eq_true (by decide)
    have q2 : ((0 : Int32) ≤ -1) = False := eq_false (by decide)
    rw [e0, b247_7]
    simp only [q, i10, i01, eq_self, if_true, if_false, true_and, false_and, and_true, and_false, not_true, not_false_iff, true_or, or_true, false_or, or_false, ne_eq, not_true_eq_false, not_false_eq_true, b247_50, q2]
    exact ⟨σ, rfl, Fr_r⟩
  | cons x pre ih =>
    intro k d σ hl hv hM
    rw [List.length_cons] at hl
    obtain ⟨hv', hx3, hx0⟩ := vC_d hv
    have p8 : pre.length < 8 := by omega
    have e0 : nI (x :: pre).length - 1 = nI pre.length := by rw [List.length_cons]; exact nI_p1 (by omega)
    have e1 : nI pre.length - 1 = nI pre.length - 1 := rfl
    have e15 : (15 : Int32) + nI pre.length = nI (15 + pre.length) := (Int32.ofNat_add 15 _).symm
    have q : (nI pre.length < 0) = False := by
      have : (nI pre.length < 0) = (pre.length < 0) := nJ_lt (b := 0) (by omega) (by omega)
      rw [this]; exact eq_false (by omega)
    have q2 : (0 ≤ nI pre.length) = True := by
      have : ((0 : Int32) ≤ nI pre.length) = (0 ≤ pre.length) := nJ_le (a := 0) (by omega) (by omega)
      rw [this]; exact eq_true (by omega)
    have h15 : σ 113 (15 + pre.length) = nI x := by
      have h : mr B T (tm ω (x :: pre)) σ 15 := hM 15
      rw [h _ p8, tm_k (by simp) p8, wv_n]
    have q3 : (nI x = 3) = (x = 3) := nJ_e (b := 3) (by omega) (by omega)
    have w9 : tm ω (x :: pre) 9 = ω 9 := tm_q (by decide)
    rw [e0, b247_7, m_who (d + 1) hM p8, w9]
    simp only [q, i10, i01, eq_self, if_true, if_false, true_and, false_and, and_true, and_false, not_true, not_false_iff, true_or, or_true, false_or, or_false, ne_eq, not_true_eq_false, not_false_eq_true, Option.bind_some, Option.toList_some, Option.toList_none, List.cons_append, List.nil_append, i01a, i01b, if_true, if_false, b247_16, e15, inb_n (show 15 + pre.length < 31 by omega) (show 15 + pre.length < 2 ^ 31 by omega), nI_c (show 15 + pre.length < 2 ^ 31 by omega), h15, q3, b247_50, q2, nI_s]
    have back : exB (cC ω) 4 (exL (cC ω) 4 k) pre (4 - (x + 1)) = [] → (upR (cC ω) 4 k (x :: pre) = [] → ∃ σ', Ex (d + 2) 247 7 [.ref 112, .int (nI pre.length - 1)] [] G0 (pt σ 113 (15 + pre.length) 0) = some (some (.int 0), G0, σ') ∧ Fr [113] [] σ σ') ∧ (∀ w L, upR (cC ω) 4 k (x :: pre) = w :: L → ∃ σ', Ex (d + 2) 247 7 [.ref 112, .int (nI pre.length - 1)] [] G0 (pt σ 113 (15 + pre.length) 0) = some (some (.int 1), G0, σ') ∧ w.length = np ω ∧ vC ω w ∧ MR B T (tm ω w) σ' ∧ upR (cC ω) 4 0 w = L ∧ Fr [113] [] σ σ') := by
      intro hz
      have hM' : MR B T (tm ω pre) (pt σ 113 (15 + pre.length) 0) := by rw [tm_d p8 x]; exact MR_cl hM p8 0
      have F : Fr [113] [] σ (pt σ 113 (15 + pre.length) 0) := Fr_p Fr_r (Or.inl (by simp))
      obtain ⟨u1, u2⟩ := ih (k + 1) d _ (by omega) hv' hM'
      rw [upR, hz, List.nil_append]
      refine ⟨fun e => ?_, fun w L e => ?_⟩
      · obtain ⟨σ', g1, g2⟩ := u1 e; exact ⟨σ', g1, Fr_t F g2⟩
      · obtain ⟨σ', g1, g2, g3, g4, g5, g6⟩ := u2 w L e; exact ⟨σ', g1, g2, g3, g4, g5, Fr_t F g6⟩
    by_cases c : ω 9 pre.length = -1
    · simp only [eq_true c, i10, i01, eq_self, if_true, if_false, true_and, false_and, and_true, and_false, not_true, not_false_iff, true_or, or_true, false_or, or_false, ne_eq, not_true_eq_false, not_false_eq_true]
      have x0 := hx0 c
      refine back (exB_0 _ (by omega) (fun b h1 h2 => ?_))
      unfold cC; rw [if_pos c]; exact decide_eq_false (by omega)
    · simp only [eq_false c, i10, i01, eq_self, if_true, if_false, true_and, false_and, and_true, and_false, not_true, not_false_iff, true_or, or_true, false_or, or_false, ne_eq, not_true_eq_false, not_false_eq_true]
      by_cases c3 : x = 3
      · simp only [eq_true c3, i10, i01, eq_self, if_true, if_false, true_and, false_and, and_true, and_false, not_true, not_false_iff, true_or, or_true, false_or, or_false, ne_eq, not_true_eq_false, not_false_eq_true]
        have := back (by rw [c3]; rfl)
        simpa only [c3] using this
      · simp only [eq_false c3, i10, i01, eq_self, if_true, if_false, true_and, false_and, and_true, and_false, not_true, not_false_iff, true_or, or_true, false_or, or_false, ne_eq, not_true_eq_false, not_false_eq_true]
        have hc : cC ω pre (x + 1) = true := by unfold cC; rw [if_neg c]
        obtain ⟨L0, z1, z2⟩ := zz_e (ω := ω) k ((x + 1) :: pre)
        have eU : upR (cC ω) 4 k (x :: pre) = zz k ((x + 1) :: pre) :: (L0 ++ upR (cC ω) 4 k ((x + 1) :: pre)) := by
          rw [upR, show 4 - (x + 1) = (3 - (x + 1)) + 1 by omega, exB_s (show 4 - (3 - (x + 1) + 1) = x + 1 by omega), if_pos hc, z1, upR, show 3 - (x + 1) = 4 - (x + 1 + 1) by omega]
          simp
        refine ⟨fun e => (by rw [eU] at e; cases e), fun w L e => ?_⟩
        rw [eU] at e
        obtain ⟨ew, eL⟩ := List.cons.inj e
        subst ew; subst eL
        refine ⟨_, rfl, by rw [zz_l, List.length_cons]; omega, zz_v _ _ (vC_s hv' (by omega) hc), ?_, z2, Fr_p Fr_r (Or.inl (by simp))⟩
        rw [zz_t, tm_s p8 x]; exact MR_cl hM p8 _
theorem su_in : ∀ w : List Nat, su (wv w) w.length = inS w := by
  intro w
  induction w with
  | nil => rfl
  | cons b w ih =>
    show su (wv (b :: w)) w.length + wv (b :: w) w.length = inS w + b
    rw [wv_n, su_c (g := wv w) (fun p hp => wv_o hp), ih]
theorem m_inches (d : Nat) {B T : LW} {ω σ : Sig} {w : List Nat} (hW : WI B T ω) (hl : w.length = np ω) (hM : MR B T (tm ω w) σ) : Ex (d + 2) 246 0 [.ref 112, .null, .null] [] G0 σ = some (some (.int (nI (inS w))), G0, σ) := by
  obtain ⟨_, n8', en⟩ := WI_np hW
  have h15 : mr B T (tm ω w) σ 15 := hM 15
  have pl : 2 * (σ 112 7 + 3) = nI (np ω) := by
    have h1 : mr B T (tm ω w) σ 1 := hM 1
    rw [show σ 112 7 = ω 8 0 - 3 from by rw [show σ 112 7 = tm ω w 8 0 - 3 from h1, tm_q (by decide)], s3a]; exact en
  rw [b246_0]
  have key : ∀ m p, p + m = np ω → Ex (d + 2) 246 4 [.ref 112, .int (nI (su (wv w) p)), .int (nI p)] [] G0 σ = some (some (.int (nI (inS w))), G0, σ) := by
    intro m
    induction m with
    | zero =>
      intro p hp
      have q : (nI (np ω) ≤ nI p) = True := by rw [nJ_le (by omega) (by omega)]; exact eq_true (by omega)
      rw [b246_4, m_places, pl]
      simp only [Option.bind_some, Option.toList_some, Option.toList_none, List.cons_append, List.nil_append, i01a, i01b, if_true, if_false, b246_9, q, i10, i01, eq_self, if_true, if_false, true_and, false_and, and_true, and_false, not_true, not_false_iff, true_or, or_true, false_or, or_false, ne_eq, not_true_eq_false, not_false_eq_true]
      rw [show p = w.length by omega, su_in]
    | succ m ih =>
      intro p hp
      have q : (nI (np ω) ≤ nI p) = False := by rw [nJ_le (by omega) (by omega)]; exact eq_false (by omega)
      have e15 : (15 : Int32) + nI p = nI (15 + p) := (Int32.ofNat_add 15 _).symm
      have ea : nI (su (wv w) p) + nI (wv w p) = nI (su (wv w) (p + 1)) := (Int32.ofNat_add _ _).symm
      rw [b246_4, m_places, pl]
      simp only [Option.bind_some, Option.toList_some, Option.toList_none, List.cons_append, List.nil_append, i01a, i01b, if_true, if_false, b246_9, q, i10, i01, eq_self, if_true, if_false, true_and, false_and, and_true, and_false, not_true, not_false_iff, true_or, or_true, false_or, or_false, ne_eq, not_true_eq_false, not_false_eq_true, e15, inb_n (show 15 + p < 31 by omega) (show 15 + p < 2 ^ 31 by omega), nI_c (show 15 + p < 2 ^ 31 by omega), h15 p (by omega), tm_k (show p < w.length by omega) (show p < 8 by omega), ea, nI_s]
      exact ih (p + 1) (by omega)
  exact key (np ω) 0 (by omega)
