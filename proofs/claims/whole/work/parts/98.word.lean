/-! L3: TOKENS: words, the class -/
def cw (i : Nat) : Nat := (strT.getD 0 []).getD i 0
theorem nar_c (v : Int32) : narrow .char (.int v) = .int ((v.toUInt32 % 65536).toInt32) := rfl
theorem cw_ok : ∀ i, i < 137 → ((((schr 0 (nI i)) &&& 255).toUInt32 % 65536).toInt32 = nI (cw i) ∧ ((nI (cw i)).toUInt32 % 65536).toInt32 = nI (cw i) ∧ cw i < 128) := by decide
theorem r276 (d : Nat) (σ : Sig) : Ex d 276 14 [.retAddr 0] [.int 0] G0 σ = some (some (.int 0), G0, σ) := (Ex_nxt rfl).trans rfl
theorem r276b (d : Nat) (σ : Sig) : Ex d 276 14 [.retAddr 1] [.int 0] G0 σ = some (some (.int 0), G0, σ) := (Ex_nxt rfl).trans rfl
theorem nxt_cret {K : Nat → Nat → Nat → List Value → List Value → Gam → Sig → Option Out} {d M pc : Nat} {L : List Value} {G : Gam} {σ : Sig} {b : Bool} {r : Option Value} (h : b = true) : nxt K d M pc L G σ (grd b (rtn r)) = some (r, G, σ) := by subst h; rfl
theorem r279 (d : Nat) (σ : Sig) (a : Int32) {v : Int32} (h : (v.toUInt32 % 65536).toInt32 = v) : Ex d 279 14 [.retAddr 10, .int a] [.int v] G0 σ = some (some (.int v), G0, σ) := by
  refine (Ex_nxt rfl).trans (nxt_cret ?_)
  rw [nar_c, h, decide_eq_true (rfl : Value.int v = Value.int v)]; rfl
theorem r273 (d : Nat) (σ : Sig) (a : Int32) {v : Int32} (h : (v.toUInt32 % 65536).toInt32 = v) : Ex d 273 15 [.retAddr 0, .int a] [.int v] G0 σ = some (some (.int v), G0, σ) := by
  refine (Ex_nxt rfl).trans (nxt_cret ?_)
  rw [nar_c, h, decide_eq_true (rfl : Value.int v = Value.int v)]; rfl
theorem c_wlen (d : Nat) (σ : Sig) : Ex (d + 1) 272 0 [.retAddr 0] [] G0 σ = some (some (.int 137), G0, σ) := by
  have e : (137 : Int32) >>> ((0 : Int32) &&& 31) = 137 := by decide
  simp only [b272k1_0, b276k1_0, i10, if_false, r276, Option.bind_some, Option.toList_some, Option.toList_none, List.cons_append, List.nil_append, i01a, i01b, if_true, if_false, b272k1_9, e]
theorem c_charAt (d : Nat) (σ : Sig) {i : Nat} (hi : i < 137) : Ex (d + 3) 273 0 [.retAddr 0, .int (nI i)] [] G0 σ = some (some (.int (nI (cw i))), G0, σ) := by
  obtain ⟨e1, e2, _⟩ := cw_ok i hi
  have q0 : (nI i < 0) = False := by
    have : (nI i < 0) = (i < 0) := nJ_lt (b := 0) (by omega) (by omega)
    rw [this]; exact eq_false (by omega)
  have q1 : (nI i < 137) = True := by
    have : (nI i < 137) = (i < 137) := nJ_lt (b := 137) (by omega) (by omega)
    rw [this]; exact eq_true hi
  simp only [b273_0, b277k1_0, i10, i01, eq_self, if_true, if_false, true_and, false_and, and_true, and_false, not_true, not_false_iff, true_or, or_true, false_or, or_false, ne_eq, not_true_eq_false, not_false_eq_true, Option.bind_some, Option.toList_some, Option.toList_none, List.cons_append, List.nil_append, i01a, i01b, if_true, if_false, b273_4, b279_0, b278_0, b278_8, b284_0, q0, q1, b279_6, inb_n hi (show i < 2 ^ 31 by omega), e1, r279 _ _ _ e2, r273 _ _ _ e2]
def bs (b : Nat → Nat) (F : Nat) : Nat → List Nat
  | 0 => []
  | k + 1 => bs b F k ++ [b (F + k)]
theorem bs_l {b : Nat → Nat} {F : Nat} : ∀ k, (bs b F k).length = k := by
  intro k
  induction k with
  | zero => rfl
  | succ k ih => rw [bs, List.length_append, ih]; rfl
theorem bs_g {b : Nat → Nat} {F : Nat} : ∀ k i, i < k → (bs b F k).getD i 0 = b (F + i) := by
  intro k
  induction k with
  | zero => intro i hi; omega
  | succ k ih =>
    intro i hi
    rw [bs]
    by_cases e : i = k
    · subst e
      simp [List.getD, List.getElem?_append, bs_l]
    · have : i < k := by omega
      rw [← ih i this]
      simp [List.getD, List.getElem?_append, bs_l, this]
theorem bs_e {b : Nat → Nat} {F k : Nat} {w : List Nat} : bs b F k = w ↔ k = w.length ∧ ∀ i, i < k → b (F + i) = w.getD i 0 := by
  constructor
  · intro e; subst e
    exact ⟨(bs_l k).symm, fun i hi => (bs_g k i hi).symm⟩
  · rintro ⟨e, h⟩
    apply List.ext_getElem?
    intro i
    by_cases c : i < k
    · have h1 := (bs_g (b := b) (F := F) k i c).trans (h i c)
      have l1 : i < (bs b F k).length := by rw [bs_l]; exact c
      have l2 : i < w.length := by omega
      rw [List.getElem?_eq_getElem l1, List.getElem?_eq_getElem l2]
      simp [List.getD, List.getElem?_eq_getElem l1, List.getElem?_eq_getElem l2] at h1
      rw [h1]
    · rw [List.getElem?_eq_none (by rw [bs_l]; omega), List.getElem?_eq_none (by omega)]
def idW : List (List Nat) → List Nat → Nat → Option Nat
  | [], _, _ => none
  | w :: L, u, j => if u = w then some j else idW L u (j + 1)
/-- the words, by where they lie in a text -/
def sub (c : Nat → Nat) (s : Nat) (l : Nat) : List Nat := bs c s l
def okW (c : Nat → Nat) (e : Nat) : Nat → List (List Nat) → Bool
  | s, [] => decide (s = e)
  | s, w :: L => decide (∀ x, x < w.length → c (s + x) = w.getD x 0 ∧ w.getD x 0 ≠ 32) && (decide (c (s + w.length) = 32) && (decide (s + w.length < e) && okW c e (s + w.length + 1) L))
theorem okW_s {c : Nat → Nat} {e s : Nat} {w : List Nat} {L : List (List Nat)} (h : okW c e s (w :: L) = true) : (∀ x, x < w.length → c (s + x) = w.getD x 0 ∧ w.getD x 0 ≠ 32) ∧ c (s + w.length) = 32 ∧ s + w.length < e ∧ okW c e (s + w.length + 1) L = true := by
  rw [okW, Bool.and_eq_true_iff, Bool.and_eq_true_iff, Bool.and_eq_true_iff, decide_eq_true_iff, decide_eq_true_iff, decide_eq_true_iff] at h
  exact h
def wordsC : List (List Nat) := [[116, 97, 108, 108], [115, 116, 114, 101, 110, 103, 116, 104], [107, 110, 101, 101], [116, 105, 114, 101, 100], [99, 108, 111, 116, 104], [112, 97, 105, 114], [114, 105, 103, 104, 116], [117, 112], [100, 111, 119, 110], [104, 97, 110, 100, 115], [111, 118, 101, 114], [98, 101, 97, 114, 115], [99, 97, 110], [103, 114, 97, 118, 101, 108], [115, 119, 97, 121], [98, 101, 97, 114], [116, 105, 114, 101], [119, 104, 101, 110], [111, 114], [97, 110, 100], [110, 111, 116], [119, 97, 108, 107], [103, 97, 116, 101], [114, 101, 115, 116], [99, 104, 97, 110, 103, 101], [116, 111], [105, 110]]
theorem okW_C : okW cw 137 0 wordsC = true := by decide
theorem c_stands (d : Nat) {σ : Sig} {b : Nat → Nat} {n F E s : Nat} {w : List Nat} (h : TPe b n σ) (hF : F < E) (hE : E ≤ n) (hc : ∀ i, F ≤ i → i < E → b i < 128) (hl : E - F = w.length) (hs : s + w.length < 137) (hw : ∀ x, x < w.length → cw (s + x) = w.getD x 0) :
    Ex (d + 4) 46 0 [.ref 53, .int (nI s), .int (nI F), .int (nI E), .null] [] G0 σ = some (some (.int (bI (bs b F (E - F) = w))), G0, σ) := by
  obtain ⟨hn, _, hb⟩ := h
  rw [b46_0]
  have key : ∀ m k, F + k + m = E → (∀ i, i < k → b (F + i) = w.getD i 0) → Ex (d + 4) 46 3 [.ref 53, .int (nI s), .int (nI F), .int (nI E), .int (nI (F + k))] [] G0 σ = some (some (.int (bI (bs b F (E - F) = w))), G0, σ) := by
    intro m
    induction m with
    | zero =>
      intro k hk hi
      have q : (nI E ≤ nI (F + k)) = True := by rw [nJ_le (by omega) (by omega)]; exact eq_true (by omega)
      rw [b46_3]
      simp only [q, i10, i01, eq_self, if_true, if_false, true_and, false_and, and_true, and_false, not_true, not_false_iff, true_or, or_true, false_or, or_false, ne_eq, not_true_eq_false, not_false_eq_true]
      rw [bI_T (bs_e.mpr ⟨hl, fun i hi' => hi i (by omega)⟩)]
    | succ m ih =>
      intro k hk hi
      have q : (nI E ≤ nI (F + k)) = False := by rw [nJ_le (by omega) (by omega)]; exact eq_false (by omega)
      have ex : nI s + nI (F + k) - nI F = nI (s + k) := by
        have e1 : nI s + nI (F + k) = nI (s + (F + k)) := (Int32.ofNat_add _ _).symm
        rw [e1, nI_sub' (by omega)]; congr 1; omega
      obtain ⟨_, _, hb3⟩ := hb (F + k) (by omega)
      have e62 := hb3 (hc (F + k) (by omega) (by omega))
      have cl := (cw_ok (s + k) (by omega)).2.2
      have qe : (nI (cw (s + k)) = nI (b (F + k))) = (b (F + k) = w.getD k 0) := by
        have := hc (F + k) (by omega) (by omega)
        rw [nJ_e (by omega) (by omega), hw k (by omega)]; exact propext ⟨Eq.symm, Eq.symm⟩
      rw [b46_3, ex, c_charAt d σ (show s + k < 137 by omega)]
      simp only [q, i10, i01, eq_self, if_true, if_false, true_and, false_and, and_true, and_false, not_true, not_false_iff, true_or, or_true, false_or, or_false, ne_eq, not_true_eq_false, not_false_eq_true, Option.bind_some, Option.toList_some, Option.toList_none, List.cons_append, List.nil_append, i01a, i01b, if_true, if_false, b46_20, inb_n (show F + k < 400 by omega) (show F + k < 2 ^ 31 by omega), nI_c (show F + k < 2 ^ 31 by omega), e62, qe, nI_s]
      by_cases c : b (F + k) = w.getD k 0
      · simp only [eq_true c, i10, i01, eq_self, if_true, if_false, true_and, false_and, and_true, and_false, not_true, not_false_iff, true_or, or_true, false_or, or_false, ne_eq, not_true_eq_false, not_false_eq_true]
        refine ih (k + 1) (by omega) (fun i hi' => ?_)
        by_cases e : i = k
        · subst e; exact c
        · exact hi i (by omega)
      · simp only [eq_false c, i10, i01, eq_self, if_true, if_false, true_and, false_and, and_true, and_false, not_true, not_false_iff, true_or, or_true, false_or, or_false, ne_eq, not_true_eq_false, not_false_eq_true]
        rw [bI_F (fun e => c ((bs_e.mp e).2 k (by omega)))]
  exact key (E - F) 0 (by omega) (fun i hi => by omega)
def wcN (b : Nat → Nat) (F E : Nat) : Nat := match idW wordsC (bs b F (E - F)) 0 with
  | none => 31
  | some j => j
theorem c_wordOf (d : Nat) {σ : Sig} {b : Nat → Nat} {n F E : Nat} (h : TPe b n σ) (hF : F < E) (hE : E ≤ n) (hc : ∀ i, F ≤ i → i < E → b i < 128) :
    Ex (d + 5) 45 0 [.ref 53, .int (nI F), .int (nI E), .null, .null, .null] [] G0 σ = some (some (.int (nI (wcN b F E))), G0, σ) := by
  have hn := h.1
  rw [b45_0]
  have key : ∀ (L : List (List Nat)) (s j : Nat), okW cw 137 s L = true → j + L.length ≤ 100 → Ex (d + 5) 45 8 [.ref 53, .int (nI F), .int (nI E), .int (nI j), .int (nI s), .int (nI s)] [] G0 σ = some (some (.int (nI (match idW L (bs b F (E - F)) j with | none => 31 | some j => j))), G0, σ) := by
    intro L
    induction L with
    | nil =>
      intro s j hs hj
      have e : s = 137 := of_decide_eq_true hs
      have q : ((137 : Int32) ≤ nI s) = True := by
        have : ((137 : Int32) ≤ nI s) = (137 ≤ s) := nJ_le (a := 137) (by omega) (by omega)
        rw [this]; exact eq_true (by omega)
      have cl : Ex (d + 4) 272 0 [.retAddr 0] [] G0 σ = some (some (.int 137), G0, σ) := c_wlen (d + 3) σ
      rw [b45_8, cl]
      simp only [Option.bind_some, Option.toList_some, Option.toList_none, List.cons_append, List.nil_append, i01a, i01b, if_true, if_false, b45_15, q, i10, i01, eq_self, if_true, if_false, true_and, false_and, and_true, and_false, not_true, not_false_iff, true_or, or_true, false_or, or_false, ne_eq, not_true_eq_false, not_false_eq_true]
      rfl
    | cons w L ih =>
      intro s j hs hj
      obtain ⟨h1, h2, h3, h4⟩ := okW_s hs
      rw [List.length_cons] at hj
      have sk : ∀ m x, x + m = w.length → Ex (d + 5) 45 8 [.ref 53, .int (nI F), .int (nI E), .int (nI j), .int (nI s), .int (nI (s + x))] [] G0 σ = Ex (d + 5) 45 8 [.ref 53, .int (nI F), .int (nI E), .int (nI j), .int (nI s), .int (nI (s + w.length))] [] G0 σ := by
        intro m
        induction m with
        | zero => intro x hx; rw [show x = w.length by omega]
        | succ m ihm =>
          intro x hx
          rw [← ihm (x + 1) (by omega)]
          have q : ((137 : Int32) ≤ nI (s + x)) = False := by
            have : ((137 : Int32) ≤ nI (s + x)) = (137 ≤ s + x) := nJ_le (a := 137) (by omega) (by omega)
            rw [this]; exact eq_false (by omega)
          have cl : Ex (d + 4) 272 0 [.retAddr 0] [] G0 σ = some (some (.int 137), G0, σ) := c_wlen (d + 3) σ
          have ch : Ex (d + 4) 273 0 [.retAddr 0, .int (nI (s + x))] [] G0 σ = some (some (.int (nI (cw (s + x)))), G0, σ) := c_charAt (d + 1) σ (by omega)
          have c128 := (cw_ok (s + x) (by omega)).2.2
          have q2 : (nI (cw (s + x)) = 32) = False := by
            have : (nI (cw (s + x)) = 32) = (cw (s + x) = 32) := nJ_e (b := 32) (by omega) (by omega)
            rw [this]; obtain ⟨a1, a2⟩ := h1 x (by omega); exact eq_false (by rw [a1]; exact a2)
          rw [b45_8, cl]
          simp only [Option.bind_some, Option.toList_some, Option.toList_none, List.cons_append, List.nil_append, i01a, i01b, if_true, if_false, b45_15, q, i10, i01, eq_self, if_true, if_false, true_and, false_and, and_true, and_false, not_true, not_false_iff, true_or, or_true, false_or, or_false, ne_eq, not_true_eq_false, not_false_eq_true, ch, b45_25, q2, nI_s]
          rfl
      rw [show Ex (d + 5) 45 8 [.ref 53, .int (nI F), .int (nI E), .int (nI j), .int (nI s), .int (nI s)] [] G0 σ = _ from sk w.length 0 (by omega)]
      have q : ((137 : Int32) ≤ nI (s + w.length)) = False := by
        have : ((137 : Int32) ≤ nI (s + w.length)) = (137 ≤ s + w.length) := nJ_le (a := 137) (by omega) (by omega)
        rw [this]; exact eq_false (by omega)
      have cl : Ex (d + 4) 272 0 [.retAddr 0] [] G0 σ = some (some (.int 137), G0, σ) := c_wlen (d + 3) σ
      have ch : Ex (d + 4) 273 0 [.retAddr 0, .int (nI (s + w.length))] [] G0 σ = some (some (.int (nI (cw (s + w.length)))), G0, σ) := c_charAt (d + 1) σ (by omega)
      have q2 : (nI (cw (s + w.length)) = 32) = True := eq_true (by rw [h2]; rfl)
      have ed : (nI (s + w.length) - nI s = nI E - nI F) = (E - F = w.length) := by
        rw [nI_sub' (by omega), nI_sub' (by omega), nJ_e (by omega) (by omega)]; exact propext ⟨fun h => by omega, fun h => by omega⟩
      rw [b45_8, cl]
      simp only [Option.bind_some, Option.toList_some, Option.toList_none, List.cons_append, List.nil_append, i01a, i01b, if_true, if_false, b45_15, q, i10, i01, eq_self, if_true, if_false, true_and, false_and, and_true, and_false, not_true, not_false_iff, true_or, or_true, false_or, or_false, ne_eq, not_true_eq_false, not_false_eq_true, ch, b45_25, q2, ed, nI_s]
      rw [idW]
      by_cases c : E - F = w.length
      · simp only [eq_true c, i10, i01, eq_self, if_true, if_false, true_and, false_and, and_true, and_false, not_true, not_false_iff, true_or, or_true, false_or, or_false, ne_eq, not_true_eq_false, not_false_eq_true, c_stands d h hF hE hc c (show s + w.length < 137 by omega) (fun x hx => (h1 x hx).1), Option.bind_some, Option.toList_some, Option.toList_none, List.cons_append, List.nil_append, i01a, i01b, if_true, if_false, b45_52, bI_z, bI_o, bI_em, ite_not, nI_s]
        by_cases c2 : bs b F (E - F) = w
        · rw [if_pos c2, if_pos c2]
        · rw [if_neg c2, if_neg c2]
          exact ih (s + w.length + 1) (j + 1) h4 (by omega)
      · simp only [eq_false c, i10, i01, eq_self, if_true, if_false, true_and, false_and, and_true, and_false, not_true, not_false_iff, true_or, or_true, false_or, or_false, ne_eq, not_true_eq_false, not_false_eq_true]
        rw [if_neg (fun e => c (bs_e.mp e).1)]
        exact ih (s + w.length + 1) (j + 1) h4 (by omega)
  exact key wordsC 0 0 okW_C (by decide)
