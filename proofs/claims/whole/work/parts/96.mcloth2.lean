/-! L3: CLOTHS, the model (2) -/
def cmA (st : Option (Nat × Nat × List Nat)) : Int32 := match st with
  | none => 1000000
  | some x => nI x.1
def KY (ω : Sig) (st : Option (Nat × Nat × List Nat)) (σ : Sig) : Prop := σ 112 55 = cmA st ∧ σ 112 56 = coI st ∧ ∀ x, st = some x → x.1 ≤ 1000 ∧ x.2.1 ≤ 24 ∧ ∀ p, p < np ω → σ 141 p = nI (wv x.2.2 p)
theorem KY_fr {ω : Sig} {st : Option (Nat × Nat × List Nat)} {σ σ' : Sig} (k : KY ω st σ) (e1 : σ' 112 55 = σ 112 55) (e2 : σ' 112 56 = σ 112 56) (e3 : σ' 141 = σ 141) : KY ω st σ' := ⟨e1.trans k.1, e2.trans k.2.1, fun x hx => ⟨(k.2.2 x hx).1, (k.2.2 x hx).2.1, by rw [e3]; exact (k.2.2 x hx).2.2⟩⟩
def SCC2 : List Nat := [113, 134, 135, 136, 137, 141]
def SLC2 : List (Nat × Nat) := [(112, 49), (112, 55), (112, 56)]
theorem m_clothS {B T : LW} {ω : Sig} (hW : WI B T ω) (d : Nat) {w : List Nat} {st : Option (Nat × Nat × List Nat)} {σ : Sig} (v2 v3 v4 : Value) (hl : w.length = np ω) (hv : vC ω w) (hM : MR B T (tm ω w) σ) (kk : KY ω st σ) : ∃ s u2 u3 u4, Ex (d + 6) 248 42 [.ref 112, .int 1, v2, v3, v4] [] G0 σ = (Ex (d + 5) 247 0 [.ref 112, .null] [] G0 s).bind (fun o => Ex (d + 5 + 1) 248 142 [.ref 112, .int 1, .int u2, .int u3, u4] (o.1.toList ++ []) o.2.1 o.2.2) ∧ MR B T (tm ω w) s ∧ KY ω (jC B ω w st) s ∧ Fr SCC2 SLC2 σ s := by
  obtain ⟨n4, n8', en⟩ := WI_np hW
  have cd := tm_C (ω := ω) (w := w) n8' hl
  have hWc := WI_tc hW hl hv
  have hWt : WI B T (tm ω w) := WI_c10 hW (fun q hq => tm_q hq) (fun p hp => by
    by_cases k : p < w.length
    · rw [tm_k k hp]
      have := (hv p k).1
      unfold bw; rw [nI_i (by omega)]; omega
    · rw [tm_z (by omega) hp]; unfold bw; decide)
  have hin : inS w ≤ 24 := by have := inS_b hv; omega
  obtain ⟨σ1, e1, f1, hM1, l1, _⟩ := m_bears d hM hWt bw0 0
  obtain ⟨v, ev, hvs⟩ := m_spread (d + 1) (s := 0) (g := 0) hM1 hWt l1
  have ev' : Ex (d + 5) 214 0 [.ref 112, .int 0, .null, .null, .null] [] G0 σ1 = some (some (.int v), G0, σ1) := ev
  have F1 : Fr SCC2 SLC2 σ σ1 := Fr_m f1 (by decide) (by decide)
  have k1 : KY ω st σ1 := KY_fr kk (f1 112 55 (by decide) (by simp)) (f1 112 56 (by decide) (by simp)) (Fr_q f1 (by decide) (by simp))
  have z10 : ((1 : Int32) = 0) = False := eq_false (by decide)
  rw [b248_42, e1]
  simp only [z10, i10, i01, eq_self, if_true, if_false, true_and, false_and, and_true, and_false, not_true, not_false_iff, true_or, or_true, false_or, or_false, ne_eq, not_true_eq_false, not_false_eq_true, Option.bind_some, Option.toList_some, Option.toList_none, List.cons_append, List.nil_append, i01a, i01b, if_true, if_false, b248_52, ev', b248_58]
  have skip : ∀ (u : Int32), jC B ω w st = st → ∃ s u2 u3 u4, (Ex (d + 5) 247 0 [.ref 112, .null] [] G0 σ1).bind (fun o => Ex (d + 5 + 1) 248 142 [.ref 112, .int 1, .int u, .int v, v4] (o.1.toList ++ []) o.2.1 o.2.2) = (Ex (d + 5) 247 0 [.ref 112, .null] [] G0 s).bind (fun o => Ex (d + 5 + 1) 248 142 [.ref 112, .int 1, .int u2, .int u3, u4] (o.1.toList ++ []) o.2.1 o.2.2) ∧ MR B T (tm ω w) s ∧ KY ω (jC B ω w st) s ∧ Fr SCC2 SLC2 σ s := fun u e => ⟨σ1, u, v, v4, rfl, hM1, by rw [e]; exact k1, F1⟩
  by_cases hb : bearS B (tc ω w) 0 0
  · have hb' : bearS B (tm ω w) 0 0 := by rw [Cd_bear cd]; exact hb
    obtain ⟨es, hs⟩ := spread_n hWc hb
    have evs : v = nI (spN B (tc ω w)) := by rw [hvs hb', Cd_spread cd, es]
    rw [bI_T hb']
    have take : (∀ x, st = some x → spN B (tc ω w) < x.1 ∨ (spN B (tc ω w) = x.1 ∧ inS w < x.2.1)) → ∃ s u2 u3 u4, (Ex (d + 5) 246 0 [.ref 112, .null, .null] [] G0 (pt σ1 112 55 v)).bind (fun o => Ex (d + 5 + 1) 248 100 [.ref 112, .int 1, .int 1, .int v, v4] (o.1.toList ++ [.ref 112]) o.2.1 o.2.2) = (Ex (d + 5) 247 0 [.ref 112, .null] [] G0 s).bind (fun o => Ex (d + 5 + 1) 248 142 [.ref 112, .int 1, .int u2, .int u3, u4] (o.1.toList ++ []) o.2.1 o.2.2) ∧ MR B T (tm ω w) s ∧ KY ω (jC B ω w st) s ∧ Fr SCC2 SLC2 σ s := by
      intro hx
      have hM2 : MR B T (tm ω w) (pt σ1 112 55 v) := MR_S hM1 (Fr_p Fr_r (Or.inr (by simp)) : Fr [] [(112, 55)] σ1 _) (by decide) (by simp)
      have i2 : Ex (d + 5) 246 0 [.ref 112, .null, .null] [] G0 (pt σ1 112 55 v) = some (some (.int (nI (inS w))), G0, pt σ1 112 55 v) := m_inches (d + 3) hW hl hM2
      rw [i2]
      simp only [Option.bind_some, Option.toList_some, Option.toList_none, List.cons_append, List.nil_append, i01a, i01b, if_true, if_false, b248_100]
      have hM3 : MR B T (tm ω w) (pt (pt σ1 112 55 v) 112 56 (nI (inS w))) := MR_S hM2 (Fr_p Fr_r (Or.inr (by simp)) : Fr [] [(112, 56)] _ _) (by decide) (by simp)
      have F3 : Fr SCC2 SLC2 σ (pt (pt σ1 112 55 v) 112 56 (nI (inS w))) := Fr_p (Fr_p F1 (Or.inr (by decide))) (Or.inr (by decide))
      have c55 : pt (pt σ1 112 55 v) 112 56 (nI (inS w)) 112 55 = nI (spN B (tc ω w)) := by rw [pt_k (by decide), pt_e, evs]
      have c56 : pt (pt σ1 112 55 v) 112 56 (nI (inS w)) 112 56 = nI (inS w) := pt_e
      have pl : ∀ s, MR B T (tm ω w) s → 2 * (s 112 7 + 3) = nI (np ω) := fun s hs => by
        have h1 : mr B T (tm ω w) s 1 := hs 1
        rw [show s 112 7 = tm ω w 8 0 - 3 from h1, tm_q (by decide), s3a]; exact en
      generalize pt (pt σ1 112 55 v) 112 56 (nI (inS w)) = σ3 at hM3 F3 c55 c56
      obtain ⟨s, e, f, i1⟩ := loop_ex (fun p (s : Sig) => Ex (d + 6) 248 106 [.ref 112, .int 1, .int 1, .int v, .int (nI p)] [] G0 s) (fun p s => Fr [141] [] σ3 s ∧ (∀ q, q < p → s 141 q = nI (wv w q))) (np ω) σ3 ⟨Fr_r, fun q hq => by omega⟩ (by
        rintro p s hp ⟨f, i1⟩
        show ∃ s', Ex (d + 6) 248 106 [.ref 112, .int 1, .int 1, .int v, .int (nI p)] [] G0 s = _ ∧ _
        have p8 : p < 8 := by omega
        have hMs : MR B T (tm ω w) s := MR_S hM3 f (by decide) (by simp)
        have h15 : mr B T (tm ω w) s 15 := hMs 15
        have qq : (nI (np ω) ≤ nI p) = False := by rw [nJ_le (by omega) (by omega)]; exact eq_false (by omega)
        have e15 : (15 : Int32) + nI p = nI (15 + p) := (Int32.ofNat_add 15 _).symm
        rw [b248_106, m_places, pl s hMs]
        simp only [Option.bind_some, Option.toList_some, Option.toList_none, List.cons_append, List.nil_append, i01a, i01b, if_true, if_false, b248_112, qq, i10, i01, eq_self, if_true, if_false, true_and, false_and, and_true, and_false, not_true, not_false_iff, true_or, or_true, false_or, or_false, ne_eq, not_true_eq_false, not_false_eq_true, i8 p8, c8 p8, e15, inb_n (show 15 + p < 31 by omega) (show 15 + p < 2 ^ 31 by omega), nI_c (show 15 + p < 2 ^ 31 by omega), h15 p p8, tm_k (ω := ω) (show p < w.length by omega) p8, nI_s]
        refine ⟨_, rfl, Fr_p f (Or.inl (by simp)), fun q hq => ?_⟩
        by_cases e : q = p
        · subst e; rw [pt_e]
        · rw [pt_k (by omega)]; exact i1 q (by omega))
      rw [show Ex (d + 5 + 1) 248 106 [.ref 112, .int 1, .int 1, .int v, .int 0] [] G0 σ3 = _ from e]
      show ∃ s1 u2 u3 u4, Ex (d + 6) 248 106 [.ref 112, .int 1, .int 1, .int v, .int (nI (np ω))] [] G0 s = _ ∧ _
      have hMs : MR B T (tm ω w) s := MR_S hM3 f (by decide) (by simp)
      have q : (nI (np ω) ≤ nI (np ω)) = True := by rw [nJ_le (by omega) (by omega)]; exact eq_true (by omega)
      rw [b248_106, m_places, pl s hMs]
      simp only [Option.bind_some, Option.toList_some, Option.toList_none, List.cons_append, List.nil_append, i01a, i01b, if_true, if_false, b248_112, q, i10, i01, eq_self, if_true, if_false, true_and, false_and, and_true, and_false, not_true, not_false_iff, true_or, or_true, false_or, or_false, ne_eq, not_true_eq_false, not_false_eq_true]
      refine ⟨s, 1, v, .int (nI (np ω)), rfl, hMs, ?_, Fr_t F3 (Fr_m f (by decide) (by simp))⟩
      rw [jC_y ⟨hb, hx⟩]
      exact ⟨by rw [f 112 55 (by decide) (by simp)]; exact c55, by rw [f 112 56 (by decide) (by simp)]; exact c56, fun x hx => by cases hx; exact ⟨hs, hin, i1⟩⟩
    have i1 : Ex (d + 5) 246 0 [.ref 112, .null, .null] [] G0 σ1 = some (some (.int (nI (inS w))), G0, σ1) := m_inches (d + 3) hW hl hM1
    cases st with
    | none =>
      have q : (v < cmA none) = True := by
        have : (nI (spN B (tc ω w)) < cmA none) = (spN B (tc ω w) < 1000000) := nJ_lt (b := 1000000) (by omega) (by omega)
        rw [evs, this]; exact eq_true (by omega)
      simp only [z10, i10, i01, eq_self, if_true, if_false, true_and, false_and, and_true, and_false, not_true, not_false_iff, true_or, or_true, false_or, or_false, ne_eq, not_true_eq_false, not_false_eq_true, k1.1, q]
      exact take (fun x hx => by cases hx)
    | some x =>
      obtain ⟨hx, hx2, _⟩ := kk.2.2 x rfl
      have e : cmA (some x) = nI x.1 := rfl
      have e' : coI (some x) = nI x.2.1 := rfl
      have q1 : (v < nI x.1) = (spN B (tc ω w) < x.1) := by rw [evs]; exact nJ_lt (by omega) (by omega)
      have q2 : (v = nI x.1) = (spN B (tc ω w) = x.1) := by rw [evs]; exact nJ_e (by omega) (by omega)
      have q3 : (nI x.2.1 ≤ nI (inS w)) = (x.2.1 ≤ inS w) := nJ_le (by omega) (by omega)
      simp only [z10, i10, i01, eq_self, if_true, if_false, true_and, false_and, and_true, and_false, not_true, not_false_iff, true_or, or_true, false_or, or_false, ne_eq, not_true_eq_false, not_false_eq_true, k1.1, e, q1, q2]
      by_cases c : spN B (tc ω w) < x.1
      · simp only [eq_true c, i10, i01, eq_self, if_true, if_false, true_and, false_and, and_true, and_false, not_true, not_false_iff, true_or, or_true, false_or, or_false, ne_eq, not_true_eq_false, not_false_eq_true]
        exact take (fun y hy => by cases hy; exact Or.inl c)
      · by_cases c2 : spN B (tc ω w) = x.1
        · have c' : ¬ (x.1 < x.1) := by omega
          simp only [eq_false c, eq_true c2, eq_false c', i10, i01, eq_self, if_true, if_false, true_and, false_and, and_true, and_false, not_true, not_false_iff, true_or, or_true, false_or, or_false, ne_eq, not_true_eq_false, not_false_eq_true, i1, Option.bind_some, Option.toList_some, Option.toList_none, List.cons_append, List.nil_append, i01a, i01b, if_true, if_false, b248_83, k1.2.1, e', q3]
          by_cases c3 : x.2.1 ≤ inS w
          · simp only [eq_true c3, i10, i01, eq_self, if_true, if_false, true_and, false_and, and_true, and_false, not_true, not_false_iff, true_or, or_true, false_or, or_false, ne_eq, not_true_eq_false, not_false_eq_true]
            exact skip 1 (jC_n (fun h => by rcases h.2 x rfl with h | h <;> omega))
          · simp only [eq_false c3, i10, i01, eq_self, if_true, if_false, true_and, false_and, and_true, and_false, not_true, not_false_iff, true_or, or_true, false_or, or_false, ne_eq, not_true_eq_false, not_false_eq_true]
            exact take (fun y hy => by cases hy; exact Or.inr ⟨c2, by omega⟩)
        · simp only [eq_false c, eq_false c2, i10, i01, eq_self, if_true, if_false, true_and, false_and, and_true, and_false, not_true, not_false_iff, true_or, or_true, false_or, or_false, ne_eq, not_true_eq_false, not_false_eq_true]
          exact skip 1 (jC_n (fun h => by rcases h.2 x rfl with h | h <;> omega))
  · have hb' : ¬ bearS B (tm ω w) 0 0 := by rw [Cd_bear cd]; exact hb
    rw [bI_F hb']
    simp only [i10, i01, eq_self, if_true, if_false, true_and, false_and, and_true, and_false, not_true, not_false_iff, true_or, or_true, false_or, or_false, ne_eq, not_true_eq_false, not_false_eq_true]
    exact skip 0 (jC_n (fun e => hb e.1))
theorem m_clothL {B T : LW} {ω : Sig} (hW : WI B T ω) (d : Nat) : ∀ L w st σ v2 v3 v4, upR (cC ω) 4 0 w = L → w.length = np ω → vC ω w → MR B T (tm ω w) σ → KY ω st σ → ∃ σ' u2 u3 u4, Ex (d + 6) 248 42 [.ref 112, .int 1, v2, v3, v4] [] G0 σ = Ex (d + 6) 248 42 [.ref 112, .int 0, u2, u3, u4] [] G0 (σ') ∧ KY ω (fdl (jC B ω) (w :: L) st) σ' ∧ Fr SCC2 SLC2 σ σ' := by
  obtain ⟨n4, n8', en⟩ := WI_np hW
  have nc : ∀ w s, w.length = np ω → MR B T (tm ω w) s → Ex (d + 5) 247 0 [.ref 112, .null] [] G0 s = Ex (d + 5) 247 7 [.ref 112, .int (nI w.length - 1)] [] G0 s := fun w s hl hs => by
    have pl : 2 * (s 112 7 + 3) = nI (np ω) := by
      have h1 : mr B T (tm ω w) s 1 := hs 1
      rw [show s 112 7 = tm ω w 8 0 - 3 from h1, tm_q (by decide), s3a]; exact en
    rw [b247_0, m_places, pl]
    simp only [Option.bind_some, Option.toList_some, Option.toList_none, List.cons_append, List.nil_append, i01a, i01b, if_true, if_false, b247_4, hl]
  intro L
  induction L with
  | nil =>
    intro w st σ v2 v3 v4 hu hl hv hM kk
    obtain ⟨s, u2, u3, u4, e, hs, ks, fs⟩ := m_clothS hW d v2 v3 v4 hl hv hM kk
    obtain ⟨s2, e2, f2⟩ := (m_nextC hW w 0 (d + 3) s (by omega) hv hs).1 hu
    have e2' : Ex (d + 5) 247 7 [.ref 112, .int (nI w.length - 1)] [] G0 s = some (some (.int 0), G0, s2) := e2
    rw [e, nc w s hl hs, e2']
    simp only [Option.bind_some, Option.toList_some, Option.toList_none, List.cons_append, List.nil_append, i01a, i01b, if_true, if_false, b248_142]
    exact ⟨s2, _, _, _, rfl, KY_fr ks (f2 112 55 (by decide) (by simp)) (f2 112 56 (by decide) (by simp)) (Fr_q f2 (by decide) (by simp)), Fr_t fs (Fr_m f2 (by decide) (by simp))⟩
  | cons w' L ih =>
    intro w st σ v2 v3 v4 hu hl hv hM kk
    obtain ⟨s, u2, u3, u4, e, hs, ks, fs⟩ := m_clothS hW d v2 v3 v4 hl hv hM kk
    obtain ⟨s2, e2, g1, g2, g3, g4, f2⟩ := (m_nextC hW w 0 (d + 3) s (by omega) hv hs).2 w' L hu
    have e2' : Ex (d + 5) 247 7 [.ref 112, .int (nI w.length - 1)] [] G0 s = some (some (.int 1), G0, s2) := e2
    rw [e, nc w s hl hs, e2']
    simp only [Option.bind_some, Option.toList_some, Option.toList_none, List.cons_append, List.nil_append, i01a, i01b, if_true, if_false, b248_142]
    obtain ⟨s3, x2, x3, x4, e3, k3, f3⟩ := ih w' (jC B ω w st) s2 (.int u2) (.int u3) u4 g4 g1 g2 g3 (KY_fr ks (f2 112 55 (by decide) (by simp)) (f2 112 56 (by decide) (by simp)) (Fr_q f2 (by decide) (by simp)))
    exact ⟨s3, x2, x3, x4, e3, k3, Fr_t fs (Fr_t (Fr_m f2 (by decide) (by simp)) f3)⟩
def SCX2 : List Nat := [113, 115, 134, 135, 136, 137, 141]
def SLX2 : List (Nat × Nat) := [(112, 5), (112, 49), (112, 55), (112, 56)]
theorem m_findsCloths (d : Nat) {B T : LW} {ω σ : Sig} (hM : MR B T ω σ) (hW : WI B T ω) :
    ∃ σ', Ex (d + 6) 248 0 [.ref 112, .null, .null, .null, .null] [] G0 σ = some (none, G0, σ') ∧ MR B T ω σ' ∧ (∀ k, k < 31 → σ' 113 k = σ 113 k) ∧ σ' 112 5 = 0 ∧ KY ω (coS B ω) σ' ∧ Fr SCX2 SLX2 σ σ' := by
  obtain ⟨n4, n8', en⟩ := WI_np hW
  obtain ⟨σ1, e1, f1, k1, z1⟩ := m_thinks (d + 5) (pt (pt σ 112 55 1000000) 112 56 0)
  have e1' : Ex (d + 5) 148 0 [.ref 112, .null] [] G0 (pt (pt σ 112 55 1000000) 112 56 0) = some (none, G0, σ1) := e1
  have F0 : Fr SCX2 SLX2 σ (pt (pt σ 112 55 1000000) 112 56 0) := Fr_p (Fr_p Fr_r (Or.inr (by decide))) (Or.inr (by decide))
  have F1 : Fr SCX2 SLX2 σ σ1 := Fr_t F0 (Fr_m f1 (by decide) (by decide))
  have h0 : MR B T ω (pt (pt σ 112 55 1000000) 112 56 0) := MR_S hM (Fr_p (Fr_p Fr_r (Or.inr (by simp))) (Or.inr (by simp)) : Fr [] [(112, 55), (112, 56)] σ _) (by decide) (by simp)
  have hM1 : MR B T ω σ1 := MR_S h0 f1 (by decide) (by decide)
  obtain ⟨s, e, f, i1⟩ := loop_ex (fun p (s : Sig) => Ex (d + 6) 248 18 [.ref 112, .int (nI p), .null, .null, .null] [] G0 s) (fun p s => Fr [113] [] σ1 s ∧ MR B T (fun q k => if q = 10 ∧ k < p then 0 else ω q k) s) 8 σ1 ⟨Fr_r, by
      have : (fun q k => if q = 10 ∧ k < 0 then (0 : Int32) else ω q k) = ω := by funext q k; rw [if_neg (by omega)]
      rw [this]; exact hM1⟩ (by
    rintro p s hp ⟨f, i1⟩
    show ∃ s', Ex (d + 6) 248 18 [.ref 112, .int (nI p), .null, .null, .null] [] G0 s = _ ∧ _
    have e15 : (15 : Int32) + nI p = nI (15 + p) := (Int32.ofNat_add 15 _).symm
    rw [b248_18]
    simp only [n8 hp, i10, i01, eq_self, if_true, if_false, true_and, false_and, and_true, and_false, not_true, not_false_iff, true_or, or_true, false_or, or_false, ne_eq, not_true_eq_false, not_false_eq_true, b248_24, e15, inb_n (show 15 + p < 31 by omega) (show 15 + p < 2 ^ 31 by omega), nI_c (show 15 + p < 2 ^ 31 by omega), nI_s]
    refine ⟨_, rfl, Fr_p f (Or.inl (by simp)), ?_⟩
    have : (fun q k => if q = 10 ∧ k < p + 1 then (0 : Int32) else ω q k) = pt (fun q k => if q = 10 ∧ k < p then (0 : Int32) else ω q k) 10 p 0 := by
      funext q k
      rw [pt_ap]
      by_cases c : q = 10 ∧ k = p
      · rw [if_pos c, if_pos ⟨c.1, by omega⟩]
      · rw [if_neg c]
        by_cases c2 : q = 10 ∧ k < p
        · rw [if_pos c2, if_pos ⟨c2.1, by omega⟩]
        · rw [if_neg c2, if_neg (fun h => by
            have : k ≠ p := fun e => c ⟨h.1, e⟩
            exact c2 ⟨h.1, by omega⟩)]
    rw [this]; exact MR_cl i1 hp 0)
  have et : (fun q k => if q = 10 ∧ k < 8 then (0 : Int32) else ω q k) = tm ω (zz (np ω) []) := by
    rw [zz_t]
    funext q k
    unfold tm
    by_cases c : q = 10 ∧ k < 8
    · rw [if_pos c, if_pos c, if_neg (by simp)]
    · rw [if_neg c, if_neg c]
  rw [et] at i1
  have ks : KY ω none s := ⟨by rw [f 112 55 (by decide) (by simp), f1 112 55 (by decide) (by decide), pt_k (by decide), pt_e]; rfl, by rw [f 112 56 (by decide) (by simp), f1 112 56 (by decide) (by decide), pt_e]; rfl, fun x hx => by cases hx⟩
  obtain ⟨L, z1', z2'⟩ := zz_e (ω := ω) (np ω) []
  rw [upR, List.append_nil] at z2'
  obtain ⟨s2, u2, u3, u4, e2, k2, f2⟩ := m_clothL hW d L (zz (np ω) []) none s .null .null .null z2' (by rw [zz_l]; simp) (zz_v _ _ vC_0) i1 ks
  obtain ⟨s3, e3, f3, k3, z3, _⟩ := m_ends (d + 4) s2
  have e3' : Ex (d + 5) 150 0 [.ref 112] [] G0 s2 = some (none, G0, s3) := e3
  have ee : Ex (d + 6) 248 18 [.ref 112, .int 0, .null, .null, .null] [] G0 σ1 = Ex (d + 6) 248 42 [.ref 112, .int 1, .null, .null, .null] [] G0 s := by
    refine (e : Ex (d + 6) 248 18 [.ref 112, .int 0, .null, .null, .null] [] G0 σ1 = Ex (d + 6) 248 18 [.ref 112, .int (nI 8), .null, .null, .null] [] G0 s).trans ?_
    rw [b248_18]
    simp only [n88, i10, i01, eq_self, if_true, if_false, true_and, false_and, and_true, and_false, not_true, not_false_iff, true_or, or_true, false_or, or_false, ne_eq, not_true_eq_false, not_false_eq_true, b248_40]
  have F3 : Fr SCX2 SLX2 σ s3 := Fr_t F1 (Fr_t (Fr_m f (by decide) (by simp)) (Fr_t (Fr_m f2 (by decide) (by decide)) (Fr_m f3 (by decide) (by decide))))
  have h113 : ∀ k, k < 31 → s3 113 k = σ 113 k := fun k hk => by
    rw [k3 k hk, f2 115 k (by decide) (by unfold SLC2; simp), f 115 k (by decide) (by simp), k1 k hk, pt_q (by decide), pt_q (by decide)]
  have eC : coS B ω = fdl (jC B ω) (zz (np ω) [] :: L) none := by unfold coS; rw [z1']
  refine ⟨s3, ?_, MR_back hM h113 (fun q hq => Fr_q F3 (by revert q; decide) (by revert q; decide)) (fun k hk => F3 112 k (by decide) (by revert k; decide)), h113, z3, ?_, F3⟩
  · simp only [b248_0, e1', Option.bind_some, Option.toList_some, Option.toList_none, List.cons_append, List.nil_append, i01a, i01b, if_true, if_false, b248_16]
    rw [show Ex (d + 5 + 1) 248 18 [.ref 112, .int 0, .null, .null, .null] [] G0 σ1 = _ from ee, e2, b248_42, e3']
    simp only [i10, i01, eq_self, if_true, if_false, true_and, false_and, and_true, and_false, not_true, not_false_iff, true_or, or_true, false_or, or_false, ne_eq, not_true_eq_false, not_false_eq_true, Option.bind_some, Option.toList_some, Option.toList_none, List.cons_append, List.nil_append, i01a, i01b, if_true, if_false, b248_150]
  · rw [eC]
    exact KY_fr k2 (f3 112 55 (by decide) (by decide)) (f3 112 56 (by decide) (by decide)) (Fr_q f3 (by decide) (by decide))
theorem cmA_z {st : Option (Nat × Nat × List Nat)} (hb : ∀ x, st = some x → x.1 ≤ 1000) : (cmA st = 1000000) = (st = none) := by
  cases st with
  | none => exact propext ⟨fun _ => rfl, fun _ => rfl⟩
  | some x =>
    have hx := hb x rfl
    have : (cmA (some x) = 1000000) = (x.1 = 1000000) := nJ_e (b := 1000000) (by omega) (by omega)
    rw [this]; exact propext ⟨fun h => by omega, fun h => by cases h⟩
theorem m_cloths (d : Nat) {B T : LW} {ω σ : Sig} (a : Int32) (hM : MR B T ω σ) (hW : WI B T ω) (h5 : σ 112 5 = 0) :
    ∃ σ', Ex (d + 7) 249 0 [.ref 112, .int a] [] G0 σ = some (some (.int (clothsA B ω a)), G0, σ') ∧ MR B T ω σ' ∧ (∀ k, k < 31 → σ' 113 k = σ 113 k) ∧ σ' 112 5 = 0 ∧ Fr SCX2 ((112, 0) :: SLX2) σ σ' := by
  have hM0 := m_p0 hM
  have f0 : Fr SCX2 ((112, 0) :: SLX2) σ (pt σ 112 0 0) := Fr_p Fr_r (Or.inr (by simp))
  by_cases ca : (0 ≤ a ∧ a ≤ 1) ∨ (10 ≤ a ∧ a ≤ 9 + 2 * ω 8 0)
  · obtain ⟨σ1, e1, m1, k1, z1, b1, f1⟩ := m_findsCloths d hM0 hW
    have F1 : Fr SCX2 ((112, 0) :: SLX2) σ σ1 := Fr_t f0 (Fr_m f1 (fun _ h => h) (fun x hx => Or.inl (List.mem_cons_of_mem _ hx)))
    have fin : ∀ d, Ex d 249 38 [.ref 112, .int a] [] G0 σ1 = some (some (.int (clothsA B ω a)), G0, σ1) := by
      intro d
      rw [b249_38]
      simp only [b1.1, b1.2.1, cmA_z (fun x hx => (b1.2.2 x hx).1)]
      unfold clothsA
      rw [if_pos ca]
      cases hs : coS B ω with
      | none => rw [if_pos rfl]
      | some x =>
        obtain ⟨b2, b3, b4⟩ := b1.2.2 x hs
        rw [if_neg (by intro h; cases h)]
        have e : cmA (some x) = nI x.1 := rfl
        have e' : coI (some x) = nI x.2.1 := rfl
        rw [e, e']
        by_cases c0 : a = 0
        · simp only [eq_true c0, i10, i01, eq_self, if_true, if_false, true_and, false_and, and_true, and_false, not_true, not_false_iff, true_or, or_true, false_or, or_false, ne_eq, not_true_eq_false, not_false_eq_true]
        · by_cases c1 : a = 1
          · simp only [eq_false c0, eq_true c1, i10, i01, eq_self, if_true, if_false, true_and, false_and, and_true, and_false, not_true, not_false_iff, true_or, or_true, false_or, or_false, ne_eq, not_true_eq_false, not_false_eq_true]
          · obtain ⟨p, hp, p8, ep⟩ := pa_ix hW (ca.resolve_left (fun h => (z01c h).elim c0 c1))
            simp only [eq_false c0, eq_false c1, i10, i01, eq_self, if_true, if_false, true_and, false_and, and_true, and_false, not_true, not_false_iff, true_or, or_true, false_or, or_false, ne_eq, not_true_eq_false, not_false_eq_true, ep, i8 p8, c8 p8, b4 p hp]
    refine ⟨σ1, ?_, m1, fun k hk => by rw [k1 k hk, pt_q (by decide)], z1, F1⟩
    by_cases c0 : 0 ≤ a ∧ a ≤ 1
    · simp only [b249_0, m_isIn, Option.bind_some, Option.toList_some, Option.toList_none, List.cons_append, List.nil_append, i01a, i01b, if_true, if_false, b249_12, bI_z, bI_o, bI_em, ite_not, eq_true c0, i10, i01, eq_self, if_true, if_false, true_and, false_and, and_true, and_false, not_true, not_false_iff, true_or, or_true, false_or, or_false, ne_eq, not_true_eq_false, not_false_eq_true, e1, fin]
    · simp only [b249_0, m_isIn, Option.bind_some, Option.toList_some, Option.toList_none, List.cons_append, List.nil_append, i01a, i01b, if_true, if_false, b249_12, bI_z, bI_o, bI_em, ite_not, eq_false c0, i10, i01, eq_self, if_true, if_false, true_and, false_and, and_true, and_false, not_true, not_false_iff, true_or, or_true, false_or, or_false, ne_eq, not_true_eq_false, not_false_eq_true, m_places, b249_25, m_pp hM0, b249_29, eq_true (ca.resolve_left c0), e1, fin]
  · have c0 : ¬ (0 ≤ a ∧ a ≤ 1) := fun e => ca (Or.inl e)
    have c1 : ¬ (10 ≤ a ∧ a ≤ 9 + 2 * ω 8 0) := fun e => ca (Or.inr e)
    refine ⟨pt σ 112 0 0, ?_, hM0, fun k _ => by rw [pt_q (by decide)], by rw [pt_k (by decide)]; exact h5, f0⟩
    unfold clothsA
    rw [if_neg ca]
    simp only [b249_0, m_isIn, Option.bind_some, Option.toList_some, Option.toList_none, List.cons_append, List.nil_append, i01a, i01b, if_true, if_false, b249_12, bI_z, bI_o, bI_em, ite_not, eq_false c0, i10, i01, eq_self, if_true, if_false, true_and, false_and, and_true, and_false, not_true, not_false_iff, true_or, or_true, false_or, or_false, ne_eq, not_true_eq_false, not_false_eq_true, m_places, b249_25, m_pp hM0, b249_29, eq_false c1]
