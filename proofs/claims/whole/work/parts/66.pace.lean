/-! L3: the class takes a pace -/
def gtS (ω : Sig) (l : Nat) : Int32 := if ω 21 l = 22 then (3 : Int32) <<< ((2 * (ω 1 10 * ω 8 0 / ω 22 l)) &&& 31) else 0
/-- the draws, closed: the kernel never unfolds them -/
noncomputable def drv : { p : (Int32 → Int32) × (Int32 → Int32 → Int32) // (∀ x, p.1 x = x * 1664525 + 1013904223) ∧ ∀ x m, p.2 x m = (x.toUInt32 >>> ((8 : Int32).toUInt32 &&& Int32.toUInt32 31)).toInt32 - (x.toUInt32 >>> ((8 : Int32).toUInt32 &&& Int32.toUInt32 31)).toInt32 / m * m } :=
  Classical.choice ⟨⟨(fun x => x * 1664525 + 1013904223, fun x m => (x.toUInt32 >>> ((8 : Int32).toUInt32 &&& Int32.toUInt32 31)).toInt32 - (x.toUInt32 >>> ((8 : Int32).toUInt32 &&& Int32.toUInt32 31)).toInt32 / m * m), fun _ => rfl, fun _ _ => rfl⟩⟩
noncomputable def drS : Int32 → Int32 := drv.1.1
noncomputable def dvS : Int32 → Int32 → Int32 := drv.1.2
theorem drS_e (x : Int32) : drS x = x * 1664525 + 1013904223 := drv.2.1 x
theorem dvS_e (x m : Int32) : dvS x m = (x.toUInt32 >>> ((8 : Int32).toUInt32 &&& Int32.toUInt32 31)).toInt32 - (x.toUInt32 >>> ((8 : Int32).toUInt32 &&& Int32.toUInt32 31)).toInt32 / m * m := drv.2.2 x m
theorem dv_n (x : Int32) {m : Nat} (h1 : 1 ≤ m) (h2 : m < 2 ^ 31) : ∃ n, n < m ∧ dvS x (nI m) = nI n := by
  have hb := pk_ushr x 8 8 (by decide)
  have hx : x.toBitVec.toNat < 2 ^ 32 := x.toBitVec.isLt
  generalize hy : (x.toUInt32 >>> ((8 : Int32).toUInt32 &&& Int32.toUInt32 31)).toInt32 = y at hb
  have hlt : x.toBitVec.toNat / 2 ^ 8 < 2 ^ 24 := Nat.div_lt_of_lt_mul (by omega)
  have ey : y = nI (x.toBitVec.toNat / 2 ^ 8) := by
    apply Int32.toBitVec_inj.mp
    apply BitVec.eq_of_toNat_eq
    rw [hb]
    show _ = (BitVec.ofNat 32 _).toNat
    rw [BitVec.toNat_ofNat, Nat.mod_eq_of_lt (by omega)]
  generalize x.toBitVec.toNat / 2 ^ 8 = z at ey hlt
  refine ⟨z % m, Nat.mod_lt _ h1, ?_⟩
  rw [dvS_e, hy, ey, nI_div (by omega) h2, nI_mul', nI_sub' (Nat.div_mul_le_self z m)]
  congr 1
  have := Nat.div_add_mod z m
  rw [Nat.mul_comm] at this
  omega
theorem c_draw (d : Nat) (σ : Sig) {m : Int32} (h : 1 ≤ m) : Ex d 93 0 [.ref 1, .int m] [] G0 σ = some (some (.int (dvS (drS (σ 1 5)) m)), G0, pt σ 1 5 (drS (σ 1 5))) := by
  rw [b93_0]
  have z : ¬ m = 0 := fun e => by rw [e] at h; exact absurd h (by decide)
  simp only [h, z, i10, i01, eq_self, if_true, if_false, true_and, false_and, and_true, and_false, not_true, not_false_iff, true_or, or_true, false_or, or_false, ne_eq, not_true_eq_false, not_false_eq_true, pt_e, ← drS_e, ← dvS_e]
noncomputable def slS (ω : Sig) (gr : Int32) : Sig × Int32 :=
  if mn 1000 (ω 1 4 <<< (gr &&& 31)) ≤ dvS (drS (ω 1 5)) 1000 then (pt ω 1 5 (drS (ω 1 5)), 0)
  else
    let ω2 := pt ω 1 5 (drS (drS (ω 1 5)))
    let p := dvS (drS (drS (ω 1 5))) (2 * ω 8 0)
    (if ω 9 p.toNatClampNeg = -1 then ω2 else noW false ω2 1 p (ω 9 p.toNatClampNeg), 1 <<< (p &&& 31))
theorem WI_sl {B T : LW} {ω : Sig} (hW : WI B T ω) (gr : Int32) : WI B T (slS ω gr).1 := by
  unfold slS
  split
  · exact WI_15 hW _
  · dsimp only
    split
    · exact WI_15 hW _
    · exact WI_noW (WI_15 hW _) false _ _ _
theorem sl_q {ω : Sig} {gr : Int32} {q : Nat} (h : q ∉ [1, 25, 26]) : (slS ω gr).1 q = ω q := by
  simp at h
  unfold slS
  split
  · dsimp only; rw [pt_q (by omega)]
  · dsimp only
    split
    · rw [pt_q (by omega)]
    · rw [noW_q (by omega) (by omega), pt_q (by omega)]
theorem sl_1 {ω : Sig} {gr : Int32} {k : Nat} (h : k ≠ 5) : (slS ω gr).1 1 k = ω 1 k := by
  unfold slS
  split
  · dsimp only; rw [pt_k h]
  · dsimp only
    split
    · rw [pt_k h]
    · rw [noW_q (by decide) (by decide), pt_k h]
theorem c_slipping (d : Nat) {B T : LW} {ω σ : Sig} (hW : WI B T ω) (h : RW false ω σ) (gr : Int32) :
    ∃ σ', Ex (d + 1) 78 0 [.ref 74, .int gr, .null, .null] [] G0 σ = some (some (.int (slS ω gr).2), G0, σ') ∧ RW false (slS ω gr).1 σ' ∧ Fr SCV [] σ σ' := by
  obtain ⟨n4, n8', en⟩ := WI_np hW
  have e1 := RW_q h (q := 1) (by omega) (by omega) (by omega) (by omega)
  have e8 := RW_q h (q := 8) (by omega) (by omega) (by omega) (by omega)
  have e9 := RW_q h (q := 9) (by omega) (by omega) (by omega) (by omega)
  have r1 : ∀ v, RW false (pt ω 1 5 v) (pt σ 1 5 v) := fun v => RW_pt h (by decide) (by decide)
  have c1 : (1 : Int32) ≤ 1000 := by decide
  simp only [b78_0, c_min, e1, Option.bind_some, Option.toList_some, Option.toList_none, List.cons_append, List.nil_append, i01a, i01b, if_true, if_false, b78_15, (fun d => c_draw d σ c1), b78_26]
  unfold slS
  by_cases c : mn 1000 (ω 1 4 <<< (gr &&& 31)) ≤ dvS (drS (ω 1 5)) 1000
  · have c' : ¬ dvS (drS (ω 1 5)) 1000 < mn 1000 (ω 1 4 <<< (gr &&& 31)) := Int32.not_lt.mpr c
    simp only [eq_true c, eq_false c', i10, i01, eq_self, if_true, if_false, true_and, false_and, and_true, and_false, not_true, not_false_iff, true_or, or_true, false_or, or_false, ne_eq, not_true_eq_false, not_false_eq_true]
    exact ⟨_, rfl, r1 _, Fr_p Fr_r (Or.inl (by decide))⟩
  · have c' : dvS (drS (ω 1 5)) 1000 < mn 1000 (ω 1 4 <<< (gr &&& 31)) := Int32.not_le.mp c
    have enp : 2 * (pt σ 1 5 (drS (ω 1 5))) 8 0 = nI (np ω) := by rw [pt_q (by decide), e8]; exact en
    have cn : (1 : Int32) ≤ nI (np ω) := by
      have := nJ_le (a := 1) (b := np ω) (by omega) (by omega)
      exact this.mpr (by omega)
    obtain ⟨p, hp, ep⟩ := dv_n (drS (drS (ω 1 5))) (m := np ω) (by omega) (by omega)
    have hp8 : p < 8 := by omega
    have ep' : dvS (drS (drS (ω 1 5))) (2 * ω 8 0) = nI p := by rw [en]; exact ep
    have e5 : (pt σ 1 5 (drS (ω 1 5))) 1 5 = drS (ω 1 5) := pt_e
    simp only [eq_false c, eq_true c', i10, i01, eq_self, if_true, if_false, true_and, false_and, and_true, and_false, not_true, not_false_iff, true_or, or_true, false_or, or_false, ne_eq, not_true_eq_false, not_false_eq_true, c_count, enp, Option.bind_some, Option.toList_some, Option.toList_none, List.cons_append, List.nil_append, i01a, i01b, if_true, if_false, b78_46, (fun d => c_draw d (pt σ 1 5 (drS (ω 1 5))) cn), e5, ep, ep', b78_49, i8 hp8, c8 hp8, pt_pt, pt_q (show (9 : Nat) ≠ 1 by decide), e9]
    have f2 : Fr SCV [] σ (pt σ 1 5 (drS (drS (ω 1 5)))) := Fr_p Fr_r (Or.inl (by decide))
    by_cases k : ω 9 p = -1
    · simp only [eq_true k, i10, i01, eq_self, if_true, if_false, true_and, false_and, and_true, and_false, not_true, not_false_iff, true_or, or_true, false_or, or_false, ne_eq, not_true_eq_false, not_false_eq_true, b78_97]
      exact ⟨_, rfl, r1 _, f2⟩
    · have hW2 : WI B T (pt ω 1 5 (drS (drS (ω 1 5)))) := WI_15 hW _
      have hb : bw ((pt σ 1 5 (drS (drS (ω 1 5)))) 25 0) 0 150 := (RW_WI (r1 _) hW2) 14
      have ew := c_write d hb 1 (nI p) (ω 9 p)
      simp only [eq_false k, i10, i01, eq_self, if_true, if_false, true_and, false_and, and_true, and_false, not_true, not_false_iff, true_or, or_true, false_or, or_false, ne_eq, not_true_eq_false, not_false_eq_true, ew, Option.bind_some, Option.toList_some, Option.toList_none, List.cons_append, List.nil_append, i01a, i01b, if_true, if_false, b78_97]
      refine ⟨_, rfl, RW_note hW2 (r1 _) 1 (nI p) (ω 9 p), ?_⟩
      intro q k' h1 _
      unfold SCV at h1; simp at h1
      rw [noW_q (by omega) (by omega), pt_q (by omega)]
/-- the places that let go, and the world behind the draws -/
noncomputable def lgS (th : Bool) (ω : Sig) (l : Nat) : Sig × Int32 := if th = true ∨ ω 1 4 ≤ 0 then (ω, gtS ω l) else ((slS ω (ω 24 l)).1, gtS ω l ||| (slS ω (ω 24 l)).2)
noncomputable def pcW (B T : LW) (th : Bool) (ω : Sig) : Sig :=
  let l := nx ω
  let a := stW B T th (lgS th ω l).1 (ω 23 l) (ω 24 l) (lgS th ω l).2
  if ω 1 10 + 1 < ω 22 l then pt a 1 10 (ω 1 10 + 1) else pt (pt a 1 9 (nI (l + 1))) 1 10 0
theorem lg_q {th : Bool} {ω : Sig} {l q : Nat} (h : q ∉ [1, 25, 26]) : (lgS th ω l).1 q = ω q := by
  unfold lgS; split
  · rfl
  · exact sl_q h
theorem lg_1 {th : Bool} {ω : Sig} {l k : Nat} (h : k ≠ 5) : (lgS th ω l).1 1 k = ω 1 k := by
  unfold lgS; split
  · rfl
  · exact sl_1 h
theorem WI_lg {B T : LW} {th : Bool} {ω : Sig} (hW : WI B T ω) (l : Nat) : WI B T (lgS th ω l).1 := by
  unfold lgS; split
  · exact hW
  · exact WI_sl hW _
theorem fall_q {th : Bool} {ω : Sig} {q : Nat} (h : q ∉ [1, 7, 25, 26]) : fallW th ω q = ω q := by
  simp at h
  unfold fallW
  rw [noW_q (by omega) (by omega), eaS_q (by omega), pt_q (by omega), pt_q (by omega)]
theorem fall_1 {th : Bool} {ω : Sig} {k : Nat} (h : k ≠ 7) (h2 : k ≠ 8) : fallW th ω 1 k = ω 1 k := by
  unfold fallW
  rw [noW_q (by decide) (by decide), eaS_q (by decide), pt_k h2, pt_k h]
theorem st_q {B T : LW} {th : Bool} {ω : Sig} {s gr g : Int32} {q : Nat} (h : q ∉ [1, 7, 25, 26]) : stW B T th ω s gr g q = ω q := by
  have h' := h
  simp at h'
  unfold stW
  rw [pt_q (by omega)]
  split
  · rw [carW_q (by omega) (by omega)]
  · exact fall_q h
theorem st_1 {B T : LW} {th : Bool} {ω : Sig} {s gr g : Int32} {k : Nat} (h : k ∉ [6, 7, 8]) : stW B T th ω s gr g 1 k = ω 1 k := by
  simp at h
  unfold stW
  rw [pt_k (by omega)]
  split
  · rw [carW_1 (by omega)]
  · exact fall_1 (by omega) (by omega)
theorem WI_dn {B T : LW} {ω : Sig} (hW : WI B T ω) {v : Int32} (hv : bw v 0 200) : WI B T (pt ω 1 10 v) := by
  intro i
  have h := hW i
  match i, h with
  | 0, h => (simp only [wi, np, pr, sz, wl, paced] at h ⊢; (try simp (disch := decide) only [pt_q, pt_k]); first | done | exact h)
  | 1, h => (simp only [wi, np, pr, sz, wl, paced] at h ⊢; (try simp (disch := decide) only [pt_q, pt_k]); first | done | exact h)
  | 2, h => (simp only [wi, np, pr, sz, wl, paced] at h ⊢; (try simp (disch := decide) only [pt_q, pt_k]); first | done | exact h)
  | 3, h => (simp only [wi, np, pr, sz, wl, paced] at h ⊢; (try simp (disch := decide) only [pt_q, pt_k]); first | done | exact h)
  | 4, h => (simp only [wi, np, pr, sz, wl, paced] at h ⊢; (try simp (disch := decide) only [pt_q, pt_k]); first | done | exact h)
  | 5, h => (simp only [wi, np, pr, sz, wl, paced] at h ⊢; (try simp (disch := decide) only [pt_q, pt_k]); first | done | exact h)
  | 6, h => (simp only [wi, np, pr, sz, wl, paced] at h ⊢; (try simp (disch := decide) only [pt_q, pt_k]); first | done | exact h)
  | 7, h => (simp only [wi, np, pr, sz, wl, paced] at h ⊢; (try simp (disch := decide) only [pt_q, pt_k]); first | done | exact h)
  | 8, h => (simp only [wi, np, pr, sz, wl, paced] at h ⊢; (try simp (disch := decide) only [pt_q, pt_k]); first | done | exact h)
  | 9, h => (simp only [wi, np, pr, sz, wl, paced] at h ⊢; (try simp (disch := decide) only [pt_q, pt_k]); first | done | exact h)
  | 10, h => (simp only [wi, np, pr, sz, wl, paced] at h ⊢; (try simp (disch := decide) only [pt_q, pt_k]); first | done | exact h)
  | 11, h => (simp only [wi, np, pr, sz, wl, paced] at h ⊢; (try simp (disch := decide) only [pt_q, pt_k]); first | done | exact h)
  | 12, h => (simp only [wi, np, pr, sz, wl, paced] at h ⊢; (try simp (disch := decide) only [pt_q, pt_k]); first | done | exact h)
  | 13, h => (simp only [wi, np, pr, sz, wl, paced] at h ⊢; (try simp (disch := decide) only [pt_q, pt_k]); first | done | exact h)
  | 14, h => (simp only [wi, np, pr, sz, wl, paced] at h ⊢; (try simp (disch := decide) only [pt_q, pt_k]); first | done | exact h)
  | 15, h => (simp only [wi, np, pr, sz, wl, paced] at h ⊢; (try simp (disch := decide) only [pt_q, pt_k]); first | done | exact h)
  | 16, h => (simp only [wi, np, pr, sz, wl, paced] at h ⊢; (try simp (disch := decide) only [pt_q, pt_k]); first | done | exact h)
  | 17, h => (show bw (pt ω 1 10 v 1 10) 0 200; rw [pt_e]; exact hv)
  | 18, h => (simp only [wi, np, pr, sz, wl, paced] at h ⊢; (try simp (disch := decide) only [pt_q, pt_k]); first | done | exact h)
  | 19, h => (simp only [wi, np, pr, sz, wl, paced] at h ⊢; (try simp (disch := decide) only [pt_q, pt_k]); first | done | exact h)
  | 20, h => (simp only [wi, np, pr, sz, wl, paced] at h ⊢; (try simp (disch := decide) only [pt_q, pt_k]); first | done | exact h)
  | 21, h => (simp only [wi, np, pr, sz, wl, paced] at h ⊢; (try simp (disch := decide) only [pt_q, pt_k]); first | done | exact h)
  | 22, h => (simp only [wi, np, pr, sz, wl, paced] at h ⊢; (try simp (disch := decide) only [pt_q, pt_k]); first | done | exact h)
  | _ + 23, _ => trivial
theorem pcd {B T : LW} {ω : Sig} (hW : WI B T ω) {l : Nat} (hl : l < wl ω) (hp : paced ω l) : bw (ω 22 l) 1 200 ∧ bw (ω 23 l) (-9) 9 ∧ bw (ω 24 l) 0 1 := by
  have h18 : wi B T ω 18 := hW 18
  rcases h18 l hl with h | h | h | h
  · exact h.2
  · unfold paced at hp; rw [h.1] at hp; exact absurd hp (by decide)
  · unfold paced at hp; rw [h.1] at hp; exact absurd hp (by decide)
  · unfold paced at hp; rw [h.1] at hp; exact absurd hp (by decide)
theorem WI_pc {B T : LW} {th : Bool} {ω : Sig} (hW : WI B T ω) (hl : nx ω < wl ω) (hp : paced ω (nx ω)) : WI B T (pcW B T th ω) := by
  have h17 : bw (ω 1 10) 0 200 := hW 17
  have hc := pcd hW hl hp
  have hWs : WI B T (stW B T th (lgS th ω (nx ω)).1 (ω 23 (nx ω)) (ω 24 (nx ω)) (lgS th ω (nx ω)).2) := WI_st (WI_lg hW _) th _ _ _
  unfold pcW
  dsimp only
  split
  · rename_i c
    refine WI_dn hWs ?_
    have e : (ω 1 10 + 1).toInt = (ω 1 10).toInt + 1 := by
      rw [Int32.toInt_add]; unfold bw at h17; exact Int.bmod_eq_of_le (by have : (1 : Int32).toInt = 1 := rfl; omega) (by have : (1 : Int32).toInt = 1 := rfl; omega)
    rw [Int32.lt_iff_toInt_lt, e] at c
    unfold bw at *; rw [e]; omega
  · refine WI_dn (WI_nxt hWs ?_) (by unfold bw; decide)
    have : wl (stW B T th (lgS th ω (nx ω)).1 (ω 23 (nx ω)) (ω 24 (nx ω)) (lgS th ω (nx ω)).2) = wl ω := by
      unfold wl; rw [st_q (by decide), lg_q (by decide)]
    omega
theorem c_gatePair (d : Nat) {B T : LW} {ω σ : Sig} {th : Bool} (hW : WI B T ω) (h : RW th ω σ) (hl : nx ω < wl ω) (hp : paced ω (nx ω)) : Ex d 77 0 [.ref 74, .null] [] G0 σ = some (some (.int (gtS ω (nx ω))), G0, σ) := by
  have hn := WI_nx hW
  have h15 : wi B T ω 15 := hW 15
  have hc := (pcd hW hl hp).1
  have e1 := RW_q h (q := 1) (by omega) (by omega) (by omega) (by omega)
  have e8 := RW_q h (q := 8) (by omega) (by omega) (by omega) (by omega)
  have e20 := RW_q h (q := 20) (by omega) (by omega) (by omega) (by omega)
  have e21 := RW_q h (q := 21) (by omega) (by omega) (by omega) (by omega)
  have e22 := RW_q h (q := 22) (by omega) (by omega) (by omega) (by omega)
  have q : (nI (wl ω) ≤ nI (nx ω)) = False := by rw [nJ_le (by omega) (by omega)]; exact eq_false (by omega)
  have q1 : (1 ≤ ω 22 (nx ω)) = True := eq_true (Int32.le_iff_toInt_le.mpr hc.1)
  have q0 : (ω 22 (nx ω) = 0) = False := eq_false (fun e => by rw [e] at hc; unfold bw at hc; have : (0 : Int32).toInt = 0 := rfl; omega)
  unfold gtS
  simp only [b77_0, b77_55, b77_57, e1, e8, e20, e21, e22, h15.1, hn.1, q, q1, q0, i10, i01, eq_self, if_true, if_false, true_and, false_and, and_true, and_false, not_true, not_false_iff, true_or, or_true, false_or, or_false, ne_eq, not_true_eq_false, not_false_eq_true, inb_n (show nx ω < 40 by omega) (show nx ω < 2 ^ 31 by omega), nI_c (show nx ω < 2 ^ 31 by omega)]
  split <;> rfl
theorem c_slopeNow (d : Nat) {B T : LW} {ω σ : Sig} (hW : WI B T ω) (e1 : σ 1 9 = ω 1 9) (e20 : σ 20 = ω 20) (e23 : σ 23 = ω 23) (hl : nx ω < wl ω) : Ex d 76 0 [.ref 74] [] G0 σ = some (some (.int (ω 23 (nx ω))), G0, σ) := by
  have hn := WI_nx hW
  have h15 : wi B T ω 15 := hW 15
  have q : (nI (wl ω) ≤ nI (nx ω)) = False := by rw [nJ_le (by omega) (by omega)]; exact eq_false (by omega)
  rw [b76_0]
  simp only [e1, e20, e23, h15.1, hn.1, q, i10, i01, eq_self, if_true, if_false, true_and, false_and, and_true, and_false, not_true, not_false_iff, true_or, or_true, false_or, or_false, ne_eq, not_true_eq_false, not_false_eq_true, inb_n (show nx ω < 40 by omega) (show nx ω < 2 ^ 31 by omega), nI_c (show nx ω < 2 ^ 31 by omega)]
