/-! L3: image, the class: the whole world copied -/
theorem c_ccp0 (d : Nat) (σ : Sig) : ∃ σ', Ex (d + 2) 20 0 [.ref 2, .ref 28] [] G0 σ = some (none, G0, σ') ∧ σ' 2 0 = σ 28 0 ∧ (∀ i, i < 8 → σ' 3 i = σ 29 i ∧ σ' 4 i = σ 30 i ∧ σ' 5 i = σ 31 i ∧ σ' 6 i = σ 32 i ∧ σ' 7 i = σ 33 i) ∧ Fr [2, 3, 4, 5, 6, 7] [] σ σ' := by
  simp only [b20k0_0, b20k0_19, b20k0_30, b20k0_41, b20k0_52, b20k0_63, (fun d σ => c_copy d σ 29 3 8 rfl rfl (by decide)), (fun d σ => c_copy d σ 30 4 8 rfl rfl (by decide)), (fun d σ => c_copy d σ 31 5 8 rfl rfl (by decide)), (fun d σ => c_copy d σ 32 6 8 rfl rfl (by decide)), (fun d σ => c_copy d σ 33 7 8 rfl rfl (by decide)), Option.bind_some, Option.toList_some, Option.toList_none, List.cons_append, List.nil_append, i01a, i01b, if_true, if_false]
  refine ⟨_, rfl, ?_, fun i hi => ⟨?_, ?_, ?_, ?_, ?_⟩, fun q k h1 h2 => ?_⟩
  · rw [cpS_q (by decide), cpS_q (by decide), cpS_q (by decide), cpS_q (by decide), cpS_q (by decide), pt_e]
  · rw [cpS_q (by decide), cpS_q (by decide), cpS_q (by decide), cpS_q (by decide), cpS_k hi, pt_q (by decide)]
  · rw [cpS_q (by decide), cpS_q (by decide), cpS_q (by decide), cpS_k hi, cpS_q (by decide), pt_q (by decide)]
  · rw [cpS_q (by decide), cpS_q (by decide), cpS_k hi, cpS_q (by decide), cpS_q (by decide), pt_q (by decide)]
  · rw [cpS_q (by decide), cpS_k hi, cpS_q (by decide), cpS_q (by decide), cpS_q (by decide), pt_q (by decide)]
  · rw [cpS_k hi, cpS_q (by decide), cpS_q (by decide), cpS_q (by decide), cpS_q (by decide), pt_q (by decide)]
  · have n0 : ∀ y, y ∈ [2, 3, 4, 5, 6, 7] → q ≠ y := fun y hy e => h1 (e ▸ hy)
    rw [cpS_q (n0 7 (by simp)), cpS_q (n0 6 (by simp)), cpS_q (n0 5 (by simp)), cpS_q (n0 4 (by simp)), cpS_q (n0 3 (by simp)), pt_q (n0 2 (by simp))]
theorem c_ccp1 (d : Nat) (σ : Sig) : ∃ σ', Ex (d + 2) 20 0 [.ref 28, .ref 2] [] G0 σ = some (none, G0, σ') ∧ σ' 28 0 = σ 2 0 ∧ (∀ i, i < 8 → σ' 29 i = σ 3 i ∧ σ' 30 i = σ 4 i ∧ σ' 31 i = σ 5 i ∧ σ' 32 i = σ 6 i ∧ σ' 33 i = σ 7 i) ∧ Fr [28, 29, 30, 31, 32, 33] [] σ σ' := by
  simp only [b20k1_0, b20k1_19, b20k1_30, b20k1_41, b20k1_52, b20k1_63, (fun d σ => c_copy d σ 3 29 8 rfl rfl (by decide)), (fun d σ => c_copy d σ 4 30 8 rfl rfl (by decide)), (fun d σ => c_copy d σ 5 31 8 rfl rfl (by decide)), (fun d σ => c_copy d σ 6 32 8 rfl rfl (by decide)), (fun d σ => c_copy d σ 7 33 8 rfl rfl (by decide)), Option.bind_some, Option.toList_some, Option.toList_none, List.cons_append, List.nil_append, i01a, i01b, if_true, if_false]
  refine ⟨_, rfl, ?_, fun i hi => ⟨?_, ?_, ?_, ?_, ?_⟩, fun q k h1 h2 => ?_⟩
  · rw [cpS_q (by decide), cpS_q (by decide), cpS_q (by decide), cpS_q (by decide), cpS_q (by decide), pt_e]
  · rw [cpS_q (by decide), cpS_q (by decide), cpS_q (by decide), cpS_q (by decide), cpS_k hi, pt_q (by decide)]
  · rw [cpS_q (by decide), cpS_q (by decide), cpS_q (by decide), cpS_k hi, cpS_q (by decide), pt_q (by decide)]
  · rw [cpS_q (by decide), cpS_q (by decide), cpS_k hi, cpS_q (by decide), cpS_q (by decide), pt_q (by decide)]
  · rw [cpS_q (by decide), cpS_k hi, cpS_q (by decide), cpS_q (by decide), cpS_q (by decide), pt_q (by decide)]
  · rw [cpS_k hi, cpS_q (by decide), cpS_q (by decide), cpS_q (by decide), cpS_q (by decide), pt_q (by decide)]
  · have n0 : ∀ y, y ∈ [28, 29, 30, 31, 32, 33] → q ≠ y := fun y hy e => h1 (e ▸ hy)
    rw [cpS_q (n0 33 (by simp)), cpS_q (n0 32 (by simp)), cpS_q (n0 31 (by simp)), cpS_q (n0 30 (by simp)), cpS_q (n0 29 (by simp)), pt_q (n0 28 (by simp))]
theorem c_pcp0 (d : Nat) (σ : Sig) : ∃ σ', Ex (d + 2) 38 0 [.ref 8, .ref 34] [] G0 σ = some (none, G0, σ') ∧ σ' 8 0 = σ 34 0 ∧ (∀ i, i < 8 → σ' 9 i = σ 35 i ∧ σ' 10 i = σ 36 i ∧ σ' 11 i = σ 37 i ∧ σ' 12 i = σ 38 i ∧ σ' 13 i = σ 39 i) ∧ Fr [8, 9, 10, 11, 12, 13] [] σ σ' := by
  simp only [b38k0_0, b38k0_19, b38k0_30, b38k0_41, b38k0_52, b38k0_63, (fun d σ => c_copy d σ 35 9 8 rfl rfl (by decide)), (fun d σ => c_copy d σ 36 10 8 rfl rfl (by decide)), (fun d σ => c_copy d σ 37 11 8 rfl rfl (by decide)), (fun d σ => c_copy d σ 38 12 8 rfl rfl (by decide)), (fun d σ => c_copy d σ 39 13 8 rfl rfl (by decide)), Option.bind_some, Option.toList_some, Option.toList_none, List.cons_append, List.nil_append, i01a, i01b, if_true, if_false]
  refine ⟨_, rfl, ?_, fun i hi => ⟨?_, ?_, ?_, ?_, ?_⟩, fun q k h1 h2 => ?_⟩
  · rw [cpS_q (by decide), cpS_q (by decide), cpS_q (by decide), cpS_q (by decide), cpS_q (by decide), pt_e]
  · rw [cpS_q (by decide), cpS_q (by decide), cpS_q (by decide), cpS_q (by decide), cpS_k hi, pt_q (by decide)]
  · rw [cpS_q (by decide), cpS_q (by decide), cpS_q (by decide), cpS_k hi, cpS_q (by decide), pt_q (by decide)]
  · rw [cpS_q (by decide), cpS_q (by decide), cpS_k hi, cpS_q (by decide), cpS_q (by decide), pt_q (by decide)]
  · rw [cpS_q (by decide), cpS_k hi, cpS_q (by decide), cpS_q (by decide), cpS_q (by decide), pt_q (by decide)]
  · rw [cpS_k hi, cpS_q (by decide), cpS_q (by decide), cpS_q (by decide), cpS_q (by decide), pt_q (by decide)]
  · have n0 : ∀ y, y ∈ [8, 9, 10, 11, 12, 13] → q ≠ y := fun y hy e => h1 (e ▸ hy)
    rw [cpS_q (n0 13 (by simp)), cpS_q (n0 12 (by simp)), cpS_q (n0 11 (by simp)), cpS_q (n0 10 (by simp)), cpS_q (n0 9 (by simp)), pt_q (n0 8 (by simp))]
theorem c_pcp1 (d : Nat) (σ : Sig) : ∃ σ', Ex (d + 2) 38 0 [.ref 34, .ref 8] [] G0 σ = some (none, G0, σ') ∧ σ' 34 0 = σ 8 0 ∧ (∀ i, i < 8 → σ' 35 i = σ 9 i ∧ σ' 36 i = σ 10 i ∧ σ' 37 i = σ 11 i ∧ σ' 38 i = σ 12 i ∧ σ' 39 i = σ 13 i) ∧ Fr [34, 35, 36, 37, 38, 39] [] σ σ' := by
  simp only [b38k1_0, b38k1_19, b38k1_30, b38k1_41, b38k1_52, b38k1_63, (fun d σ => c_copy d σ 9 35 8 rfl rfl (by decide)), (fun d σ => c_copy d σ 10 36 8 rfl rfl (by decide)), (fun d σ => c_copy d σ 11 37 8 rfl rfl (by decide)), (fun d σ => c_copy d σ 12 38 8 rfl rfl (by decide)), (fun d σ => c_copy d σ 13 39 8 rfl rfl (by decide)), Option.bind_some, Option.toList_some, Option.toList_none, List.cons_append, List.nil_append, i01a, i01b, if_true, if_false]
  refine ⟨_, rfl, ?_, fun i hi => ⟨?_, ?_, ?_, ?_, ?_⟩, fun q k h1 h2 => ?_⟩
  · rw [cpS_q (by decide), cpS_q (by decide), cpS_q (by decide), cpS_q (by decide), cpS_q (by decide), pt_e]
  · rw [cpS_q (by decide), cpS_q (by decide), cpS_q (by decide), cpS_q (by decide), cpS_k hi, pt_q (by decide)]
  · rw [cpS_q (by decide), cpS_q (by decide), cpS_q (by decide), cpS_k hi, cpS_q (by decide), pt_q (by decide)]
  · rw [cpS_q (by decide), cpS_q (by decide), cpS_k hi, cpS_q (by decide), cpS_q (by decide), pt_q (by decide)]
  · rw [cpS_q (by decide), cpS_k hi, cpS_q (by decide), cpS_q (by decide), cpS_q (by decide), pt_q (by decide)]
  · rw [cpS_k hi, cpS_q (by decide), cpS_q (by decide), cpS_q (by decide), cpS_q (by decide), pt_q (by decide)]
  · have n0 : ∀ y, y ∈ [34, 35, 36, 37, 38, 39] → q ≠ y := fun y hy e => h1 (e ▸ hy)
    rw [cpS_q (n0 39 (by simp)), cpS_q (n0 38 (by simp)), cpS_q (n0 37 (by simp)), cpS_q (n0 36 (by simp)), cpS_q (n0 35 (by simp)), pt_q (n0 34 (by simp))]
theorem c_ycp0 (d : Nat) (σ : Sig) : ∃ σ', Ex (d + 2) 90 0 [.ref 20, .ref 46] [] G0 σ = some (none, G0, σ') ∧ σ' 20 0 = σ 46 0 ∧ σ' 20 1 = σ 46 1 ∧ (∀ i, i < 40 → σ' 21 i = σ 47 i ∧ σ' 22 i = σ 48 i ∧ σ' 23 i = σ 49 i ∧ σ' 24 i = σ 50 i) ∧ Fr [20, 21, 22, 23, 24] [] σ σ' := by
  have p1 : pt σ 20 0 (σ 46 0) 46 1 = σ 46 1 := by rw [pt_q (by decide)]
  simp only [b90k0_0, b90k0_27, b90k0_38, b90k0_49, b90k0_60, p1, (fun d σ => c_copy d σ 47 21 40 rfl rfl (by decide)), (fun d σ => c_copy d σ 48 22 40 rfl rfl (by decide)), (fun d σ => c_copy d σ 49 23 40 rfl rfl (by decide)), (fun d σ => c_copy d σ 50 24 40 rfl rfl (by decide)), Option.bind_some, Option.toList_some, Option.toList_none, List.cons_append, List.nil_append, i01a, i01b, if_true, if_false]
  refine ⟨_, rfl, ?_, ?_, fun i hi => ⟨?_, ?_, ?_, ?_⟩, fun q k h1 h2 => ?_⟩
  · rw [cpS_q (by decide), cpS_q (by decide), cpS_q (by decide), cpS_q (by decide), pt_k (by decide), pt_e]
  · rw [cpS_q (by decide), cpS_q (by decide), cpS_q (by decide), cpS_q (by decide), pt_e]
  · rw [cpS_q (by decide), cpS_q (by decide), cpS_q (by decide), cpS_k hi, pt_q (by decide), pt_q (by decide)]
  · rw [cpS_q (by decide), cpS_q (by decide), cpS_k hi, cpS_q (by decide), pt_q (by decide), pt_q (by decide)]
  · rw [cpS_q (by decide), cpS_k hi, cpS_q (by decide), cpS_q (by decide), pt_q (by decide), pt_q (by decide)]
  · rw [cpS_k hi, cpS_q (by decide), cpS_q (by decide), cpS_q (by decide), pt_q (by decide), pt_q (by decide)]
  · have n0 : ∀ y, y ∈ [20, 21, 22, 23, 24] → q ≠ y := fun y hy e => h1 (e ▸ hy)
    rw [cpS_q (n0 24 (by simp)), cpS_q (n0 23 (by simp)), cpS_q (n0 22 (by simp)), cpS_q (n0 21 (by simp)), pt_q (n0 20 (by simp)), pt_q (n0 20 (by simp))]
theorem c_ycp1 (d : Nat) (σ : Sig) : ∃ σ', Ex (d + 2) 90 0 [.ref 46, .ref 20] [] G0 σ = some (none, G0, σ') ∧ σ' 46 0 = σ 20 0 ∧ σ' 46 1 = σ 20 1 ∧ (∀ i, i < 40 → σ' 47 i = σ 21 i ∧ σ' 48 i = σ 22 i ∧ σ' 49 i = σ 23 i ∧ σ' 50 i = σ 24 i) ∧ Fr [46, 47, 48, 49, 50] [] σ σ' := by
  have p1 : pt σ 46 0 (σ 20 0) 20 1 = σ 20 1 := by rw [pt_q (by decide)]
  simp only [b90k1_0, b90k1_27, b90k1_38, b90k1_49, b90k1_60, p1, (fun d σ => c_copy d σ 21 47 40 rfl rfl (by decide)), (fun d σ => c_copy d σ 22 48 40 rfl rfl (by decide)), (fun d σ => c_copy d σ 23 49 40 rfl rfl (by decide)), (fun d σ => c_copy d σ 24 50 40 rfl rfl (by decide)), Option.bind_some, Option.toList_some, Option.toList_none, List.cons_append, List.nil_append, i01a, i01b, if_true, if_false]
  refine ⟨_, rfl, ?_, ?_, fun i hi => ⟨?_, ?_, ?_, ?_⟩, fun q k h1 h2 => ?_⟩
  · rw [cpS_q (by decide), cpS_q (by decide), cpS_q (by decide), cpS_q (by decide), pt_k (by decide), pt_e]
  · rw [cpS_q (by decide), cpS_q (by decide), cpS_q (by decide), cpS_q (by decide), pt_e]
  · rw [cpS_q (by decide), cpS_q (by decide), cpS_q (by decide), cpS_k hi, pt_q (by decide), pt_q (by decide)]
  · rw [cpS_q (by decide), cpS_q (by decide), cpS_k hi, cpS_q (by decide), pt_q (by decide), pt_q (by decide)]
  · rw [cpS_q (by decide), cpS_k hi, cpS_q (by decide), cpS_q (by decide), pt_q (by decide), pt_q (by decide)]
  · rw [cpS_k hi, cpS_q (by decide), cpS_q (by decide), cpS_q (by decide), pt_q (by decide), pt_q (by decide)]
  · have n0 : ∀ y, y ∈ [46, 47, 48, 49, 50] → q ≠ y := fun y hy e => h1 (e ▸ hy)
    rw [cpS_q (n0 50 (by simp)), cpS_q (n0 49 (by simp)), cpS_q (n0 48 (by simp)), cpS_q (n0 47 (by simp)), pt_q (n0 46 (by simp)), pt_q (n0 46 (by simp))]
theorem c_bcp0 (d : Nat) {m : Nat} {σ : Sig} (h : σ 51 0 = nI m) (hm : m ≤ 150) : ∃ σ', Ex d 14 0 [.ref 25, .ref 51] [] G0 σ = some (none, G0, σ') ∧ σ' 25 0 = σ 51 0 ∧ (∀ i, i < 4 * m → σ' 26 i = σ 52 i) ∧ Fr [25, 26] [] σ σ' := by
  have p2 : pt σ 25 0 (σ 51 0) 25 0 * 4 = nI (m * 4) := by rw [pt_e, h]; exact nI_mul' m 4
  rw [b14k0_0]
  simp only [p2]
  refine ⟨cpS (pt σ 25 0 (σ 51 0)) 52 26 (m * 4), Eq.trans (st_cp (n := 600) (m := 600) rfl rfl rfl (by omega) (by omega) (by omega)) ?_, ?_, fun i hi => ?_, fun q k h1 h2 => ?_⟩
  · show Ex d 14 27 _ _ _ _ = _
    rw [b14k0_27]
  · rw [cpS_q (by decide), pt_e]
  · rw [cpS_k (by omega), pt_q (by decide)]
  · have n0 : ∀ y, y ∈ [25, 26] → q ≠ y := fun y hy e => h1 (e ▸ hy)
    rw [cpS_q (n0 26 (by simp)), pt_q (n0 25 (by simp))]
theorem c_bcp1 (d : Nat) {m : Nat} {σ : Sig} (h : σ 25 0 = nI m) (hm : m ≤ 150) : ∃ σ', Ex d 14 0 [.ref 51, .ref 25] [] G0 σ = some (none, G0, σ') ∧ σ' 51 0 = σ 25 0 ∧ (∀ i, i < 4 * m → σ' 52 i = σ 26 i) ∧ Fr [51, 52] [] σ σ' := by
  have p2 : pt σ 51 0 (σ 25 0) 51 0 * 4 = nI (m * 4) := by rw [pt_e, h]; exact nI_mul' m 4
  rw [b14k1_0]
  simp only [p2]
  refine ⟨cpS (pt σ 51 0 (σ 25 0)) 26 52 (m * 4), Eq.trans (st_cp (n := 600) (m := 600) rfl rfl rfl (by omega) (by omega) (by omega)) ?_, ?_, fun i hi => ?_, fun q k h1 h2 => ?_⟩
  · show Ex d 14 27 _ _ _ _ = _
    rw [b14k1_27]
  · rw [cpS_q (by decide), pt_e]
  · rw [cpS_k (by omega), pt_q (by decide)]
  · have n0 : ∀ y, y ∈ [51, 52] → q ≠ y := fun y hy e => h1 (e ▸ hy)
    rw [cpS_q (n0 52 (by simp)), pt_q (n0 51 (by simp))]
/-- the slots of a world that anything rests on are the same -/
def AG (m1 m2 nb : Nat) (ω ω' : Sig) : Prop := (∀ k, k ≤ 10 → ω' 1 k = ω 1 k) ∧ ω' 2 0 = ω 2 0 ∧ (∀ i, i < 8 → ω' 3 i = ω 3 i ∧ ω' 4 i = ω 4 i ∧ ω' 5 i = ω 5 i ∧ ω' 6 i = ω 6 i ∧ ω' 7 i = ω 7 i)
  ∧ ω' 8 0 = ω 8 0 ∧ (∀ i, i < 8 → ω' 9 i = ω 9 i ∧ ω' 10 i = ω 10 i ∧ ω' 11 i = ω 11 i ∧ ω' 12 i = ω 12 i ∧ ω' 13 i = ω 13 i)
  ∧ ω' 14 0 = ω 14 0 ∧ ω' 14 1 = ω 14 1 ∧ (∀ i, i < m1 → ω' 15 i = ω 15 i) ∧ ω' 17 0 = ω 17 0 ∧ ω' 17 1 = ω 17 1 ∧ (∀ i, i < m2 → ω' 18 i = ω 18 i)
  ∧ ω' 20 0 = ω 20 0 ∧ ω' 20 1 = ω 20 1 ∧ (∀ i, i < 40 → ω' 21 i = ω 21 i ∧ ω' 22 i = ω 22 i ∧ ω' 23 i = ω 23 i ∧ ω' 24 i = ω 24 i)
  ∧ ω' 25 0 = ω 25 0 ∧ (∀ i, i < 4 * nb → ω' 26 i = ω 26 i)
def shi (σ : Sig) : Sig := fun q k => σ (q + 26) k
theorem AG_WI {B T : LW} {ω ω' : Sig} {nb : Nat} (hW : WI B T ω) (h : AG (flt B).length (flt T).length nb ω ω') : WI B T ω' := by
  obtain ⟨a1, a2, a3, a4, a5, a6, a7, a8, a9, a10, a11, a12, a13, a14, a15, a16⟩ := h
  have epr : pr ω' = pr ω := by unfold pr; rw [a4]
  have enp : np ω' = np ω := by unfold np; rw [epr]
  have esz : sz ω' = sz ω := by unfold sz; rw [a2]
  have ewl : wl ω' = wl ω := by unfold wl; rw [a12]
  have hsz : sz ω ≤ 8 := (hW 5).2
  have hwl : wl ω ≤ 40 := (hW 15).2
  intro i
  have h := hW i
  match i, h with
  | 0, h => simp only [wi] at h ⊢; rw [a1 0 (by decide)]; exact h
  | 1, h => simp only [wi] at h ⊢; rw [a1 1 (by decide)]; exact h
  | 2, h => simp only [wi] at h ⊢; rw [a1 3 (by decide)]; exact h
  | 3, h => simp only [wi] at h ⊢; rw [a1 4 (by decide)]; exact h
  | 4, h => simp only [wi] at h ⊢; rw [epr, a4]; exact h
  | 5, h => simp only [wi] at h ⊢; rw [esz, a2]; exact h
  | 6, h => simp only [wi] at h ⊢; rw [esz, enp]; intro p hp; rw [(a5 p hp).1]; exact h p hp
  | 7, h => simp only [wi] at h ⊢; intro p q hp hq; rw [(a5 p hp).1, (a5 q hq).1]; exact h p q hp hq
  | 8, h => simp only [wi] at h ⊢; intro p hp; rw [(a5 p hp).2.1]; exact h p hp
  | 9, h => simp only [wi] at h ⊢; intro p hp; rw [(a5 p hp).2.2.1]; exact h p hp
  | 10, h => simp only [wi] at h ⊢; intro p hp; rw [(a5 p hp).2.2.2.2]; exact h p hp
  | 11, h => simp only [wi] at h ⊢; rw [esz]; intro b hb; rw [(a3 b (by omega)).1]; exact h b hb
  | 12, h => simp only [wi] at h ⊢; intro b hb; rw [(a3 b hb).2.1]; exact h b hb
  | 13, h => simp only [wi] at h ⊢; intro b hb; rw [(a3 b hb).2.2.2.2]; exact h b hb
  | 14, h => simp only [wi] at h ⊢; rw [a15]; exact h
  | 15, h => simp only [wi] at h ⊢; rw [ewl, a12]; exact h
  | 16, h => simp only [wi] at h ⊢; rw [ewl, a1 9 (by decide)]; exact h
  | 17, h => simp only [wi] at h ⊢; rw [a1 10 (by decide)]; exact h
  | 18, h =>
    simp only [wi, paced] at h ⊢; rw [ewl, esz]; intro l hl
    obtain ⟨b1, b2, b3, b4⟩ := a14 l (by omega)
    rw [b1, b2, b3, b4]; exact h l hl
  | 19, h =>
    simp only [wi, paced] at h ⊢; rw [ewl, a13]
    rcases h with ⟨h1, h2⟩ | ⟨m, h1, h2, h3, h4⟩
    · exact Or.inl ⟨h1, fun l hl => by rw [(a14 l (by omega)).1]; exact h2 l hl⟩
    · exact Or.inr ⟨m, h1, h2, by rw [(a14 m (by omega)).1]; exact h3, fun l h5 hl => by rw [(a14 l (by omega)).1]; exact h4 l h5 hl⟩
  | 20, h =>
    simp only [wi, clsLaw] at h ⊢; rw [a6, a7]
    exact ⟨⟨h.1.1, h.1.2.1, fun i hi => by rw [a8 i hi]; exact h.1.2.2 i hi⟩, h.2⟩
  | 21, h =>
    simp only [wi, clsLaw] at h ⊢; rw [a9, a10]
    exact ⟨⟨h.1.1, h.1.2.1, fun i hi => by rw [a11 i hi]; exact h.1.2.2 i hi⟩, h.2⟩
  | 22, h => simp only [wi] at h ⊢; intro p hp; rw [(a5 p hp).2.2.2.1]; exact h p hp
  | _ + 23, _ => trivial
theorem AG_MR {B T : LW} {ω ω' s : Sig} {m1 m2 nb : Nat} (hW : WI B T ω) (hnb : (ω 25 0).toNatClampNeg ≤ nb) (hM : MR B T ω s) (h : AG m1 m2 nb ω ω') : MR B T ω' s := by
  obtain ⟨a1, a2, a3, a4, a5, a6, a7, a8, a9, a10, a11, a12, a13, a14, a15, a16⟩ := h
  have ewl : wl ω' = wl ω := by unfold wl; rw [a12]
  have hwl : wl ω ≤ 40 := (hW 15).2
  intro i
  have h := hM i
  match i, h with
  | 0, h => simp only [mr] at h ⊢; rw [a1 0 (by decide)]; exact h
  | 1, h => simp only [mr] at h ⊢; rw [a4]; exact h
  | 2, h => simp only [mr] at h ⊢; rw [a1 2 (by decide)]; exact h
  | 3, h => simp only [mr] at h ⊢; rw [a1 3 (by decide)]; exact h
  | 4, h => simp only [mr] at h ⊢; rw [a1 1 (by decide)]; exact h
  | 5, h => simp only [mr] at h ⊢; rw [a1 4 (by decide)]; exact h
  | 6, h => simp only [mr] at h ⊢; rw [a2]; exact h
  | 7, h => simp only [mr] at h ⊢; rw [a1 6 (by decide)]; exact h
  | 8, h => simp only [mr] at h ⊢; rw [a1 5 (by decide)]; exact h
  | 9, h => simp only [mr] at h ⊢; rw [a15]; exact h
  | 10, h => simp only [mr] at h ⊢; rw [a1 7 (by decide)]; exact h
  | 11, h => simp only [mr] at h ⊢; rw [a1 8 (by decide)]; exact h
  | 12, h => simp only [mr] at h ⊢; rw [a1 9 (by decide)]; exact h
  | 13, h => simp only [mr] at h ⊢; rw [a1 10 (by decide)]; exact h
  | 14, h => simp only [mr] at h ⊢; intro p hp; rw [(a5 p hp).1]; exact h p hp
  | 15, h => simp only [mr] at h ⊢; intro p hp; rw [(a5 p hp).2.1]; exact h p hp
  | 16, h => simp only [mr] at h ⊢; intro p hp; rw [(a3 p hp).2.2.2.2]; exact h p hp
  | 17, h => simp only [mr] at h ⊢; intro p hp; rw [(a3 p hp).1]; exact h p hp
  | 18, h => simp only [mr] at h ⊢; intro p hp; rw [(a3 p hp).2.1]; exact h p hp
  | 19, h => simp only [mr] at h ⊢; intro p hp; rw [(a3 p hp).2.2.1]; exact h p hp
  | 20, h => simp only [mr] at h ⊢; intro p hp; rw [(a3 p hp).2.2.2.1]; exact h p hp
  | 21, h => simp only [mr] at h ⊢; intro p hp; rw [(a5 p hp).2.2.1]; exact h p hp
  | 22, h => simp only [mr] at h ⊢; intro p hp; rw [(a5 p hp).2.2.2.1]; exact h p hp
  | 23, h => simp only [mr] at h ⊢; intro p hp; rw [(a5 p hp).2.2.2.2]; exact h p hp
  | 24, h => simp only [mr] at h ⊢; rw [a12]; exact h
  | 25, h =>
    simp only [mr, paced] at h ⊢; rw [ewl]; intro l hl
    obtain ⟨b1, b2, b3, b4⟩ := a14 l (by omega)
    rw [b1, b2, b3, b4]; exact h l hl
  | 26, h => simp only [mr] at h ⊢; rw [a15]; intro i hi; rw [a16 i (by omega)]; exact h i hi
  | 27, h => simp only [mr] at h ⊢; rw [a6]; exact h
  | 28, h => simp only [mr] at h ⊢; rw [a9]; exact h
  | 29, h => simp only [mr] at h ⊢; exact h
  | 30, h => simp only [mr] at h ⊢; exact h
  | _ + 31, _ => trivial
def WC0 : List Nat := [1, 2, 3, 4, 5, 6, 7, 8, 9, 10, 11, 12, 13, 14, 15, 17, 18, 20, 21, 22, 23, 24, 25, 26]
def WC1 : List Nat := [27, 28, 29, 30, 31, 32, 33, 34, 35, 36, 37, 38, 39, 40, 41, 43, 44, 46, 47, 48, 49, 50, 51, 52]
theorem c_lcx0 (d : Nat) {m : Nat} {σ : Sig} (h : σ 40 1 = nI m) (hm : m ≤ 400) : ∃ σ', Ex d 26 0 [.ref 14, .ref 40] [] G0 σ = some (none, G0, σ') ∧ σ' 14 0 = σ 40 0 ∧ σ' 14 1 = σ 40 1 ∧ (∀ i, i < m → σ' 15 i = σ 41 i) ∧ Fr [14, 15] [] σ σ' := by
  refine ⟨_, c_lcp0 d h hm, ?_, ?_, fun i hi => ?_, fun q k h1 h2 => ?_⟩
  · rw [cpS_q (by decide), pt_k (by decide), pt_e]
  · rw [cpS_q (by decide), pt_e, h]
  · rw [cpS_k hi, pt_q (by decide), pt_q (by decide)]
  · have n0 : ∀ y, y ∈ [14, 15] → q ≠ y := fun y hy e => h1 (e ▸ hy)
    rw [cpS_q (n0 15 (by simp)), pt_q (n0 14 (by simp)), pt_q (n0 14 (by simp))]
theorem c_lcx1 (d : Nat) {m : Nat} {σ : Sig} (h : σ 43 1 = nI m) (hm : m ≤ 400) : ∃ σ', Ex d 26 0 [.ref 17, .ref 43] [] G0 σ = some (none, G0, σ') ∧ σ' 17 0 = σ 43 0 ∧ σ' 17 1 = σ 43 1 ∧ (∀ i, i < m → σ' 18 i = σ 44 i) ∧ Fr [17, 18] [] σ σ' := by
  refine ⟨_, c_lcp1 d h hm, ?_, ?_, fun i hi => ?_, fun q k h1 h2 => ?_⟩
  · rw [cpS_q (by decide), pt_k (by decide), pt_e]
  · rw [cpS_q (by decide), pt_e, h]
  · rw [cpS_k hi, pt_q (by decide), pt_q (by decide)]
  · have n0 : ∀ y, y ∈ [17, 18] → q ≠ y := fun y hy e => h1 (e ▸ hy)
    rw [cpS_q (n0 18 (by simp)), pt_q (n0 17 (by simp)), pt_q (n0 17 (by simp))]
theorem c_lcx2 (d : Nat) {m : Nat} {σ : Sig} (h : σ 14 1 = nI m) (hm : m ≤ 400) : ∃ σ', Ex d 26 0 [.ref 40, .ref 14] [] G0 σ = some (none, G0, σ') ∧ σ' 40 0 = σ 14 0 ∧ σ' 40 1 = σ 14 1 ∧ (∀ i, i < m → σ' 41 i = σ 15 i) ∧ Fr [40, 41] [] σ σ' := by
  refine ⟨_, c_lcp2 d h hm, ?_, ?_, fun i hi => ?_, fun q k h1 h2 => ?_⟩
  · rw [cpS_q (by decide), pt_k (by decide), pt_e]
  · rw [cpS_q (by decide), pt_e, h]
  · rw [cpS_k hi, pt_q (by decide), pt_q (by decide)]
  · have n0 : ∀ y, y ∈ [40, 41] → q ≠ y := fun y hy e => h1 (e ▸ hy)
    rw [cpS_q (n0 41 (by simp)), pt_q (n0 40 (by simp)), pt_q (n0 40 (by simp))]
theorem c_lcx3 (d : Nat) {m : Nat} {σ : Sig} (h : σ 17 1 = nI m) (hm : m ≤ 400) : ∃ σ', Ex d 26 0 [.ref 43, .ref 17] [] G0 σ = some (none, G0, σ') ∧ σ' 43 0 = σ 17 0 ∧ σ' 43 1 = σ 17 1 ∧ (∀ i, i < m → σ' 44 i = σ 18 i) ∧ Fr [43, 44] [] σ σ' := by
  refine ⟨_, c_lcp3 d h hm, ?_, ?_, fun i hi => ?_, fun q k h1 h2 => ?_⟩
  · rw [cpS_q (by decide), pt_k (by decide), pt_e]
  · rw [cpS_q (by decide), pt_e, h]
  · rw [cpS_k hi, pt_q (by decide), pt_q (by decide)]
  · have n0 : ∀ y, y ∈ [43, 44] → q ≠ y := fun y hy e => h1 (e ▸ hy)
    rw [cpS_q (n0 44 (by simp)), pt_q (n0 43 (by simp)), pt_q (n0 43 (by simp))]
theorem c_wcp0 (d : Nat) {m1 m2 nb : Nat} {σ : Sig} (h1 : σ 14 1 = nI m1) (h2 : σ 17 1 = nI m2) (h3 : σ 25 0 = nI nb) (b1 : m1 ≤ 400) (b2 : m2 ≤ 400) (b3 : nb ≤ 150) : ∃ σ', Ex (d + 3) 98 0 [.ref 27, .ref 1] [] G0 σ = some (none, G0, σ') ∧ AG m1 m2 nb σ (shi σ') ∧ Fr WC1 [] σ σ' := by
  have fld : ∃ s, Ex (d + 3) 98 0 [.ref 27, .ref 1] [] G0 σ = (Ex (d + 2) 20 0 [.ref 28, .ref 2] [] G0 s).bind (fun o => Ex (d + 2 + 1) 98 99 [.ref 27, .ref 1] (o.1.toList ++ []) o.2.1 o.2.2) ∧ (∀ j, j ≤ 10 → s 27 j = σ 1 j) ∧ Fr [27] [] σ s := by
    rw [b98k0_0, b98k0_56]
    simp (disch := decide) only [pt_q]
    refine ⟨_, rfl, fun j hj => ?_, ?_⟩
    · match j, hj with
      | 0, _ => simp (disch := decide) only [pt_k, pt_e]
      | 1, _ => simp (disch := decide) only [pt_k, pt_e]
      | 2, _ => simp (disch := decide) only [pt_k, pt_e]
      | 3, _ => simp (disch := decide) only [pt_k, pt_e]
      | 4, _ => simp (disch := decide) only [pt_k, pt_e]
      | 5, _ => simp (disch := decide) only [pt_k, pt_e]
      | 6, _ => simp (disch := decide) only [pt_k, pt_e]
      | 7, _ => simp (disch := decide) only [pt_k, pt_e]
      | 8, _ => simp (disch := decide) only [pt_k, pt_e]
      | 9, _ => simp (disch := decide) only [pt_k, pt_e]
      | 10, _ => simp (disch := decide) only [pt_k, pt_e]
    · intro q k e1 e2
      have n0 : q ≠ 27 := fun e => e1 (by rw [e]; simp)
      simp only [pt_q n0]
  obtain ⟨s0, e0, v0, f0⟩ := fld
  obtain ⟨s1, e1, v1, w1, f1⟩ := c_ccp1 d s0
  obtain ⟨s2, e2, v2, w2, f2⟩ := c_pcp1 d s1
  obtain ⟨s3, e3, u3, v3, w3, f3⟩ := c_lcx2 (d + 2) (m := m1) (σ := s2) (by rw [f2 14 1 (by decide) (by simp), f1 14 1 (by decide) (by simp), f0 14 1 (by decide) (by simp)]; exact h1) b1
  obtain ⟨s4, e4, u4, v4, w4, f4⟩ := c_lcx3 (d + 2) (m := m2) (σ := s3) (by rw [f3 17 1 (by decide) (by simp), f2 17 1 (by decide) (by simp), f1 17 1 (by decide) (by simp), f0 17 1 (by decide) (by simp)]; exact h2) b2
  obtain ⟨s5, e5, u5, v5, w5, f5⟩ := c_ycp1 d s4
  obtain ⟨s6, e6, v6, w6, f6⟩ := c_bcp1 (d + 2) (m := nb) (σ := s5) (by rw [f5 25 0 (by decide) (by simp), f4 25 0 (by decide) (by simp), f3 25 0 (by decide) (by simp), f2 25 0 (by decide) (by simp), f1 25 0 (by decide) (by simp), f0 25 0 (by decide) (by simp)]; exact h3) b3
  rw [e0, e1]
  simp only [Option.bind_some, Option.toList_some, Option.toList_none, List.cons_append, List.nil_append, i01a, i01b, if_true, if_false, b98k0_99, e2, b98k0_110, e3, b98k0_121, e4, b98k0_132, e5, b98k0_143, e6, b98k0_154]
  refine ⟨s6, rfl, ?_, Fr_t (Fr_m f0 (by decide) (by simp)) (Fr_t (Fr_m f1 (by decide) (by simp)) (Fr_t (Fr_m f2 (by decide) (by simp)) (Fr_t (Fr_m f3 (by decide) (by simp)) (Fr_t (Fr_m f4 (by decide) (by simp)) (Fr_t (Fr_m f5 (by decide) (by simp)) (Fr_m f6 (by decide) (by simp)))))))⟩
  exact ⟨fun k hk => (by show s6 27 k = σ 1 k; rw [f6 27 k (by decide) (by simp), f5 27 k (by decide) (by simp), f4 27 k (by decide) (by simp), f3 27 k (by decide) (by simp), f2 27 k (by decide) (by simp), f1 27 k (by decide) (by simp)]; exact v0 k hk),
    (by show s6 28 0 = σ 2 0; rw [f6 28 0 (by decide) (by simp), f5 28 0 (by decide) (by simp), f4 28 0 (by decide) (by simp), f3 28 0 (by decide) (by simp), f2 28 0 (by decide) (by simp), v1, f0 2 0 (by decide) (by simp)]),
    fun i hi => ⟨(by show s6 29 i = σ 3 i; rw [f6 29 i (by decide) (by simp), f5 29 i (by decide) (by simp), f4 29 i (by decide) (by simp), f3 29 i (by decide) (by simp), f2 29 i (by decide) (by simp), (w1 i hi).1, f0 3 i (by decide) (by simp)]), (by show s6 30 i = σ 4 i; rw [f6 30 i (by decide) (by simp), f5 30 i (by decide) (by simp), f4 30 i (by decide) (by simp), f3 30 i (by decide) (by simp), f2 30 i (by decide) (by simp), (w1 i hi).2.1, f0 4 i (by decide) (by simp)]), (by show s6 31 i = σ 5 i; rw [f6 31 i (by decide) (by simp), f5 31 i (by decide) (by simp), f4 31 i (by decide) (by simp), f3 31 i (by decide) (by simp), f2 31 i (by decide) (by simp), (w1 i hi).2.2.1, f0 5 i (by decide) (by simp)]), (by show s6 32 i = σ 6 i; rw [f6 32 i (by decide) (by simp), f5 32 i (by decide) (by simp), f4 32 i (by decide) (by simp), f3 32 i (by decide) (by simp), f2 32 i (by decide) (by simp), (w1 i hi).2.2.2.1, f0 6 i (by decide) (by simp)]), (by show s6 33 i = σ 7 i; rw [f6 33 i (by decide) (by simp), f5 33 i (by decide) (by simp), f4 33 i (by decide) (by simp), f3 33 i (by decide) (by simp), f2 33 i (by decide) (by simp), (w1 i hi).2.2.2.2, f0 7 i (by decide) (by simp)])⟩,
    (by show s6 34 0 = σ 8 0; rw [f6 34 0 (by decide) (by simp), f5 34 0 (by decide) (by simp), f4 34 0 (by decide) (by simp), f3 34 0 (by decide) (by simp), v2, f1 8 0 (by decide) (by simp), f0 8 0 (by decide) (by simp)]),
    fun i hi => ⟨(by show s6 35 i = σ 9 i; rw [f6 35 i (by decide) (by simp), f5 35 i (by decide) (by simp), f4 35 i (by decide) (by simp), f3 35 i (by decide) (by simp), (w2 i hi).1, f1 9 i (by decide) (by simp), f0 9 i (by decide) (by simp)]), (by show s6 36 i = σ 10 i; rw [f6 36 i (by decide) (by simp), f5 36 i (by decide) (by simp), f4 36 i (by decide) (by simp), f3 36 i (by decide) (by simp), (w2 i hi).2.1, f1 10 i (by decide) (by simp), f0 10 i (by decide) (by simp)]), (by show s6 37 i = σ 11 i; rw [f6 37 i (by decide) (by simp), f5 37 i (by decide) (by simp), f4 37 i (by decide) (by simp), f3 37 i (by decide) (by simp), (w2 i hi).2.2.1, f1 11 i (by decide) (by simp), f0 11 i (by decide) (by simp)]), (by show s6 38 i = σ 12 i; rw [f6 38 i (by decide) (by simp), f5 38 i (by decide) (by simp), f4 38 i (by decide) (by simp), f3 38 i (by decide) (by simp), (w2 i hi).2.2.2.1, f1 12 i (by decide) (by simp), f0 12 i (by decide) (by simp)]), (by show s6 39 i = σ 13 i; rw [f6 39 i (by decide) (by simp), f5 39 i (by decide) (by simp), f4 39 i (by decide) (by simp), f3 39 i (by decide) (by simp), (w2 i hi).2.2.2.2, f1 13 i (by decide) (by simp), f0 13 i (by decide) (by simp)])⟩,
    (by show s6 40 0 = σ 14 0; rw [f6 40 0 (by decide) (by simp), f5 40 0 (by decide) (by simp), f4 40 0 (by decide) (by simp), u3, f2 14 0 (by decide) (by simp), f1 14 0 (by decide) (by simp), f0 14 0 (by decide) (by simp)]),
    (by show s6 40 1 = σ 14 1; rw [f6 40 1 (by decide) (by simp), f5 40 1 (by decide) (by simp), f4 40 1 (by decide) (by simp), v3, f2 14 1 (by decide) (by simp), f1 14 1 (by decide) (by simp), f0 14 1 (by decide) (by simp)]),
    fun i hi => (by show s6 41 i = σ 15 i; rw [f6 41 i (by decide) (by simp), f5 41 i (by decide) (by simp), f4 41 i (by decide) (by simp), w3 i hi, f2 15 i (by decide) (by simp), f1 15 i (by decide) (by simp), f0 15 i (by decide) (by simp)]),
    (by show s6 43 0 = σ 17 0; rw [f6 43 0 (by decide) (by simp), f5 43 0 (by decide) (by simp), u4, f3 17 0 (by decide) (by simp), f2 17 0 (by decide) (by simp), f1 17 0 (by decide) (by simp), f0 17 0 (by decide) (by simp)]),
    (by show s6 43 1 = σ 17 1; rw [f6 43 1 (by decide) (by simp), f5 43 1 (by decide) (by simp), v4, f3 17 1 (by decide) (by simp), f2 17 1 (by decide) (by simp), f1 17 1 (by decide) (by simp), f0 17 1 (by decide) (by simp)]),
    fun i hi => (by show s6 44 i = σ 18 i; rw [f6 44 i (by decide) (by simp), f5 44 i (by decide) (by simp), w4 i hi, f3 18 i (by decide) (by simp), f2 18 i (by decide) (by simp), f1 18 i (by decide) (by simp), f0 18 i (by decide) (by simp)]),
    (by show s6 46 0 = σ 20 0; rw [f6 46 0 (by decide) (by simp), u5, f4 20 0 (by decide) (by simp), f3 20 0 (by decide) (by simp), f2 20 0 (by decide) (by simp), f1 20 0 (by decide) (by simp), f0 20 0 (by decide) (by simp)]),
    (by show s6 46 1 = σ 20 1; rw [f6 46 1 (by decide) (by simp), v5, f4 20 1 (by decide) (by simp), f3 20 1 (by decide) (by simp), f2 20 1 (by decide) (by simp), f1 20 1 (by decide) (by simp), f0 20 1 (by decide) (by simp)]),
    fun i hi => ⟨(by show s6 47 i = σ 21 i; rw [f6 47 i (by decide) (by simp), (w5 i hi).1, f4 21 i (by decide) (by simp), f3 21 i (by decide) (by simp), f2 21 i (by decide) (by simp), f1 21 i (by decide) (by simp), f0 21 i (by decide) (by simp)]), (by show s6 48 i = σ 22 i; rw [f6 48 i (by decide) (by simp), (w5 i hi).2.1, f4 22 i (by decide) (by simp), f3 22 i (by decide) (by simp), f2 22 i (by decide) (by simp), f1 22 i (by decide) (by simp), f0 22 i (by decide) (by simp)]), (by show s6 49 i = σ 23 i; rw [f6 49 i (by decide) (by simp), (w5 i hi).2.2.1, f4 23 i (by decide) (by simp), f3 23 i (by decide) (by simp), f2 23 i (by decide) (by simp), f1 23 i (by decide) (by simp), f0 23 i (by decide) (by simp)]), (by show s6 50 i = σ 24 i; rw [f6 50 i (by decide) (by simp), (w5 i hi).2.2.2, f4 24 i (by decide) (by simp), f3 24 i (by decide) (by simp), f2 24 i (by decide) (by simp), f1 24 i (by decide) (by simp), f0 24 i (by decide) (by simp)])⟩,
    (by show s6 51 0 = σ 25 0; rw [v6, f5 25 0 (by decide) (by simp), f4 25 0 (by decide) (by simp), f3 25 0 (by decide) (by simp), f2 25 0 (by decide) (by simp), f1 25 0 (by decide) (by simp), f0 25 0 (by decide) (by simp)]),
    fun i hi => (by show s6 52 i = σ 26 i; rw [w6 i hi, f5 26 i (by decide) (by simp), f4 26 i (by decide) (by simp), f3 26 i (by decide) (by simp), f2 26 i (by decide) (by simp), f1 26 i (by decide) (by simp), f0 26 i (by decide) (by simp)])⟩
theorem c_wcp1 (d : Nat) {m1 m2 nb : Nat} {σ : Sig} (h1 : σ 40 1 = nI m1) (h2 : σ 43 1 = nI m2) (h3 : σ 51 0 = nI nb) (b1 : m1 ≤ 400) (b2 : m2 ≤ 400) (b3 : nb ≤ 150) : ∃ σ', Ex (d + 3) 98 0 [.ref 1, .ref 27] [] G0 σ = some (none, G0, σ') ∧ AG m1 m2 nb (shi σ) σ' ∧ Fr WC0 [] σ σ' := by
  have fld : ∃ s, Ex (d + 3) 98 0 [.ref 1, .ref 27] [] G0 σ = (Ex (d + 2) 20 0 [.ref 2, .ref 28] [] G0 s).bind (fun o => Ex (d + 2 + 1) 98 99 [.ref 1, .ref 27] (o.1.toList ++ []) o.2.1 o.2.2) ∧ (∀ j, j ≤ 10 → s 1 j = σ 27 j) ∧ Fr [1] [] σ s := by
    rw [b98k1_0, b98k1_56]
    simp (disch := decide) only [pt_q]
    refine ⟨_, rfl, fun j hj => ?_, ?_⟩
    · match j, hj with
      | 0, _ => simp (disch := decide) only [pt_k, pt_e]
      | 1, _ => simp (disch := decide) only [pt_k, pt_e]
      | 2, _ => simp (disch := decide) only [pt_k, pt_e]
      | 3, _ => simp (disch := decide) only [pt_k, pt_e]
      | 4, _ => simp (disch := decide) only [pt_k, pt_e]
      | 5, _ => simp (disch := decide) only [pt_k, pt_e]
      | 6, _ => simp (disch := decide) only [pt_k, pt_e]
      | 7, _ => simp (disch := decide) only [pt_k, pt_e]
      | 8, _ => simp (disch := decide) only [pt_k, pt_e]
      | 9, _ => simp (disch := decide) only [pt_k, pt_e]
      | 10, _ => simp (disch := decide) only [pt_k, pt_e]
    · intro q k e1 e2
      have n0 : q ≠ 1 := fun e => e1 (by rw [e]; simp)
      simp only [pt_q n0]
  obtain ⟨s0, e0, v0, f0⟩ := fld
  obtain ⟨s1, e1, v1, w1, f1⟩ := c_ccp0 d s0
  obtain ⟨s2, e2, v2, w2, f2⟩ := c_pcp0 d s1
  obtain ⟨s3, e3, u3, v3, w3, f3⟩ := c_lcx0 (d + 2) (m := m1) (σ := s2) (by rw [f2 40 1 (by decide) (by simp), f1 40 1 (by decide) (by simp), f0 40 1 (by decide) (by simp)]; exact h1) b1
  obtain ⟨s4, e4, u4, v4, w4, f4⟩ := c_lcx1 (d + 2) (m := m2) (σ := s3) (by rw [f3 43 1 (by decide) (by simp), f2 43 1 (by decide) (by simp), f1 43 1 (by decide) (by simp), f0 43 1 (by decide) (by simp)]; exact h2) b2
  obtain ⟨s5, e5, u5, v5, w5, f5⟩ := c_ycp0 d s4
  obtain ⟨s6, e6, v6, w6, f6⟩ := c_bcp0 (d + 2) (m := nb) (σ := s5) (by rw [f5 51 0 (by decide) (by simp), f4 51 0 (by decide) (by simp), f3 51 0 (by decide) (by simp), f2 51 0 (by decide) (by simp), f1 51 0 (by decide) (by simp), f0 51 0 (by decide) (by simp)]; exact h3) b3
  rw [e0, e1]
  simp only [Option.bind_some, Option.toList_some, Option.toList_none, List.cons_append, List.nil_append, i01a, i01b, if_true, if_false, b98k1_99, e2, b98k1_110, e3, b98k1_121, e4, b98k1_132, e5, b98k1_143, e6, b98k1_154]
  refine ⟨s6, rfl, ?_, Fr_t (Fr_m f0 (by decide) (by simp)) (Fr_t (Fr_m f1 (by decide) (by simp)) (Fr_t (Fr_m f2 (by decide) (by simp)) (Fr_t (Fr_m f3 (by decide) (by simp)) (Fr_t (Fr_m f4 (by decide) (by simp)) (Fr_t (Fr_m f5 (by decide) (by simp)) (Fr_m f6 (by decide) (by simp)))))))⟩
  exact ⟨fun k hk => (by show s6 1 k = σ 27 k; rw [f6 1 k (by decide) (by simp), f5 1 k (by decide) (by simp), f4 1 k (by decide) (by simp), f3 1 k (by decide) (by simp), f2 1 k (by decide) (by simp), f1 1 k (by decide) (by simp)]; exact v0 k hk),
    (by show s6 2 0 = σ 28 0; rw [f6 2 0 (by decide) (by simp), f5 2 0 (by decide) (by simp), f4 2 0 (by decide) (by simp), f3 2 0 (by decide) (by simp), f2 2 0 (by decide) (by simp), v1, f0 28 0 (by decide) (by simp)]),
    fun i hi => ⟨(by show s6 3 i = σ 29 i; rw [f6 3 i (by decide) (by simp), f5 3 i (by decide) (by simp), f4 3 i (by decide) (by simp), f3 3 i (by decide) (by simp), f2 3 i (by decide) (by simp), (w1 i hi).1, f0 29 i (by decide) (by simp)]), (by show s6 4 i = σ 30 i; rw [f6 4 i (by decide) (by simp), f5 4 i (by decide) (by simp), f4 4 i (by decide) (by simp), f3 4 i (by decide) (by simp), f2 4 i (by decide) (by simp), (w1 i hi).2.1, f0 30 i (by decide) (by simp)]), (by show s6 5 i = σ 31 i; rw [f6 5 i (by decide) (by simp), f5 5 i (by decide) (by simp), f4 5 i (by decide) (by simp), f3 5 i (by decide) (by simp), f2 5 i (by decide) (by simp), (w1 i hi).2.2.1, f0 31 i (by decide) (by simp)]), (by show s6 6 i = σ 32 i; rw [f6 6 i (by decide) (by simp), f5 6 i (by decide) (by simp), f4 6 i (by decide) (by simp), f3 6 i (by decide) (by simp), f2 6 i (by decide) (by simp), (w1 i hi).2.2.2.1, f0 32 i (by decide) (by simp)]), (by show s6 7 i = σ 33 i; rw [f6 7 i (by decide) (by simp), f5 7 i (by decide) (by simp), f4 7 i (by decide) (by simp), f3 7 i (by decide) (by simp), f2 7 i (by decide) (by simp), (w1 i hi).2.2.2.2, f0 33 i (by decide) (by simp)])⟩,
    (by show s6 8 0 = σ 34 0; rw [f6 8 0 (by decide) (by simp), f5 8 0 (by decide) (by simp), f4 8 0 (by decide) (by simp), f3 8 0 (by decide) (by simp), v2, f1 34 0 (by decide) (by simp), f0 34 0 (by decide) (by simp)]),
    fun i hi => ⟨(by show s6 9 i = σ 35 i; rw [f6 9 i (by decide) (by simp), f5 9 i (by decide) (by simp), f4 9 i (by decide) (by simp), f3 9 i (by decide) (by simp), (w2 i hi).1, f1 35 i (by decide) (by simp), f0 35 i (by decide) (by simp)]), (by show s6 10 i = σ 36 i; rw [f6 10 i (by decide) (by simp), f5 10 i (by decide) (by simp), f4 10 i (by decide) (by simp), f3 10 i (by decide) (by simp), (w2 i hi).2.1, f1 36 i (by decide) (by simp), f0 36 i (by decide) (by simp)]), (by show s6 11 i = σ 37 i; rw [f6 11 i (by decide) (by simp), f5 11 i (by decide) (by simp), f4 11 i (by decide) (by simp), f3 11 i (by decide) (by simp), (w2 i hi).2.2.1, f1 37 i (by decide) (by simp), f0 37 i (by decide) (by simp)]), (by show s6 12 i = σ 38 i; rw [f6 12 i (by decide) (by simp), f5 12 i (by decide) (by simp), f4 12 i (by decide) (by simp), f3 12 i (by decide) (by simp), (w2 i hi).2.2.2.1, f1 38 i (by decide) (by simp), f0 38 i (by decide) (by simp)]), (by show s6 13 i = σ 39 i; rw [f6 13 i (by decide) (by simp), f5 13 i (by decide) (by simp), f4 13 i (by decide) (by simp), f3 13 i (by decide) (by simp), (w2 i hi).2.2.2.2, f1 39 i (by decide) (by simp), f0 39 i (by decide) (by simp)])⟩,
    (by show s6 14 0 = σ 40 0; rw [f6 14 0 (by decide) (by simp), f5 14 0 (by decide) (by simp), f4 14 0 (by decide) (by simp), u3, f2 40 0 (by decide) (by simp), f1 40 0 (by decide) (by simp), f0 40 0 (by decide) (by simp)]),
    (by show s6 14 1 = σ 40 1; rw [f6 14 1 (by decide) (by simp), f5 14 1 (by decide) (by simp), f4 14 1 (by decide) (by simp), v3, f2 40 1 (by decide) (by simp), f1 40 1 (by decide) (by simp), f0 40 1 (by decide) (by simp)]),
    fun i hi => (by show s6 15 i = σ 41 i; rw [f6 15 i (by decide) (by simp), f5 15 i (by decide) (by simp), f4 15 i (by decide) (by simp), w3 i hi, f2 41 i (by decide) (by simp), f1 41 i (by decide) (by simp), f0 41 i (by decide) (by simp)]),
    (by show s6 17 0 = σ 43 0; rw [f6 17 0 (by decide) (by simp), f5 17 0 (by decide) (by simp), u4, f3 43 0 (by decide) (by simp), f2 43 0 (by decide) (by simp), f1 43 0 (by decide) (by simp), f0 43 0 (by decide) (by simp)]),
    (by show s6 17 1 = σ 43 1; rw [f6 17 1 (by decide) (by simp), f5 17 1 (by decide) (by simp), v4, f3 43 1 (by decide) (by simp), f2 43 1 (by decide) (by simp), f1 43 1 (by decide) (by simp), f0 43 1 (by decide) (by simp)]),
    fun i hi => (by show s6 18 i = σ 44 i; rw [f6 18 i (by decide) (by simp), f5 18 i (by decide) (by simp), w4 i hi, f3 44 i (by decide) (by simp), f2 44 i (by decide) (by simp), f1 44 i (by decide) (by simp), f0 44 i (by decide) (by simp)]),
    (by show s6 20 0 = σ 46 0; rw [f6 20 0 (by decide) (by simp), u5, f4 46 0 (by decide) (by simp), f3 46 0 (by decide) (by simp), f2 46 0 (by decide) (by simp), f1 46 0 (by decide) (by simp), f0 46 0 (by decide) (by simp)]),
    (by show s6 20 1 = σ 46 1; rw [f6 20 1 (by decide) (by simp), v5, f4 46 1 (by decide) (by simp), f3 46 1 (by decide) (by simp), f2 46 1 (by decide) (by simp), f1 46 1 (by decide) (by simp), f0 46 1 (by decide) (by simp)]),
    fun i hi => ⟨(by show s6 21 i = σ 47 i; rw [f6 21 i (by decide) (by simp), (w5 i hi).1, f4 47 i (by decide) (by simp), f3 47 i (by decide) (by simp), f2 47 i (by decide) (by simp), f1 47 i (by decide) (by simp), f0 47 i (by decide) (by simp)]), (by show s6 22 i = σ 48 i; rw [f6 22 i (by decide) (by simp), (w5 i hi).2.1, f4 48 i (by decide) (by simp), f3 48 i (by decide) (by simp), f2 48 i (by decide) (by simp), f1 48 i (by decide) (by simp), f0 48 i (by decide) (by simp)]), (by show s6 23 i = σ 49 i; rw [f6 23 i (by decide) (by simp), (w5 i hi).2.2.1, f4 49 i (by decide) (by simp), f3 49 i (by decide) (by simp), f2 49 i (by decide) (by simp), f1 49 i (by decide) (by simp), f0 49 i (by decide) (by simp)]), (by show s6 24 i = σ 50 i; rw [f6 24 i (by decide) (by simp), (w5 i hi).2.2.2, f4 50 i (by decide) (by simp), f3 50 i (by decide) (by simp), f2 50 i (by decide) (by simp), f1 50 i (by decide) (by simp), f0 50 i (by decide) (by simp)])⟩,
    (by show s6 25 0 = σ 51 0; rw [v6, f5 51 0 (by decide) (by simp), f4 51 0 (by decide) (by simp), f3 51 0 (by decide) (by simp), f2 51 0 (by decide) (by simp), f1 51 0 (by decide) (by simp), f0 51 0 (by decide) (by simp)]),
    fun i hi => (by show s6 26 i = σ 52 i; rw [w6 i hi, f5 52 i (by decide) (by simp), f4 52 i (by decide) (by simp), f3 52 i (by decide) (by simp), f2 52 i (by decide) (by simp), f1 52 i (by decide) (by simp), f0 52 i (by decide) (by simp)])⟩
theorem c_image1 (d : Nat) {m1 m2 nb : Nat} {σ : Sig} (h1 : σ 14 1 = nI m1) (h2 : σ 17 1 = nI m2) (h3 : σ 25 0 = nI nb) (b1 : m1 ≤ 400) (b2 : m2 ≤ 400) (b3 : nb ≤ 150) : ∃ σ', Ex (d + 4) 129 0 [.ref 0, .int 1] [] G0 σ = some (some (.int 1), G0, σ') ∧ AG m1 m2 nb σ (shi σ') ∧ σ' 0 9 = 1 ∧ Fr WC1 [(0, 9)] σ σ' := by
  obtain ⟨s, e, a, f⟩ := c_wcp0 d h1 h2 h3 b1 b2 b3
  rw [b129_0]
  simp only [i10, i10, i01, eq_self, if_true, if_false, true_and, false_and, and_true, and_false, not_true, not_false_iff, true_or, or_true, false_or, or_false, ne_eq, not_true_eq_false, not_false_eq_true, e, Option.bind_some, Option.toList_some, Option.toList_none, List.cons_append, List.nil_append, i01a, i01b, if_true, if_false, b129_15]
  refine ⟨_, rfl, ?_, pt_e, Fr_p (Fr_m f (fun q hq => hq) (by simp)) (Or.inr (by simp))⟩
  have : shi (pt s 0 9 1) = shi s := by
    funext q k
    show pt s 0 9 1 (q + 26) k = s (q + 26) k
    rw [pt_q (by omega)]
  rw [this]; exact a
theorem c_image0 (d : Nat) {m1 m2 nb : Nat} {σ : Sig} (ht : σ 0 9 = 1) (h1 : σ 40 1 = nI m1) (h2 : σ 43 1 = nI m2) (h3 : σ 51 0 = nI nb) (b1 : m1 ≤ 400) (b2 : m2 ≤ 400) (b3 : nb ≤ 150) : ∃ σ', Ex (d + 4) 129 0 [.ref 0, .int 0] [] G0 σ = some (some (.int 1), G0, σ') ∧ AG m1 m2 nb (shi σ) σ' ∧ σ' 0 8 = 0 ∧ σ' 0 10 = 0 ∧ Fr WC0 [(0, 8), (0, 10)] σ σ' := by
  obtain ⟨s, e, a, f⟩ := c_wcp1 d h1 h2 h3 b1 b2 b3
  rw [b129_0]
  simp only [ht, i10, i10, i01, eq_self, if_true, if_false, true_and, false_and, and_true, and_false, not_true, not_false_iff, true_or, or_true, false_or, or_false, ne_eq, not_true_eq_false, not_false_eq_true, e, Option.bind_some, Option.toList_some, Option.toList_none, List.cons_append, List.nil_append, i01a, i01b, if_true, if_false, b129_42, c_forget, b129_46]
  refine ⟨_, rfl, ?_, by rw [pt_k (by decide), pt_e], pt_e, Fr_p (Fr_p (Fr_m f (fun q hq => hq) (by simp)) (Or.inr (by simp))) (Or.inr (by simp))⟩
  have k : ∀ q j, q ≠ 0 → pt (pt s 0 8 0) 0 10 0 q j = s q j := fun q j hq => by rw [pt_q hq, pt_q hq]
  unfold AG at a ⊢
  simp (disch := decide) only [k]
  exact a
theorem c_imageN (d : Nat) {σ : Sig} (ht : σ 0 9 = 0) : Ex (d + 4) 129 0 [.ref 0, .int 0] [] G0 σ = some (some (.int 0), G0, σ) := by
  rw [b129_0]
  simp only [ht, i10, i01, eq_self, if_true, if_false, true_and, false_and, and_true, and_false, not_true, not_false_iff, true_or, or_true, false_or, or_false, ne_eq, not_true_eq_false, not_false_eq_true]
