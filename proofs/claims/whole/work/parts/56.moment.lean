/-! L3: moments -/
/-- the moment at cell q tells what ω is -/
def MM (ω : Sig) (q : Nat) (σ : Sig) : Prop := σ q 0 = ω 1 5 ∧ σ q 1 = ω 1 6 ∧ σ q 2 = ω 1 7 ∧ σ q 3 = ω 1 8 ∧ σ q 4 = ω 1 9 ∧ σ q 5 = ω 1 10 ∧ σ q 6 = ω 25 0 ∧ ∀ p, p < 8 → σ (q + 1) p = ω 9 p ∧ σ (q + 2) p = ω 10 p ∧ σ (q + 3) p = ω 7 p
theorem MM_fr {ω σ σ' : Sig} {q : Nat} (h : MM ω q σ) (e0 : σ' q = σ q) (e1 : σ' (q + 1) = σ (q + 1)) (e2 : σ' (q + 2) = σ (q + 2)) (e3 : σ' (q + 3) = σ (q + 3)) : MM ω q σ' := by
  unfold MM at h ⊢; rw [e0, e1, e2, e3]; exact h
theorem Fr_c {S : List Nat} {U : List (Nat × Nat)} {σ σ' : Sig} {a b n : Nat} (h : Fr S U σ σ') (hb : b ∈ S) : Fr S U σ (cpS σ' a b n) := by
  intro q k h1 h2
  have hq : q ≠ b := fun e => h1 (by rw [e]; exact hb)
  rw [cpS_q hq]; exact h q k h1 h2
theorem c_take75 (d : Nat) (σ : Sig) : ∃ σ', Ex (d + 2) 28 0 [.ref 75, .ref 1] [] G0 σ = some (none, G0, σ') ∧ Fr [75, 76, 77, 78] [] σ σ' ∧ MM σ 75 σ' := by
  simp only [b28k0_0, b28k0_59, b28k0_73, b28k0_87, b28k0_101, (fun d σ => c_copy d σ 9 76 8 rfl rfl (by decide)), (fun d σ => c_copy d σ 10 77 8 rfl rfl (by decide)), (fun d σ => c_copy d σ 7 78 8 rfl rfl (by decide)), Option.bind_some, Option.toList_some, Option.toList_none, List.cons_append, List.nil_append, i01a, i01b, if_true, if_false]
  simp (disch := decide) only [pt_q]
  refine ⟨_, rfl, ?_, ?_⟩
  · refine Fr_c (Fr_c (Fr_c ?_ (by simp)) (by simp)) (by simp)
    repeat (refine Fr_p ?_ (Or.inl (by simp)))
    exact Fr_r
  · refine ⟨?_, ?_, ?_, ?_, ?_, ?_, ?_, fun p hp => ⟨?_, ?_, ?_⟩⟩
    all_goals simp [cpS, pt_ap]
    all_goals (intro h; omega)
theorem c_take83 (d : Nat) (σ : Sig) : ∃ σ', Ex (d + 2) 28 0 [.ref 83, .ref 1] [] G0 σ = some (none, G0, σ') ∧ Fr [83, 84, 85, 86] [] σ σ' ∧ MM σ 83 σ' := by
  simp only [b28k1_0, b28k1_59, b28k1_73, b28k1_87, b28k1_101, (fun d σ => c_copy d σ 9 84 8 rfl rfl (by decide)), (fun d σ => c_copy d σ 10 85 8 rfl rfl (by decide)), (fun d σ => c_copy d σ 7 86 8 rfl rfl (by decide)), Option.bind_some, Option.toList_some, Option.toList_none, List.cons_append, List.nil_append, i01a, i01b, if_true, if_false]
  simp (disch := decide) only [pt_q]
  refine ⟨_, rfl, ?_, ?_⟩
  · refine Fr_c (Fr_c (Fr_c ?_ (by simp)) (by simp)) (by simp)
    repeat (refine Fr_p ?_ (Or.inl (by simp)))
    exact Fr_r
  · refine ⟨?_, ?_, ?_, ?_, ?_, ?_, ?_, fun p hp => ⟨?_, ?_, ?_⟩⟩
    all_goals simp [cpS, pt_ap]
    all_goals (intro h; omega)
theorem c_take88 (d : Nat) (σ : Sig) : ∃ σ', Ex (d + 2) 28 0 [.ref 88, .ref 1] [] G0 σ = some (none, G0, σ') ∧ Fr [88, 89, 90, 91] [] σ σ' ∧ MM σ 88 σ' := by
  simp only [b28k2_0, b28k2_59, b28k2_73, b28k2_87, b28k2_101, (fun d σ => c_copy d σ 9 89 8 rfl rfl (by decide)), (fun d σ => c_copy d σ 10 90 8 rfl rfl (by decide)), (fun d σ => c_copy d σ 7 91 8 rfl rfl (by decide)), Option.bind_some, Option.toList_some, Option.toList_none, List.cons_append, List.nil_append, i01a, i01b, if_true, if_false]
  simp (disch := decide) only [pt_q]
  refine ⟨_, rfl, ?_, ?_⟩
  · refine Fr_c (Fr_c (Fr_c ?_ (by simp)) (by simp)) (by simp)
    repeat (refine Fr_p ?_ (Or.inl (by simp)))
    exact Fr_r
  · refine ⟨?_, ?_, ?_, ?_, ?_, ?_, ?_, fun p hp => ⟨?_, ?_, ?_⟩⟩
    all_goals simp [cpS, pt_ap]
    all_goals (intro h; omega)
theorem c_take92 (d : Nat) (σ : Sig) : ∃ σ', Ex (d + 2) 28 0 [.ref 92, .ref 1] [] G0 σ = some (none, G0, σ') ∧ Fr [92, 93, 94, 95] [] σ σ' ∧ MM σ 92 σ' := by
  simp only [b28k3_0, b28k3_59, b28k3_73, b28k3_87, b28k3_101, (fun d σ => c_copy d σ 9 93 8 rfl rfl (by decide)), (fun d σ => c_copy d σ 10 94 8 rfl rfl (by decide)), (fun d σ => c_copy d σ 7 95 8 rfl rfl (by decide)), Option.bind_some, Option.toList_some, Option.toList_none, List.cons_append, List.nil_append, i01a, i01b, if_true, if_false]
  simp (disch := decide) only [pt_q]
  refine ⟨_, rfl, ?_, ?_⟩
  · refine Fr_c (Fr_c (Fr_c ?_ (by simp)) (by simp)) (by simp)
    repeat (refine Fr_p ?_ (Or.inl (by simp)))
    exact Fr_r
  · refine ⟨?_, ?_, ?_, ?_, ?_, ?_, ?_, fun p hp => ⟨?_, ?_, ?_⟩⟩
    all_goals simp [cpS, pt_ap]
    all_goals (intro h; omega)
theorem c_take96 (d : Nat) (σ : Sig) : ∃ σ', Ex (d + 2) 28 0 [.ref 96, .ref 1] [] G0 σ = some (none, G0, σ') ∧ Fr [96, 97, 98, 99] [] σ σ' ∧ MM σ 96 σ' := by
  simp only [b28k4_0, b28k4_59, b28k4_73, b28k4_87, b28k4_101, (fun d σ => c_copy d σ 9 97 8 rfl rfl (by decide)), (fun d σ => c_copy d σ 10 98 8 rfl rfl (by decide)), (fun d σ => c_copy d σ 7 99 8 rfl rfl (by decide)), Option.bind_some, Option.toList_some, Option.toList_none, List.cons_append, List.nil_append, i01a, i01b, if_true, if_false]
  simp (disch := decide) only [pt_q]
  refine ⟨_, rfl, ?_, ?_⟩
  · refine Fr_c (Fr_c (Fr_c ?_ (by simp)) (by simp)) (by simp)
    repeat (refine Fr_p ?_ (Or.inl (by simp)))
    exact Fr_r
  · refine ⟨?_, ?_, ?_, ?_, ?_, ?_, ?_, fun p hp => ⟨?_, ?_, ?_⟩⟩
    all_goals simp [cpS, pt_ap]
    all_goals (intro h; omega)
theorem c_take100 (d : Nat) (σ : Sig) : ∃ σ', Ex (d + 2) 28 0 [.ref 100, .ref 1] [] G0 σ = some (none, G0, σ') ∧ Fr [100, 101, 102, 103] [] σ σ' ∧ MM σ 100 σ' := by
  simp only [b28k5_0, b28k5_59, b28k5_73, b28k5_87, b28k5_101, (fun d σ => c_copy d σ 9 101 8 rfl rfl (by decide)), (fun d σ => c_copy d σ 10 102 8 rfl rfl (by decide)), (fun d σ => c_copy d σ 7 103 8 rfl rfl (by decide)), Option.bind_some, Option.toList_some, Option.toList_none, List.cons_append, List.nil_append, i01a, i01b, if_true, if_false]
  simp (disch := decide) only [pt_q]
  refine ⟨_, rfl, ?_, ?_⟩
  · refine Fr_c (Fr_c (Fr_c ?_ (by simp)) (by simp)) (by simp)
    repeat (refine Fr_p ?_ (Or.inl (by simp)))
    exact Fr_r
  · refine ⟨?_, ?_, ?_, ?_, ?_, ?_, ?_, fun p hp => ⟨?_, ?_, ?_⟩⟩
    all_goals simp [cpS, pt_ap]
    all_goals (intro h; omega)
theorem c_take104 (d : Nat) (σ : Sig) : ∃ σ', Ex (d + 2) 28 0 [.ref 104, .ref 1] [] G0 σ = some (none, G0, σ') ∧ Fr [104, 105, 106, 107] [] σ σ' ∧ MM σ 104 σ' := by
  simp only [b28k6_0, b28k6_59, b28k6_73, b28k6_87, b28k6_101, (fun d σ => c_copy d σ 9 105 8 rfl rfl (by decide)), (fun d σ => c_copy d σ 10 106 8 rfl rfl (by decide)), (fun d σ => c_copy d σ 7 107 8 rfl rfl (by decide)), Option.bind_some, Option.toList_some, Option.toList_none, List.cons_append, List.nil_append, i01a, i01b, if_true, if_false]
  simp (disch := decide) only [pt_q]
  refine ⟨_, rfl, ?_, ?_⟩
  · refine Fr_c (Fr_c (Fr_c ?_ (by simp)) (by simp)) (by simp)
    repeat (refine Fr_p ?_ (Or.inl (by simp)))
    exact Fr_r
  · refine ⟨?_, ?_, ?_, ?_, ?_, ?_, ?_, fun p hp => ⟨?_, ?_, ?_⟩⟩
    all_goals simp [cpS, pt_ap]
    all_goals (intro h; omega)
theorem c_take108 (d : Nat) (σ : Sig) : ∃ σ', Ex (d + 2) 28 0 [.ref 108, .ref 1] [] G0 σ = some (none, G0, σ') ∧ Fr [108, 109, 110, 111] [] σ σ' ∧ MM σ 108 σ' := by
  simp only [b28k7_0, b28k7_59, b28k7_73, b28k7_87, b28k7_101, (fun d σ => c_copy d σ 9 109 8 rfl rfl (by decide)), (fun d σ => c_copy d σ 10 110 8 rfl rfl (by decide)), (fun d σ => c_copy d σ 7 111 8 rfl rfl (by decide)), Option.bind_some, Option.toList_some, Option.toList_none, List.cons_append, List.nil_append, i01a, i01b, if_true, if_false]
  simp (disch := decide) only [pt_q]
  refine ⟨_, rfl, ?_, ?_⟩
  · refine Fr_c (Fr_c (Fr_c ?_ (by simp)) (by simp)) (by simp)
    repeat (refine Fr_p ?_ (Or.inl (by simp)))
    exact Fr_r
  · refine ⟨?_, ?_, ?_, ?_, ?_, ?_, ?_, fun p hp => ⟨?_, ?_, ?_⟩⟩
    all_goals simp [cpS, pt_ap]
    all_goals (intro h; omega)
theorem c_give88 (d : Nat) (σ : Sig) : ∃ σ', Ex (d + 2) 29 0 [.ref 88, .ref 1] [] G0 σ = some (none, G0, σ') ∧ Fr [7, 9, 10] [(1, 5), (1, 6), (1, 7), (1, 8), (1, 9), (1, 10), (25, 0)] σ σ' ∧ MM σ' 88 σ ∧ (∀ k, 8 ≤ k → σ' 7 k = σ 7 k ∧ σ' 9 k = σ 9 k ∧ σ' 10 k = σ 10 k) := by
  simp only [b29k0_0, b29k0_59, b29k0_73, b29k0_87, b29k0_101, (fun d σ => c_copy d σ 89 9 8 rfl rfl (by decide)), (fun d σ => c_copy d σ 90 10 8 rfl rfl (by decide)), (fun d σ => c_copy d σ 91 7 8 rfl rfl (by decide)), Option.bind_some, Option.toList_some, Option.toList_none, List.cons_append, List.nil_append, i01a, i01b, if_true, if_false]
  simp (disch := decide) only [pt_q]
  refine ⟨_, rfl, ?_, ?_, ?_⟩
  · refine Fr_c (Fr_c (Fr_c ?_ (by simp)) (by simp)) (by simp)
    repeat (refine Fr_p ?_ (Or.inr (by simp)))
    exact Fr_r
  · refine ⟨?_, ?_, ?_, ?_, ?_, ?_, ?_, fun p hp => ⟨?_, ?_, ?_⟩⟩
    all_goals simp [cpS, pt_ap]
    all_goals (intro h; omega)
  · intro k hk
    have : ¬ k < 8 := by omega
    simp [cpS, pt_ap, this]
theorem c_give92 (d : Nat) (σ : Sig) : ∃ σ', Ex (d + 2) 29 0 [.ref 92, .ref 1] [] G0 σ = some (none, G0, σ') ∧ Fr [7, 9, 10] [(1, 5), (1, 6), (1, 7), (1, 8), (1, 9), (1, 10), (25, 0)] σ σ' ∧ MM σ' 92 σ ∧ (∀ k, 8 ≤ k → σ' 7 k = σ 7 k ∧ σ' 9 k = σ 9 k ∧ σ' 10 k = σ 10 k) := by
  simp only [b29k1_0, b29k1_59, b29k1_73, b29k1_87, b29k1_101, (fun d σ => c_copy d σ 93 9 8 rfl rfl (by decide)), (fun d σ => c_copy d σ 94 10 8 rfl rfl (by decide)), (fun d σ => c_copy d σ 95 7 8 rfl rfl (by decide)), Option.bind_some, Option.toList_some, Option.toList_none, List.cons_append, List.nil_append, i01a, i01b, if_true, if_false]
  simp (disch := decide) only [pt_q]
  refine ⟨_, rfl, ?_, ?_, ?_⟩
  · refine Fr_c (Fr_c (Fr_c ?_ (by simp)) (by simp)) (by simp)
    repeat (refine Fr_p ?_ (Or.inr (by simp)))
    exact Fr_r
  · refine ⟨?_, ?_, ?_, ?_, ?_, ?_, ?_, fun p hp => ⟨?_, ?_, ?_⟩⟩
    all_goals simp [cpS, pt_ap]
    all_goals (intro h; omega)
  · intro k hk
    have : ¬ k < 8 := by omega
    simp [cpS, pt_ap, this]
theorem c_give96 (d : Nat) (σ : Sig) : ∃ σ', Ex (d + 2) 29 0 [.ref 96, .ref 1] [] G0 σ = some (none, G0, σ') ∧ Fr [7, 9, 10] [(1, 5), (1, 6), (1, 7), (1, 8), (1, 9), (1, 10), (25, 0)] σ σ' ∧ MM σ' 96 σ ∧ (∀ k, 8 ≤ k → σ' 7 k = σ 7 k ∧ σ' 9 k = σ 9 k ∧ σ' 10 k = σ 10 k) := by
  simp only [b29k2_0, b29k2_59, b29k2_73, b29k2_87, b29k2_101, (fun d σ => c_copy d σ 97 9 8 rfl rfl (by decide)), (fun d σ => c_copy d σ 98 10 8 rfl rfl (by decide)), (fun d σ => c_copy d σ 99 7 8 rfl rfl (by decide)), Option.bind_some, Option.toList_some, Option.toList_none, List.cons_append, List.nil_append, i01a, i01b, if_true, if_false]
  simp (disch := decide) only [pt_q]
  refine ⟨_, rfl, ?_, ?_, ?_⟩
  · refine Fr_c (Fr_c (Fr_c ?_ (by simp)) (by simp)) (by simp)
    repeat (refine Fr_p ?_ (Or.inr (by simp)))
    exact Fr_r
  · refine ⟨?_, ?_, ?_, ?_, ?_, ?_, ?_, fun p hp => ⟨?_, ?_, ?_⟩⟩
    all_goals simp [cpS, pt_ap]
    all_goals (intro h; omega)
  · intro k hk
    have : ¬ k < 8 := by omega
    simp [cpS, pt_ap, this]
theorem c_give100 (d : Nat) (σ : Sig) : ∃ σ', Ex (d + 2) 29 0 [.ref 100, .ref 1] [] G0 σ = some (none, G0, σ') ∧ Fr [7, 9, 10] [(1, 5), (1, 6), (1, 7), (1, 8), (1, 9), (1, 10), (25, 0)] σ σ' ∧ MM σ' 100 σ ∧ (∀ k, 8 ≤ k → σ' 7 k = σ 7 k ∧ σ' 9 k = σ 9 k ∧ σ' 10 k = σ 10 k) := by
  simp only [b29k3_0, b29k3_59, b29k3_73, b29k3_87, b29k3_101, (fun d σ => c_copy d σ 101 9 8 rfl rfl (by decide)), (fun d σ => c_copy d σ 102 10 8 rfl rfl (by decide)), (fun d σ => c_copy d σ 103 7 8 rfl rfl (by decide)), Option.bind_some, Option.toList_some, Option.toList_none, List.cons_append, List.nil_append, i01a, i01b, if_true, if_false]
  simp (disch := decide) only [pt_q]
  refine ⟨_, rfl, ?_, ?_, ?_⟩
  · refine Fr_c (Fr_c (Fr_c ?_ (by simp)) (by simp)) (by simp)
    repeat (refine Fr_p ?_ (Or.inr (by simp)))
    exact Fr_r
  · refine ⟨?_, ?_, ?_, ?_, ?_, ?_, ?_, fun p hp => ⟨?_, ?_, ?_⟩⟩
    all_goals simp [cpS, pt_ap]
    all_goals (intro h; omega)
  · intro k hk
    have : ¬ k < 8 := by omega
    simp [cpS, pt_ap, this]
theorem c_give104 (d : Nat) (σ : Sig) : ∃ σ', Ex (d + 2) 29 0 [.ref 104, .ref 1] [] G0 σ = some (none, G0, σ') ∧ Fr [7, 9, 10] [(1, 5), (1, 6), (1, 7), (1, 8), (1, 9), (1, 10), (25, 0)] σ σ' ∧ MM σ' 104 σ ∧ (∀ k, 8 ≤ k → σ' 7 k = σ 7 k ∧ σ' 9 k = σ 9 k ∧ σ' 10 k = σ 10 k) := by
  simp only [b29k4_0, b29k4_59, b29k4_73, b29k4_87, b29k4_101, (fun d σ => c_copy d σ 105 9 8 rfl rfl (by decide)), (fun d σ => c_copy d σ 106 10 8 rfl rfl (by decide)), (fun d σ => c_copy d σ 107 7 8 rfl rfl (by decide)), Option.bind_some, Option.toList_some, Option.toList_none, List.cons_append, List.nil_append, i01a, i01b, if_true, if_false]
  simp (disch := decide) only [pt_q]
  refine ⟨_, rfl, ?_, ?_, ?_⟩
  · refine Fr_c (Fr_c (Fr_c ?_ (by simp)) (by simp)) (by simp)
    repeat (refine Fr_p ?_ (Or.inr (by simp)))
    exact Fr_r
  · refine ⟨?_, ?_, ?_, ?_, ?_, ?_, ?_, fun p hp => ⟨?_, ?_, ?_⟩⟩
    all_goals simp [cpS, pt_ap]
    all_goals (intro h; omega)
  · intro k hk
    have : ¬ k < 8 := by omega
    simp [cpS, pt_ap, this]
theorem c_give108 (d : Nat) (σ : Sig) : ∃ σ', Ex (d + 2) 29 0 [.ref 108, .ref 1] [] G0 σ = some (none, G0, σ') ∧ Fr [7, 9, 10] [(1, 5), (1, 6), (1, 7), (1, 8), (1, 9), (1, 10), (25, 0)] σ σ' ∧ MM σ' 108 σ ∧ (∀ k, 8 ≤ k → σ' 7 k = σ 7 k ∧ σ' 9 k = σ 9 k ∧ σ' 10 k = σ 10 k) := by
  simp only [b29k5_0, b29k5_59, b29k5_73, b29k5_87, b29k5_101, (fun d σ => c_copy d σ 109 9 8 rfl rfl (by decide)), (fun d σ => c_copy d σ 110 10 8 rfl rfl (by decide)), (fun d σ => c_copy d σ 111 7 8 rfl rfl (by decide)), Option.bind_some, Option.toList_some, Option.toList_none, List.cons_append, List.nil_append, i01a, i01b, if_true, if_false]
  simp (disch := decide) only [pt_q]
  refine ⟨_, rfl, ?_, ?_, ?_⟩
  · refine Fr_c (Fr_c (Fr_c ?_ (by simp)) (by simp)) (by simp)
    repeat (refine Fr_p ?_ (Or.inr (by simp)))
    exact Fr_r
  · refine ⟨?_, ?_, ?_, ?_, ?_, ?_, ?_, fun p hp => ⟨?_, ?_, ?_⟩⟩
    all_goals simp [cpS, pt_ap]
    all_goals (intro h; omega)
  · intro k hk
    have : ¬ k < 8 := by omega
    simp [cpS, pt_ap, this]
theorem c_give75 (d : Nat) (σ : Sig) : ∃ σ', Ex (d + 2) 29 0 [.ref 75, .ref 1] [] G0 σ = some (none, G0, σ') ∧ Fr [7, 9, 10] [(1, 5), (1, 6), (1, 7), (1, 8), (1, 9), (1, 10), (25, 0)] σ σ' ∧ MM σ' 75 σ ∧ (∀ k, 8 ≤ k → σ' 7 k = σ 7 k ∧ σ' 9 k = σ 9 k ∧ σ' 10 k = σ 10 k) := by
  simp only [b29k6_0, b29k6_59, b29k6_73, b29k6_87, b29k6_101, (fun d σ => c_copy d σ 76 9 8 rfl rfl (by decide)), (fun d σ => c_copy d σ 77 10 8 rfl rfl (by decide)), (fun d σ => c_copy d σ 78 7 8 rfl rfl (by decide)), Option.bind_some, Option.toList_some, Option.toList_none, List.cons_append, List.nil_append, i01a, i01b, if_true, if_false]
  simp (disch := decide) only [pt_q]
  refine ⟨_, rfl, ?_, ?_, ?_⟩
  · refine Fr_c (Fr_c (Fr_c ?_ (by simp)) (by simp)) (by simp)
    repeat (refine Fr_p ?_ (Or.inr (by simp)))
    exact Fr_r
  · refine ⟨?_, ?_, ?_, ?_, ?_, ?_, ?_, fun p hp => ⟨?_, ?_, ?_⟩⟩
    all_goals simp [cpS, pt_ap]
    all_goals (intro h; omega)
  · intro k hk
    have : ¬ k < 8 := by omega
    simp [cpS, pt_ap, this]
theorem c_give83 (d : Nat) (σ : Sig) : ∃ σ', Ex (d + 2) 29 0 [.ref 83, .ref 1] [] G0 σ = some (none, G0, σ') ∧ Fr [7, 9, 10] [(1, 5), (1, 6), (1, 7), (1, 8), (1, 9), (1, 10), (25, 0)] σ σ' ∧ MM σ' 83 σ ∧ (∀ k, 8 ≤ k → σ' 7 k = σ 7 k ∧ σ' 9 k = σ 9 k ∧ σ' 10 k = σ 10 k) := by
  simp only [b29k7_0, b29k7_59, b29k7_73, b29k7_87, b29k7_101, (fun d σ => c_copy d σ 84 9 8 rfl rfl (by decide)), (fun d σ => c_copy d σ 85 10 8 rfl rfl (by decide)), (fun d σ => c_copy d σ 86 7 8 rfl rfl (by decide)), Option.bind_some, Option.toList_some, Option.toList_none, List.cons_append, List.nil_append, i01a, i01b, if_true, if_false]
  simp (disch := decide) only [pt_q]
  refine ⟨_, rfl, ?_, ?_, ?_⟩
  · refine Fr_c (Fr_c (Fr_c ?_ (by simp)) (by simp)) (by simp)
    repeat (refine Fr_p ?_ (Or.inr (by simp)))
    exact Fr_r
  · refine ⟨?_, ?_, ?_, ?_, ?_, ?_, ?_, fun p hp => ⟨?_, ?_, ?_⟩⟩
    all_goals simp [cpS, pt_ap]
    all_goals (intro h; omega)
  · intro k hk
    have : ¬ k < 8 := by omega
    simp [cpS, pt_ap, this]
/-- in thought: what may have changed of the world -/
def Th (ω σ : Sig) : Prop := (∀ q, 1 ≤ q → q ≤ 26 → q ∉ [1, 7, 9, 10, 16, 19, 25, 26] → σ q = ω q) ∧ (∀ k, k ∉ [5, 6, 7, 8, 9, 10] → σ 1 k = ω 1 k) ∧ (∀ k, 8 ≤ k → σ 7 k = ω 7 k ∧ σ 9 k = ω 9 k ∧ σ 10 k = ω 10 k) ∧ (∀ k, k ≠ 0 → σ 25 k = ω 25 k) ∧ (∀ i, i < 4 * (ω 25 0).toNatClampNeg → σ 26 i = ω 26 i)
/-- the world again, but for what lies behind the book -/
def Wb (ω σ : Sig) : Prop := (∀ q, 1 ≤ q → q ≤ 26 → q ≠ 16 → q ≠ 19 → q ≠ 26 → σ q = ω q) ∧ (∀ i, i < 4 * (ω 25 0).toNatClampNeg → σ 26 i = ω 26 i)
theorem Th_r {σ : Sig} : Th σ σ := ⟨fun _ _ _ _ => rfl, fun _ _ => rfl, fun _ _ => ⟨rfl, rfl, rfl⟩, fun _ _ => rfl, fun _ _ => rfl⟩
theorem Th_t {a b c : Sig} (h : Th a b) (k : Th b c) (hl : (a 25 0).toNatClampNeg ≤ (b 25 0).toNatClampNeg) : Th a c := by
  obtain ⟨h1, h2, h3, h4, h5⟩ := h
  obtain ⟨k1, k2, k3, k4, k5⟩ := k
  refine ⟨fun q a b c => (k1 q a b c).trans (h1 q a b c), fun q a => (k2 q a).trans (h2 q a), fun q a => ⟨(k3 q a).1.trans (h3 q a).1, (k3 q a).2.1.trans (h3 q a).2.1, (k3 q a).2.2.trans (h3 q a).2.2⟩, fun q a => (k4 q a).trans (h4 q a), fun i hi => (k5 i (by omega)).trans (h5 i hi)⟩
theorem Th_end {ω σ σ' : Sig} {q : Nat} (h : Th ω σ) (hm : MM ω q σ) (f : Fr [7, 9, 10] [(1, 5), (1, 6), (1, 7), (1, 8), (1, 9), (1, 10), (25, 0)] σ σ') (hm' : MM σ' q σ) (h8 : ∀ k, 8 ≤ k → σ' 7 k = σ 7 k ∧ σ' 9 k = σ 9 k ∧ σ' 10 k = σ 10 k) : Wb ω σ' := by
  obtain ⟨h1, h2, h3, h4, h5⟩ := h
  obtain ⟨m0, m1, m2, m3, m4, m5, m6, m7⟩ := hm
  obtain ⟨n0, n1, n2, n3, n4, n5, n6, n7⟩ := hm'
  refine ⟨fun c a b c16 c19 c26 => ?_, fun i hi => ?_⟩
  · funext k
    by_cases e1 : c = 1
    · subst e1
      by_cases hk : k ∈ [5, 6, 7, 8, 9, 10]
      · simp at hk
        rcases hk with e | e | e | e | e | e <;> subst e
        · rw [← n0, m0]
        · rw [← n1, m1]
        · rw [← n2, m2]
        · rw [← n3, m3]
        · rw [← n4, m4]
        · rw [← n5, m5]
      · rw [f 1 k (by decide) (by simp at hk ⊢; omega)]; exact h2 k hk
    · by_cases e25 : c = 25
      · subst e25
        by_cases hk : k = 0
        · subst hk; rw [← n6, m6]
        · rw [f 25 k (by decide) (by simp; omega)]; exact h4 k hk
      · by_cases e7 : c = 7
        · subst e7
          by_cases hk : k < 8
          · rw [← (n7 k hk).2.2, (m7 k hk).2.2]
          · rw [(h8 k (by omega)).1]; exact (h3 k (by omega)).1
        · by_cases e9 : c = 9
          · subst e9
            by_cases hk : k < 8
            · rw [← (n7 k hk).1, (m7 k hk).1]
            · rw [(h8 k (by omega)).2.1]; exact (h3 k (by omega)).2.1
          · by_cases e10 : c = 10
            · subst e10
              by_cases hk : k < 8
              · rw [← (n7 k hk).2.1, (m7 k hk).2.1]
              · rw [(h8 k (by omega)).2.2]; exact (h3 k (by omega)).2.2
            · rw [f c k (by simp; omega) (by simp; omega)]
              rw [h1 c a b (by simp; omega)]
  · rw [f 26 i (by decide) (by simp)]; exact h5 i hi
