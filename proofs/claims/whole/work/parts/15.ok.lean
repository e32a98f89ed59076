theorem fnd_mem {pc : Nat} {x : CI} : ∀ {l : List (Nat × CI)}, fnd pc l = some x → (pc, x) ∈ l := by
  intro l
  induction l with
  | nil => intro h; cases h
  | cons a l ih =>
    intro h
    obtain ⟨k, y⟩ := a
    unfold fnd at h
    cases hb : Nat.beq pc k
    · rw [hb] at h
      exact List.mem_cons_of_mem _ (ih h)
    · rw [hb] at h
      cases h
      rw [Nat.eq_of_beq_eq_true hb]
      exact List.mem_cons_self
def okJ (M pc : Nat) (x : CI) : Bool := (isSw x.1 || decide (x.2.1 = lenI x.1)) && okI M pc x.1 x.2.2
/-- all of a method's table but its switches -/
def okM (M : Nat) : Bool := chkL 4000 0 (mB M).data.toList (cTab.getD M []) && (cTab.getD M []).all fun x => okJ M x.1 x.2
def okR (a n : Nat) : Bool := ((List.range n).map fun k => a + k).all okM
theorem okR_at {a n M : Nat} (h : okR a n = true) (h1 : a ≤ M) (h2 : M < a + n) : okM M = true := by
  refine List.all_eq_true.mp h M (List.mem_map.mpr ⟨M - a, List.mem_range.mpr (by omega), by omega⟩)
theorem sw_25_1 : decode (mB 25) 1 = .ok (.lookupswitch 148 #[(18, 144), (19, 140), (42, 91), (43, 83), (45, 87), (47, 95), (60, 107), (61, 118), (62, 129)], 83) := by decide +kernel
theorem sw_109_20 : decode (mB 109) 20 = .ok (.tableswitch 97 0 6 #[44, 51, 58, 65, 72, 79, 85], 44) := by decide +kernel
theorem sw_110_20 : decode (mB 110) 20 = .ok (.tableswitch 99 0 5 #[40, 47, 54, 61, 68, 75], 40) := by decide +kernel
theorem sw_130_1 : decode (mB 130) 1 = .ok (.tableswitch 262 0 23 #[111, 119, 130, 141, 149, 157, 165, 176, 184, 195, 206, 225, 262, 262, 262, 262, 262, 262, 262, 262, 230, 238, 246, 254], 111) := by decide +kernel
def swL : List (Nat × Nat × Instr × Nat) := [(25, 1, .lookupswitch 148 #[(18, 144), (19, 140), (42, 91), (43, 83), (45, 87), (47, 95), (60, 107), (61, 118), (62, 129)], 83), (109, 20, .tableswitch 97 0 6 #[44, 51, 58, 65, 72, 79, 85], 44), (110, 20, .tableswitch 99 0 5 #[40, 47, 54, 61, 68, 75], 40), (130, 1, .tableswitch 262 0 23 #[111, 119, 130, 141, 149, 157, 165, 176, 184, 195, 206, 225, 262, 262, 262, 262, 262, 262, 262, 262, 230, 238, 246, 254], 111)]
theorem sw_all : ∀ q ∈ swL, decode (mB q.1) q.2.1 = .ok (q.2.2.1, q.2.2.2) := by
  intro q hq
  simp only [swL, List.mem_cons, List.not_mem_nil, or_false] at hq
  rcases hq with rfl | rfl | rfl | rfl
  · exact sw_25_1
  · exact sw_109_20
  · exact sw_110_20
  · exact sw_130_1
theorem sw_in : ((List.range nM).all fun M => (cTab.getD M []).all fun x => !isSw x.2.1 || swL.any fun q => decide (q = (M, x.1, x.2.1, x.2.2.1))) = true := by decide +kernel
theorem okR0 : okR 0 13 = true := by decide +kernel
theorem okR1 : okR 13 24 = true := by decide +kernel
theorem okR2 : okR 37 14 = true := by decide +kernel
theorem okR3 : okR 51 13 = true := by decide +kernel
theorem okR4 : okR 64 15 = true := by decide +kernel
theorem okR5 : okR 79 16 = true := by decide +kernel
theorem okR6 : okR 95 16 = true := by decide +kernel
theorem okR7 : okR 111 19 = true := by decide +kernel
theorem okR8 : okR 130 11 = true := by decide +kernel
theorem okR9 : okR 141 3 = true := by decide +kernel
theorem okR10 : okR 144 28 = true := by decide +kernel
theorem okR11 : okR 172 18 = true := by decide +kernel
theorem okR12 : okR 190 10 = true := by decide +kernel
theorem okR13 : okR 200 13 = true := by decide +kernel
theorem okR14 : okR 213 16 = true := by decide +kernel
theorem okR15 : okR 229 15 = true := by decide +kernel
theorem okR16 : okR 244 16 = true := by decide +kernel
theorem okR17 : okR 260 9 = true := by decide +kernel
theorem okR18 : okR 269 16 = true := by decide +kernel
theorem okM_all : ∀ M, M < nM → okM M = true := by
  intro M hM
  have hM : M < 285 := hM
  by_cases h0 : M < 13
  · exact okR_at okR0 (by omega) (by omega)
  by_cases h1 : M < 37
  · exact okR_at okR1 (by omega) (by omega)
  by_cases h2 : M < 51
  · exact okR_at okR2 (by omega) (by omega)
  by_cases h3 : M < 64
  · exact okR_at okR3 (by omega) (by omega)
  by_cases h4 : M < 79
  · exact okR_at okR4 (by omega) (by omega)
  by_cases h5 : M < 95
  · exact okR_at okR5 (by omega) (by omega)
  by_cases h6 : M < 111
  · exact okR_at okR6 (by omega) (by omega)
  by_cases h7 : M < 130
  · exact okR_at okR7 (by omega) (by omega)
  by_cases h8 : M < 141
  · exact okR_at okR8 (by omega) (by omega)
  by_cases h9 : M < 144
  · exact okR_at okR9 (by omega) (by omega)
  by_cases h10 : M < 172
  · exact okR_at okR10 (by omega) (by omega)
  by_cases h11 : M < 190
  · exact okR_at okR11 (by omega) (by omega)
  by_cases h12 : M < 200
  · exact okR_at okR12 (by omega) (by omega)
  by_cases h13 : M < 213
  · exact okR_at okR13 (by omega) (by omega)
  by_cases h14 : M < 229
  · exact okR_at okR14 (by omega) (by omega)
  by_cases h15 : M < 244
  · exact okR_at okR15 (by omega) (by omega)
  by_cases h16 : M < 260
  · exact okR_at okR16 (by omega) (by omega)
  by_cases h17 : M < 269
  · exact okR_at okR17 (by omega) (by omega)
  exact okR_at okR18 (by omega) (by omega)
theorem ok_all : OKAll := by
  intro M pc x hM hx
  have h := okM_all M hM
  have hm := fnd_mem hx
  unfold okM at h
  simp only [Bool.and_eq_true] at h
  have h2 := List.all_eq_true.mp h.2 (pc, x) hm
  unfold okJ at h2
  simp only [Bool.and_eq_true] at h2
  have hdec : decode (mB M) pc = .ok (x.1, x.2.1) := by
    cases hs : isSw x.1
    · exact chkL_ok (l := (mB M).data.toList) _ 0 _ _ rfl h.1 (pc, x) hm hs
    · have h3 := List.all_eq_true.mp (List.all_eq_true.mp sw_in M (List.mem_range.mpr hM)) (pc, x) hm
      rw [hs] at h3
      rw [Bool.not_true, Bool.false_or] at h3
      obtain ⟨q, hq, he⟩ := List.any_eq_true.mp h3
      have he := of_decide_eq_true he
      have h4 := sw_all q hq
      rw [he] at h4
      exact h4
  unfold okb
  simp only [hdec, decide_true, Bool.true_and, Bool.and_eq_true]
  exact h2
theorem minf_all : MInfOk := by
  have h : ((List.range nM).all fun M => plainFor (mN M) && Nat.ble (mL M) 20) = true := by decide +kernel
  intro M hM
  have h1 := List.all_eq_true.mp h M (List.mem_range.mpr hM)
  simp only [Bool.and_eq_true] at h1
  exact ⟨h1.1, Nat.le_of_ble_eq_true h1.2⟩
