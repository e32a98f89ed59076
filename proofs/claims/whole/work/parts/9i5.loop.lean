def lw_P (b : Addr) (xs : List Int32) (args : Array Value) (s : State) : Prop := args = #[.ref b] ∧ s.IntsAt b xs ∧ xs.length ≤ 3072 ∧ (Jvm.Cond.and given_1 narrow_1).before args s = true
def lw_Q (_ : Array Value) (s : State) (o : Outcome) (t : State) : Prop := o = .returned (some (.int 1)) ∧ Framed s o t [] 600000 7302250
def lw_Z (below : List Frame) (a : Array Value) (s : State) : State → Prop := fun t => ∃ o, t.status = .running ∧ Ended t below o ∧ lw_Q a s o t
/-- the law's own end, with 1 on the stack, nothing written that was there before, its room as the claim has it -/
theorem lw_ret {p : Program} {l : Launch} {e : Env} {s : State} {m : MethodId} {below : List Frame} {meth : Method} {c : Code} {b : Nat} (hx : p.tables.exec = Jvm.exec) (hb : c.code = code) (hr : meth.sig.returnType = ret) (hlocks : meth.locks = false) {pc : Nat} {H : Heap} {ls : Array Slot} (hdg : decode code pc = .ok (.ireturn, 1)) : W p l e room_1 s m #[Value.ref b] below meth c H [] 600000 7302250 (lw_Z below #[Value.ref b] s) (F0 m pc ls [.int 1]) := by
  intro T hT X
  obtain ⟨fs, hret, hrun, hended, hW, hframe⟩ := X.leave (v := some (.int 1)) (hlocks := hlocks) (fun h => by rw [hr] at h; cases h)
  have hmeth' : T.vm.method? m = some meth := X.method'
  refine ⟨T.setFrames fs, ?_, .returned (some (.int 1)), hrun, hended, rfl, ⟨_, rfl⟩, hW, hframe⟩
  jvm_step X.here [X.here.top, hx, hb, hdg, hmeth', hr, ret, narrow_b1]
  (try refine ⟨rfl, ?_⟩); (try refine ⟨rfl, ?_⟩)
  first | (intro acts; rw [hret _ acts rfl rfl rfl]) | rw [hret _ _ rfl rfl rfl]
  exact Steps.refl _
/-- what holds at the law's entry: the machine, the code, the tables' words (any of lw_tbl by 'hts w (by decide +kernel)'), the script of L ints xs at the cell b, what the Statement gives of the start (any of its parts by flat_of_before) -/
def lw_At (p : Program) (s : State) (m : MethodId) (meth : Method) (c : Code) (b L : Nat) (xs : Nat → Int32) : Prop :=
  p.tables.exec = Jvm.exec ∧ c.code = code ∧ meth.sig.returnType = ret ∧ c.maxLocals = 4 ∧ s.vm.findClass R_law = some m.cls ∧ (∀ w ∈ lw_tbl, w.before #[Value.ref b] s = true) ∧ va_X b L xs s s.heap ∧ b < s.heap.size ∧ meth.locks = false ∧ (Jvm.Cond.and given_1 narrow_1).before #[Value.ref b] s = true
theorem and31 (x : Int32) : ∃ j : Nat, j < 32 ∧ x &&& 31 = nI j := by
  have h : (x &&& 31).toBitVec.toNat < 32 := by
    rw [Int32.toBitVec_and, BitVec.toNat_and]
    exact Nat.lt_of_le_of_lt Nat.and_le_right (by decide)
  refine ⟨(x &&& 31).toBitVec.toNat, h, ?_⟩
  apply Int32.toBitVec_inj.mp
  show _ = BitVec.ofNat 32 _
  rw [BitVec.ofNat_toNat, BitVec.setWidth_eq]
theorem room6 {i L : Nat} (hL : L ≤ 3072) (hi : i ≤ L) (h : ¬ nI L - 6 < nI i) : i + 6 ≤ L := by
  rcases Nat.lt_or_ge L 6 with q | q
  · exfalso
    apply h
    have h1 : ∀ L : Nat, L < 6 → ∀ i : Nat, i < 6 → nI L - 6 < nI i := by decide
    exact h1 L q i (by omega)
  · obtain ⟨k, rfl⟩ : ∃ k, L = k + 6 := ⟨L - 6, by omega⟩
    rw [← nI_add, show nI 6 = 6 by decide, Int32.add_sub_cancel, nI_ltI (by omega) (by omega)] at h
    omega
theorem swd : decode code 33 = .ok (.tableswitch 988 0 30 #[139, 162, 215, 258, 291, 354, 377, 400, 423, 446, 479, 512, 545, 578, 611, 634, 647, 670, 693, 706, 719, 742, 765, 778, 811, 844, 867, 890, 913, 926, 965], 139) := by decide +kernel
section LAWL
variable {p : Program} {l : Launch} {e : Env} {s : State} {m : MethodId} {below : List Frame} {meth : Method} {c : Code}
variable {D : va_G} {cs : ClassId × ClassId × ClassId} {ak : AK} {b L : Nat} {xs : Nat → Int32}
set_option maxHeartbeats 4000000 in
theorem law_sw {Q : State → Prop} {σ : Sig} {H : Heap} {locs : List Loc} {ls : Array Slot} {i : Nat} (C : LC p s m c D cs ak b L xs) (hi : i + 6 ≤ L) (hL : L ≤ 3072) (hl : lv_has ls 4 [(0, .ref b), (1, .ref s.heap.size), (2, .ref (s.heap.size + 112)), (3, .int (nI i))]) (hI : INV σ) (hw : Wo D cs s.heap.size (AA s.heap.size) s.heap G0 σ H locs)
    (kk : ∀ (σ2 : Sig) (H1 : Heap) (locs1 : List Loc), INV σ2 → Wo D cs s.heap.size (AA s.heap.size) s.heap G0 σ2 H1 locs1 → W p l e room_1 s m #[Value.ref b] below meth c H1 locs1 G0.length (szG G0) Q (F0 m 1021 ls [])) {j : Nat} (hj : j < 32) : W p l e room_1 s m #[Value.ref b] below meth c H locs G0.length (szG G0) Q (F0 m 33 ls [.int (nI j)]) := by
  obtain ⟨hx, hb, -⟩ := id C
  match j, hj with
  | 0, _ => exact lv_tableIn (off := 139) (tgt := 172) hx hb swd (by decide) (by decide) (by decide +kernel) (by decide) (lk_0 C hi hL hl hI hw kk)
  | 1, _ => exact lv_tableIn (off := 162) (tgt := 195) hx hb swd (by decide) (by decide) (by decide +kernel) (by decide) (lk_1 C hi hL hl hI hw kk)
  | 2, _ => exact lv_tableIn (off := 215) (tgt := 248) hx hb swd (by decide) (by decide) (by decide +kernel) (by decide) (lk_2 C hi hL hl hI hw kk)
  | 3, _ => exact lv_tableIn (off := 258) (tgt := 291) hx hb swd (by decide) (by decide) (by decide +kernel) (by decide) (lk_3 C hi hL hl hI hw kk)
  | 4, _ => exact lv_tableIn (off := 291) (tgt := 324) hx hb swd (by decide) (by decide) (by decide +kernel) (by decide) (lk_4 C hi hL hl hI hw kk)
  | 5, _ => exact lv_tableIn (off := 354) (tgt := 387) hx hb swd (by decide) (by decide) (by decide +kernel) (by decide) (lk_5 C hi hL hl hI hw kk)
  | 6, _ => exact lv_tableIn (off := 377) (tgt := 410) hx hb swd (by decide) (by decide) (by decide +kernel) (by decide) (lk_6 C hi hL hl hI hw kk)
  | 7, _ => exact lv_tableIn (off := 400) (tgt := 433) hx hb swd (by decide) (by decide) (by decide +kernel) (by decide) (lk_7 C hi hL hl hI hw kk)
  | 8, _ => exact lv_tableIn (off := 423) (tgt := 456) hx hb swd (by decide) (by decide) (by decide +kernel) (by decide) (lk_8 C hi hL hl hI hw kk)
  | 9, _ => exact lv_tableIn (off := 446) (tgt := 479) hx hb swd (by decide) (by decide) (by decide +kernel) (by decide) (lk_9 C hi hL hl hI hw kk)
  | 10, _ => exact lv_tableIn (off := 479) (tgt := 512) hx hb swd (by decide) (by decide) (by decide +kernel) (by decide) (lk_10 C hi hL hl hI hw kk)
  | 11, _ => exact lv_tableIn (off := 512) (tgt := 545) hx hb swd (by decide) (by decide) (by decide +kernel) (by decide) (lk_11 C hi hL hl hI hw kk)
  | 12, _ => exact lv_tableIn (off := 545) (tgt := 578) hx hb swd (by decide) (by decide) (by decide +kernel) (by decide) (lk_12 C hi hL hl hI hw kk)
  | 13, _ => exact lv_tableIn (off := 578) (tgt := 611) hx hb swd (by decide) (by decide) (by decide +kernel) (by decide) (lk_13 C hi hL hl hI hw kk)
  | 14, _ => exact lv_tableIn (off := 611) (tgt := 644) hx hb swd (by decide) (by decide) (by decide +kernel) (by decide) (lk_14 C hi hL hl hI hw kk)
  | 15, _ => exact lv_tableIn (off := 634) (tgt := 667) hx hb swd (by decide) (by decide) (by decide +kernel) (by decide) (lk_15 C hi hL hl hI hw kk)
  | 16, _ => exact lv_tableIn (off := 647) (tgt := 680) hx hb swd (by decide) (by decide) (by decide +kernel) (by decide) (lk_16 C hi hL hl hI hw kk)
  | 17, _ => exact lv_tableIn (off := 670) (tgt := 703) hx hb swd (by decide) (by decide) (by decide +kernel) (by decide) (lk_17 C hi hL hl hI hw kk)
  | 18, _ => exact lv_tableIn (off := 693) (tgt := 726) hx hb swd (by decide) (by decide) (by decide +kernel) (by decide) (lk_18 C hi hL hl hI hw kk)
  | 19, _ => exact lv_tableIn (off := 706) (tgt := 739) hx hb swd (by decide) (by decide) (by decide +kernel) (by decide) (lk_19 C hi hL hl hI hw kk)
  | 20, _ => exact lv_tableIn (off := 719) (tgt := 752) hx hb swd (by decide) (by decide) (by decide +kernel) (by decide) (lk_20 C hi hL hl hI hw kk)
  | 21, _ => exact lv_tableIn (off := 742) (tgt := 775) hx hb swd (by decide) (by decide) (by decide +kernel) (by decide) (lk_21 C hi hL hl hI hw kk)
  | 22, _ => exact lv_tableIn (off := 765) (tgt := 798) hx hb swd (by decide) (by decide) (by decide +kernel) (by decide) (lk_22 C hi hL hl hI hw kk)
  | 23, _ => exact lv_tableIn (off := 778) (tgt := 811) hx hb swd (by decide) (by decide) (by decide +kernel) (by decide) (lk_23 C hi hL hl hI hw kk)
  | 24, _ => exact lv_tableIn (off := 811) (tgt := 844) hx hb swd (by decide) (by decide) (by decide +kernel) (by decide) (lk_24 C hi hL hl hI hw kk)
  | 25, _ => exact lv_tableIn (off := 844) (tgt := 877) hx hb swd (by decide) (by decide) (by decide +kernel) (by decide) (lk_25 C hi hL hl hI hw kk)
  | 26, _ => exact lv_tableIn (off := 867) (tgt := 900) hx hb swd (by decide) (by decide) (by decide +kernel) (by decide) (lk_26 C hi hL hl hI hw kk)
  | 27, _ => exact lv_tableIn (off := 890) (tgt := 923) hx hb swd (by decide) (by decide) (by decide +kernel) (by decide) (lk_27 C hi hL hl hI hw kk)
  | 28, _ => exact lv_tableIn (off := 913) (tgt := 946) hx hb swd (by decide) (by decide) (by decide +kernel) (by decide) (lk_28 C hi hL hl hI hw kk)
  | 29, _ => exact lv_tableIn (off := 926) (tgt := 959) hx hb swd (by decide) (by decide) (by decide +kernel) (by decide) (lk_29 C hi hL hl hI hw kk)
  | 30, _ => exact lv_tableIn (off := 965) (tgt := 998) hx hb swd (by decide) (by decide) (by decide +kernel) (by decide) (lk_30 C hi hL hl hI hw kk)
  | 31, _ => exact lv_tableOut (tgt := 1021) hx hb swd (Or.inr (by decide)) (by decide) (kk σ H locs hI hw)
  | j + 32, h => exact absurd h (by omega)
set_option maxHeartbeats 4000000 in
/-- the law's loop -/
theorem law_loop (hL : L ≤ 3072) (C : LC p s m c D cs ak b L xs) (hr : meth.sig.returnType = ret) (hlocks : meth.locks = false) : ∀ (n i : Nat), i ≤ L → L + 1 ≤ i + n → ∀ (σ : Sig) (H : Heap) (locs : List Loc) (ls : Array Slot), INV σ → Wo D cs s.heap.size (AA s.heap.size) s.heap G0 σ H locs → lv_has ls 4 [(0, .ref b), (1, .ref s.heap.size), (2, .ref (s.heap.size + 112)), (3, .int (nI i))] →
    W p l e room_1 s m #[Value.ref b] below meth c H locs G0.length (szG G0) (lw_Z below #[Value.ref b] s) (F0 m 18 ls []) := by
  intro n
  induction n with
  | zero =>
    intro i h1 h2
    exact absurd h2 (by omega)
  | succ n ih =>
    intro i hiL hin σ H locs ls hI hw hl
    obtain ⟨hx, hb, hml, hown, hts, hX, hbl, hK, hN, hAO, hSF⟩ := id C
    have hbA : ¬ AA s.heap.size b := Nat.not_le.mpr hbl
    have h0 := lv_at hl 0 rfl
    have h3 := lv_at hl 3 rfl
    refine lv_iload_n (k := 3) hx hb (ld (aux := []) (by decide +kernel) rfl) rfl h3 ?_
    refine lv_aload_n (k := 0) hx hb (ld (aux := []) (by decide +kernel) rfl) rfl h0 ?_
    refine va_slen hx hb hX hbl hbA hw.2.2 (ld (aux := []) (by decide +kernel) rfl) ?_
    refine lv_bipush (n := 6) (v := 6) hx hb (ld (aux := []) (by decide +kernel) rfl) (by decide) ?_
    refine lv_isub hx hb (ld (aux := []) (by decide +kernel) rfl) ?_
    refine lv_icmp_gt (off := 1003) (tgt := 1027) hx hb (ld (aux := []) (by decide +kernel) rfl) (by decide) (fun _ => ?_) (fun hc => ?_)
    · refine lv_iconst (n := 1) (v := 1) hx hb (ld (aux := []) (by decide +kernel) rfl) (by decide) ?_
      refine va_forget (fun q hq => hw.2.2.2.2 q hq) ?_
      refine W.widen (k := 600000) (n := 7302250) g0c g0s ?_
      exact lw_ret hx hb hr hlocks (ld (aux := []) (by decide +kernel) rfl)
    · have hi : i + 6 ≤ L := room6 hL hiL hc
      refine lv_aload_n (k := 0) hx hb (ld (aux := []) (by decide +kernel) rfl) rfl h0 ?_
      refine lv_iload_n (k := 3) hx hb (ld (aux := []) (by decide +kernel) rfl) rfl h3 ?_
      refine va_sld hx hb hX hbl hbA hw.2.2 (vp_in_nI (by omega) (by omega)) (ld (aux := []) (by decide +kernel) rfl) ?_
      refine lv_bipush (n := 31) (v := 31) hx hb (ld (aux := []) (by decide +kernel) rfl) (by decide) ?_
      refine lv_iand hx hb (ld (aux := []) (by decide +kernel) rfl) ?_
      obtain ⟨j, hj, ej⟩ := and31 (xs (nI i).toNatClampNeg)
      rw [ej]
      refine law_sw C hi hL hl hI hw ?_ hj
      intro σ2 H1 locs1 hI2 hw2
      refine lv_iinc (i := 3) (n := 6) (v := nI (i + 6)) (lv' := [(3, .int (nI (i + 6))), (0, .ref b), (1, .ref s.heap.size), (2, .ref (s.heap.size + 112))]) hx hb (ld (aux := []) (by decide +kernel) rfl) hl (k := 3) rfl (by rw [show Int32.ofInt 6 = nI 6 by decide, nI_add]) (by decide) rfl (fun ls' hl' => ?_)
      refine lv_goto (off := -1006) (tgt := 18) hx hb (ld (aux := []) (by decide +kernel) rfl) (by decide) ?_
      exact ih (i + 6) hi (by omega) σ2 H1 locs1 ls' hI2 hw2 (lv_sub hl' [1, 2, 3, 0] rfl)
end LAWL
theorem gC_len : gC.length = 112 := by decide +kernel
theorem gC0_e : ([] : Gam) ++ [(0, 11, List.replicate (clsA 11).2.2 none)] = gC0 := by decide +kernel
theorem gM0_e : gC ++ [(0, 12, List.replicate (clsA 12).2.2 none)] = gM0 := by decide +kernel
theorem sZ0_e : sup sZ0 0 (fun _ => 0) = sZ0 := by
  funext q k
  simp only [sup, sZ0]
  split <;> rfl
theorem zC0 : szG [] + (clsA 11).2.2 = szG gC0 := by decide +kernel
theorem zM0 : szG gC + (clsA 12).2.2 = szG gM0 := by decide +kernel
theorem lC0 : ([] : Gam).length + 1 = gC0.length := by decide +kernel
theorem lM0 : gC.length + 1 = gM0.length := by decide +kernel
theorem roomC : gC.length ≤ 600000 ∧ szG gC ≤ 7302250 ∧ gC.length + 1 ≤ 600000 ∧ szG gC + (clsA 12).2.2 ≤ 7302250 ∧ szG [] + (clsA 11).2.2 ≤ 7302250 := by decide +kernel
set_option maxHeartbeats 4000000 in
/-- from the entry, for every script of at most 3072 ints, the law comes to its end with true -/
theorem whole_start {p : Program} {e : Env} {s : State} {m : MethodId} {below : List Frame} {meth : Method} {c : Code} (l : Launch) {b L : Nat} {xs : Nat → Int32} (hL : L ≤ 3072) (C0 : lw_At p s m meth c b L xs) : W p l e room_1 s m #[Value.ref b] below meth c s.heap [] 0 0 (lw_Z below #[Value.ref b] s) (entryFrame m ([Value.ref b] : List Value).toArray 4) := by
  obtain ⟨hx, hb, hr, hml, hown, hts, hX, hbl, hlocks, hgv⟩ := id C0
  obtain ⟨D, cs, ak, hK, hN, hAO, hSF⟩ := ent_all hts hgv
  have C : LC p s m c D cs ak b L xs := ⟨hx, hb, hml, hown, hts, hX, hbl, hK, hN, hAO, hSF⟩
  have hw : Wo D cs s.heap.size (AA s.heap.size) s.heap [] sZ0 s.heap [] := ⟨fun k q h => by simp [wF] at h, ⟨fun i j p q h => by simp [wF] at h, fun k q h => by simp [wF] at h⟩, va_S.rf⟩
  have hl := lv_entry ([.ref b]) (n := 4) (Nat.le_of_ble_eq_true rfl)
  rw [lg_entry_eq]
  generalize (lg_sl ([.ref b]) ++ List.replicate (4 - (lg_sl ([.ref b])).length) Slot.unset).toArray = ls at hl ⊢
  have hl : lv_has ls 4 [(0, .ref b)] := hl
  refine law_new C (G := []) (σ := sZ0) (ci := 11) (idx := 7) (ld (aux := []) (by decide +kernel) rfl) (by decide) (lk (k := 62) rfl) (by decide) roomC.2.2.2.2 hw ?_
  intro H1 hw1
  have e0 : sup sZ0 ([] : Gam).length (fun _ => 0) = sZ0 := sZ0_e
  rw [gC0_e, e0] at hw1
  rw [lC0, zC0]
  refine lv_dup hx hb (ld (aux := []) (by decide +kernel) rfl) rfl ?_
  refine law_callI C (M := 99) (ci := 11) (q := 0) (idx := 9) (rest := [.ref (s.heap.size + 0)]) (by decide +kernel) (by decide +kernel) (by decide +kernel) (lk (k := 63) rfl) (ld (aux := []) (by decide +kernel) rfl) (Nat.le_of_ble_eq_true rfl) (Nat.le_of_ble_eq_true rfl) rC_e hl.1 roomC.1 roomC.2.1 hw1 ?_
  intro H2 locs2 hw2
  refine lv_astore_n (k := 1) (lv' := [(1, .ref s.heap.size), (0, .ref b)]) hx hb (ld (aux := []) (by decide +kernel) rfl) rfl hl (by decide) rfl (fun ls hl => ?_)
  refine law_new C (ci := 12) (idx := 10) (ld (aux := []) (by decide +kernel) rfl) (by decide) (lk (k := 64) rfl) roomC.2.2.1 roomC.2.2.2.1 hw2 ?_
  intro H3 hw3
  have e3 : sup sC gC.length (fun _ => 0) = sM0 := by rw [gC_len]; rfl
  rw [gM0_e, e3] at hw3
  rw [lM0, zM0, gC_len]
  refine lv_dup hx hb (ld (aux := []) (by decide +kernel) rfl) rfl ?_
  refine law_callI C (M := 141) (ci := 12) (q := 112) (idx := 12) (rest := [.ref (s.heap.size + 112)]) (by decide +kernel) (by decide +kernel) (by decide +kernel) (lk (k := 65) rfl) (ld (aux := []) (by decide +kernel) rfl) (Nat.le_of_ble_eq_true rfl) (Nat.le_of_ble_eq_true rfl) rM_e hl.1 g0c g0s hw3 ?_
  intro H4 locs4 hw4
  refine lv_astore_n (k := 2) (lv' := [(2, .ref (s.heap.size + 112)), (1, .ref s.heap.size), (0, .ref b)]) hx hb (ld (aux := []) (by decide +kernel) rfl) rfl hl (by decide) rfl (fun ls hl => ?_)
  refine lv_iconst (n := 0) (v := 0) hx hb (ld (aux := []) (by decide +kernel) rfl) (by decide) ?_
  refine lv_istore_n (k := 3) (lv' := [(3, .int 0), (2, .ref (s.heap.size + 112)), (1, .ref s.heap.size), (0, .ref b)]) hx hb (ld (aux := []) (by decide +kernel) rfl) rfl hl (by decide) rfl (fun ls hl => ?_)
  refine law_loop hL C hr hlocks (L + 1) 0 (Nat.zero_le _) (by omega) sI H4 locs4 ls INV_i hw4 ?_
  rw [nI_0]
  exact lv_sub hl [3, 2, 1, 0] rfl
