section SAL
variable {p : Program} {l : Launch} {e : Env} {R : Room} {s : State} {m : MethodId} {args : Array Value} {below : List Frame} {meth : Method} {c : Code} {Q : State → Prop}
variable {D : va_G} {cs : ClassId × ClassId × ClassId} {base : Nat} {ak : AK} {A : Nat → Prop} {M : Nat}
variable {pc len pc' : Nat} {aux : List Nat} {L st L' st' : List Value} {G G' : Gam} {σ σ' : Sig} {H : Heap} {locs : List Loc} {cells slots : Nat} {ls : Array Slot}
theorem so_sto (h : lv_has ls (mL M) (lpF base ak 0 L)) {k : Nat} {v : Value} (hv : isIR v = true) (kk : Kk p l e R s m args below meth c Q D cs base ak A M cells slots pc' (L.set k v) st' G σ) (hw : Wo D cs base A s.heap G σ H locs) : ∀ ls' : Array Slot, lv_has ls' (mL M) ((k, cv base ak v) :: (lpF base ak 0 L).filter (fun q => !(q.1 == k) && !(q.1 + 1 == k && q.2.category == 2))) → W p l e R s m args below meth c H locs cells slots Q (F0 m pc' ls' (st'.map (cv base ak))) :=
  fun ls' h' => kk H locs ls' hw (lp_set hv h')
theorem so_at {k : Nat} {x : Int32} (hk : L[k]? = some (.int x)) : ∃ j : Nat, (lpF base ak 0 L)[j]? = some (k, .int x) := by
  have h1 := lp_mem (base := base) (ak := ak) L 0 k _ hk rfl
  rw [Nat.zero_add] at h1
  exact List.getElem?_of_mem h1
theorem so_br {b : Bool} {a1 a2 : Nat} {c1 : Prop} [Decidable c1] (hb : b = decide c1) (kk : Kk p l e R s m args below meth c Q D cs base ak A M cells slots (bif b then a1 else a2) L st G σ) (hw : Wo D cs base A s.heap G σ H locs) (hl : lv_has ls (mL M) (lpF base ak 0 L)) :
    (c1 → W p l e R s m args below meth c H locs cells slots Q (F0 m a1 ls (st.map (cv base ak)))) ∧ (¬ c1 → W p l e R s m args below meth c H locs cells slots Q (F0 m a2 ls (st.map (cv base ak)))) := by
  subst hb
  constructor
  · intro h
    have := kk H locs ls hw hl
    rwa [decide_eq_true h] at this
  · intro h
    have := kk H locs ls hw hl
    rwa [decide_eq_false h] at this
set_option maxHeartbeats 4000000 in
theorem step_ok {i : Instr} {g0 : Nat} (C : Cx p R s m args meth c D cs ak A M) (hok : okb M pc (i, len, aux) = true) (hact : act M pc L st G σ i aux = some (.inl (pc', L', st', G', σ'))) (hw : Wo D cs base A s.heap G σ H locs) (hl : lv_has ls (mL M) (lpF base ak 0 L)) (hL : L.length = mL M)
    (hbs : s.heap.size = base + g0) (hg0 : cells + g0 = G.length) (hrc : cells + (G'.length - G.length) ≤ R.cells) (hrs : slots + (szG G' - szG G) ≤ R.slots)
    (kk : Kk p l e R s m args below meth c Q D cs base ak A M (cells + (G'.length - G.length)) (slots + (szG G' - szG G)) pc' L' st' G' σ') : W p l e R s m args below meth c H locs cells slots Q (F0 m pc ls (st.map (cv base ak))) := by
  have hx := C.1
  have hb := C.2.1
  have hml := C.2.2.1
  have hown := C.2.2.2.1
  have hts' : ∀ w ∈ TB, w.before args s = true := fun w h => C.2.2.2.2.1 w (List.mem_cons_of_mem _ h)
  have hM : M < nM := C.2.2.2.2.2.2.2.2.2.2.2.2.1
  have hSF := C.2.2.2.2.2.2.2.2.2.2.2.2.2
  have hi := okb_i hok
  have hls : ls.size = mL M := hl.1
  cases i
  case iconst n =>
    obtain ⟨rfl, rfl, rfl, rfl, rfl⟩ := go_inv hact
    simp only [Nat.sub_self, Nat.add_zero] at kk
    exact lv_iconst hx hb (okb_dec hok rfl) rfl (kk H locs ls hw hl)
  case bipush n =>
    obtain ⟨rfl, rfl, rfl, rfl, rfl⟩ := go_inv hact
    simp only [Nat.sub_self, Nat.add_zero] at kk
    exact lv_bipush hx hb (okb_dec hok rfl) rfl (kk H locs ls hw hl)
  case sipush n =>
    obtain ⟨rfl, rfl, rfl, rfl, rfl⟩ := go_inv hact
    simp only [Nat.sub_self, Nat.add_zero] at kk
    exact lv_sipush hx hb (okb_dec hok rfl) rfl (kk H locs ls hw hl)
  case ldc idx =>
    simp only [act] at hact
    simp only [okI] at hi
    split at hact
    · obtain ⟨rfl, rfl, rfl, rfl, rfl⟩ := go_inv hact
      simp only [Nat.sub_self, Nat.add_zero] at kk
      exact lv_ldc hx hb hown (hts' _ (in_lnk hM (of_decide_eq_true hi))) (okb_dec hok rfl) (kk H locs ls hw hl)
    · rename_i j
      obtain ⟨h1, hact⟩ := grd_inv hact
      obtain ⟨rfl, rfl, rfl, rfl, rfl⟩ := go_inv hact
      simp only [Nat.sub_self, Nat.add_zero] at kk
      simp only [Bool.and_eq_true, decide_eq_true_eq] at hi
      have hj : j < 2 := by have := Nat.le_of_ble_eq_true h1; omega
      have hZ := hSF.1 j hj
      rw [hi.2] at hZ
      have hk := kk H locs ls hw hl
      have h4 : cv base ak (.retAddr j) = .ref (ak.1 j) := if_pos (by omega)
      rw [List.map_cons, h4] at hk
      exact va_ldcS hx hb (by rw [← hi.1]; exact hown) hZ (okb_dec hok rfl) hk
    · cases hact
  case ldc_w idx =>
    simp only [act] at hact
    simp only [okI] at hi
    split at hact
    · obtain ⟨rfl, rfl, rfl, rfl, rfl⟩ := go_inv hact
      simp only [Nat.sub_self, Nat.add_zero] at kk
      exact lv_ldcw hx hb hown (hts' _ (in_lnk hM (of_decide_eq_true hi))) (okb_dec hok rfl) (kk H locs ls hw hl)
    · cases hact
  case iload k =>
    obtain ⟨x, h1, hact⟩ := ldI_inv hact
    obtain ⟨rfl, rfl, rfl, rfl, rfl⟩ := go_inv hact
    simp only [Nat.sub_self, Nat.add_zero] at kk
    exact lv_iload hx hb (okb_dec hok rfl) (lp_get hl h1 rfl) (kk H locs ls hw hl)
  case iload_n k =>
    obtain ⟨x, h1, hact⟩ := ldI_inv hact
    obtain ⟨rfl, rfl, rfl, rfl, rfl⟩ := go_inv hact
    simp only [Nat.sub_self, Nat.add_zero] at kk
    exact lv_iload_n hx hb (okb_dec hok rfl) rfl (lp_get hl h1 rfl) (kk H locs ls hw hl)
  case aload k =>
    simp only [act] at hact
    obtain ⟨v, h1, h2, hact⟩ := ldA_inv hact
    obtain ⟨rfl, rfl, rfl, rfl, rfl⟩ := go_inv hact
    simp only [Nat.sub_self, Nat.add_zero] at kk
    have hk := kk H locs ls hw hl
    rcases h2 with ⟨x, rfl⟩ | ⟨j, hj, rfl⟩
    · exact lv_aload hx hb (okb_dec hok rfl) (lp_get hl h1 rfl) hk
    · have h3 := lp_get hl h1 rfl
      have h4 : cv base ak (.retAddr j) = .ref (ak.1 j) := if_pos hj
      rw [h4] at h3
      rw [List.map_cons, h4] at hk
      exact lv_aload hx hb (okb_dec hok rfl) h3 hk
  case aload_n k =>
    simp only [act] at hact
    obtain ⟨v, h1, h2, hact⟩ := ldA_inv hact
    obtain ⟨rfl, rfl, rfl, rfl, rfl⟩ := go_inv hact
    simp only [Nat.sub_self, Nat.add_zero] at kk
    have hk := kk H locs ls hw hl
    rcases h2 with ⟨x, rfl⟩ | ⟨j, hj, rfl⟩
    · exact lv_aload_n hx hb (okb_dec hok rfl) rfl (lp_get hl h1 rfl) hk
    · have h3 := lp_get hl h1 rfl
      have h4 : cv base ak (.retAddr j) = .ref (ak.1 j) := if_pos hj
      rw [h4] at h3
      rw [List.map_cons, h4] at hk
      exact lv_aload_n hx hb (okb_dec hok rfl) rfl h3 hk
  case istore k =>
    obtain ⟨x, r, rfl, hact⟩ := w1_inv hact
    obtain ⟨h1, hact⟩ := grd_inv hact
    obtain ⟨rfl, rfl, rfl, rfl, rfl⟩ := go_inv hact
    simp only [Nat.sub_self, Nat.add_zero] at kk
    have h2 : k < L.length := Nat.le_of_ble_eq_true h1
    exact lv_istore hx hb (okb_dec hok rfl) hl (by omega) rfl (so_sto hl rfl kk hw)
  case istore_n k =>
    obtain ⟨x, r, rfl, hact⟩ := w1_inv hact
    obtain ⟨h1, hact⟩ := grd_inv hact
    obtain ⟨rfl, rfl, rfl, rfl, rfl⟩ := go_inv hact
    simp only [Nat.sub_self, Nat.add_zero] at kk
    have h2 : k.val < L.length := Nat.le_of_ble_eq_true h1
    exact lv_istore_n hx hb (okb_dec hok rfl) rfl hl (by omega) rfl (so_sto hl rfl kk hw)
  case astore k =>
    obtain ⟨x, r, rfl, hact⟩ := wr_inv hact
    obtain ⟨h1, hact⟩ := grd_inv hact
    obtain ⟨rfl, rfl, rfl, rfl, rfl⟩ := go_inv hact
    simp only [Nat.sub_self, Nat.add_zero] at kk
    have h2 : k < L.length := Nat.le_of_ble_eq_true h1
    exact lv_astore hx hb (okb_dec hok rfl) hl (by omega) rfl (so_sto hl rfl kk hw)
  case astore_n k =>
    obtain ⟨x, r, rfl, hact⟩ := wr_inv hact
    obtain ⟨h1, hact⟩ := grd_inv hact
    obtain ⟨rfl, rfl, rfl, rfl, rfl⟩ := go_inv hact
    simp only [Nat.sub_self, Nat.add_zero] at kk
    have h2 : k.val < L.length := Nat.le_of_ble_eq_true h1
    exact lv_astore_n hx hb (okb_dec hok rfl) rfl hl (by omega) rfl (so_sto hl rfl kk hw)
  case iinc k n =>
    obtain ⟨x, h1, hact⟩ := ldI_inv hact
    obtain ⟨rfl, rfl, rfl, rfl, rfl⟩ := go_inv hact
    simp only [Nat.sub_self, Nat.add_zero] at kk
    have h2 : k < L.length := (List.getElem?_eq_some_iff.mp h1).1
    obtain ⟨j, hj⟩ := so_at (base := base) (ak := ak) h1
    exact lv_iinc hx hb (okb_dec hok rfl) hl hj rfl (by omega) rfl (so_sto hl rfl kk hw)
  case iadd =>
    obtain ⟨x, y, r, rfl, hact⟩ := w2_inv hact
    obtain ⟨rfl, rfl, rfl, rfl, rfl⟩ := go_inv hact
    simp only [Nat.sub_self, Nat.add_zero] at kk
    exact lv_iadd hx hb (okb_dec hok rfl) (kk H locs ls hw hl)
  case isub =>
    obtain ⟨x, y, r, rfl, hact⟩ := w2_inv hact
    obtain ⟨rfl, rfl, rfl, rfl, rfl⟩ := go_inv hact
    simp only [Nat.sub_self, Nat.add_zero] at kk
    exact lv_isub hx hb (okb_dec hok rfl) (kk H locs ls hw hl)
  case imul =>
    obtain ⟨x, y, r, rfl, hact⟩ := w2_inv hact
    obtain ⟨rfl, rfl, rfl, rfl, rfl⟩ := go_inv hact
    simp only [Nat.sub_self, Nat.add_zero] at kk
    exact lv_imul hx hb (okb_dec hok rfl) (kk H locs ls hw hl)
  case iand =>
    obtain ⟨x, y, r, rfl, hact⟩ := w2_inv hact
    obtain ⟨rfl, rfl, rfl, rfl, rfl⟩ := go_inv hact
    simp only [Nat.sub_self, Nat.add_zero] at kk
    exact lv_iand hx hb (okb_dec hok rfl) (kk H locs ls hw hl)
  case ior =>
    obtain ⟨x, y, r, rfl, hact⟩ := w2_inv hact
    obtain ⟨rfl, rfl, rfl, rfl, rfl⟩ := go_inv hact
    simp only [Nat.sub_self, Nat.add_zero] at kk
    exact lv_ior hx hb (okb_dec hok rfl) (kk H locs ls hw hl)
  case ixor =>
    obtain ⟨x, y, r, rfl, hact⟩ := w2_inv hact
    obtain ⟨rfl, rfl, rfl, rfl, rfl⟩ := go_inv hact
    simp only [Nat.sub_self, Nat.add_zero] at kk
    exact lv_ixor hx hb (okb_dec hok rfl) (kk H locs ls hw hl)
  case ishl =>
    obtain ⟨x, y, r, rfl, hact⟩ := w2_inv hact
    obtain ⟨rfl, rfl, rfl, rfl, rfl⟩ := go_inv hact
    simp only [Nat.sub_self, Nat.add_zero] at kk
    exact lv_ishl hx hb (okb_dec hok rfl) (kk H locs ls hw hl)
  case ishr =>
    obtain ⟨x, y, r, rfl, hact⟩ := w2_inv hact
    obtain ⟨rfl, rfl, rfl, rfl, rfl⟩ := go_inv hact
    simp only [Nat.sub_self, Nat.add_zero] at kk
    exact lv_ishr hx hb (okb_dec hok rfl) (kk H locs ls hw hl)
  case iushr =>
    obtain ⟨x, y, r, rfl, hact⟩ := w2_inv hact
    obtain ⟨rfl, rfl, rfl, rfl, rfl⟩ := go_inv hact
    simp only [Nat.sub_self, Nat.add_zero] at kk
    exact lv_iushr hx hb (okb_dec hok rfl) rfl (kk H locs ls hw hl)
  case idiv =>
    obtain ⟨x, y, r, rfl, hact⟩ := w2_inv hact
    obtain ⟨h1, hact⟩ := grd_inv hact
    obtain ⟨rfl, rfl, rfl, rfl, rfl⟩ := go_inv hact
    simp only [Nat.sub_self, Nat.add_zero] at kk
    exact lv_idiv hx hb (okb_dec hok rfl) (by simpa using h1) (kk H locs ls hw hl)
  case irem =>
    obtain ⟨x, y, r, rfl, hact⟩ := w2_inv hact
    obtain ⟨h1, hact⟩ := grd_inv hact
    obtain ⟨rfl, rfl, rfl, rfl, rfl⟩ := go_inv hact
    simp only [Nat.sub_self, Nat.add_zero] at kk
    exact lv_irem hx hb (okb_dec hok rfl) (by simpa using h1) (kk H locs ls hw hl)
  case ineg =>
    obtain ⟨x, r, rfl, hact⟩ := w1_inv hact
    obtain ⟨rfl, rfl, rfl, rfl, rfl⟩ := go_inv hact
    simp only [Nat.sub_self, Nat.add_zero] at kk
    exact lv_ineg hx hb (okb_dec hok rfl) (kk H locs ls hw hl)
  case i2b =>
    obtain ⟨x, r, rfl, hact⟩ := w1_inv hact
    obtain ⟨rfl, rfl, rfl, rfl, rfl⟩ := go_inv hact
    simp only [Nat.sub_self, Nat.add_zero] at kk
    exact lv_i2b hx hb (okb_dec hok rfl) rfl (kk H locs ls hw hl)
  case i2c =>
    obtain ⟨x, r, rfl, hact⟩ := w1_inv hact
    obtain ⟨rfl, rfl, rfl, rfl, rfl⟩ := go_inv hact
    simp only [Nat.sub_self, Nat.add_zero] at kk
    exact lv_i2c hx hb (okb_dec hok rfl) rfl (kk H locs ls hw hl)
  case goto off =>
    simp only [act] at hact
    simp only [okI] at hi
    split at hact
    · obtain ⟨rfl, rfl, rfl, rfl, rfl⟩ := go_inv hact
      simp only [Nat.sub_self, Nat.add_zero] at kk
      exact lv_goto hx hb (okb_dec hok rfl) (of_decide_eq_true hi) (kk H locs ls hw hl)
    · cases hact
  case if_icmp cc off =>
    simp only [act] at hact
    simp only [okI] at hi
    split at hact
    · obtain ⟨x, y, r, rfl, hact⟩ := w2_inv hact
      obtain ⟨rfl, rfl, rfl, rfl, rfl⟩ := go_inv hact
      simp only [Nat.sub_self, Nat.add_zero] at kk
      have ht := of_decide_eq_true hi
      cases cc
      · have hh := so_br (c1 := x = y) rfl kk hw hl
        exact lv_icmp_eq hx hb (okb_dec hok rfl) ht hh.1 hh.2
      · have hh := so_br (c1 := ¬ x = y) rfl kk hw hl
        exact lv_icmp_ne hx hb (okb_dec hok rfl) ht hh.1 (fun z => hh.2 (fun z2 => z2 z))
      · have hh := so_br (c1 := x < y) rfl kk hw hl
        exact lv_icmp_lt hx hb (okb_dec hok rfl) ht hh.1 hh.2
      · have hh := so_br (c1 := y ≤ x) rfl kk hw hl
        exact lv_icmp_ge hx hb (okb_dec hok rfl) ht hh.1 hh.2
      · have hh := so_br (c1 := y < x) rfl kk hw hl
        exact lv_icmp_gt hx hb (okb_dec hok rfl) ht hh.1 hh.2
      · have hh := so_br (c1 := x ≤ y) rfl kk hw hl
        exact lv_icmp_le hx hb (okb_dec hok rfl) ht hh.1 hh.2
    · cases hact
  case ifCond cc off =>
    simp only [act] at hact
    simp only [okI] at hi
    split at hact
    · obtain ⟨x, r, rfl, hact⟩ := w1_inv hact
      obtain ⟨rfl, rfl, rfl, rfl, rfl⟩ := go_inv hact
      simp only [Nat.sub_self, Nat.add_zero] at kk
      have ht := of_decide_eq_true hi
      cases cc
      · have hh := so_br (c1 := x = 0) rfl kk hw hl
        exact lv_if_eq hx hb (okb_dec hok rfl) ht hh.1 hh.2
      · have hh := so_br (c1 := ¬ x = 0) rfl kk hw hl
        exact lv_if_ne hx hb (okb_dec hok rfl) ht hh.1 (fun z => hh.2 (fun z2 => z2 z))
      · have hh := so_br (c1 := x < 0) rfl kk hw hl
        exact lv_if_lt hx hb (okb_dec hok rfl) ht hh.1 hh.2
      · have hh := so_br (c1 := 0 ≤ x) rfl kk hw hl
        exact lv_if_ge hx hb (okb_dec hok rfl) ht hh.1 hh.2
      · have hh := so_br (c1 := 0 < x) rfl kk hw hl
        exact lv_if_gt hx hb (okb_dec hok rfl) ht hh.1 hh.2
      · have hh := so_br (c1 := x ≤ 0) rfl kk hw hl
        exact lv_if_le hx hb (okb_dec hok rfl) ht hh.1 hh.2
    · cases hact
  case tableswitch dflt lo hi' offs =>
    obtain ⟨x, r, rfl, hact⟩ := w1_inv hact
    obtain ⟨rfl, rfl, rfl, rfl, rfl⟩ := go_inv hact
    simp only [Nat.sub_self, Nat.add_zero] at kk
    simp only [okI, Bool.and_eq_true, decide_eq_true_eq] at hi
    obtain ⟨⟨hi1, hi2⟩, hi3⟩ := hi
    have hk := kk H locs ls hw hl
    unfold tsw at hk
    by_cases hc : x.toInt < lo ∨ hi' < x.toInt
    · rw [if_pos hc] at hk
      exact lv_tableOut hx hb (okb_dec0 hok) hc (Int.toNat_of_nonneg hi1).symm hk
    · rw [if_neg hc] at hk
      have hlt : (x.toInt - lo).toNat < offs.size := by omega
      have hget : offs[(x.toInt - lo).toNat]? = some (offs.getD (x.toInt - lo).toNat 0) := by
        simp [Array.getD, hlt]
      have hnn : 0 ≤ (pc : Int) + offs.getD (x.toInt - lo).toNat 0 := by
        have h3 := List.all_eq_true.mp hi2 (offs.getD (x.toInt - lo).toNat 0) (by
          have := Array.mem_of_getElem? hget
          exact Array.mem_def.mp this)
        exact of_decide_eq_true h3
      exact lv_tableIn hx hb (okb_dec0 hok) (fun h => hc (Or.inl h)) (fun h => hc (Or.inr h)) hget (Int.toNat_of_nonneg hnn).symm hk
  case lookupswitch dflt ps =>
    obtain ⟨x, r, rfl, hact⟩ := w1_inv hact
    obtain ⟨rfl, rfl, rfl, rfl, rfl⟩ := go_inv hact
    simp only [Nat.sub_self, Nat.add_zero] at kk
    simp only [okI, Bool.and_eq_true, decide_eq_true_eq] at hi
    obtain ⟨⟨hi1, hi2⟩, hi3⟩ := hi
    have hk := kk H locs ls hw hl
    unfold lsw at hk
    have hnn : 0 ≤ (pc : Int) + Op.lookupswitch.offset ps.toList dflt x.toInt := by
      have hgen : ∀ l : List (Int × Int), (l.all fun o => decide (0 ≤ (pc : Int) + o.2)) = true → 0 ≤ (pc : Int) + Op.lookupswitch.offset l dflt x.toInt := by
        intro l
        induction l with
        | nil => intro _; exact hi1
        | cons a l ih =>
          intro h
          simp only [List.all_cons, Bool.and_eq_true, decide_eq_true_eq] at h
          have h2 := ih h.2
          have h1 := h.1
          obtain ⟨a1, a2⟩ := a
          rw [Op.lookupswitch.offset_cons]
          split
          · exact h1
          · exact h2
      exact hgen _ hi2
    exact lv_lookup hx hb (okb_dec0 hok) hi3 rfl (Int.toNat_of_nonneg hnn).symm hk
  case dup =>
    simp only [act] at hact
    split at hact
    · obtain ⟨rfl, rfl, rfl, rfl, rfl⟩ := go_inv hact
      simp only [Nat.sub_self, Nat.add_zero] at kk
      exact lv_dup hx hb (okb_dec hok rfl) rfl (kk H locs ls hw hl)
    · obtain ⟨rfl, rfl, rfl, rfl, rfl⟩ := go_inv hact
      simp only [Nat.sub_self, Nat.add_zero] at kk
      exact lv_dup hx hb (okb_dec hok rfl) rfl (kk H locs ls hw hl)
    · cases hact
  case dup2 =>
    obtain ⟨i, q, r, rfl, hact⟩ := wir_inv hact
    obtain ⟨rfl, rfl, rfl, rfl, rfl⟩ := go_inv hact
    simp only [Nat.sub_self, Nat.add_zero] at kk
    exact lv_dup2_11 hx hb (okb_dec hok rfl) rfl rfl (kk H locs ls hw hl)
  case pop =>
    obtain ⟨x, r, rfl, hact⟩ := w1_inv hact
    obtain ⟨rfl, rfl, rfl, rfl, rfl⟩ := go_inv hact
    simp only [Nat.sub_self, Nat.add_zero] at kk
    exact lv_pop hx hb (okb_dec hok rfl) rfl (kk H locs ls hw hl)
  case getfield idx =>
    simp only [act] at hact
    simp only [okI] at hi
    split at hact
    · obtain ⟨q, r, rfl, hact⟩ := wr_inv hact
      obtain ⟨h1, hact⟩ := grd_inv hact
      obtain ⟨rfl, rfl, rfl, rfl, rfl⟩ := go_inv hact
      simp only [Nat.sub_self, Nat.add_zero] at kk
      simp only [Bool.and_eq_true, Bool.not_eq_true'] at hi
      exact so_getI C (okb_dec hok rfl) hi.1 hi.2 h1 hw hl kk
    · obtain ⟨j, r, rfl, hact⟩ := wS_inv hact
      obtain ⟨h1, hact⟩ := grd_inv hact
      obtain ⟨rfl, rfl, rfl, rfl, rfl⟩ := go_inv hact
      simp only [Nat.sub_self, Nat.add_zero] at kk
      have hj : j < 2 := by have := Nat.le_of_ble_eq_true h1; omega
      have hk := kk H locs ls hw hl
      rw [List.map_cons, show cv base ak (.retAddr (10 + j)) = .ref (ak.1 (10 + j)) from if_pos (by omega)] at hk
      rw [List.map_cons, show cv base ak (.retAddr j) = .ref (ak.1 j) from if_pos (by omega)]
      exact vk_getf hx hb (hSF.2.1.1 j hj).2.2.1 hw.2.2 hown (hts' _ (in_lnk hM (of_decide_eq_true hi))) (fun _ h => h) (okb_dec hok rfl) hk
    · obtain ⟨j, r, rfl, hact⟩ := wS_inv hact
      obtain ⟨h1, hact⟩ := grd_inv hact
      obtain ⟨rfl, rfl, rfl, rfl, rfl⟩ := go_inv hact
      simp only [Nat.sub_self, Nat.add_zero] at kk
      have hj : j < 2 := by have := Nat.le_of_ble_eq_true h1; omega
      have hk := kk H locs ls hw hl
      rw [List.map_cons, show cv base ak (.retAddr j) = .ref (ak.1 j) from if_pos (by omega)]
      exact vk_getf hx hb (hSF.2.1.1 j hj).2.1 hw.2.2 hown (hts' _ (in_lnk hM (of_decide_eq_true hi))) (fun _ h => h) (okb_dec hok rfl) hk
    · obtain ⟨q, r, rfl, hact⟩ := wr_inv hact
      obtain ⟨h1, hact⟩ := grd_inv hact
      obtain ⟨v, h2, hact⟩ := ofO_inv hact
      obtain ⟨rfl, rfl, rfl, rfl, rfl⟩ := go_inv hact
      simp only [Nat.sub_self, Nat.add_zero] at kk
      simp only [Bool.and_eq_true] at hi
      exact so_getR C (okb_dec hok rfl) hi.1 hi.2 h1 h2 hw hl kk
    · cases hact
  case getstatic idx =>
    simp only [act] at hact
    simp only [okI] at hi
    split at hact
    · obtain ⟨rfl, rfl, rfl, rfl, rfl⟩ := go_inv hact
      simp only [Nat.sub_self, Nat.add_zero] at kk
      exact va_gets hx hb hSF.2.2.1 hw.2.2 hown (hts' _ (in_lnk hM (of_decide_eq_true hi))) (fun _ h => h) (okb_dec hok rfl) (kk H locs ls hw hl)
    · obtain ⟨rfl, rfl, rfl, rfl, rfl⟩ := go_inv hact
      simp only [Nat.sub_self, Nat.add_zero] at kk
      have hk := kk H locs ls hw hl
      rw [List.map_cons, show cv base ak (.retAddr 20) = va_rf ak.2 from rfl] at hk
      exact va_gets hx hb hSF.2.2.2 hw.2.2 hown (hts' _ (in_lnk hM (of_decide_eq_true hi))) (fun _ h => h) (okb_dec hok rfl) hk
    · cases hact
  case putfield idx =>
    simp only [act] at hact
    simp only [okI] at hi
    split at hact
    · obtain ⟨x, q, r, rfl, hact⟩ := wir_inv hact
      obtain ⟨h1, hact⟩ := grd_inv hact
      obtain ⟨rfl, rfl, rfl, rfl, rfl⟩ := go_inv hact
      simp only [Nat.sub_self, Nat.add_zero] at kk
      simp only [Bool.and_eq_true, Bool.not_eq_true', decide_eq_true_eq] at hi
      exact so_putI C (okb_dec hok rfl) hi.1.1 hi.1.2 rfl rfl rfl hi.2 h1 hw hl kk
    · obtain ⟨x, q, r, rfl, hact⟩ := wir_inv hact
      obtain ⟨h1, hact⟩ := grd_inv hact
      obtain ⟨rfl, rfl, rfl, rfl, rfl⟩ := go_inv hact
      simp only [Nat.sub_self, Nat.add_zero] at kk
      simp only [Bool.and_eq_true, Bool.not_eq_true', decide_eq_true_eq] at hi
      simp only [Bool.and_eq_true, Bool.or_eq_true, decide_eq_true_eq] at h1
      refine so_putI C (okb_dec hok rfl) hi.1.1 hi.1.2 rfl ?_ ?_ hi.2 h1.1 hw hl kk
      · rcases h1.2 with h | h <;> rw [h] <;> decide
      · rcases h1.2 with h | h <;> rw [h] <;> decide
    · obtain ⟨v, q, r, rfl, hact⟩ := wrr_inv hact
      obtain ⟨h1, hact⟩ := grd_inv hact
      obtain ⟨rfl, rfl, rfl, rfl, rfl⟩ := go_inv hact
      simp only [Bool.and_eq_true] at h1
      obtain ⟨hq, hsh⟩ := isO_eq h1.1
      rw [List.length_set, szG_set hq (by rw [hsh]; rfl)] at kk
      simp only [Nat.sub_self, Nat.add_zero] at kk
      simp only [Bool.and_eq_true, decide_eq_true_eq] at hi
      exact so_putR C (okb_dec hok rfl) hi.1.1.1.1 hi.1.1.1.2 hi.1.1.2 hi.1.2 hi.2 h1.1 (Nat.le_of_ble_eq_true h1.2) hw hl kk
    · cases hact
  case iaload =>
    obtain ⟨i, q, r, rfl, hact⟩ := wir_inv hact
    obtain ⟨h1, hact⟩ := grd_inv hact
    obtain ⟨rfl, rfl, rfl, rfl, rfl⟩ := go_inv hact
    simp only [Nat.sub_self, Nat.add_zero] at kk
    simp only [Bool.and_eq_true] at h1
    exact so_iald C (okb_dec hok rfl) h1.1 h1.2 hw hl kk
  case baload =>
    simp only [act] at hact
    split at hact
    · obtain ⟨i, q, r, rfl, hact⟩ := wir_inv hact
      obtain ⟨h1, hact⟩ := grd_inv hact
      obtain ⟨rfl, rfl, rfl, rfl, rfl⟩ := go_inv hact
      simp only [Nat.sub_self, Nat.add_zero] at kk
      simp only [Bool.and_eq_true] at h1
      exact so_bald C (okb_dec hok rfl) h1.1 h1.2 hw hl kk
    · obtain ⟨i, j, r, rfl, hact⟩ := wiS_inv hact
      obtain ⟨h1, hact⟩ := grd_inv hact
      obtain ⟨rfl, rfl, rfl, rfl, rfl⟩ := go_inv hact
      simp only [Nat.sub_self, Nat.add_zero] at kk
      simp only [Bool.and_eq_true] at h1
      have hj1 := Nat.le_of_ble_eq_true h1.1.1
      have hj2 := Nat.le_of_ble_eq_true h1.1.2
      obtain ⟨k, rfl⟩ : ∃ k, j = 10 + k := ⟨j - 10, by omega⟩
      rw [Nat.add_sub_cancel_left] at h1 kk
      have hk := kk H locs ls hw hl
      rw [List.map_cons, List.map_cons, show cv base ak (.retAddr (10 + k)) = .ref (ak.1 (10 + k)) from if_pos (by omega)]
      have hT := (hSF.2.1.1 k (by omega)).2.2.2
      have hle : lenS.getD k 0 = slen k := by
        rcases (show k = 0 ∨ k = 1 by omega) with rfl | rfl <;> decide +kernel
      refine va_tb hx hb hT hw.2.2 (by rw [hle]; exact inb_in h1.2) ?_ (okb_dec hok rfl) hk
      have hb2 : ∀ n, ((bytS.getD k []).getD n 0 : Int32) = Int32.ofNat ((strT.getD k []).getD n 0) := by
        intro n
        have h5 : bytS.getD k [] = (strT.getD k []).map Int32.ofNat := by
          rcases (show k = 0 ∨ k = 1 by omega) with rfl | rfl <;> rfl
        rw [h5]
        generalize strT.getD k [] = t
        simp only [List.getD_eq_getElem?_getD, List.getElem?_map]
        cases t[n]? <;> rfl
      show Value.int _ = Value.int (schr k i)
      rw [hb2]
      rfl
    · cases hact
  case aaload =>
    obtain ⟨i, q, r, rfl, hact⟩ := wir_inv hact
    obtain ⟨h1, hact⟩ := grd_inv hact
    obtain ⟨v, h2, hact⟩ := ofO_inv hact
    obtain ⟨rfl, rfl, rfl, rfl, rfl⟩ := go_inv hact
    simp only [Nat.sub_self, Nat.add_zero] at kk
    simp only [Bool.and_eq_true] at h1
    exact so_aald C (okb_dec hok rfl) h1.1 h1.2 h2 hw hl kk
  case iastore =>
    obtain ⟨x, i, q, r, rfl, hact⟩ := wiir_inv hact
    obtain ⟨h1, hact⟩ := grd_inv hact
    obtain ⟨rfl, rfl, rfl, rfl, rfl⟩ := go_inv hact
    simp only [Nat.sub_self, Nat.add_zero] at kk
    simp only [Bool.and_eq_true] at h1
    exact so_iast C (okb_dec hok rfl) h1.1 h1.2 hw hl kk
  case bastore =>
    obtain ⟨x, i, q, r, rfl, hact⟩ := wiir_inv hact
    obtain ⟨h1, hact⟩ := grd_inv hact
    obtain ⟨rfl, rfl, rfl, rfl, rfl⟩ := go_inv hact
    simp only [Nat.sub_self, Nat.add_zero] at kk
    simp only [Bool.and_eq_true] at h1
    exact so_bast C (okb_dec hok rfl) h1.1 h1.2 hw hl kk
  case aastore =>
    obtain ⟨v, i, q, r, rfl, hact⟩ := wrir_inv hact
    obtain ⟨h1, hact⟩ := grd_inv hact
    obtain ⟨rfl, rfl, rfl, rfl, rfl⟩ := go_inv hact
    simp only [Bool.and_eq_true] at h1
    obtain ⟨⟨⟨h1a, h1b⟩, h1c⟩, h1d⟩ := h1
    obtain ⟨hq, hsh⟩ := kd_eq (by decide) h1a
    rw [List.length_set, szG_set hq (by rw [hsh]; rfl)] at kk
    simp only [Nat.sub_self, Nat.add_zero] at kk
    exact so_aast C (okb_dec hok rfl) h1a h1b h1c (Nat.le_of_ble_eq_true h1d) hw hl kk
  case arraylength =>
    simp only [act] at hact
    split at hact
    · obtain ⟨j, r, rfl, hact⟩ := wS_inv hact
      obtain ⟨h1, hact⟩ := grd_inv hact
      obtain ⟨rfl, rfl, rfl, rfl, rfl⟩ := go_inv hact
      simp only [Nat.sub_self, Nat.add_zero] at kk
      simp only [Bool.and_eq_true] at h1
      have hj1 := Nat.le_of_ble_eq_true h1.1
      have hj2 := Nat.le_of_ble_eq_true h1.2
      obtain ⟨k, rfl⟩ : ∃ k, j = 10 + k := ⟨j - 10, by omega⟩
      rw [Nat.add_sub_cancel_left] at kk
      have hk := kk H locs ls hw hl
      rw [List.map_cons, show cv base ak (.retAddr (10 + k)) = .ref (ak.1 (10 + k)) from if_pos (by omega)]
      have hT := (hSF.2.1.1 k (by omega)).2.2.2
      have hle : lenS.getD k 0 = slen k := by
        rcases (show k = 0 ∨ k = 1 by omega) with rfl | rfl <;> decide +kernel
      exact va_tlen hx hb hT hw.2.2 (by rw [hle]) (okb_dec hok rfl) hk
    · obtain ⟨q, r, rfl, hact⟩ := wr_inv hact
      obtain ⟨h1, hact⟩ := grd_inv hact
      obtain ⟨rfl, rfl, rfl, rfl, rfl⟩ := go_inv hact
      simp only [Nat.sub_self, Nat.add_zero] at kk
      exact so_alen C (okb_dec hok rfl) h1 hw hl kk
    · cases hact
  case new idx =>
    simp only [act] at hact
    simp only [okI] at hi
    split at hact
    · obtain ⟨rfl, rfl, rfl, rfl, rfl⟩ := go_inv hact
      simp only [Bool.and_eq_true, decide_eq_true_eq] at hi
      rw [List.length_append, szG_push] at kk
      rw [szG_push] at hrs
      rw [List.length_append] at hrc
      simp only [List.length_singleton, Nat.add_sub_cancel_left] at hrc hrs kk
      exact so_new C (okb_dec hok rfl) (Nat.le_of_ble_eq_true hi.1) hi.2 hbs hg0 hrc hrs hw hl kk
    · cases hact
  case newarray t =>
    obtain ⟨n, r, rfl, hact⟩ := w1_inv hact
    obtain ⟨h1, hact⟩ := grd_inv hact
    obtain ⟨rfl, rfl, rfl, rfl, rfl⟩ := go_inv hact
    simp only [Bool.and_eq_true, Bool.not_eq_true', decide_eq_false_iff_not, Bool.or_eq_true, decide_eq_true_eq] at h1
    have hsz : shSz (bif decide (t = .int) then 1 else 2, n.toNatClampNeg, []) = n.toNatClampNeg := by
      cases decide (t = .int) <;> rfl
    rw [List.length_append, szG_push, hsz] at kk
    rw [szG_push, hsz] at hrs
    rw [List.length_append] at hrc
    simp only [List.length_singleton, Nat.add_sub_cancel_left] at hrc hrs kk
    exact so_newa C (okb_dec hok rfl) h1.2 h1.1.1 (Nat.le_of_ble_eq_true h1.1.2) hbs hg0 hrc hrs hw hl kk
  case anewarray idx =>
    simp only [act] at hact
    simp only [okI] at hi
    split at hact
    · obtain ⟨n, r, rfl, hact⟩ := w1_inv hact
      obtain ⟨h1, hact⟩ := grd_inv hact
      obtain ⟨rfl, rfl, rfl, rfl, rfl⟩ := go_inv hact
      simp only [Bool.and_eq_true, Bool.not_eq_true', decide_eq_false_iff_not] at h1
      have hsz : shSz (3, n.toNatClampNeg, List.replicate n.toNatClampNeg none) = n.toNatClampNeg := rfl
      rw [List.length_append, szG_push, hsz] at kk
      rw [szG_push, hsz] at hrs
      rw [List.length_append] at hrc
      simp only [List.length_singleton, Nat.add_sub_cancel_left] at hrc hrs kk
      exact so_anew C (okb_dec hok rfl) (of_decide_eq_true hi) h1.1 (Nat.le_of_ble_eq_true h1.2) hbs hg0 hrc hrs hw hl kk
    · cases hact
  case invokevirtual idx =>
    simp only [act, actV] at hact
    split at hact
    · obtain ⟨q, r, -, hact⟩ := wr_inv hact
      obtain ⟨-, hact⟩ := grd_inv hact
      unfold cal at hact
      cases hh : (Nat.blt _ nM && (rOk r && List.all _ isIR)) <;> rw [hh] at hact <;> cases hact
    · obtain ⟨q, r, -, hact⟩ := wS_inv hact
      obtain ⟨-, hact⟩ := grd_inv hact
      unfold cal at hact
      cases hh : (Nat.blt _ nM && (rOk r && List.all _ isIR)) <;> rw [hh] at hact <;> cases hact
    · cases hact
  case invokespecial idx =>
    simp only [act, actI] at hact
    simp only [okI] at hi
    split at hact
    · obtain ⟨q, r, -, hact⟩ := wr_inv hact
      unfold cal at hact
      cases hh : (Nat.blt _ nM && (rOk r && List.all _ isIR)) <;> rw [hh] at hact <;> cases hact
    · obtain ⟨q, r, -, hact⟩ := wr_inv hact
      unfold cal at hact
      cases hh : (Nat.blt _ nM && (rOk r && List.all _ isIR)) <;> rw [hh] at hact <;> cases hact
    · obtain ⟨q, r, rfl, hact⟩ := wr_inv hact
      obtain ⟨h1, hact⟩ := grd_inv hact
      obtain ⟨rfl, rfl, rfl, rfl, rfl⟩ := go_inv hact
      simp only [Nat.sub_self, Nat.add_zero] at kk
      exact so_objI C hls (okb_dec hok rfl) (of_decide_eq_true hi) h1 hw hl kk
    · cases hact
  case invokestatic idx =>
    simp only [act, actS] at hact
    simp only [okI] at hi
    split at hact
    · obtain ⟨-, hact⟩ := grd_inv hact
      unfold cal at hact
      cases hh : (Nat.blt _ nM && (rOk (List.drop _ st) && List.all _ isIR)) <;> rw [hh] at hact <;> cases hact
    · obtain ⟨-, hact⟩ := grd_inv hact
      unfold cal at hact
      cases hh : (Nat.blt _ nM && (rOk (List.drop _ st) && List.all _ isIR)) <;> rw [hh] at hact <;> cases hact
    · obtain ⟨n, dp, b, sp, a, r, rfl, hact⟩ := wcp_inv hact
      obtain ⟨h1, hact⟩ := grd_inv hact
      obtain ⟨rfl, rfl, rfl, rfl, rfl⟩ := go_inv hact
      simp only [Nat.sub_self, Nat.add_zero] at kk
      simp only [Bool.and_eq_true, Bool.not_eq_true', decide_eq_false_iff_not] at h1
      obtain ⟨⟨⟨⟨⟨⟨⟨a1, a2⟩, a3⟩, a4⟩, a5⟩, a6⟩, a7⟩, a8⟩ := h1
      exact so_copy C hls (okb_dec hok rfl) (of_decide_eq_true hi) a1 a2 a3 a4 a5 a6 (Nat.le_of_ble_eq_true a7) (Nat.le_of_ble_eq_true a8) hw hl kk
    · cases hact
  case ireturn =>
    simp only [act] at hact
    split at hact
    · obtain ⟨-, hact⟩ := grd_inv hact
      cases hact
    · cases hact
  case areturn =>
    simp only [act] at hact
    split at hact <;> cases hact
  case return_ =>
    simp only [act] at hact
    split at hact <;> cases hact
  all_goals (cases hact)
end SAL
