section CAL
variable {D : va_G} {cs : ClassId × ClassId × ClassId} {base : Nat} {ak : AK}
set_option maxHeartbeats 4000000 in
theorem snd_call {l : Launch} (TG : TGood) (MI : MInfOk) {d M pc len : Nat} {i : Instr} {aux : List Nat} {L st as rest : List Value} {G G1 G' : Gam} {σ σ1 σ' : Sig} {r r1 : Option Value} {M' : Nat} (hok : okb M pc (i, len, aux) = true) (ha : act M pc L st G σ i aux = some (.inr (.inl (M', as, rest))))
    (hg1 : G.length ≤ G1.length) (hg2 : szG G ≤ szG G1) (hg3 : G1.length ≤ G'.length) (hg4 : szG G1 ≤ szG G') (h1 : Sn l D cs base ak d M' 0 (ent M' as) [] G σ r1 G1 σ1) (h2 : Sn l D cs base ak (d + 1) M (pc + 3) L (r1.toList ++ rest) G1 σ1 r G' σ') : Sn l D cs base ak (d + 1) M pc L st G σ r G' σ' := by
  intro p e R s m args below meth c H locs cells slots ls g0 z0 mc ms C hr hlocks hfr hlo hrc hrs hw hl hL hbs hg0 hz0 hmc hms
  refine W_sz fun hsz => ?_
  have hlow := so_low hw hbs (by omega)
  have hz : H.size = base + G.length := by omega
  have hi := okb_i hok
  have hx := C.1
  have hb := C.2.1
  have hml := C.2.2.1
  have hown := C.2.2.2.1
  have hts := C.2.2.2.2.1
  have hts' : ∀ w ∈ TB, w.before args s = true := fun w h => hts w (List.mem_cons_of_mem _ h)
  have hM : M < nM := C.2.2.2.2.2.2.2.2.2.2.2.2.1
  have hSF := C.2.2.2.2.2.2.2.2.2.2.2.2.2
  have hN := C.2.2.2.2.2.2.2.2.1
  have hK := C.2.2.2.2.2.2.2.1
  have hls : ls.size = mL M := hl.1
  have hmc1 : (G1.length - G.length) + G.length = G1.length := by omega
  have hms1 : (szG G1 - szG G) + szG G = szG G1 := by omega
  have hf : cells + (G1.length - G.length) ≤ R.cells ∧ slots + (szG G1 - szG G) ≤ R.slots := by omega
  have cont : ∀ (H1 : Heap) (locs1 : List Loc), Wo D cs base (AA base) s.heap G1 σ1 H1 locs1 → W p l e R s m args below meth c H1 locs1 (cells + (G1.length - G.length)) (slots + (szG G1 - szG G)) (MQ below (QcM D cs base ak r G' σ') args s mc ms (AA base)) (F0 m (pc + 3) ls ((r1.map (cv base ak)).toList ++ rest.map (cv base ak))) := by
    intro H1 locs1 hw1
    have h3 := h2 p e R s m args below meth c H1 locs1 (cells + (G1.length - G.length)) (slots + (szG G1 - szG G)) ls g0 z0 mc ms C hr hlocks hfr hlo hrc hrs hw1 hl hL hbs (by omega) (by omega) hmc hms
    rw [List.map_append] at h3
    cases r1 <;> exact h3
  have hroom : ∀ (M1 : Nat), M1 < nM → (rmD d (G1.length - G.length) (szG G1 - szG G)).frames + 1 ≤ R.frames ∧ 8 + (mL M1 + 11) + (rmD d (G1.length - G.length) (szG G1 - szG G)).locals ≤ R.locals := by
    intro M1 hM1
    have := (MI M1 hM1).2
    have e1 : (rmD d (G1.length - G.length) (szG G1 - szG G)).frames = d + 10 := rfl
    have e2 : (rmD d (G1.length - G.length) (szG G1 - szG G)).locals = 40 * (d + 10) := rfl
    rw [e1, e2]
    omega
  have hinv := act_isInv ha
  cases i
  case invokevirtual idx =>
    simp only [act, actV] at ha
    simp only [okI] at hi
    split at ha
    · rename_i M1 n ci
      obtain ⟨q, r0, hst, ha⟩ := wr_inv ha
      obtain ⟨hO, ha⟩ := grd_inv ha
      obtain ⟨rfl, rfl, rfl, hM', hrk, hall⟩ := cal_inv ha
      simp only [Bool.and_eq_true, decide_eq_true_eq] at hi
      obtain ⟨⟨⟨⟨hC, hci⟩, how⟩, hlk⟩, hln⟩ := hi
      obtain ⟨-, hmk, hpar, hne1, hne2⟩ := okC_inv hC
      obtain ⟨hs1, hs2⟩ := take_drop_st (base := base) (ak := ak) (q := 0) hst
      obtain ⟨hq, hsh⟩ := isO_eq hO
      have hci' : ci < 13 := Nat.le_of_ble_eq_true hci
      obtain ⟨w1, w2, w3⟩ := (slf_in hM').1 hmk
      have hlen : (Value.ref q :: (st.take n).reverse).length ≤ mL M1 := by
        have h5 := Nat.le_of_ble_eq_true hln
        rw [List.length_map] at hs2
        simp only [List.length_cons]
        omega
      have hMet := met_of (D := D) (cs := cs) MI hM' (mc := G1.length - G.length) (ms := szG G1 - szG G) hall hlen hmc1 hms1 h1
      have he : (wF cs base G σ)[q]? = some (base + q, .inr (ci, (List.range (clsA ci).2.2).map (fV base ci (shp G q).2.2 (σ q)))) := by
        rw [wF_at hq]; rw [hsh]; rfl
      have hgood : GoodIn (cdc M :: TB) (wsV (own M) idx (own M1) (mN M1) (cdc M1 :: TB)) := by
        unfold wsV
        refine goodIn_app2 (good_T TG ?_) (good_in TG hM')
        intro w hw
        simp only [List.mem_cons, List.not_mem_nil, or_false] at hw
        rcases hw with rfl | rfl | rfl | rfl
        · exact in_lnk hM hlk
        · exact w2
        · exact w3
        · exact w1
      rw [hs1]
      refine run_W (va_runV (As := ((st.take n).reverse).map (cv base ak)) (rest := r0.map (cv base ak)) ⟨hx, hb, hml, hown, hts⟩ hMet (cwV n hts hgood rfl rfl rfl ⟨rfl, hne1, hne2, hpar⟩ (hroom M1 hM')) ⟨PcM_blind, ?_, pre_of C hw hz⟩ rfl hs2 hls rfl (lv_room (rOk_sum hrk)) (okb_dec hok rfl) hf) hw.2.2 cont
      have h6 := va_recv hK hw.1 (cls_at ci hci') he
      rw [how]
      exact h6
    · rename_i M1 n
      obtain ⟨j, r0, hst, ha⟩ := wS_inv ha
      obtain ⟨hj, ha⟩ := grd_inv ha
      obtain ⟨rfl, rfl, rfl, hM', hrk, hall⟩ := cal_inv ha
      simp only [Bool.and_eq_true, decide_eq_true_eq] at hi
      obtain ⟨⟨⟨hC, how⟩, hlk⟩, hln⟩ := hi
      obtain ⟨-, hmk, hpar, hne1, hne2⟩ := okC_inv hC
      obtain ⟨hs1, hs2⟩ := take_drop_st (base := base) (ak := ak) (q := 0) hst
      have hj' : j < 2 := by have := Nat.le_of_ble_eq_true hj; omega
      obtain ⟨w1, w2, w3⟩ := (slf_in hM').1 hmk
      have hlen : (Value.retAddr j :: (st.take n).reverse).length ≤ mL M1 := by
        have h5 := Nat.le_of_ble_eq_true hln
        rw [List.length_map] at hs2
        simp only [List.length_cons]
        omega
      have hMet := met_of (D := D) (cs := cs) MI hM' (mc := G1.length - G.length) (ms := szG G1 - szG G) hall hlen hmc1 hms1 h1
      have hgood : GoodIn (cdc M :: TB) (wsV (own M) idx (own M1) (mN M1) (cdc M1 :: TB)) := by
        unfold wsV
        refine goodIn_app2 (good_T TG ?_) (good_in TG hM')
        intro w hw
        simp only [List.mem_cons, List.not_mem_nil, or_false] at hw
        rcases hw with rfl | rfl | rfl | rfl
        · exact in_lnk hM hlk
        · exact w2
        · exact w3
        · exact w1
      have hcv : cv base ak (.retAddr j) = .ref (ak.1 j) := if_pos (by omega)
      rw [hs1, hcv]
      refine run_W (va_runV (b := ak.1 j) (As := ((st.take n).reverse).map (cv base ak)) (rest := r0.map (cv base ak)) ⟨hx, hb, hml, hown, hts⟩ hMet (cwV n hts hgood rfl rfl rfl ⟨rfl, hne1, hne2, hpar⟩ (hroom M1 hM')) ⟨PcM_blind, ?_, ?_⟩ rfl hs2 hls rfl (lv_room (rOk_sum hrk)) (okb_dec hok rfl) hf) hw.2.2 cont
      · rw [how]
        exact vk_recv hSF.2.1 hj' hw.2.2
      · have h7 := pre_of (as := Value.retAddr j :: (st.take n).reverse) C hw hz
        rw [List.map_cons, hcv] at h7
        exact h7
    · cases ha
  case invokespecial idx =>
    simp only [act, actI] at ha
    simp only [okI] at hi
    split at ha
    · rename_i M1 n
      obtain ⟨q, r0, hst, ha⟩ := wr_inv ha
      obtain ⟨rfl, rfl, rfl, hM', hrk, hall⟩ := cal_inv ha
      simp only [Bool.and_eq_true, decide_eq_true_eq] at hi
      obtain ⟨⟨⟨⟨hC, hnm⟩, hmr⟩, hlk⟩, hln⟩ := hi
      obtain ⟨-, hmk, hpar, hne1, hne2⟩ := okC_inv hC
      obtain ⟨hs1, hs2⟩ := take_drop_st (base := base) (ak := ak) (q := 0) hst
      obtain ⟨w1, w2⟩ := (slf_in hM').2.1 hmk
      have hlen : (Value.ref q :: (st.take n).reverse).length ≤ mL M1 := by
        have h5 := Nat.le_of_ble_eq_true hln
        rw [List.length_map] at hs2
        simp only [List.length_cons]
        omega
      have hMet := met_of (D := D) (cs := cs) MI hM' (mc := G1.length - G.length) (ms := szG G1 - szG G) hall hlen hmc1 hms1 h1
      rw [hs1]
      refine run_W (va_runI (As := ((st.take n).reverse).map (cv base ak)) (rest := r0.map (cv base ak)) ⟨hx, hb, hml, hown, hts⟩ hMet (cwI n hts (good_in TG hM') (show cdc M1 :: TB = Cond.code (mN M1) (mB M1) (mL M1) none :: TB by rw [← hmr]; rfl) rfl rfl (hts' _ w1) (hts' _ (in_lnk hM hlk)) (hts' _ w2) hnm ⟨hne1, hne2, hpar⟩ (hroom M1 hM')) ⟨PcM_blind, pre_of C hw hz⟩ rfl hs2 hls rfl (lv_room (rOk_sum hrk)) (okb_dec hok rfl) hf) hw.2.2 cont
    · rename_i M1 n
      obtain ⟨q, r0, hst, ha⟩ := wr_inv ha
      obtain ⟨rfl, rfl, rfl, hM', hrk, hall⟩ := cal_inv ha
      simp only [Bool.and_eq_true, decide_eq_true_eq] at hi
      obtain ⟨⟨⟨⟨hC, hnm⟩, hmr⟩, hlk⟩, hln⟩ := hi
      obtain ⟨-, hmk, hpar, hne1, hne2⟩ := okC_inv hC
      obtain ⟨hs1, hs2⟩ := take_drop_st (base := base) (ak := ak) (q := 0) hst
      obtain ⟨w1, w2⟩ := (slf_in hM').2.1 hmk
      have hlen : (Value.ref q :: (st.take n).reverse).length ≤ mL M1 := by
        have h5 := Nat.le_of_ble_eq_true hln
        rw [List.length_map] at hs2
        simp only [List.length_cons]
        omega
      have hMet := met_of (D := D) (cs := cs) MI hM' (mc := G1.length - G.length) (ms := szG G1 - szG G) hall hlen hmc1 hms1 h1
      rw [hs1]
      refine run_W (va_runIN (As := ((st.take n).reverse).map (cv base ak)) (rest := r0.map (cv base ak)) ⟨hx, hb, hml, hown, hts⟩ hMet ⟨va_cnB n hts (good_in TG hM') (show cdc M1 :: TB = Cond.code (mN M1) (mB M1) (mL M1) none :: TB by rw [← hmr]; rfl) rfl rfl (hN _ hlk) (hts' _ w1) ⟨hne1, hne2, hpar⟩ (hroom M1 hM'), hnm, hts' _ w2⟩ ⟨PcM_blind, pre_of C hw hz⟩ rfl hs2 hls rfl (lv_room (rOk_sum hrk)) (okb_dec hok rfl) hf) hw.2.2 cont
    · obtain ⟨_, _, _, ha⟩ := wr_inv ha
      obtain ⟨_, ha⟩ := grd_inv ha
      cases ha
    · cases ha
  case invokestatic idx =>
    simp only [act, actS] at ha
    simp only [okI] at hi
    split at ha
    · rename_i M1 n
      obtain ⟨hn, ha⟩ := grd_inv ha
      obtain ⟨rfl, rfl, rfl, hM', hrk, hall⟩ := cal_inv ha
      simp only [Bool.and_eq_true, decide_eq_true_eq] at hi
      obtain ⟨⟨hC, hlk⟩, hln⟩ := hi
      obtain ⟨-, hmk, hpar, hne1, hne2⟩ := okC_inv hC
      have hn' := Nat.le_of_ble_eq_true hn
      obtain ⟨w1, w2⟩ := (slf_in hM').2.2 hmk
      have hs2 : (((st.take n).reverse).map (cv base ak)).length = n := by
        rw [List.length_map, List.length_reverse, List.length_take]; omega
      have hs1 : st.map (cv base ak) = (((st.take n).reverse).map (cv base ak)).reverse ++ (st.drop n).map (cv base ak) := by
        rw [List.map_reverse, List.reverse_reverse, ← List.map_append, List.take_append_drop]
      have hlen : ((st.take n).reverse).length ≤ mL M1 := by
        have h5 := Nat.le_of_ble_eq_true hln
        rw [List.length_map] at hs2
        omega
      have hMet := met_of (D := D) (cs := cs) MI hM' (mc := G1.length - G.length) (ms := szG G1 - szG G) hall hlen hmc1 hms1 h1
      rw [hs1]
      refine run_W (va_runS (As := ((st.take n).reverse).map (cv base ak)) (rest := (st.drop n).map (cv base ak)) ⟨hx, hb, hml, hown, hts⟩ hMet ⟨callB_of n hts (good_in TG hM') rfl rfl rfl (hts' _ w1) (hts' _ (in_lnk hM hlk)) ⟨hne1, hne2, hpar⟩ (hroom M1 hM'), hts' _ w2⟩ ⟨PcM_blind, pre_of C hw hz⟩ rfl hs2 hls rfl (lv_room (rOk_sum hrk)) (okb_dec hok rfl) hf) hw.2.2 cont
    · rename_i M1 n
      obtain ⟨hn, ha⟩ := grd_inv ha
      obtain ⟨rfl, rfl, rfl, hM', hrk, hall⟩ := cal_inv ha
      simp only [Bool.and_eq_true, decide_eq_true_eq] at hi
      obtain ⟨⟨hC, hlk⟩, hln⟩ := hi
      obtain ⟨-, hmk, hpar, hne1, hne2⟩ := okC_inv hC
      have hn' := Nat.le_of_ble_eq_true hn
      obtain ⟨w1, w2⟩ := (slf_in hM').2.2 hmk
      have hs2 : (((st.take n).reverse).map (cv base ak)).length = n := by
        rw [List.length_map, List.length_reverse, List.length_take]; omega
      have hs1 : st.map (cv base ak) = (((st.take n).reverse).map (cv base ak)).reverse ++ (st.drop n).map (cv base ak) := by
        rw [List.map_reverse, List.reverse_reverse, ← List.map_append, List.take_append_drop]
      have hlen : ((st.take n).reverse).length ≤ mL M1 := by
        have h5 := Nat.le_of_ble_eq_true hln
        rw [List.length_map] at hs2
        omega
      have hMet := met_of (D := D) (cs := cs) MI hM' (mc := G1.length - G.length) (ms := szG G1 - szG G) hall hlen hmc1 hms1 h1
      rw [hs1]
      refine run_W (va_runSN (As := ((st.take n).reverse).map (cv base ak)) (rest := (st.drop n).map (cv base ak)) ⟨hx, hb, hml, hown, hts⟩ hMet ⟨va_cnB n hts (good_in TG hM') rfl rfl rfl (hN _ hlk) (hts' _ w1) ⟨hne1, hne2, hpar⟩ (hroom M1 hM'), hts' _ w2, trivial⟩ ⟨PcM_blind, pre_of C hw hz⟩ rfl hs2 hls rfl (lv_room (rOk_sum hrk)) (okb_dec hok rfl) hf) hw.2.2 cont
    · obtain ⟨_, _, _, _, _, _, _, ha⟩ := wcp_inv ha
      obtain ⟨_, ha⟩ := grd_inv ha
      cases ha
    · cases ha
  all_goals (cases hinv)
/-- the pure machine's answer is the real machine's -/
theorem snd {l : Launch} (TG : TGood) (MI : MInfOk) (OK : OKAll) : ∀ (n d M pc : Nat) (L st : List Value) (G : Gam) (σ : Sig) (r : Option Value) (G' : Gam) (σ' : Sig), M < nM → exec n d M pc L st G σ = some (r, G', σ') → Sn l D cs base ak d M pc L st G σ r G' σ' := by
  intro n
  induction n with
  | zero => intro d M pc L st G σ r G' σ' _ h; cases h
  | succ n ih =>
    intro d M pc L st G σ r G' σ' hM h
    rw [exec] at h
    split at h
    · cases h
    · rename_i i len aux hi
      have hok := OK M pc _ hM hi
      cases ha : act M pc L st G σ i aux with
      | none => rw [ha] at h; cases h
      | some x =>
        rw [ha] at h
        match x, h, ha with
        | .inl (pc1, L1, st1, G1, σ1), h, ha =>
          have h1 := ih _ _ _ _ _ _ _ _ _ _ hM h
          have hg := exec_gr _ _ _ _ _ _ _ _ _ _ _ h
          have hg1 := act_gr _ _ _ _ _ ha
          intro p e R s m args below meth c H locs cells slots ls g0 z0 mc ms C hr hlocks hfr hlo hrc hrs hw hl hL hbs hg0 hz0 hmc hms
          refine step_ok C hok ha hw hl hL hbs hg0 (by omega) (by omega) ?_
          intro H' locs' ls' hw' hl'
          exact h1 p e R s m args below meth c H' locs' _ _ ls' g0 z0 mc ms C hr hlocks hfr hlo hrc hrs hw' hl' (by rw [hg1.2.2]; exact hL) hbs (by omega) (by omega) hmc hms
        | .inr (.inl (M', as, rest)), h, ha =>
          match d, h with
          | d' + 1, h =>
            simp only [nxt] at h
            cases hc : exec n d' M' 0 (ent M' as) [] G σ with
            | none => rw [hc] at h; cases h
            | some o1 =>
              obtain ⟨r1, G1, σ1⟩ := o1
              rw [hc] at h
              have hM' : M' < nM := by
                exact act_calM ha
              have g1 := exec_gr _ _ _ _ _ _ _ _ _ _ _ hc
              have g2 := exec_gr _ _ _ _ _ _ _ _ _ _ _ h
              exact snd_call TG MI hok ha g1.1 g1.2 g2.1 g2.2 (ih _ _ _ _ _ _ _ _ _ _ hM' hc) (ih _ _ _ _ _ _ _ _ _ _ hM h)
        | .inr (.inr r0), h, ha =>
          cases h
          exact snd_ret hok ha
end CAL
