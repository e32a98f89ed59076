section SNW
variable {p : Program} {l : Launch} {e : Env} {R : Room} {s : State} {m : MethodId} {args : Array Value} {below : List Frame} {meth : Method} {c : Code} {Q : State → Prop}
variable {D : va_G} {cs : ClassId × ClassId × ClassId} {base : Nat} {ak : AK} {A : Nat → Prop} {M : Nat}
variable {pc len pc' : Nat} {aux : List Nat} {L st L' st' : List Value} {G G' : Gam} {σ σ' : Sig} {H : Heap} {locs : List Loc} {cells slots : Nat} {ls : Array Slot}
theorem so_push {H1 : Heap} {sh : Sh} {f : Nat → Int32} (hw : Wo D cs base A s.heap G σ H locs) (hA : ∀ q, s.heap.size ≤ q → A q) (hz : H.size = base + G.length) (z1 : H1.size = H.size + 1) (o1 : ∀ q, q < H.size → H1[q]? = H[q]?) (hat : va_at D cls (base + G.length, eF cs base sh f) H1) :
    Wo D cs base A s.heap (G ++ [sh]) (sup σ G.length f) H1 locs := by
  obtain ⟨hP, hD, hS⟩ := hw
  have hk : ∀ (k : Nat) (x : Nat × va_E), (wF cs base G σ)[k]? = some x → H1[x.1]? = H[x.1]? := fun k x hx => o1 x.1 ((hP k x hx).lt)
  refine ⟨?_, ?_, ⟨Nat.le_trans hS.1 (by omega), fun x h1 h2 => (o1 x (Nat.lt_of_lt_of_le h1 hS.1)).trans (hS.2.1 x h1 h2), hS.2.2⟩⟩
  · rw [wF_push]
    refine (hP.kept hk).app (fun k x hx => ?_)
    have h1 : k < 1 := (List.getElem?_eq_some_iff.mp hx).1
    rw [show k = 0 by omega] at hx
    cases hx
    exact hat
  · rw [wF_push]
    refine hD.push hP hz.symm (hA _ ?_)
    have := hS.1
    omega
theorem so_objI (C : Cx p R s m args meth c D cs ak A M) {idx q : Nat} {r : List Value} (hls : ls.size = mL M) (hd : decode (mB M) pc = .ok (.invokespecial idx, 3)) (hlk : Cond.methodLink (own M) idx objectInit ∈ lnk M) (hr : rOk r = true) (hw : Wo D cs base A s.heap G σ H locs) (hl : lv_has ls (mL M) (lpF base ak 0 L))
    (kk : Kk p l e R s m args below meth c Q D cs base ak A M cells slots (pc + 3) L r G σ) : W p l e R s m args below meth c H locs cells slots Q (F0 m pc ls ((Value.ref q :: r).map (cv base ak))) := by
  obtain ⟨hx, hb, hml, hown, hts, hnm, hA, hK, hN, hAO, hfr, hlo, hM, hSF⟩ := C
  have hts' : ∀ w ∈ TB, w.before args s = true := fun w h => hts w (List.mem_cons_of_mem _ h)
  have h8 := rOk_sum (base := base) (ak := ak) hr
  have h9 := lv_room (m := m) (pc := pc) (ls := ls) (rest := ((Value.ref q :: r).map (cv base ak))) h8
  refine W.objInit hx hb hown (hts' _ (in_lnk hM hlk)) (hts' _ (in_misc (by simp [miscW]))) (hts' _ (in_misc (by simp [miscW]))) rfl (hls.trans hml.symm) (a := base + q) (rest := r.map (cv base ak)) rfl hd hfr (by omega) ?_
  exact kk H locs ls hw hl
theorem so_new (C : Cx p R s m args meth c D cs ak A M) {idx ci g0 : Nat} (hd : decode (mB M) pc = .ok (.new idx, 3)) (hci : ci < 13) (hlk : Cond.classLink (own M) idx (clsA ci).1 ∈ lnk M) (hbs : s.heap.size = base + g0) (hg0 : cells + g0 = G.length) (hrc : cells + 1 ≤ R.cells) (hrs : slots + (clsA ci).2.2 ≤ R.slots) (hw : Wo D cs base A s.heap G σ H locs) (hl : lv_has ls (mL M) (lpF base ak 0 L))
    (kk : Kk p l e R s m args below meth c Q D cs base ak A M (cells + 1) (slots + (clsA ci).2.2) (pc + 3) L (.ref G.length :: st) (G ++ [(0, ci, List.replicate (clsA ci).2.2 none)]) (sup σ G.length (fun _ => 0))) : W p l e R s m args below meth c H locs cells slots Q (F0 m pc ls (st.map (cv base ak))) := by
  refine W_sz fun hsz => ?_
  have hlow := so_low hw hbs (by omega)
  have hz : H.size = base + G.length := by omega
  obtain ⟨hx, hb, hml, hown, hts, hnm, hA, hK, hN, hAO, hfr, hlo, hM, hSF⟩ := C
  have hts' : ∀ w ∈ TB, w.before args s = true := fun w h => hts w (List.mem_cons_of_mem _ h)
  have hKn := hK.1 ci _ (cls_at ci hci)
  have hin1 : (Cond.instantiable (clsA ci).1 (clsA ci).2.2).before args s = true := hts' _ (in_inst (List.mem_flatMap.mpr ⟨ci, List.mem_range.mpr hci, by simp⟩))
  have hin2 : (Cond.initialized (clsA ci).1).before args s = true := hts' _ (in_inst (List.mem_flatMap.mpr ⟨ci, List.mem_range.mpr hci, by simp⟩))
  refine W.newcK hx hb hown (hts' _ (in_lnk hM hlk)) hin1 hin2 rfl hd hrc hrs hKn.2.1 rfl fun H1 kC hkC e1 z1 o1 => ?_
  have hcell := u_born (tyA ci) hts' (cls_lays hci) hKn hkC e1 (cls_ty ci hci)
  have := kk H1 locs ls (so_push hw hA hz z1 o1 ⟨_, cls_at ci hci, ?_⟩) hl
  · rw [hz]; exact this
  · show t_OB (base + G.length) (D.1 ci) (clsA ci).2.2 (D.2 ci) H1 (vp_V ((List.range (clsA ci).2.2).map (fV base ci (List.replicate (clsA ci).2.2 none) (fun _ => 0))))
    rw [← hz]
    refine hcell.to fun j hj => ?_
    have h0 : vp_V ((List.range (clsA ci).2.2).map (fV base ci (List.replicate (clsA ci).2.2 none) (fun _ => 0))) j = fV base ci (List.replicate (clsA ci).2.2 none) (fun _ => 0) j := by
      simp [vp_V, List.getD, hj]
    rw [h0]
    have hget : (List.replicate (clsA ci).2.2 (none : Option Nat)).getD j none = none := by
      simp [List.getD, hj]
    unfold fV
    rw [hget]
    have hnum : ∀ ci, ci < 13 → ∀ j, j < (clsA ci).2.2 → defaultValue (tyA ci j) = (bif isRefT (tyA ci j) then Value.null else .int 0) := by decide +kernel
    exact hnum ci hci j hj
theorem so_newa (C : Cx p R s m args meth c D cs ak A M) {g0 : Nat} {n : Int32} {r : List Value} {t : ArrayType} (hd : decode (mB M) pc = .ok (.newarray t, 2)) (ht : t = .int ∨ t = .byte) (hn : ¬ n < 0) (hN : n.toNatClampNeg ≤ 10000) (hbs : s.heap.size = base + g0) (hg0 : cells + g0 = G.length) (hrc : cells + 1 ≤ R.cells) (hrs : slots + n.toNatClampNeg ≤ R.slots) (hw : Wo D cs base A s.heap G σ H locs) (hl : lv_has ls (mL M) (lpF base ak 0 L))
    (kk : Kk p l e R s m args below meth c Q D cs base ak A M (cells + 1) (slots + n.toNatClampNeg) (pc + 2) L (.ref G.length :: r) (G ++ [(bif decide (t = .int) then 1 else 2, n.toNatClampNeg, [])]) (sup σ G.length (fun _ => 0))) : W p l e R s m args below meth c H locs cells slots Q (F0 m pc ls ((Value.int n :: r).map (cv base ak))) := by
  refine W_sz fun hsz => ?_
  have hlow := so_low hw hbs (by omega)
  have hz : H.size = base + G.length := by omega
  obtain ⟨hx, hb, hml, hown, hts, hnm, hA, hK, hN', hAO, hfr, hlo, hM, hSF⟩ := C
  have hts' : ∀ w ∈ TB, w.before args s = true := fun w h => hts w (List.mem_cons_of_mem _ h)
  rcases ht with rfl | rfl
  · refine va_newaK hx hb (atype := .int) (hts' (.arrayClass .int) (in_misc (by simp [miscW]))) rfl hd rfl hn rfl (by show _ * 4 ≤ _; omega) hrc hrs rfl fun H1 cA e1 z1 o1 hAr hNm => ?_
    have hcA : cs.1 = cA := by
      have h1 := (hK.2 0 _ rfl).2
      have h2 : s.vm.findClass ("[" ++ FieldType.int.toString) = some cs.1 := h1
      have h3 : s.vm.findClass ("[" ++ FieldType.int.toString) = some cA := hNm
      rw [h2] at h3
      exact Option.some.inj h3
    have := kk H1 locs ls (so_push hw hA hz (by rw [z1]) o1 ?_) hl
    · rw [hz]; exact this
    · show H1[base + G.length]? = some (vp_cell cs.1 (n.toNatClampNeg, .inl (fun _ => 0)))
      rw [← hz, hcA, vp_cell_i]
      exact e1
  · refine va_newaK hx hb (atype := .byte) (hts' (.arrayClass .byte) (in_misc (by simp [miscW]))) rfl hd rfl hn rfl (by show _ * 1 ≤ _; omega) hrc hrs rfl fun H1 cA e1 z1 o1 hAr hNm => ?_
    have hcA : cs.2.1 = cA := by
      have h1 := (hK.2 1 _ rfl).2
      have h2 : s.vm.findClass ("[" ++ FieldType.byte.toString) = some cs.2.1 := h1
      have h3 : s.vm.findClass ("[" ++ FieldType.byte.toString) = some cA := hNm
      rw [h2] at h3
      exact Option.some.inj h3
    have := kk H1 locs ls (so_push hw hA hz (by rw [z1]) o1 ?_) hl
    · rw [hz]; exact this
    · show H1[base + G.length]? = some (vp_cell cs.2.1 (n.toNatClampNeg, .inl (fun _ => 0)))
      rw [← hz, hcA, vp_cell_i]
      exact e1
theorem so_anew (C : Cx p R s m args meth c D cs ak A M) {idx g0 : Nat} {n : Int32} {r : List Value} (hd : decode (mB M) pc = .ok (.anewarray idx, 3)) (hlk : Cond.classLink (own M) idx "SixCarry$Moment" ∈ lnk M) (hn : ¬ n < 0) (hN : n.toNatClampNeg ≤ 10000) (hbs : s.heap.size = base + g0) (hg0 : cells + g0 = G.length) (hrc : cells + 1 ≤ R.cells) (hrs : slots + n.toNatClampNeg ≤ R.slots) (hw : Wo D cs base A s.heap G σ H locs) (hl : lv_has ls (mL M) (lpF base ak 0 L))
    (kk : Kk p l e R s m args below meth c Q D cs base ak A M (cells + 1) (slots + n.toNatClampNeg) (pc + 3) L (.ref G.length :: r) (G ++ [(3, n.toNatClampNeg, List.replicate n.toNatClampNeg none)]) (sup σ G.length (fun _ => 0))) : W p l e R s m args below meth c H locs cells slots Q (F0 m pc ls ((Value.int n :: r).map (cv base ak))) := by
  refine W_sz fun hsz => ?_
  have hlow := so_low hw hbs (by omega)
  have hz : H.size = base + G.length := by omega
  obtain ⟨hx, hb, hml, hown, hts, hnm, hA, hK, hN', hAO, hfr, hlo, hM, hSF⟩ := C
  have hts' : ∀ w ∈ TB, w.before args s = true := fun w h => hts w (List.mem_cons_of_mem _ h)
  refine W.anew hx hb hown (hts' _ (in_lnk hM hlk)) (va_AO.use hAO) rfl hd rfl hn (by omega) hrc hrs fun cA kA comp f1 f2 f3 f4 => ?_
  have hcA : cs.2.2 = cA := by
    obtain ⟨kA', comp', g1, g2, g3, g4⟩ := (hK.2 2 _ rfl).2
    rw [g4] at f1
    exact Option.some.inj f1
  generalize hH1 : H.push ({ cls := cA, slots := Array.replicate n.toNatClampNeg .null, vm := .none } : Cell) = H1
  have z1 : H1.size = H.size + 1 := by rw [← hH1, Array.size_push]
  have e1 : H1[H.size]? = some (arrV cA n.toNatClampNeg (fun _ => .null)) := by rw [← hH1, Array.getElem?_push_size, ← arrV_new]
  have o1 : ∀ q : Nat, q < H.size → H1[q]? = H[q]? := fun q hq => by rw [← hH1, Array.getElem?_push, if_neg (Nat.ne_of_lt hq)]
  have := kk H1 locs ls (so_push hw hA hz z1 o1 ?_) hl
  · rw [hz]; exact this
  · have hfun : (fun j => ((List.replicate n.toNatClampNeg (none : Option Nat)).getD j none).map fun r => base + r) = fun _ => none := by
      funext j
      by_cases hj : j < n.toNatClampNeg
      · simp [List.getD, hj]
      · simp [List.getD, List.getElem?_eq_none (show (List.replicate n.toNatClampNeg (none : Option Nat)).length ≤ j by simp; omega)]
    show H1[base + G.length]? = some (vp_cell cs.2.2 (n.toNatClampNeg, .inr (.inr (.inr (.inr (fun j => ((List.replicate n.toNatClampNeg (none : Option Nat)).getD j none).map fun r => base + r))))))
    rw [hfun, ← hz, hcA, vp_cell_q]
    exact e1
end SNW
