section SOK
variable {p : Program} {l : Launch} {e : Env} {R : Room} {s : State} {m : MethodId} {args : Array Value} {below : List Frame} {meth : Method} {c : Code} {Q : State → Prop}
variable {D : va_G} {cs : ClassId × ClassId × ClassId} {base : Nat} {ak : AK} {A : Nat → Prop} {M : Nat}
variable {pc len pc' : Nat} {aux : List Nat} {L st L' st' : List Value} {G G' : Gam} {σ σ' : Sig} {H : Heap} {locs : List Loc} {cells slots : Nat} {ls : Array Slot}
/-- the goal behind a step -/
def Kk (p : Program) (l : Launch) (e : Env) (R : Room) (s : State) (m : MethodId) (args : Array Value) (below : List Frame) (meth : Method) (c : Code) (Q : State → Prop) (D : va_G) (cs : ClassId × ClassId × ClassId) (base : Nat) (ak : AK) (A : Nat → Prop) (M cells slots pc' : Nat) (L' st' : List Value) (G' : Gam) (σ' : Sig) : Prop :=
  ∀ (H' : Heap) (locs' : List Loc) (ls' : Array Slot), Wo D cs base A s.heap G' σ' H' locs' → lv_has ls' (mL M) (lpF base ak 0 L') → W p l e R s m args below meth c H' locs' cells slots Q (F0 m pc' ls' (st'.map (cv base ak)))
theorem so_put {q : Nat} {f : Nat → Int32} {H1 : Heap} {locs1 : List Loc} (hq : q < G.length) (hP : va_P D cls ((wF cs base G σ).set q (base + q, eF cs base (shp G q) f)) H1) (hD : va_D A ((wF cs base G σ).set q (base + q, eF cs base (shp G q) f))) (hS : va_S A s.heap H1 locs1) : Wo D cs base A s.heap G (sup σ q f) H1 locs1 := by
  rw [wF_set hq] at hP hD
  exact ⟨hP, hD, hS⟩
theorem so_putG {q : Nat} {sh : Sh} {H1 : Heap} {locs1 : List Loc} (hq : q < G.length) (hP : va_P D cls ((wF cs base G σ).set q (base + q, eF cs base sh (σ q))) H1) (hD : va_D A ((wF cs base G σ).set q (base + q, eF cs base sh (σ q)))) (hS : va_S A s.heap H1 locs1) : Wo D cs base A s.heap (G.set q sh) σ H1 locs1 := by
  rw [wF_setG hq] at hP hD
  exact ⟨hP, hD, hS⟩
theorem W_sz {g : JFrame} (h : H.size ≤ s.heap.size + cells → W p l e R s m args below meth c H locs cells slots Q g) : W p l e R s m args below meth c H locs cells slots Q g := by
  intro T hT X
  have h1 : T.heap.size ≤ s.heap.size + cells := X.same.2.2.1
  rw [hT] at h1
  exact h h1 T hT X
theorem so_low {g0 : Nat} (hw : Wo D cs base A s.heap G σ H locs) (hb : s.heap.size = base + g0) (hg : g0 ≤ G.length) : base + G.length ≤ H.size := by
  by_cases h0 : G.length = g0
  · rw [h0, ← hb]; exact hw.2.2.1
  · have hq : G.length - 1 < G.length := by omega
    have h1 := (hw.1 (G.length - 1) _ (wF_at hq)).lt
    simp only at h1
    omega
theorem so_fV {ci k : Nat} {rs : List (Option Nat)} {f : Nat → Int32} (hk : k < (clsA ci).2.2) : ((List.range (clsA ci).2.2).map (fV base ci rs f))[k]? = some (fV base ci rs f k) := by
  simp [hk]
theorem okF_inv {idx ci k : Nat} (h : okF M idx ci k = true) : ci < 13 ∧ k < (clsA ci).2.2 ∧ Cond.fieldLink (own M) idx (clsA ci).1 ((clsA ci).2.1 k).2.1 ((clsA ci).2.1 k).2.2.1 ∈ lnk M ∧ ((clsA ci).2.1 k).1 = (clsA ci).1 := by
  unfold okF at h
  simp only [Bool.and_eq_true, decide_eq_true_eq] at h
  obtain ⟨h1, ⟨h2, h3⟩, h4⟩ := h
  exact ⟨Nat.le_of_ble_eq_true h1, Nat.le_of_ble_eq_true h2, h3, h4⟩
theorem so_getI (C : Cx p R s m args meth c D cs ak A M) {idx ci k q : Nat} {r : List Value} (hd : decode (mB M) pc = .ok (.getfield idx, 3)) (hF : okF M idx ci k = true) (hr : isRefT (tyA ci k) = false) (hO : isO G q ci = true) (hw : Wo D cs base A s.heap G σ H locs) (hl : lv_has ls (mL M) (lpF base ak 0 L))
    (kk : Kk p l e R s m args below meth c Q D cs base ak A M cells slots (pc + 3) L (.int (σ q k) :: r) G σ) : W p l e R s m args below meth c H locs cells slots Q (F0 m pc ls ((Value.ref q :: r).map (cv base ak))) := by
  obtain ⟨hx, hb, hml, hown, hts, hnm, hA, hK, hN, hAO, hfr, hlo, hM, hSF⟩ := C
  obtain ⟨hci, hk, hlk, hdc⟩ := okF_inv hF
  obtain ⟨hq, hsh⟩ := isO_eq hO
  have hts' : ∀ w ∈ TB, w.before args s = true := fun w h => hts w (List.mem_cons_of_mem _ h)
  have he : (wF cs base G σ)[q]? = some (base + q, .inr (ci, (List.range (clsA ci).2.2).map (fV base ci (shp G q).2.2 (σ q)))) := by
    rw [wF_at hq]; rw [hsh]; rfl
  have hv : ((List.range (clsA ci).2.2).map (fV base ci (shp G q).2.2 (σ q)))[k]? = some (.int (σ q k)) := by
    rw [so_fV hk]; unfold fV; rw [hr]; rfl
  exact va_get (D := D) (C := (clsA ci).1) (T := (clsA ci).2.1) (N := (clsA ci).2.2) (ci := ci) hx hb hts' (cls_lays hci) hown hK hw.1 q he (cls_at ci hci) k hk (hts' _ (in_lnk hM hlk)) (fun x h => by rw [hdc] at h; exact h) hv hd (kk H locs ls hw hl)
theorem so_getR (C : Cx p R s m args meth c D cs ak A M) {idx ci k q v : Nat} {r : List Value} (hd : decode (mB M) pc = .ok (.getfield idx, 3)) (hF : okF M idx ci k = true) (hr : isRefT (tyA ci k) = true) (hO : isO G q ci = true) (hv0 : (shp G q).2.2.getD k none = some v) (hw : Wo D cs base A s.heap G σ H locs) (hl : lv_has ls (mL M) (lpF base ak 0 L))
    (kk : Kk p l e R s m args below meth c Q D cs base ak A M cells slots (pc + 3) L (.ref v :: r) G σ) : W p l e R s m args below meth c H locs cells slots Q (F0 m pc ls ((Value.ref q :: r).map (cv base ak))) := by
  obtain ⟨hx, hb, hml, hown, hts, hnm, hA, hK, hN, hAO, hfr, hlo, hM, hSF⟩ := C
  obtain ⟨hci, hk, hlk, hdc⟩ := okF_inv hF
  obtain ⟨hq, hsh⟩ := isO_eq hO
  have hts' : ∀ w ∈ TB, w.before args s = true := fun w h => hts w (List.mem_cons_of_mem _ h)
  have he : (wF cs base G σ)[q]? = some (base + q, .inr (ci, (List.range (clsA ci).2.2).map (fV base ci (shp G q).2.2 (σ q)))) := by
    rw [wF_at hq]; rw [hsh]; rfl
  have hv : ((List.range (clsA ci).2.2).map (fV base ci (shp G q).2.2 (σ q)))[k]? = some (.ref (base + v)) := by
    rw [so_fV hk]; unfold fV; rw [hr, hv0]; rfl
  exact va_get (D := D) (C := (clsA ci).1) (T := (clsA ci).2.1) (N := (clsA ci).2.2) (ci := ci) hx hb hts' (cls_lays hci) hown hK hw.1 q he (cls_at ci hci) k hk (hts' _ (in_lnk hM hlk)) (fun x h => by rw [hdc] at h; exact h) hv hd (kk H locs ls hw hl)
theorem fV_set {ci k : Nat} {rs : List (Option Nat)} {f : Nat → Int32} {x : Int32} (hr : isRefT (tyA ci k) = false) : ((List.range (clsA ci).2.2).map (fV base ci rs f)).set k (.int x) = (List.range (clsA ci).2.2).map (fV base ci rs (upd f k x)) := by
  apply List.ext_getElem?
  intro j
  by_cases hj : j < (clsA ci).2.2
  · by_cases hjk : j = k
    · subst hjk
      rw [List.getElem?_set_self (by simpa using hj)]
      simp [hj, fV, hr, upd]
    · rw [List.getElem?_set_ne (Ne.symm hjk)]
      simp [hj, fV, upd, hjk]
  · rw [List.getElem?_eq_none (by simp; omega), List.getElem?_eq_none (by simp; omega)]
theorem fV_setR {ci k v : Nat} {rs : List (Option Nat)} {f : Nat → Int32} (hr : isRefT (tyA ci k) = true) (hl : k < rs.length) : ((List.range (clsA ci).2.2).map (fV base ci rs f)).set k (.ref (base + v)) = (List.range (clsA ci).2.2).map (fV base ci (rs.set k (some v)) f) := by
  apply List.ext_getElem?
  intro j
  by_cases hj : j < (clsA ci).2.2
  · by_cases hjk : j = k
    · subst hjk
      rw [List.getElem?_set_self (by simpa using hj)]
      simp [hj, fV, hr, List.getD, List.getElem?_set_self hl, va_rf]
    · rw [List.getElem?_set_ne (Ne.symm hjk)]
      simp [hj, fV, List.getD, List.getElem?_set_ne (Ne.symm hjk)]
  · rw [List.getElem?_eq_none (by simp; omega), List.getElem?_eq_none (by simp; omega)]
theorem so_putI (C : Cx p R s m args meth c D cs ak A M) {idx ci k q : Nat} {x : Int32} {r : List Value} (hd : decode (mB M) pc = .ok (.putfield idx, 3)) (hF : okF M idx ci k = true) {ty : FieldType} (ht : tyA ci k = ty) (hr : isRefT ty = false) (hn : narrow ty (.int x) = .int x) (hf : fits ty (.int x) = true) (hfin : ((clsA ci).2.1 k).2.2.2 = false) (hO : isO G q ci = true) (hw : Wo D cs base A s.heap G σ H locs) (hl : lv_has ls (mL M) (lpF base ak 0 L))
    (kk : Kk p l e R s m args below meth c Q D cs base ak A M cells slots (pc + 3) L r G (sup σ q (upd (σ q) k x))) : W p l e R s m args below meth c H locs cells slots Q (F0 m pc ls ((Value.int x :: .ref q :: r).map (cv base ak))) := by
  obtain ⟨hx, hb, hml, hown, hts, hnm, hA, hK, hN, hAO, hfr, hlo, hM, hSF⟩ := C
  obtain ⟨hci, hk, hlk, hdc⟩ := okF_inv hF
  obtain ⟨hq, hsh⟩ := isO_eq hO
  have hts' : ∀ w ∈ TB, w.before args s = true := fun w h => hts w (List.mem_cons_of_mem _ h)
  have he : (wF cs base G σ)[q]? = some (base + q, .inr (ci, (List.range (clsA ci).2.2).map (fV base ci (shp G q).2.2 (σ q)))) := by
    rw [wF_at hq]; rw [hsh]; rfl
  refine va_put (D := D) (C := (clsA ci).1) (T := (clsA ci).2.1) (N := (clsA ci).2.2) (ci := ci) (ty := ty) hx hb hts' (cls_lays hci) (tyA ci) (cls_ty ci hci) (cls_nm ci hci) hown hK hw.1 hw.2.1 hw.2.2 q he (cls_at ci hci) k hk (hts' _ (in_lnk hM hlk)) (fun x h => by rw [hdc] at h; exact h) hfin (by rw [cls_ty ci hci k hk, ht]) hn hf (by simpa using hk) hd (fun H1 locs1 hP hD hS => ?_)
  refine kk H1 locs1 ls ?_ hl
  rw [show cv base ak (Value.int x) = .int x from rfl, fV_set (by rw [ht]; exact hr)] at hP hD
  refine so_put hq ?_ ?_ hS
  · rw [hsh]; exact hP
  · rw [hsh]; exact hD
theorem so_putR (C : Cx p R s m args meth c D cs ak A M) {idx ci k q v : Nat} {r : List Value} (hd : decode (mB M) pc = .ok (.putfield idx, 3)) (hF : okF M idx ci k = true) (hr : isRefT (tyA ci k) = true) (hfin : ((clsA ci).2.1 k).2.2.2 = true) (hin : (mN M).name = "<init>") (how : own M = (clsA ci).1) (hO : isO G q ci = true) (hkl : k < (shp G q).2.2.length) (hw : Wo D cs base A s.heap G σ H locs) (hl : lv_has ls (mL M) (lpF base ak 0 L))
    (kk : Kk p l e R s m args below meth c Q D cs base ak A M cells slots (pc + 3) L r (G.set q (0, ci, (shp G q).2.2.set k (some v))) σ) : W p l e R s m args below meth c H locs cells slots Q (F0 m pc ls ((Value.ref v :: .ref q :: r).map (cv base ak))) := by
  obtain ⟨hx, hb, hml, hown, hts, hnm, hA, hK, hN, hAO, hfr, hlo, hM, hSF⟩ := C
  obtain ⟨hci, hk, hlk, hdc⟩ := okF_inv hF
  obtain ⟨hq, hsh⟩ := isO_eq hO
  have hts' : ∀ w ∈ TB, w.before args s = true := fun w h => hts w (List.mem_cons_of_mem _ h)
  have he : (wF cs base G σ)[q]? = some (base + q, .inr (ci, (List.range (clsA ci).2.2).map (fV base ci (shp G q).2.2 (σ q)))) := by
    rw [wF_at hq]; rw [hsh]; rfl
  have hnr : narrow (tyA ci k) (.ref (base + v)) = .ref (base + v) := by
    generalize tyA ci k = ty at hr
    cases ty <;> first | rfl | (simp [isRefT] at hr; done)
  have hfr : fits (tyA ci k) (.ref (base + v)) = true := by
    generalize tyA ci k = ty at hr
    cases ty <;> first | rfl | (simp [isRefT] at hr; done)
  refine va_putF (D := D) (C := (clsA ci).1) (T := (clsA ci).2.1) (N := (clsA ci).2.2) (ci := ci) (ty := tyA ci k) hx hb hts' (cls_lays hci) (tyA ci) (cls_ty ci hci) (cls_nm ci hci) hown hK hw.1 hw.2.1 hw.2.2 q he (cls_at ci hci) k hk (hts' _ (in_lnk hM hlk)) (fun x h => by rw [hdc] at h; exact h) hfin (hnm.trans hin) (hdc.trans how.symm) (cls_ty ci hci k hk) hnr hfr (by simpa using hk) hd (fun H1 locs1 hP hD hS => ?_)
  refine kk H1 locs1 ls ?_ hl
  rw [show cv base ak (Value.ref v) = .ref (base + v) from rfl, fV_setR hr hkl] at hP hD
  exact so_putG hq hP hD hS
theorem inb_in {i : Int32} {n : Nat} (h : inb i n = true) : vp_in i n := by
  unfold inb at h
  have h1 : ¬ (i < 0 ∨ n ≤ i.toNatClampNeg) := of_decide_eq_true h
  exact h1
theorem so_iald (C : Cx p R s m args meth c D cs ak A M) {q : Nat} {i : Int32} {r : List Value} (hd : decode (mB M) pc = .ok (.iaload, 1)) (hk : ((shp G q).1 == 1) = true) (hin : inb i (shp G q).2.1 = true) (hw : Wo D cs base A s.heap G σ H locs) (hl : lv_has ls (mL M) (lpF base ak 0 L))
    (kk : Kk p l e R s m args below meth c Q D cs base ak A M cells slots (pc + 1) L (.int (σ q i.toNatClampNeg) :: r) G σ) : W p l e R s m args below meth c H locs cells slots Q (F0 m pc ls ((Value.int i :: .ref q :: r).map (cv base ak))) := by
  obtain ⟨hq, hsh⟩ := kd_eq (by decide) hk
  have he : (wF cs base G σ)[q]? = some (base + q, .inl (cs.1, (shp G q).2.1, .inl (σ q))) := by
    rw [wF_at hq]; rw [hsh]; rfl
  exact va_iald C.1 C.2.1 C.2.2.2.2.2.2.2.1 hw.1 q 0 he rfl (inb_in hin) hd (kk H locs ls hw hl)
theorem so_bald (C : Cx p R s m args meth c D cs ak A M) {q : Nat} {i : Int32} {r : List Value} (hd : decode (mB M) pc = .ok (.baload, 1)) (hk : ((shp G q).1 == 2) = true) (hin : inb i (shp G q).2.1 = true) (hw : Wo D cs base A s.heap G σ H locs) (hl : lv_has ls (mL M) (lpF base ak 0 L))
    (kk : Kk p l e R s m args below meth c Q D cs base ak A M cells slots (pc + 1) L (.int (σ q i.toNatClampNeg) :: r) G σ) : W p l e R s m args below meth c H locs cells slots Q (F0 m pc ls ((Value.int i :: .ref q :: r).map (cv base ak))) := by
  obtain ⟨hq, hsh⟩ := kd_eq (by decide) hk
  have he : (wF cs base G σ)[q]? = some (base + q, .inl (cs.2.1, (shp G q).2.1, .inl (σ q))) := by
    rw [wF_at hq]; rw [hsh]; rfl
  exact va_bald C.1 C.2.1 C.2.2.2.2.2.2.2.1 hw.1 q 1 he rfl (inb_in hin) hd (kk H locs ls hw hl)
theorem so_aald (C : Cx p R s m args meth c D cs ak A M) {q v : Nat} {i : Int32} {r : List Value} (hd : decode (mB M) pc = .ok (.aaload, 1)) (hk : ((shp G q).1 == 3) = true) (hin : inb i (shp G q).2.1 = true) (hv : (shp G q).2.2.getD i.toNatClampNeg none = some v) (hw : Wo D cs base A s.heap G σ H locs) (hl : lv_has ls (mL M) (lpF base ak 0 L))
    (kk : Kk p l e R s m args below meth c Q D cs base ak A M cells slots (pc + 1) L (.ref v :: r) G σ) : W p l e R s m args below meth c H locs cells slots Q (F0 m pc ls ((Value.int i :: .ref q :: r).map (cv base ak))) := by
  obtain ⟨hq, hsh⟩ := kd_eq (by decide) hk
  have he : (wF cs base G σ)[q]? = some (base + q, .inl (cs.2.2, (shp G q).2.1, .inr (.inr (.inr (.inr (fun j => ((shp G q).2.2.getD j none).map fun r => base + r)))))) := by
    rw [wF_at hq]; rw [hsh]; rfl
  refine va_aldq C.1 C.2.1 C.2.2.2.2.2.2.2.1 hw.1 q 2 he rfl (inb_in hin) hd ?_
  rw [hv]
  exact kk H locs ls hw hl
theorem so_iast (C : Cx p R s m args meth c D cs ak A M) {q : Nat} {i x : Int32} {r : List Value} (hd : decode (mB M) pc = .ok (.iastore, 1)) (hk : ((shp G q).1 == 1) = true) (hin : inb i (shp G q).2.1 = true) (hw : Wo D cs base A s.heap G σ H locs) (hl : lv_has ls (mL M) (lpF base ak 0 L))
    (kk : Kk p l e R s m args below meth c Q D cs base ak A M cells slots (pc + 1) L r G (sup σ q (upd (σ q) i.toNatClampNeg x))) : W p l e R s m args below meth c H locs cells slots Q (F0 m pc ls ((Value.int x :: .int i :: .ref q :: r).map (cv base ak))) := by
  obtain ⟨hq, hsh⟩ := kd_eq (by decide) hk
  have he : (wF cs base G σ)[q]? = some (base + q, .inl (cs.1, (shp G q).2.1, .inl (σ q))) := by
    rw [wF_at hq]; rw [hsh]; rfl
  refine va_iast C.1 C.2.1 C.2.2.2.2.2.2.2.1 hw.1 hw.2.1 hw.2.2 q 0 he rfl (inb_in hin) hd (fun H1 locs1 hP hD hS => ?_)
  refine kk H1 locs1 ls (so_put hq ?_ ?_ hS) hl
  · rw [hsh]; exact hP
  · rw [hsh]; exact hD
theorem so_bast (C : Cx p R s m args meth c D cs ak A M) {q : Nat} {i x : Int32} {r : List Value} (hd : decode (mB M) pc = .ok (.bastore, 1)) (hk : ((shp G q).1 == 2) = true) (hin : inb i (shp G q).2.1 = true) (hw : Wo D cs base A s.heap G σ H locs) (hl : lv_has ls (mL M) (lpF base ak 0 L))
    (kk : Kk p l e R s m args below meth c Q D cs base ak A M cells slots (pc + 1) L r G (sup σ q (upd (σ q) i.toNatClampNeg (vp_nar .byte x)))) : W p l e R s m args below meth c H locs cells slots Q (F0 m pc ls ((Value.int x :: .int i :: .ref q :: r).map (cv base ak))) := by
  obtain ⟨hq, hsh⟩ := kd_eq (by decide) hk
  have he : (wF cs base G σ)[q]? = some (base + q, .inl (cs.2.1, (shp G q).2.1, .inl (σ q))) := by
    rw [wF_at hq]; rw [hsh]; rfl
  refine va_bast C.1 C.2.1 C.2.2.2.2.2.2.2.1 hw.1 hw.2.1 hw.2.2 q 1 he rfl (inb_in hin) hd (fun H1 locs1 hP hD hS => ?_)
  refine kk H1 locs1 ls (so_put hq ?_ ?_ hS) hl
  · rw [hsh]; exact hP
  · rw [hsh]; exact hD
theorem up_set {rs : List (Option Nat)} {k v : Nat} (h : k < rs.length) : va_up (fun j => (rs.getD j none).map fun r => base + r) k (some (base + v)) = fun j => ((rs.set k (some v)).getD j none).map fun r => base + r := by
  funext j
  by_cases hj : j = k
  · subst hj
    simp [va_up, List.getD, List.getElem?_set_self h]
  · simp [va_up, hj, List.getD, List.getElem?_set_ne (Ne.symm hj)]
theorem so_aast (C : Cx p R s m args meth c D cs ak A M) {q v : Nat} {i : Int32} {r : List Value} (hd : decode (mB M) pc = .ok (.aastore, 1)) (hk : ((shp G q).1 == 3) = true) (hin : inb i (shp G q).2.1 = true) (hO : isO G v 4 = true) (hkl : i.toNatClampNeg < (shp G q).2.2.length) (hw : Wo D cs base A s.heap G σ H locs) (hl : lv_has ls (mL M) (lpF base ak 0 L))
    (kk : Kk p l e R s m args below meth c Q D cs base ak A M cells slots (pc + 1) L r (G.set q (3, (shp G q).2.1, (shp G q).2.2.set i.toNatClampNeg (some v))) σ) : W p l e R s m args below meth c H locs cells slots Q (F0 m pc ls ((Value.ref v :: .int i :: .ref q :: r).map (cv base ak))) := by
  obtain ⟨hq, hsh⟩ := kd_eq (by decide) hk
  obtain ⟨hv, hshv⟩ := isO_eq hO
  have he : (wF cs base G σ)[q]? = some (base + q, .inl (cs.2.2, (shp G q).2.1, .inr (.inr (.inr (.inr (fun j => ((shp G q).2.2.getD j none).map fun r => base + r)))))) := by
    rw [wF_at hq]; rw [hsh]; rfl
  have hev : (wF cs base G σ)[v]? = some (base + v, .inr (4, (List.range (clsA 4).2.2).map (fV base 4 (shp G v).2.2 (σ v)))) := by
    rw [wF_at hv]; rw [hshv]; rfl
  refine va_astq C.1 C.2.1 C.2.2.2.2.2.2.2.1 hw.1 hw.2.1 hw.2.2 q 2 v 4 (r := clsA 4) he rfl hev (cls_at 4 (by decide)) (inb_in hin) hd (fun H1 locs1 hP hD hS => ?_)
  rw [up_set hkl] at hP hD
  exact kk H1 locs1 ls (so_putG hq hP hD hS) hl
theorem so_alen (C : Cx p R s m args meth c D cs ak A M) {q : Nat} {r : List Value} (hd : decode (mB M) pc = .ok (.arraylength, 1)) (hk : ((shp G q).1 == 1 || (shp G q).1 == 2) = true) (hw : Wo D cs base A s.heap G σ H locs) (hl : lv_has ls (mL M) (lpF base ak 0 L))
    (kk : Kk p l e R s m args below meth c Q D cs base ak A M cells slots (pc + 1) L (.int (Int32.ofNat (shp G q).2.1) :: r) G σ) : W p l e R s m args below meth c H locs cells slots Q (F0 m pc ls ((Value.ref q :: r).map (cv base ak))) := by
  rcases (Bool.or_eq_true _ _).mp hk with hk | hk
  · obtain ⟨hq, hsh⟩ := kd_eq (by decide) hk
    have he : (wF cs base G σ)[q]? = some (base + q, .inl (cs.1, (shp G q).2.1, .inl (σ q))) := by
      rw [wF_at hq]; rw [hsh]; rfl
    exact va_alen C.1 C.2.1 C.2.2.2.2.2.2.2.1 hw.1 q 0 he (ty := .int) rfl rfl hd (kk H locs ls hw hl)
  · obtain ⟨hq, hsh⟩ := kd_eq (by decide) hk
    have he : (wF cs base G σ)[q]? = some (base + q, .inl (cs.2.1, (shp G q).2.1, .inl (σ q))) := by
      rw [wF_at hq]; rw [hsh]; rfl
    exact va_alen C.1 C.2.1 C.2.2.2.2.2.2.2.1 hw.1 q 1 he (ty := .byte) rfl rfl hd (kk H locs ls hw hl)
theorem so_copy (C : Cx p R s m args meth c D cs ak A M) {idx a b : Nat} {n sp dp : Int32} {r : List Value} (hls : ls.size = mL M) (hd : decode (mB M) pc = .ok (.invokestatic idx, 3)) (hlk : Cond.methodLink (own M) idx arraycopyName ∈ lnk M) (hr : rOk r = true) (hka : ((shp G a).1 == 1) = true) (hkb : ((shp G b).1 == 1) = true) (h1 : ¬ sp < 0) (h2 : ¬ dp < 0) (h3 : ¬ n < 0) (h4 : sp.toNatClampNeg + n.toNatClampNeg ≤ (shp G a).2.1) (h5 : dp.toNatClampNeg + n.toNatClampNeg ≤ (shp G b).2.1) (hw : Wo D cs base A s.heap G σ H locs) (hl : lv_has ls (mL M) (lpF base ak 0 L))
    (kk : Kk p l e R s m args below meth c Q D cs base ak A M cells slots (pc + 3) L r G (sup σ b (va_cpy (σ a) (σ b) sp.toNatClampNeg dp.toNatClampNeg n.toNatClampNeg))) : W p l e R s m args below meth c H locs cells slots Q (F0 m pc ls ((Value.int n :: .int dp :: .ref b :: .int sp :: .ref a :: r).map (cv base ak))) := by
  obtain ⟨hx, hb, hml, hown, hts, hnm, hA, hK, hN, hAO, hfr, hlo, hM, hSF⟩ := C
  have hts' : ∀ w ∈ TB, w.before args s = true := fun w h => hts w (List.mem_cons_of_mem _ h)
  obtain ⟨hqa, hsha⟩ := kd_eq (by decide) hka
  obtain ⟨hqb, hshb⟩ := kd_eq (by decide) hkb
  have hea : (wF cs base G σ)[a]? = some (base + a, .inl (cs.1, (shp G a).2.1, .inl (σ a))) := by
    rw [wF_at hqa]; rw [hsha]; rfl
  have heb : (wF cs base G σ)[b]? = some (base + b, .inl (cs.1, (shp G b).2.1, .inl (σ b))) := by
    rw [wF_at hqb]; rw [hshb]; rfl
  have h8 := rOk_sum (base := base) (ak := ak) hr
  have hnw : nativeFrameWords "java/lang/System" "arraycopy" 5 + 11 ≤ 92 := by decide +kernel
  refine va_copyi hx hb (hml.trans hls.symm) hown (hts' _ (in_lnk hM hlk)) (hts' _ (in_misc (by simp [miscW]))) (hts' _ (in_misc (by simp [miscW]))) (hts' _ (in_misc (by simp [miscW]))) hK hw.1 hw.2.1 hw.2.2 a b 0 0 (ty := .int) hea heb rfl rfl rfl h1 h2 h3 h4 h5 (fun _ _ => rfl) hfr (by omega) hd (fun H1 locs1 hP hD hS => ?_)
  refine kk H1 locs1 ls (so_put hqb ?_ ?_ hS) hl
  · rw [hshb]; exact hP
  · rw [hshb]; exact hD
end SOK
