/-! the cases of the law's switch, one by one -/
def lawL : List Cond := [.methodLink R_law 13 (mN 100), .methodLink R_law 17 (mN 151), .methodLink R_law 18 (mN 101), .methodLink R_law 22 (mN 161), .methodLink R_law 23 (mN 102), .methodLink R_law 27 (mN 165), .methodLink R_law 28 (mN 103), .methodLink R_law 32 (mN 168), .methodLink R_law 33 (mN 104), .methodLink R_law 37 (mN 171), .methodLink R_law 38 (mN 105), .methodLink R_law 42 (mN 172), .methodLink R_law 43 (mN 106), .methodLink R_law 46 (mN 200), .methodLink R_law 47 (mN 107), .methodLink R_law 50 (mN 201), .methodLink R_law 51 (mN 108), .methodLink R_law 54 (mN 230), .methodLink R_law 55 (mN 109), .methodLink R_law 59 (mN 231), .methodLink R_law 60 (mN 110), .methodLink R_law 63 (mN 232), .methodLink R_law 64 (mN 111), .methodLink R_law 67 (mN 233), .methodLink R_law 68 (mN 112), .methodLink R_law 71 (mN 235), .methodLink R_law 72 (mN 113), .methodLink R_law 75 (mN 236), .methodLink R_law 76 (mN 114), .methodLink R_law 79 (mN 243), .methodLink R_law 80 (mN 115), .methodLink R_law 84 (mN 244), .methodLink R_law 85 (mN 116), .methodLink R_law 88 (mN 249), .methodLink R_law 89 (mN 117), .methodLink R_law 92 (mN 251), .methodLink R_law 93 (mN 118), .methodLink R_law 96 (mN 252), .methodLink R_law 97 (mN 119), .methodLink R_law 100 (mN 253), .methodLink R_law 101 (mN 120), .methodLink R_law 104 (mN 255), .methodLink R_law 105 (mN 121), .methodLink R_law 108 (mN 257), .methodLink R_law 109 (mN 122), .methodLink R_law 112 (mN 259), .methodLink R_law 113 (mN 123), .methodLink R_law 116 (mN 261), .methodLink R_law 117 (mN 124), .methodLink R_law 120 (mN 169), .methodLink R_law 121 (mN 125), .methodLink R_law 124 (mN 245), .methodLink R_law 125 (mN 126), .methodLink R_law 128 (mN 262), .methodLink R_law 129 (mN 127), .methodLink R_law 132 (mN 264), .methodLink R_law 133 (mN 128), .methodLink R_law 137 (mN 147), .methodLink R_law 138 (mN 129), .methodLink R_law 142 (mN 268), .methodLink R_law 143 (mN 130), .methodLink R_law 146 (mN 269), .classLink R_law 7 (clsA 11).1, .methodLink R_law 9 (mN 99), .classLink R_law 10 (clsA 12).1, .methodLink R_law 12 (mN 141)]
theorem lawL_in : psOk lawL [(3, 73), (6, 215), (3, 81), (6, 219), (3, 88), (6, 227), (3, 113), (7, 19), (3, 125), (7, 39), (3, 133), (7, 47), (3, 137), (7, 51), (4, 126), (7, 163), (4, 130), (7, 167), (5, 31), (8, 71), (5, 37), (8, 75), (5, 42), (8, 79), (5, 46), (8, 83), (5, 54), (8, 91), (5, 66), (8, 103), (5, 112), (8, 143), (5, 116), (8, 151), (5, 136), (8, 167), (5, 146), (8, 175), (5, 150), (8, 179), (5, 154), (8, 183), (5, 166), (8, 191), (5, 178), (8, 199), (5, 190), (8, 207), (5, 202), (7, 35), (5, 206), (8, 147), (5, 214), (8, 215), (5, 218), (8, 219), (5, 228), (6, 211), (5, 233), (8, 227), (6, 17), (9, 3), (1, 22), (1, 24), (6, 21), (6, 23)] = true := by decide +kernel
theorem lk {k : Nat} {w : Cond} (h : lawL[k]? = some w) : w ∈ lw_tbl := psOk_in lawL_in w (List.mem_of_getElem? h)
section LAWK
variable {p : Program} {l : Launch} {e : Env} {s : State} {m : MethodId} {below : List Frame} {meth : Method} {c : Code} {Q : State → Prop}
variable {D : va_G} {cs : ClassId × ClassId × ClassId} {ak : AK} {b L : Nat} {xs : Nat → Int32}
variable {σ : Sig} {H : Heap} {locs : List Loc} {ls : Array Slot} {i : Nat}
/-- a case from its first instruction to the loop's end -/
def LwS (p : Program) (l : Launch) (e : Env) (s : State) (m : MethodId) (below : List Frame) (meth : Method) (c : Code) (Q : State → Prop) (D : va_G) (cs : ClassId × ClassId × ClassId) (b : Nat) (ls : Array Slot) (σ : Sig) (H : Heap) (locs : List Loc) (pc : Nat) : Prop :=
  (∀ (σ2 : Sig) (H1 : Heap) (locs1 : List Loc), INV σ2 → Wo D cs s.heap.size (AA s.heap.size) s.heap G0 σ2 H1 locs1 → W p l e room_1 s m #[Value.ref b] below meth c H1 locs1 G0.length (szG G0) Q (F0 m 1021 ls [])) → W p l e room_1 s m #[Value.ref b] below meth c H locs G0.length (szG G0) Q (F0 m pc ls [])
theorem lk_0 (C : LC p s m c D cs ak b L xs) (hi : i + 6 ≤ L) (hL : L ≤ 3072) (hl : lv_has ls 4 [(0, .ref b), (1, .ref s.heap.size), (2, .ref (s.heap.size + 112)), (3, .int (nI i))]) (hI : INV σ) (hw : Wo D cs s.heap.size (AA s.heap.size) s.heap G0 σ H locs) : LwS p l e s m below meth c Q D cs b ls σ H locs 172 := by
  intro kk
  have E1 : ent 100 (.ref 0 :: (avs xs i 1 1).map Value.int) = [.ref 0, .int (av xs i 1), .null] := ent_eq (k := 3) (by decide +kernel) _
  have E2 : ent 151 (.ref 112 :: (avs xs i 1 1).map Value.int) = [.ref 112, .int (av xs i 1), .null] := ent_eq (k := 3) (by decide +kernel) _
  refine law_case C (n := 1) (M1 := 100) (M2 := 151) (i1 := 13) (i2 := 17) hi hL hl (by decide +kernel) (lk (k := 0) rfl) (lk (k := 1) rfl) hw ?_ kk
  rw [E1, E2]
  exact q_state hI _
theorem lk_1 (C : LC p s m c D cs ak b L xs) (hi : i + 6 ≤ L) (hL : L ≤ 3072) (hl : lv_has ls 4 [(0, .ref b), (1, .ref s.heap.size), (2, .ref (s.heap.size + 112)), (3, .int (nI i))]) (hI : INV σ) (hw : Wo D cs s.heap.size (AA s.heap.size) s.heap G0 σ H locs) : LwS p l e s m below meth c Q D cs b ls σ H locs 195 := by
  intro kk
  have E1 : ent 101 (.ref 0 :: (avs xs i 1 4).map Value.int) = [.ref 0, .int (av xs i 1), .int (av xs i 2), .int (av xs i 3), .int (av xs i 4), .null, .null, .null] := ent_eq (k := 8) (by decide +kernel) _
  have E2 : ent 161 (.ref 112 :: (avs xs i 1 4).map Value.int) = [.ref 112, .int (av xs i 1), .int (av xs i 2), .int (av xs i 3), .int (av xs i 4), .null] := ent_eq (k := 6) (by decide +kernel) _
  refine law_case C (n := 4) (M1 := 101) (M2 := 161) (i1 := 18) (i2 := 22) hi hL hl (by decide +kernel) (lk (k := 2) rfl) (lk (k := 3) rfl) hw ?_ kk
  rw [E1, E2]
  exact q_bearer hI _ _ _ _
theorem lk_2 (C : LC p s m c D cs ak b L xs) (hi : i + 6 ≤ L) (hL : L ≤ 3072) (hl : lv_has ls 4 [(0, .ref b), (1, .ref s.heap.size), (2, .ref (s.heap.size + 112)), (3, .int (nI i))]) (hI : INV σ) (hw : Wo D cs s.heap.size (AA s.heap.size) s.heap G0 σ H locs) : LwS p l e s m below meth c Q D cs b ls σ H locs 248 := by
  intro kk
  have E1 : ent 102 (.ref 0 :: (avs xs i 1 3).map Value.int) = [.ref 0, .int (av xs i 1), .int (av xs i 2), .int (av xs i 3), .null] := ent_eq (k := 5) (by decide +kernel) _
  have E2 : ent 165 (.ref 112 :: (avs xs i 1 3).map Value.int) = [.ref 112, .int (av xs i 1), .int (av xs i 2), .int (av xs i 3)] := ent_eq (k := 4) (by decide +kernel) _
  refine law_case C (n := 3) (M1 := 102) (M2 := 165) (i1 := 23) (i2 := 27) hi hL hl (by decide +kernel) (lk (k := 4) rfl) (lk (k := 5) rfl) hw ?_ kk
  rw [E1, E2]
  exact q_set hI _ _ _
theorem lk_3 (C : LC p s m c D cs ak b L xs) (hi : i + 6 ≤ L) (hL : L ≤ 3072) (hl : lv_has ls 4 [(0, .ref b), (1, .ref s.heap.size), (2, .ref (s.heap.size + 112)), (3, .int (nI i))]) (hI : INV σ) (hw : Wo D cs s.heap.size (AA s.heap.size) s.heap G0 σ H locs) : LwS p l e s m below meth c Q D cs b ls σ H locs 291 := by
  intro kk
  have E1 : ent 103 (.ref 0 :: (avs xs i 1 2).map Value.int) = [.ref 0, .int (av xs i 1), .int (av xs i 2)] := ent_eq (k := 3) (by decide +kernel) _
  have E2 : ent 168 (.ref 112 :: (avs xs i 1 2).map Value.int) = [.ref 112, .int (av xs i 1), .int (av xs i 2)] := ent_eq (k := 3) (by decide +kernel) _
  refine law_case C (n := 2) (M1 := 103) (M2 := 168) (i1 := 28) (i2 := 32) hi hL hl (by decide +kernel) (lk (k := 6) rfl) (lk (k := 7) rfl) hw ?_ kk
  rw [E1, E2]
  exact q_place hI _ _
theorem lk_4 (C : LC p s m c D cs ak b L xs) (hi : i + 6 ≤ L) (hL : L ≤ 3072) (hl : lv_has ls 4 [(0, .ref b), (1, .ref s.heap.size), (2, .ref (s.heap.size + 112)), (3, .int (nI i))]) (hI : INV σ) (hw : Wo D cs s.heap.size (AA s.heap.size) s.heap G0 σ H locs) : LwS p l e s m below meth c Q D cs b ls σ H locs 324 := by
  intro kk
  have E1 : ent 104 (.ref 0 :: (avs xs i 1 5).map Value.int) = [.ref 0, .int (av xs i 1), .int (av xs i 2), .int (av xs i 3), .int (av xs i 4), .int (av xs i 5)] := ent_eq (k := 6) (by decide +kernel) _
  have E2 : ent 171 (.ref 112 :: (avs xs i 1 5).map Value.int) = [.ref 112, .int (av xs i 1), .int (av xs i 2), .int (av xs i 3), .int (av xs i 4), .int (av xs i 5)] := ent_eq (k := 6) (by decide +kernel) _
  refine law_case C (n := 5) (M1 := 104) (M2 := 171) (i1 := 33) (i2 := 37) hi hL hl (by decide +kernel) (lk (k := 8) rfl) (lk (k := 9) rfl) hw ?_ kk
  rw [E1, E2]
  exact q_feed hI _ _ _ _ _
theorem lk_5 (C : LC p s m c D cs ak b L xs) (hi : i + 6 ≤ L) (hL : L ≤ 3072) (hl : lv_has ls 4 [(0, .ref b), (1, .ref s.heap.size), (2, .ref (s.heap.size + 112)), (3, .int (nI i))]) (hI : INV σ) (hw : Wo D cs s.heap.size (AA s.heap.size) s.heap G0 σ H locs) : LwS p l e s m below meth c Q D cs b ls σ H locs 387 := by
  intro kk
  have E1 : ent 105 (.ref 0 :: (avs xs i 1 1).map Value.int) = [.ref 0, .int (av xs i 1)] := ent_eq (k := 2) (by decide +kernel) _
  have E2 : ent 172 (.ref 112 :: (avs xs i 1 1).map Value.int) = [.ref 112, .int (av xs i 1)] := ent_eq (k := 2) (by decide +kernel) _
  refine law_case C (n := 1) (M1 := 105) (M2 := 172) (i1 := 38) (i2 := 42) hi hL hl (by decide +kernel) (lk (k := 10) rfl) (lk (k := 11) rfl) hw ?_ kk
  rw [E1, E2]
  exact q_end hI _
theorem lk_6 (C : LC p s m c D cs ak b L xs) (hi : i + 6 ≤ L) (hL : L ≤ 3072) (hl : lv_has ls 4 [(0, .ref b), (1, .ref s.heap.size), (2, .ref (s.heap.size + 112)), (3, .int (nI i))]) (hI : INV σ) (hw : Wo D cs s.heap.size (AA s.heap.size) s.heap G0 σ H locs) : LwS p l e s m below meth c Q D cs b ls σ H locs 410 := by
  intro kk
  have E1 : ent 106 (.ref 0 :: (avs xs i 1 1).map Value.int) = [.ref 0, .int (av xs i 1)] := ent_eq (k := 2) (by decide +kernel) _
  have E2 : ent 200 (.ref 112 :: (avs xs i 1 1).map Value.int) = [.ref 112, .int (av xs i 1), .null] := ent_eq (k := 3) (by decide +kernel) _
  refine law_case C (n := 1) (M1 := 106) (M2 := 200) (i1 := 43) (i2 := 46) hi hL hl (by decide +kernel) (lk (k := 12) rfl) (lk (k := 13) rfl) hw ?_ kk
  rw [E1, E2]
  exact q_text hI _
theorem lk_7 (C : LC p s m c D cs ak b L xs) (hi : i + 6 ≤ L) (hL : L ≤ 3072) (hl : lv_has ls 4 [(0, .ref b), (1, .ref s.heap.size), (2, .ref (s.heap.size + 112)), (3, .int (nI i))]) (hI : INV σ) (hw : Wo D cs s.heap.size (AA s.heap.size) s.heap G0 σ H locs) : LwS p l e s m below meth c Q D cs b ls σ H locs 433 := by
  intro kk
  have E1 : ent 107 (.ref 0 :: (avs xs i 1 1).map Value.int) = [.ref 0, .int (av xs i 1)] := ent_eq (k := 2) (by decide +kernel) _
  have E2 : ent 201 (.ref 112 :: (avs xs i 1 1).map Value.int) = [.ref 112, .int (av xs i 1)] := ent_eq (k := 2) (by decide +kernel) _
  refine law_case C (n := 1) (M1 := 107) (M2 := 201) (i1 := 47) (i2 := 50) hi hL hl (by decide +kernel) (lk (k := 14) rfl) (lk (k := 15) rfl) hw ?_ kk
  rw [E1, E2]
  exact q_fault hI _
theorem lk_8 (C : LC p s m c D cs ak b L xs) (hi : i + 6 ≤ L) (hL : L ≤ 3072) (hl : lv_has ls 4 [(0, .ref b), (1, .ref s.heap.size), (2, .ref (s.heap.size + 112)), (3, .int (nI i))]) (hI : INV σ) (hw : Wo D cs s.heap.size (AA s.heap.size) s.heap G0 σ H locs) : LwS p l e s m below meth c Q D cs b ls σ H locs 456 := by
  intro kk
  have E1 : ent 108 (.ref 0 :: (avs xs i 1 1).map Value.int) = [.ref 0, .int (av xs i 1), .null] := ent_eq (k := 3) (by decide +kernel) _
  have E2 : ent 230 (.ref 112 :: (avs xs i 1 1).map Value.int) = [.ref 112, .int (av xs i 1), .null] := ent_eq (k := 3) (by decide +kernel) _
  refine law_case C (n := 1) (M1 := 108) (M2 := 230) (i1 := 51) (i2 := 54) hi hL hl (by decide +kernel) (lk (k := 16) rfl) (lk (k := 17) rfl) hw ?_ kk
  rw [E1, E2]
  exact q_paces hI _
theorem lk_9 (C : LC p s m c D cs ak b L xs) (hi : i + 6 ≤ L) (hL : L ≤ 3072) (hl : lv_has ls 4 [(0, .ref b), (1, .ref s.heap.size), (2, .ref (s.heap.size + 112)), (3, .int (nI i))]) (hI : INV σ) (hw : Wo D cs s.heap.size (AA s.heap.size) s.heap G0 σ H locs) : LwS p l e s m below meth c Q D cs b ls σ H locs 479 := by
  intro kk
  have E1 : ent 109 (.ref 0 :: (avs xs i 1 2).map Value.int) = [.ref 0, .int (av xs i 1), .int (av xs i 2), .null] := ent_eq (k := 4) (by decide +kernel) _
  have E2 : ent 231 (.ref 112 :: (avs xs i 1 2).map Value.int) = [.ref 112, .int (av xs i 1), .int (av xs i 2)] := ent_eq (k := 3) (by decide +kernel) _
  refine law_case C (n := 2) (M1 := 109) (M2 := 231) (i1 := 55) (i2 := 59) hi hL hl (by decide +kernel) (lk (k := 18) rfl) (lk (k := 19) rfl) hw ?_ kk
  rw [E1, E2]
  exact q_of hI _ _
theorem lk_10 (C : LC p s m c D cs ak b L xs) (hi : i + 6 ≤ L) (hL : L ≤ 3072) (hl : lv_has ls 4 [(0, .ref b), (1, .ref s.heap.size), (2, .ref (s.heap.size + 112)), (3, .int (nI i))]) (hI : INV σ) (hw : Wo D cs s.heap.size (AA s.heap.size) s.heap G0 σ H locs) : LwS p l e s m below meth c Q D cs b ls σ H locs 512 := by
  intro kk
  have E1 : ent 110 (.ref 0 :: (avs xs i 1 2).map Value.int) = [.ref 0, .int (av xs i 1), .int (av xs i 2), .null] := ent_eq (k := 4) (by decide +kernel) _
  have E2 : ent 232 (.ref 112 :: (avs xs i 1 2).map Value.int) = [.ref 112, .int (av xs i 1), .int (av xs i 2)] := ent_eq (k := 3) (by decide +kernel) _
  refine law_case C (n := 2) (M1 := 110) (M2 := 232) (i1 := 60) (i2 := 63) hi hL hl (by decide +kernel) (lk (k := 20) rfl) (lk (k := 21) rfl) hw ?_ kk
  rw [E1, E2]
  exact q_at hI _ _
theorem lk_11 (C : LC p s m c D cs ak b L xs) (hi : i + 6 ≤ L) (hL : L ≤ 3072) (hl : lv_has ls 4 [(0, .ref b), (1, .ref s.heap.size), (2, .ref (s.heap.size + 112)), (3, .int (nI i))]) (hI : INV σ) (hw : Wo D cs s.heap.size (AA s.heap.size) s.heap G0 σ H locs) : LwS p l e s m below meth c Q D cs b ls σ H locs 545 := by
  intro kk
  have E1 : ent 111 (.ref 0 :: (avs xs i 1 2).map Value.int) = [.ref 0, .int (av xs i 1), .int (av xs i 2)] := ent_eq (k := 3) (by decide +kernel) _
  have E2 : ent 233 (.ref 112 :: (avs xs i 1 2).map Value.int) = [.ref 112, .int (av xs i 1), .int (av xs i 2)] := ent_eq (k := 3) (by decide +kernel) _
  refine law_case C (n := 2) (M1 := 111) (M2 := 233) (i1 := 64) (i2 := 67) hi hL hl (by decide +kernel) (lk (k := 22) rfl) (lk (k := 23) rfl) hw ?_ kk
  rw [E1, E2]
  exact q_book hI _ _
theorem lk_12 (C : LC p s m c D cs ak b L xs) (hi : i + 6 ≤ L) (hL : L ≤ 3072) (hl : lv_has ls 4 [(0, .ref b), (1, .ref s.heap.size), (2, .ref (s.heap.size + 112)), (3, .int (nI i))]) (hI : INV σ) (hw : Wo D cs s.heap.size (AA s.heap.size) s.heap G0 σ H locs) : LwS p l e s m below meth c Q D cs b ls σ H locs 578 := by
  intro kk
  have E1 : ent 112 (.ref 0 :: (avs xs i 1 2).map Value.int) = [.ref 0, .int (av xs i 1), .int (av xs i 2)] := ent_eq (k := 3) (by decide +kernel) _
  have E2 : ent 235 (.ref 112 :: (avs xs i 1 2).map Value.int) = [.ref 112, .int (av xs i 1), .int (av xs i 2)] := ent_eq (k := 3) (by decide +kernel) _
  refine law_case C (n := 2) (M1 := 112) (M2 := 235) (i1 := 68) (i2 := 71) hi hL hl (by decide +kernel) (lk (k := 24) rfl) (lk (k := 25) rfl) hw ?_ kk
  rw [E1, E2]
  exact q_loads hI _ _
theorem lk_13 (C : LC p s m c D cs ak b L xs) (hi : i + 6 ≤ L) (hL : L ≤ 3072) (hl : lv_has ls 4 [(0, .ref b), (1, .ref s.heap.size), (2, .ref (s.heap.size + 112)), (3, .int (nI i))]) (hI : INV σ) (hw : Wo D cs s.heap.size (AA s.heap.size) s.heap G0 σ H locs) : LwS p l e s m below meth c Q D cs b ls σ H locs 611 := by
  intro kk
  have E1 : ent 113 (.ref 0 :: (avs xs i 1 2).map Value.int) = [.ref 0, .int (av xs i 1), .int (av xs i 2)] := ent_eq (k := 3) (by decide +kernel) _
  have E2 : ent 236 (.ref 112 :: (avs xs i 1 2).map Value.int) = [.ref 112, .int (av xs i 1), .int (av xs i 2), .null, .null] := ent_eq (k := 5) (by decide +kernel) _
  refine law_case C (n := 2) (M1 := 113) (M2 := 236) (i1 := 72) (i2 := 75) hi hL hl (by decide +kernel) (lk (k := 26) rfl) (lk (k := 27) rfl) hw ?_ kk
  rw [E1, E2]
  exact q_idle hI _ _
theorem lk_14 (C : LC p s m c D cs ak b L xs) (hi : i + 6 ≤ L) (hL : L ≤ 3072) (hl : lv_has ls 4 [(0, .ref b), (1, .ref s.heap.size), (2, .ref (s.heap.size + 112)), (3, .int (nI i))]) (hI : INV σ) (hw : Wo D cs s.heap.size (AA s.heap.size) s.heap G0 σ H locs) : LwS p l e s m below meth c Q D cs b ls σ H locs 644 := by
  intro kk
  have E1 : ent 114 (.ref 0 :: (avs xs i 1 1).map Value.int) = [.ref 0, .int (av xs i 1)] := ent_eq (k := 2) (by decide +kernel) _
  have E2 : ent 243 (.ref 112 :: (avs xs i 1 1).map Value.int) = [.ref 112, .int (av xs i 1), .null] := ent_eq (k := 3) (by decide +kernel) _
  refine law_case C (n := 1) (M1 := 114) (M2 := 243) (i1 := 76) (i2 := 79) hi hL hl (by decide +kernel) (lk (k := 28) rfl) (lk (k := 29) rfl) hw ?_ kk
  rw [E1, E2]
  exact q_order hI _
theorem lk_15 (C : LC p s m c D cs ak b L xs) (hi : i + 6 ≤ L) (hL : L ≤ 3072) (hl : lv_has ls 4 [(0, .ref b), (1, .ref s.heap.size), (2, .ref (s.heap.size + 112)), (3, .int (nI i))]) (hI : INV σ) (hw : Wo D cs s.heap.size (AA s.heap.size) s.heap G0 σ H locs) : LwS p l e s m below meth c Q D cs b ls σ H locs 667 := by
  intro kk
  have E1 : ent 115 (.ref 0 :: (avs xs i 1 0).map Value.int) = [.ref 0, .null, .null, .null, .null, .null, .null] := ent_eq (k := 7) (by decide +kernel) _
  have E2 : ent 244 (.ref 112 :: (avs xs i 1 0).map Value.int) = [.ref 112, .null, .null, .null, .null, .null, .null] := ent_eq (k := 7) (by decide +kernel) _
  refine law_case C (n := 0) (M1 := 115) (M2 := 244) (i1 := 80) (i2 := 84) hi hL hl (by decide +kernel) (lk (k := 30) rfl) (lk (k := 31) rfl) hw ?_ kk
  rw [E1, E2]
  exact q_dearest hI
theorem lk_16 (C : LC p s m c D cs ak b L xs) (hi : i + 6 ≤ L) (hL : L ≤ 3072) (hl : lv_has ls 4 [(0, .ref b), (1, .ref s.heap.size), (2, .ref (s.heap.size + 112)), (3, .int (nI i))]) (hI : INV σ) (hw : Wo D cs s.heap.size (AA s.heap.size) s.heap G0 σ H locs) : LwS p l e s m below meth c Q D cs b ls σ H locs 680 := by
  intro kk
  have E1 : ent 116 (.ref 0 :: (avs xs i 1 1).map Value.int) = [.ref 0, .int (av xs i 1)] := ent_eq (k := 2) (by decide +kernel) _
  have E2 : ent 249 (.ref 112 :: (avs xs i 1 1).map Value.int) = [.ref 112, .int (av xs i 1)] := ent_eq (k := 2) (by decide +kernel) _
  refine law_case C (n := 1) (M1 := 116) (M2 := 249) (i1 := 85) (i2 := 88) hi hL hl (by decide +kernel) (lk (k := 32) rfl) (lk (k := 33) rfl) hw ?_ kk
  rw [E1, E2]
  exact q_cloths hI _
theorem lk_17 (C : LC p s m c D cs ak b L xs) (hi : i + 6 ≤ L) (hL : L ≤ 3072) (hl : lv_has ls 4 [(0, .ref b), (1, .ref s.heap.size), (2, .ref (s.heap.size + 112)), (3, .int (nI i))]) (hI : INV σ) (hw : Wo D cs s.heap.size (AA s.heap.size) s.heap G0 σ H locs) : LwS p l e s m below meth c Q D cs b ls σ H locs 703 := by
  intro kk
  have E1 : ent 117 (.ref 0 :: (avs xs i 1 1).map Value.int) = [.ref 0, .int (av xs i 1)] := ent_eq (k := 2) (by decide +kernel) _
  have E2 : ent 251 (.ref 112 :: (avs xs i 1 1).map Value.int) = [.ref 112, .int (av xs i 1)] := ent_eq (k := 2) (by decide +kernel) _
  refine law_case C (n := 1) (M1 := 117) (M2 := 251) (i1 := 89) (i2 := 92) hi hL hl (by decide +kernel) (lk (k := 34) rfl) (lk (k := 35) rfl) hw ?_ kk
  rw [E1, E2]
  exact q_far hI _
theorem lk_18 (C : LC p s m c D cs ak b L xs) (hi : i + 6 ≤ L) (hL : L ≤ 3072) (hl : lv_has ls 4 [(0, .ref b), (1, .ref s.heap.size), (2, .ref (s.heap.size + 112)), (3, .int (nI i))]) (hI : INV σ) (hw : Wo D cs s.heap.size (AA s.heap.size) s.heap G0 σ H locs) : LwS p l e s m below meth c Q D cs b ls σ H locs 726 := by
  intro kk
  have E1 : ent 118 (.ref 0 :: (avs xs i 1 0).map Value.int) = [.ref 0, .null, .null, .null, .null] := ent_eq (k := 5) (by decide +kernel) _
  have E2 : ent 252 (.ref 112 :: (avs xs i 1 0).map Value.int) = [.ref 112, .null, .null, .null, .null] := ent_eq (k := 5) (by decide +kernel) _
  refine law_case C (n := 0) (M1 := 118) (M2 := 252) (i1 := 93) (i2 := 96) hi hL hl (by decide +kernel) (lk (k := 36) rfl) (lk (k := 37) rfl) hw ?_ kk
  rw [E1, E2]
  exact q_line hI
theorem lk_19 (C : LC p s m c D cs ak b L xs) (hi : i + 6 ≤ L) (hL : L ≤ 3072) (hl : lv_has ls 4 [(0, .ref b), (1, .ref s.heap.size), (2, .ref (s.heap.size + 112)), (3, .int (nI i))]) (hI : INV σ) (hw : Wo D cs s.heap.size (AA s.heap.size) s.heap G0 σ H locs) : LwS p l e s m below meth c Q D cs b ls σ H locs 739 := by
  intro kk
  have E1 : ent 119 (.ref 0 :: (avs xs i 1 0).map Value.int) = [.ref 0, .null, .null] := ent_eq (k := 3) (by decide +kernel) _
  have E2 : ent 253 (.ref 112 :: (avs xs i 1 0).map Value.int) = [.ref 112, .null, .null] := ent_eq (k := 3) (by decide +kernel) _
  refine law_case C (n := 0) (M1 := 119) (M2 := 253) (i1 := 97) (i2 := 100) hi hL hl (by decide +kernel) (lk (k := 38) rfl) (lk (k := 39) rfl) hw ?_ kk
  rw [E1, E2]
  exact q_gates hI
theorem lk_20 (C : LC p s m c D cs ak b L xs) (hi : i + 6 ≤ L) (hL : L ≤ 3072) (hl : lv_has ls 4 [(0, .ref b), (1, .ref s.heap.size), (2, .ref (s.heap.size + 112)), (3, .int (nI i))]) (hI : INV σ) (hw : Wo D cs s.heap.size (AA s.heap.size) s.heap G0 σ H locs) : LwS p l e s m below meth c Q D cs b ls σ H locs 752 := by
  intro kk
  have E1 : ent 120 (.ref 0 :: (avs xs i 1 1).map Value.int) = [.ref 0, .int (av xs i 1)] := ent_eq (k := 2) (by decide +kernel) _
  have E2 : ent 255 (.ref 112 :: (avs xs i 1 1).map Value.int) = [.ref 112, .int (av xs i 1)] := ent_eq (k := 2) (by decide +kernel) _
  refine law_case C (n := 1) (M1 := 120) (M2 := 255) (i1 := 101) (i2 := 104) hi hL hl (by decide +kernel) (lk (k := 40) rfl) (lk (k := 41) rfl) hw ?_ kk
  rw [E1, E2]
  exact q_sways hI _
theorem lk_21 (C : LC p s m c D cs ak b L xs) (hi : i + 6 ≤ L) (hL : L ≤ 3072) (hl : lv_has ls 4 [(0, .ref b), (1, .ref s.heap.size), (2, .ref (s.heap.size + 112)), (3, .int (nI i))]) (hI : INV σ) (hw : Wo D cs s.heap.size (AA s.heap.size) s.heap G0 σ H locs) : LwS p l e s m below meth c Q D cs b ls σ H locs 775 := by
  intro kk
  have E1 : ent 121 (.ref 0 :: (avs xs i 1 1).map Value.int) = [.ref 0, .int (av xs i 1)] := ent_eq (k := 2) (by decide +kernel) _
  have E2 : ent 257 (.ref 112 :: (avs xs i 1 1).map Value.int) = [.ref 112, .int (av xs i 1), .null] := ent_eq (k := 3) (by decide +kernel) _
  refine law_case C (n := 1) (M1 := 121) (M2 := 257) (i1 := 105) (i2 := 108) hi hL hl (by decide +kernel) (lk (k := 42) rfl) (lk (k := 43) rfl) hw ?_ kk
  rw [E1, E2]
  exact q_goes hI _
theorem lk_22 (C : LC p s m c D cs ak b L xs) (hi : i + 6 ≤ L) (hL : L ≤ 3072) (hl : lv_has ls 4 [(0, .ref b), (1, .ref s.heap.size), (2, .ref (s.heap.size + 112)), (3, .int (nI i))]) (hI : INV σ) (hw : Wo D cs s.heap.size (AA s.heap.size) s.heap G0 σ H locs) : LwS p l e s m below meth c Q D cs b ls σ H locs 798 := by
  intro kk
  have E1 : ent 122 (.ref 0 :: (avs xs i 1 0).map Value.int) = [.ref 0] := ent_eq (k := 1) (by decide +kernel) _
  have E2 : ent 259 (.ref 112 :: (avs xs i 1 0).map Value.int) = [.ref 112, .null] := ent_eq (k := 2) (by decide +kernel) _
  refine law_case C (n := 0) (M1 := 122) (M2 := 259) (i1 := 109) (i2 := 112) hi hL hl (by decide +kernel) (lk (k := 44) rfl) (lk (k := 45) rfl) hw ?_ kk
  rw [E1, E2]
  exact q_rests hI
theorem lk_23 (C : LC p s m c D cs ak b L xs) (hi : i + 6 ≤ L) (hL : L ≤ 3072) (hl : lv_has ls 4 [(0, .ref b), (1, .ref s.heap.size), (2, .ref (s.heap.size + 112)), (3, .int (nI i))]) (hI : INV σ) (hw : Wo D cs s.heap.size (AA s.heap.size) s.heap G0 σ H locs) : LwS p l e s m below meth c Q D cs b ls σ H locs 811 := by
  intro kk
  have E1 : ent 123 (.ref 0 :: (avs xs i 1 2).map Value.int) = [.ref 0, .int (av xs i 1), .int (av xs i 2), .null, .null, .null, .null] := ent_eq (k := 7) (by decide +kernel) _
  have E2 : ent 261 (.ref 112 :: (avs xs i 1 2).map Value.int) = [.ref 112, .int (av xs i 1), .int (av xs i 2), .null, .null] := ent_eq (k := 5) (by decide +kernel) _
  refine law_case C (n := 2) (M1 := 123) (M2 := 261) (i1 := 113) (i2 := 116) hi hL hl (by decide +kernel) (lk (k := 46) rfl) (lk (k := 47) rfl) hw ?_ kk
  rw [E1, E2]
  exact q_straps hI _ _
theorem lk_24 (C : LC p s m c D cs ak b L xs) (hi : i + 6 ≤ L) (hL : L ≤ 3072) (hl : lv_has ls 4 [(0, .ref b), (1, .ref s.heap.size), (2, .ref (s.heap.size + 112)), (3, .int (nI i))]) (hI : INV σ) (hw : Wo D cs s.heap.size (AA s.heap.size) s.heap G0 σ H locs) : LwS p l e s m below meth c Q D cs b ls σ H locs 844 := by
  intro kk
  have E1 : ent 124 (.ref 0 :: (avs xs i 1 2).map Value.int) = [.ref 0, .int (av xs i 1), .int (av xs i 2)] := ent_eq (k := 3) (by decide +kernel) _
  have E2 : ent 169 (.ref 112 :: (avs xs i 1 2).map Value.int) = [.ref 112, .int (av xs i 1), .int (av xs i 2)] := ent_eq (k := 3) (by decide +kernel) _
  refine law_case C (n := 2) (M1 := 124) (M2 := 169) (i1 := 117) (i2 := 120) hi hL hl (by decide +kernel) (lk (k := 48) rfl) (lk (k := 49) rfl) hw ?_ kk
  rw [E1, E2]
  exact q_seen hI _ _
theorem lk_25 (C : LC p s m c D cs ak b L xs) (hi : i + 6 ≤ L) (hL : L ≤ 3072) (hl : lv_has ls 4 [(0, .ref b), (1, .ref s.heap.size), (2, .ref (s.heap.size + 112)), (3, .int (nI i))]) (hI : INV σ) (hw : Wo D cs s.heap.size (AA s.heap.size) s.heap G0 σ H locs) : LwS p l e s m below meth c Q D cs b ls σ H locs 877 := by
  intro kk
  have E1 : ent 125 (.ref 0 :: (avs xs i 1 1).map Value.int) = [.ref 0, .int (av xs i 1)] := ent_eq (k := 2) (by decide +kernel) _
  have E2 : ent 245 (.ref 112 :: (avs xs i 1 1).map Value.int) = [.ref 112, .int (av xs i 1), .null, .null, .null] := ent_eq (k := 5) (by decide +kernel) _
  refine law_case C (n := 1) (M1 := 125) (M2 := 245) (i1 := 121) (i2 := 124) hi hL hl (by decide +kernel) (lk (k := 50) rfl) (lk (k := 51) rfl) hw ?_ kk
  rw [E1, E2]
  exact q_fits hI _
theorem lk_26 (C : LC p s m c D cs ak b L xs) (hi : i + 6 ≤ L) (hL : L ≤ 3072) (hl : lv_has ls 4 [(0, .ref b), (1, .ref s.heap.size), (2, .ref (s.heap.size + 112)), (3, .int (nI i))]) (hI : INV σ) (hw : Wo D cs s.heap.size (AA s.heap.size) s.heap G0 σ H locs) : LwS p l e s m below meth c Q D cs b ls σ H locs 900 := by
  intro kk
  have E1 : ent 126 (.ref 0 :: (avs xs i 1 1).map Value.int) = [.ref 0, .int (av xs i 1), .null, .null, .null, .null, .null, .null, .null, .null] := ent_eq (k := 10) (by decide +kernel) _
  have E2 : ent 262 (.ref 112 :: (avs xs i 1 1).map Value.int) = [.ref 112, .int (av xs i 1), .null, .null, .null, .null] := ent_eq (k := 6) (by decide +kernel) _
  refine law_case C (n := 1) (M1 := 126) (M2 := 262) (i1 := 125) (i2 := 128) hi hL hl (by decide +kernel) (lk (k := 52) rfl) (lk (k := 53) rfl) hw ?_ kk
  rw [E1, E2]
  exact q_unseen hI _
theorem lk_27 (C : LC p s m c D cs ak b L xs) (hi : i + 6 ≤ L) (hL : L ≤ 3072) (hl : lv_has ls 4 [(0, .ref b), (1, .ref s.heap.size), (2, .ref (s.heap.size + 112)), (3, .int (nI i))]) (hI : INV σ) (hw : Wo D cs s.heap.size (AA s.heap.size) s.heap G0 σ H locs) : LwS p l e s m below meth c Q D cs b ls σ H locs 923 := by
  intro kk
  have E1 : ent 127 (.ref 0 :: (avs xs i 1 1).map Value.int) = [.ref 0, .int (av xs i 1)] := ent_eq (k := 2) (by decide +kernel) _
  have E2 : ent 264 (.ref 112 :: (avs xs i 1 1).map Value.int) = [.ref 112, .int (av xs i 1), .null, .null, .null, .null, .null] := ent_eq (k := 7) (by decide +kernel) _
  refine law_case C (n := 1) (M1 := 127) (M2 := 264) (i1 := 129) (i2 := 132) hi hL hl (by decide +kernel) (lk (k := 54) rfl) (lk (k := 55) rfl) hw ?_ kk
  rw [E1, E2]
  exact q_helps hI _
theorem lk_28 (C : LC p s m c D cs ak b L xs) (hi : i + 6 ≤ L) (hL : L ≤ 3072) (hl : lv_has ls 4 [(0, .ref b), (1, .ref s.heap.size), (2, .ref (s.heap.size + 112)), (3, .int (nI i))]) (hI : INV σ) (hw : Wo D cs s.heap.size (AA s.heap.size) s.heap G0 σ H locs) : LwS p l e s m below meth c Q D cs b ls σ H locs 946 := by
  intro kk
  have E1 : ent 128 (.ref 0 :: (avs xs i 1 0).map Value.int) = [.ref 0] := ent_eq (k := 1) (by decide +kernel) _
  have E2 : ent 147 (.ref 112 :: (avs xs i 1 0).map Value.int) = [.ref 112, .null] := ent_eq (k := 2) (by decide +kernel) _
  refine law_case C (n := 0) (M1 := 128) (M2 := 147) (i1 := 133) (i2 := 137) hi hL hl (by decide +kernel) (lk (k := 56) rfl) (lk (k := 57) rfl) hw ?_ kk
  rw [E1, E2]
  exact q_undo hI
theorem lk_30 (C : LC p s m c D cs ak b L xs) (hi : i + 6 ≤ L) (hL : L ≤ 3072) (hl : lv_has ls 4 [(0, .ref b), (1, .ref s.heap.size), (2, .ref (s.heap.size + 112)), (3, .int (nI i))]) (hI : INV σ) (hw : Wo D cs s.heap.size (AA s.heap.size) s.heap G0 σ H locs) : LwS p l e s m below meth c Q D cs b ls σ H locs 998 := by
  intro kk
  have E1 : ent 130 (.ref 0 :: (avs xs i 1 1).map Value.int) = [.ref 0, .int (av xs i 1)] := ent_eq (k := 2) (by decide +kernel) _
  have E2 : ent 269 (.ref 112 :: (avs xs i 1 1).map Value.int) = [.ref 112, .int (av xs i 1)] := ent_eq (k := 2) (by decide +kernel) _
  refine law_case C (n := 1) (M1 := 130) (M2 := 269) (i1 := 143) (i2 := 146) hi hL hl (by decide +kernel) (lk (k := 60) rfl) (lk (k := 61) rfl) hw ?_ kk
  rw [E1, E2]
  exact q_look hI _
set_option maxHeartbeats 4000000 in
theorem lk_29 (C : LC p s m c D cs ak b L xs) (hi : i + 6 ≤ L) (hL : L ≤ 3072) (hl : lv_has ls 4 [(0, .ref b), (1, .ref s.heap.size), (2, .ref (s.heap.size + 112)), (3, .int (nI i))]) (hI : INV σ) (hw : Wo D cs s.heap.size (AA s.heap.size) s.heap G0 σ H locs) : LwS p l e s m below meth c Q D cs b ls σ H locs 959 := by
  intro kk
  obtain ⟨hx, hb, -⟩ := id C
  have h0 := lv_at hl 0 rfl
  have h1 := lv_at hl 1 rfl
  have h2 := lv_at hl 2 rfl
  have h3 := lv_at hl 3 rfl
  have hq : ∃ u σ1 σ2, Ex (0 + 40) 129 0 (ent 129 (.ref 0 :: [fl01 (av xs i 1)].map Value.int)) [] G0 σ = some (some (.int u), G0, σ1) ∧ Ex (0 + 40) 268 0 (ent 268 (.ref 112 :: [fl01 (av xs i 1)].map Value.int)) [] G0 σ1 = some (some (.int u), G0, σ2) ∧ INV σ2 := by
    have E1 : ∀ v : Int32, ent 129 (.ref 0 :: [v].map Value.int) = [.ref 0, .int v] := fun v => ent_eq (k := 2) (by decide +kernel) _
    have E2 : ∀ v : Int32, ent 268 (.ref 112 :: [v].map Value.int) = [.ref 112, .int v, .null] := fun v => ent_eq (k := 3) (by decide +kernel) _
    by_cases h : av xs i 1 = 0
    · have e9 : fl01 (av xs i 1) = 0 := by unfold fl01; rw [decide_eq_true h]; rfl
      rw [e9, E1, E2]
      exact q_image0 hI
    · have e9 : fl01 (av xs i 1) = 1 := by unfold fl01; rw [decide_eq_false h]; rfl
      rw [e9, E1, E2]
      exact q_image1 hI
  obtain ⟨u, σ1, σ2, e1, e2, hI2⟩ := hq
  refine lv_aload_n (i := 1) (k := 1) hx hb (ld (aux := []) (by decide +kernel) rfl) rfl h1 ?_
  refine law_flag C hi hL h0 h3 hw.2.2 (by decide +kernel) ?_
  refine law_callV C (vs := [fl01 (av xs i 1)]) (M := 129) (n := 1) (ci := 11) (idx := 138) (q := 0) (rest := []) (by decide +kernel) (lk (k := 58) rfl) (ld (aux := []) (by decide +kernel) rfl) g0o rfl rfl (Nat.le_of_ble_eq_true rfl) (Nat.le_of_ble_eq_true rfl) e1 hl.1 g0c g0s hw ?_
  intro H1 locs1 hw1
  refine lv_aload_n (i := 2) (k := 2) hx hb (ld (aux := []) (by decide +kernel) rfl) rfl h2 ?_
  refine law_flag C hi hL h0 h3 hw1.2.2 (by decide +kernel) ?_
  refine law_callV C (vs := [fl01 (av xs i 1)]) (M := 268) (n := 1) (ci := 12) (idx := 142) (q := 112) (rest := [.int u]) (by decide +kernel) (lk (k := 59) rfl) (ld (aux := []) (by decide +kernel) rfl) g0m rfl rfl (Nat.le_of_ble_eq_true rfl) (Nat.le_of_ble_eq_true rfl) e2 hl.1 g0c g0s hw1 ?_
  intro H2 locs2 hw2
  exact lv_icmp_eq (x := u) (y := u) (off := 28) (rest := []) (tgt := 1021) hx hb (ld (aux := []) (by decide +kernel) rfl) (by decide) (fun _ => kk σ2 H2 locs2 hI2 hw2) (fun h => absurd rfl h)
end LAWK
