/-! a decoder that walks the list of bytes -/
theorem u1_at {l : List UInt8} {p : Nat} {b : UInt8} {r : List UInt8} (h : l.drop p = b :: r) : (Reader.u1 : Decoder Nat) ⟨⟨l⟩⟩ p = .ok (b.toNat, p + 1) := by
  have hp : p < l.length := by
    rcases Nat.lt_or_ge p l.length with h1 | h1
    · exact h1
    · rw [List.drop_eq_nil_iff.mpr h1] at h; cases h
  have hb : l[p] = b := by
    have h1 : (l.drop p)[0]? = some b := by rw [h]; rfl
    rw [List.getElem?_drop, Nat.add_zero, List.getElem?_eq_getElem hp] at h1
    exact Option.some.inj h1
  have hsz : p < (⟨⟨l⟩⟩ : ByteArray).size := hp
  have hg : (⟨⟨l⟩⟩ : ByteArray)[p] = b := hb
  unfold Reader.u1
  show (if h : p < (⟨⟨l⟩⟩ : ByteArray).size then _ else _ : Decoder Nat) ⟨⟨l⟩⟩ p = _
  rw [dif_pos hsz, hg]
  rfl
theorem drop_s {l : List UInt8} {p : Nat} {b : UInt8} {r : List UInt8} (h : l.drop p = b :: r) : l.drop (p + 1) = r := by
  rw [← List.drop_drop, h]
  rfl
theorem s1_at {l : List UInt8} {p : Nat} {b : UInt8} {r : List UInt8} (h : l.drop p = b :: r) : (Reader.s1 : Decoder Int) ⟨⟨l⟩⟩ p = .ok (Reader.signed 8 b.toNat, p + 1) := by
  unfold Reader.s1
  show ((Reader.u1 : Decoder Nat) ⟨⟨l⟩⟩ p >>= fun x => _) = _
  rw [u1_at h]
  rfl
theorem u2_at {l : List UInt8} {p : Nat} {b c : UInt8} {r : List UInt8} (h : l.drop p = b :: c :: r) : (Reader.u2 : Decoder Nat) ⟨⟨l⟩⟩ p = .ok (b.toNat * 256 + c.toNat, p + 2) := by
  unfold Reader.u2
  show ((Reader.u1 : Decoder Nat) ⟨⟨l⟩⟩ p >>= fun x => _) = _
  rw [u1_at h]
  show ((Reader.u1 : Decoder Nat) ⟨⟨l⟩⟩ (p + 1) >>= fun x => _) = _
  rw [u1_at (drop_s h)]
  rfl
theorem s2_at {l : List UInt8} {p : Nat} {b c : UInt8} {r : List UInt8} (h : l.drop p = b :: c :: r) : (Reader.s2 : Decoder Int) ⟨⟨l⟩⟩ p = .ok (Reader.signed 16 (b.toNat * 256 + c.toNat), p + 2) := by
  unfold Reader.s2
  show ((Reader.u2 : Decoder Nat) ⟨⟨l⟩⟩ p >>= fun x => _) = _
  rw [u2_at h]
  rfl
theorem dec_of {l : List UInt8} {pc q : Nat} {i : Instr} (h : (Decoder.instr pc) ⟨⟨l⟩⟩ pc = .ok (i, q)) : decode ⟨⟨l⟩⟩ pc = .ok (i, q - pc) := by
  unfold decode
  have h2 : Reader.runAt (Decoder.instr pc) ⟨⟨l⟩⟩ pc = .ok (i, q) := h
  rw [h2]
  rfl
def dcS (l : List UInt8) : Option (Instr × Nat × List UInt8) := match l with
  | b :: r => match b.toNat with
    | 2 => some (.iconst (-1), 1, r)
    | 3 => some (.iconst 0, 1, r)
    | 4 => some (.iconst 1, 1, r)
    | 5 => some (.iconst 2, 1, r)
    | 6 => some (.iconst 3, 1, r)
    | 7 => some (.iconst 4, 1, r)
    | 8 => some (.iconst 5, 1, r)
    | 16 => match r with
      | c :: r => some (.bipush (Reader.signed 8 c.toNat), 2, r)
      | _ => none
    | 17 => match r with
      | c :: d :: r => some (.sipush (Reader.signed 16 (c.toNat * 256 + d.toNat)), 3, r)
      | _ => none
    | 18 => match r with
      | c :: r => some (.ldc c.toNat, 2, r)
      | _ => none
    | 19 => match r with
      | c :: d :: r => some (.ldc_w (c.toNat * 256 + d.toNat), 3, r)
      | _ => none
    | 21 => match r with
      | c :: r => some (.iload c.toNat, 2, r)
      | _ => none
    | 25 => match r with
      | c :: r => some (.aload c.toNat, 2, r)
      | _ => none
    | 26 => some (.iload_n 0, 1, r)
    | 27 => some (.iload_n 1, 1, r)
    | 28 => some (.iload_n 2, 1, r)
    | 29 => some (.iload_n 3, 1, r)
    | 42 => some (.aload_n 0, 1, r)
    | 43 => some (.aload_n 1, 1, r)
    | 44 => some (.aload_n 2, 1, r)
    | 45 => some (.aload_n 3, 1, r)
    | 46 => some (.iaload, 1, r)
    | 50 => some (.aaload, 1, r)
    | 51 => some (.baload, 1, r)
    | 54 => match r with
      | c :: r => some (.istore c.toNat, 2, r)
      | _ => none
    | 58 => match r with
      | c :: r => some (.astore c.toNat, 2, r)
      | _ => none
    | 59 => some (.istore_n 0, 1, r)
    | 60 => some (.istore_n 1, 1, r)
    | 61 => some (.istore_n 2, 1, r)
    | 62 => some (.istore_n 3, 1, r)
    | 75 => some (.astore_n 0, 1, r)
    | 76 => some (.astore_n 1, 1, r)
    | 77 => some (.astore_n 2, 1, r)
    | 78 => some (.astore_n 3, 1, r)
    | 79 => some (.iastore, 1, r)
    | 83 => some (.aastore, 1, r)
    | 84 => some (.bastore, 1, r)
    | 87 => some (.pop, 1, r)
    | 89 => some (.dup, 1, r)
    | 92 => some (.dup2, 1, r)
    | 96 => some (.iadd, 1, r)
    | 100 => some (.isub, 1, r)
    | 104 => some (.imul, 1, r)
    | 108 => some (.idiv, 1, r)
    | 112 => some (.irem, 1, r)
    | 116 => some (.ineg, 1, r)
    | 120 => some (.ishl, 1, r)
    | 122 => some (.ishr, 1, r)
    | 124 => some (.iushr, 1, r)
    | 126 => some (.iand, 1, r)
    | 128 => some (.ior, 1, r)
    | 130 => some (.ixor, 1, r)
    | 132 => match r with
      | c :: d :: r => some (.iinc c.toNat (Reader.signed 8 d.toNat), 3, r)
      | _ => none
    | 145 => some (.i2b, 1, r)
    | 146 => some (.i2c, 1, r)
    | 153 => match r with
      | c :: d :: r => some (.ifCond .eq (Reader.signed 16 (c.toNat * 256 + d.toNat)), 3, r)
      | _ => none
    | 154 => match r with
      | c :: d :: r => some (.ifCond .ne (Reader.signed 16 (c.toNat * 256 + d.toNat)), 3, r)
      | _ => none
    | 155 => match r with
      | c :: d :: r => some (.ifCond .lt (Reader.signed 16 (c.toNat * 256 + d.toNat)), 3, r)
      | _ => none
    | 156 => match r with
      | c :: d :: r => some (.ifCond .ge (Reader.signed 16 (c.toNat * 256 + d.toNat)), 3, r)
      | _ => none
    | 157 => match r with
      | c :: d :: r => some (.ifCond .gt (Reader.signed 16 (c.toNat * 256 + d.toNat)), 3, r)
      | _ => none
    | 158 => match r with
      | c :: d :: r => some (.ifCond .le (Reader.signed 16 (c.toNat * 256 + d.toNat)), 3, r)
      | _ => none
    | 159 => match r with
      | c :: d :: r => some (.if_icmp .eq (Reader.signed 16 (c.toNat * 256 + d.toNat)), 3, r)
      | _ => none
    | 160 => match r with
      | c :: d :: r => some (.if_icmp .ne (Reader.signed 16 (c.toNat * 256 + d.toNat)), 3, r)
      | _ => none
    | 161 => match r with
      | c :: d :: r => some (.if_icmp .lt (Reader.signed 16 (c.toNat * 256 + d.toNat)), 3, r)
      | _ => none
    | 162 => match r with
      | c :: d :: r => some (.if_icmp .ge (Reader.signed 16 (c.toNat * 256 + d.toNat)), 3, r)
      | _ => none
    | 163 => match r with
      | c :: d :: r => some (.if_icmp .gt (Reader.signed 16 (c.toNat * 256 + d.toNat)), 3, r)
      | _ => none
    | 164 => match r with
      | c :: d :: r => some (.if_icmp .le (Reader.signed 16 (c.toNat * 256 + d.toNat)), 3, r)
      | _ => none
    | 167 => match r with
      | c :: d :: r => some (.goto (Reader.signed 16 (c.toNat * 256 + d.toNat)), 3, r)
      | _ => none
    | 172 => some (.ireturn, 1, r)
    | 176 => some (.areturn, 1, r)
    | 177 => some (.return_, 1, r)
    | 178 => match r with
      | c :: d :: r => some (.getstatic (c.toNat * 256 + d.toNat), 3, r)
      | _ => none
    | 180 => match r with
      | c :: d :: r => some (.getfield (c.toNat * 256 + d.toNat), 3, r)
      | _ => none
    | 181 => match r with
      | c :: d :: r => some (.putfield (c.toNat * 256 + d.toNat), 3, r)
      | _ => none
    | 182 => match r with
      | c :: d :: r => some (.invokevirtual (c.toNat * 256 + d.toNat), 3, r)
      | _ => none
    | 183 => match r with
      | c :: d :: r => some (.invokespecial (c.toNat * 256 + d.toNat), 3, r)
      | _ => none
    | 184 => match r with
      | c :: d :: r => some (.invokestatic (c.toNat * 256 + d.toNat), 3, r)
      | _ => none
    | 187 => match r with
      | c :: d :: r => some (.new (c.toNat * 256 + d.toNat), 3, r)
      | _ => none
    | 188 => match r with
      | c :: r => match c.toNat with
        | 8 => some (.newarray .byte, 2, r)
        | 10 => some (.newarray .int, 2, r)
        | _ => none
      | _ => none
    | 189 => match r with
      | c :: d :: r => some (.anewarray (c.toNat * 256 + d.toNat), 3, r)
      | _ => none
    | 190 => some (.arraylength, 1, r)
    | _ => none
  | _ => none
theorem dc_2 {l : List UInt8} {pc : Nat} {b : UInt8} {r : List UInt8} (h : l.drop pc = b :: r) (hb : b.toNat = 2) : decode ⟨⟨l⟩⟩ pc = .ok (.iconst (-1), 1) := by
  have h9 : (Decoder.instr pc) ⟨⟨l⟩⟩ pc = .ok (.iconst (-1), pc + 1) := by
    unfold Decoder.instr
    show ((Reader.u1 : Decoder Nat) ⟨⟨l⟩⟩ pc >>= fun x => _) = _
    rw [u1_at h, hb]
    rfl
  rw [dec_of h9, Nat.add_sub_cancel_left]
theorem dc_3 {l : List UInt8} {pc : Nat} {b : UInt8} {r : List UInt8} (h : l.drop pc = b :: r) (hb : b.toNat = 3) : decode ⟨⟨l⟩⟩ pc = .ok (.iconst 0, 1) := by
  have h9 : (Decoder.instr pc) ⟨⟨l⟩⟩ pc = .ok (.iconst 0, pc + 1) := by
    unfold Decoder.instr
    show ((Reader.u1 : Decoder Nat) ⟨⟨l⟩⟩ pc >>= fun x => _) = _
    rw [u1_at h, hb]
    rfl
  rw [dec_of h9, Nat.add_sub_cancel_left]
theorem dc_4 {l : List UInt8} {pc : Nat} {b : UInt8} {r : List UInt8} (h : l.drop pc = b :: r) (hb : b.toNat = 4) : decode ⟨⟨l⟩⟩ pc = .ok (.iconst 1, 1) := by
  have h9 : (Decoder.instr pc) ⟨⟨l⟩⟩ pc = .ok (.iconst 1, pc + 1) := by
    unfold Decoder.instr
    show ((Reader.u1 : Decoder Nat) ⟨⟨l⟩⟩ pc >>= fun x => _) = _
    rw [u1_at h, hb]
    rfl
  rw [dec_of h9, Nat.add_sub_cancel_left]
theorem dc_5 {l : List UInt8} {pc : Nat} {b : UInt8} {r : List UInt8} (h : l.drop pc = b :: r) (hb : b.toNat = 5) : decode ⟨⟨l⟩⟩ pc = .ok (.iconst 2, 1) := by
  have h9 : (Decoder.instr pc) ⟨⟨l⟩⟩ pc = .ok (.iconst 2, pc + 1) := by
    unfold Decoder.instr
    show ((Reader.u1 : Decoder Nat) ⟨⟨l⟩⟩ pc >>= fun x => _) = _
    rw [u1_at h, hb]
    rfl
  rw [dec_of h9, Nat.add_sub_cancel_left]
theorem dc_6 {l : List UInt8} {pc : Nat} {b : UInt8} {r : List UInt8} (h : l.drop pc = b :: r) (hb : b.toNat = 6) : decode ⟨⟨l⟩⟩ pc = .ok (.iconst 3, 1) := by
  have h9 : (Decoder.instr pc) ⟨⟨l⟩⟩ pc = .ok (.iconst 3, pc + 1) := by
    unfold Decoder.instr
    show ((Reader.u1 : Decoder Nat) ⟨⟨l⟩⟩ pc >>= fun x => _) = _
    rw [u1_at h, hb]
    rfl
  rw [dec_of h9, Nat.add_sub_cancel_left]
theorem dc_7 {l : List UInt8} {pc : Nat} {b : UInt8} {r : List UInt8} (h : l.drop pc = b :: r) (hb : b.toNat = 7) : decode ⟨⟨l⟩⟩ pc = .ok (.iconst 4, 1) := by
  have h9 : (Decoder.instr pc) ⟨⟨l⟩⟩ pc = .ok (.iconst 4, pc + 1) := by
    unfold Decoder.instr
    show ((Reader.u1 : Decoder Nat) ⟨⟨l⟩⟩ pc >>= fun x => _) = _
    rw [u1_at h, hb]
    rfl
  rw [dec_of h9, Nat.add_sub_cancel_left]
theorem dc_8 {l : List UInt8} {pc : Nat} {b : UInt8} {r : List UInt8} (h : l.drop pc = b :: r) (hb : b.toNat = 8) : decode ⟨⟨l⟩⟩ pc = .ok (.iconst 5, 1) := by
  have h9 : (Decoder.instr pc) ⟨⟨l⟩⟩ pc = .ok (.iconst 5, pc + 1) := by
    unfold Decoder.instr
    show ((Reader.u1 : Decoder Nat) ⟨⟨l⟩⟩ pc >>= fun x => _) = _
    rw [u1_at h, hb]
    rfl
  rw [dec_of h9, Nat.add_sub_cancel_left]
theorem dc_16 {l : List UInt8} {pc : Nat} {b : UInt8} {c : UInt8} {r : List UInt8} (h : l.drop pc = b :: c :: r) (hb : b.toNat = 16) : decode ⟨⟨l⟩⟩ pc = .ok (.bipush (Reader.signed 8 c.toNat), 2) := by
  have h9 : (Decoder.instr pc) ⟨⟨l⟩⟩ pc = .ok (.bipush (Reader.signed 8 c.toNat), pc + 2) := by
    unfold Decoder.instr
    show ((Reader.u1 : Decoder Nat) ⟨⟨l⟩⟩ pc >>= fun x => _) = _
    rw [u1_at h, hb]
    show ((Reader.s1 : Decoder Int) ⟨⟨l⟩⟩ (pc + 1) >>= fun x => _) = _
    rw [s1_at (drop_s h)]
    rfl
  rw [dec_of h9, Nat.add_sub_cancel_left]
theorem dc_17 {l : List UInt8} {pc : Nat} {b : UInt8} {c d : UInt8} {r : List UInt8} (h : l.drop pc = b :: c :: d :: r) (hb : b.toNat = 17) : decode ⟨⟨l⟩⟩ pc = .ok (.sipush (Reader.signed 16 (c.toNat * 256 + d.toNat)), 3) := by
  have h9 : (Decoder.instr pc) ⟨⟨l⟩⟩ pc = .ok (.sipush (Reader.signed 16 (c.toNat * 256 + d.toNat)), pc + 3) := by
    unfold Decoder.instr
    show ((Reader.u1 : Decoder Nat) ⟨⟨l⟩⟩ pc >>= fun x => _) = _
    rw [u1_at h, hb]
    show ((Reader.s2 : Decoder Int) ⟨⟨l⟩⟩ (pc + 1) >>= fun x => _) = _
    rw [s2_at (drop_s h)]
    rfl
  rw [dec_of h9, Nat.add_sub_cancel_left]
theorem dc_18 {l : List UInt8} {pc : Nat} {b : UInt8} {c : UInt8} {r : List UInt8} (h : l.drop pc = b :: c :: r) (hb : b.toNat = 18) : decode ⟨⟨l⟩⟩ pc = .ok (.ldc c.toNat, 2) := by
  have h9 : (Decoder.instr pc) ⟨⟨l⟩⟩ pc = .ok (.ldc c.toNat, pc + 2) := by
    unfold Decoder.instr
    show ((Reader.u1 : Decoder Nat) ⟨⟨l⟩⟩ pc >>= fun x => _) = _
    rw [u1_at h, hb]
    show ((Reader.u1 : Decoder Nat) ⟨⟨l⟩⟩ (pc + 1) >>= fun x => _) = _
    rw [u1_at (drop_s h)]
    rfl
  rw [dec_of h9, Nat.add_sub_cancel_left]
theorem dc_19 {l : List UInt8} {pc : Nat} {b : UInt8} {c d : UInt8} {r : List UInt8} (h : l.drop pc = b :: c :: d :: r) (hb : b.toNat = 19) : decode ⟨⟨l⟩⟩ pc = .ok (.ldc_w (c.toNat * 256 + d.toNat), 3) := by
  have h9 : (Decoder.instr pc) ⟨⟨l⟩⟩ pc = .ok (.ldc_w (c.toNat * 256 + d.toNat), pc + 3) := by
    unfold Decoder.instr
    show ((Reader.u1 : Decoder Nat) ⟨⟨l⟩⟩ pc >>= fun x => _) = _
    rw [u1_at h, hb]
    show ((Reader.u2 : Decoder Nat) ⟨⟨l⟩⟩ (pc + 1) >>= fun x => _) = _
    rw [u2_at (drop_s h)]
    rfl
  rw [dec_of h9, Nat.add_sub_cancel_left]
theorem dc_21 {l : List UInt8} {pc : Nat} {b : UInt8} {c : UInt8} {r : List UInt8} (h : l.drop pc = b :: c :: r) (hb : b.toNat = 21) : decode ⟨⟨l⟩⟩ pc = .ok (.iload c.toNat, 2) := by
  have h9 : (Decoder.instr pc) ⟨⟨l⟩⟩ pc = .ok (.iload c.toNat, pc + 2) := by
    unfold Decoder.instr
    show ((Reader.u1 : Decoder Nat) ⟨⟨l⟩⟩ pc >>= fun x => _) = _
    rw [u1_at h, hb]
    show ((Reader.u1 : Decoder Nat) ⟨⟨l⟩⟩ (pc + 1) >>= fun x => _) = _
    rw [u1_at (drop_s h)]
    rfl
  rw [dec_of h9, Nat.add_sub_cancel_left]
theorem dc_25 {l : List UInt8} {pc : Nat} {b : UInt8} {c : UInt8} {r : List UInt8} (h : l.drop pc = b :: c :: r) (hb : b.toNat = 25) : decode ⟨⟨l⟩⟩ pc = .ok (.aload c.toNat, 2) := by
  have h9 : (Decoder.instr pc) ⟨⟨l⟩⟩ pc = .ok (.aload c.toNat, pc + 2) := by
    unfold Decoder.instr
    show ((Reader.u1 : Decoder Nat) ⟨⟨l⟩⟩ pc >>= fun x => _) = _
    rw [u1_at h, hb]
    show ((Reader.u1 : Decoder Nat) ⟨⟨l⟩⟩ (pc + 1) >>= fun x => _) = _
    rw [u1_at (drop_s h)]
    rfl
  rw [dec_of h9, Nat.add_sub_cancel_left]
theorem dc_26 {l : List UInt8} {pc : Nat} {b : UInt8} {r : List UInt8} (h : l.drop pc = b :: r) (hb : b.toNat = 26) : decode ⟨⟨l⟩⟩ pc = .ok (.iload_n 0, 1) := by
  have h9 : (Decoder.instr pc) ⟨⟨l⟩⟩ pc = .ok (.iload_n 0, pc + 1) := by
    unfold Decoder.instr
    show ((Reader.u1 : Decoder Nat) ⟨⟨l⟩⟩ pc >>= fun x => _) = _
    rw [u1_at h, hb]
    rfl
  rw [dec_of h9, Nat.add_sub_cancel_left]
theorem dc_27 {l : List UInt8} {pc : Nat} {b : UInt8} {r : List UInt8} (h : l.drop pc = b :: r) (hb : b.toNat = 27) : decode ⟨⟨l⟩⟩ pc = .ok (.iload_n 1, 1) := by
  have h9 : (Decoder.instr pc) ⟨⟨l⟩⟩ pc = .ok (.iload_n 1, pc + 1) := by
    unfold Decoder.instr
    show ((Reader.u1 : Decoder Nat) ⟨⟨l⟩⟩ pc >>= fun x => _) = _
    rw [u1_at h, hb]
    rfl
  rw [dec_of h9, Nat.add_sub_cancel_left]
theorem dc_28 {l : List UInt8} {pc : Nat} {b : UInt8} {r : List UInt8} (h : l.drop pc = b :: r) (hb : b.toNat = 28) : decode ⟨⟨l⟩⟩ pc = .ok (.iload_n 2, 1) := by
  have h9 : (Decoder.instr pc) ⟨⟨l⟩⟩ pc = .ok (.iload_n 2, pc + 1) := by
    unfold Decoder.instr
    show ((Reader.u1 : Decoder Nat) ⟨⟨l⟩⟩ pc >>= fun x => _) = _
    rw [u1_at h, hb]
    rfl
  rw [dec_of h9, Nat.add_sub_cancel_left]
theorem dc_29 {l : List UInt8} {pc : Nat} {b : UInt8} {r : List UInt8} (h : l.drop pc = b :: r) (hb : b.toNat = 29) : decode ⟨⟨l⟩⟩ pc = .ok (.iload_n 3, 1) := by
  have h9 : (Decoder.instr pc) ⟨⟨l⟩⟩ pc = .ok (.iload_n 3, pc + 1) := by
    unfold Decoder.instr
    show ((Reader.u1 : Decoder Nat) ⟨⟨l⟩⟩ pc >>= fun x => _) = _
    rw [u1_at h, hb]
    rfl
  rw [dec_of h9, Nat.add_sub_cancel_left]
theorem dc_42 {l : List UInt8} {pc : Nat} {b : UInt8} {r : List UInt8} (h : l.drop pc = b :: r) (hb : b.toNat = 42) : decode ⟨⟨l⟩⟩ pc = .ok (.aload_n 0, 1) := by
  have h9 : (Decoder.instr pc) ⟨⟨l⟩⟩ pc = .ok (.aload_n 0, pc + 1) := by
    unfold Decoder.instr
    show ((Reader.u1 : Decoder Nat) ⟨⟨l⟩⟩ pc >>= fun x => _) = _
    rw [u1_at h, hb]
    rfl
  rw [dec_of h9, Nat.add_sub_cancel_left]
theorem dc_43 {l : List UInt8} {pc : Nat} {b : UInt8} {r : List UInt8} (h : l.drop pc = b :: r) (hb : b.toNat = 43) : decode ⟨⟨l⟩⟩ pc = .ok (.aload_n 1, 1) := by
  have h9 : (Decoder.instr pc) ⟨⟨l⟩⟩ pc = .ok (.aload_n 1, pc + 1) := by
    unfold Decoder.instr
    show ((Reader.u1 : Decoder Nat) ⟨⟨l⟩⟩ pc >>= fun x => _) = _
    rw [u1_at h, hb]
    rfl
  rw [dec_of h9, Nat.add_sub_cancel_left]
theorem dc_44 {l : List UInt8} {pc : Nat} {b : UInt8} {r : List UInt8} (h : l.drop pc = b :: r) (hb : b.toNat = 44) : decode ⟨⟨l⟩⟩ pc = .ok (.aload_n 2, 1) := by
  have h9 : (Decoder.instr pc) ⟨⟨l⟩⟩ pc = .ok (.aload_n 2, pc + 1) := by
    unfold Decoder.instr
    show ((Reader.u1 : Decoder Nat) ⟨⟨l⟩⟩ pc >>= fun x => _) = _
    rw [u1_at h, hb]
    rfl
  rw [dec_of h9, Nat.add_sub_cancel_left]
theorem dc_45 {l : List UInt8} {pc : Nat} {b : UInt8} {r : List UInt8} (h : l.drop pc = b :: r) (hb : b.toNat = 45) : decode ⟨⟨l⟩⟩ pc = .ok (.aload_n 3, 1) := by
  have h9 : (Decoder.instr pc) ⟨⟨l⟩⟩ pc = .ok (.aload_n 3, pc + 1) := by
    unfold Decoder.instr
    show ((Reader.u1 : Decoder Nat) ⟨⟨l⟩⟩ pc >>= fun x => _) = _
    rw [u1_at h, hb]
    rfl
  rw [dec_of h9, Nat.add_sub_cancel_left]
theorem dc_46 {l : List UInt8} {pc : Nat} {b : UInt8} {r : List UInt8} (h : l.drop pc = b :: r) (hb : b.toNat = 46) : decode ⟨⟨l⟩⟩ pc = .ok (.iaload, 1) := by
  have h9 : (Decoder.instr pc) ⟨⟨l⟩⟩ pc = .ok (.iaload, pc + 1) := by
    unfold Decoder.instr
    show ((Reader.u1 : Decoder Nat) ⟨⟨l⟩⟩ pc >>= fun x => _) = _
    rw [u1_at h, hb]
    rfl
  rw [dec_of h9, Nat.add_sub_cancel_left]
theorem dc_50 {l : List UInt8} {pc : Nat} {b : UInt8} {r : List UInt8} (h : l.drop pc = b :: r) (hb : b.toNat = 50) : decode ⟨⟨l⟩⟩ pc = .ok (.aaload, 1) := by
  have h9 : (Decoder.instr pc) ⟨⟨l⟩⟩ pc = .ok (.aaload, pc + 1) := by
    unfold Decoder.instr
    show ((Reader.u1 : Decoder Nat) ⟨⟨l⟩⟩ pc >>= fun x => _) = _
    rw [u1_at h, hb]
    rfl
  rw [dec_of h9, Nat.add_sub_cancel_left]
theorem dc_51 {l : List UInt8} {pc : Nat} {b : UInt8} {r : List UInt8} (h : l.drop pc = b :: r) (hb : b.toNat = 51) : decode ⟨⟨l⟩⟩ pc = .ok (.baload, 1) := by
  have h9 : (Decoder.instr pc) ⟨⟨l⟩⟩ pc = .ok (.baload, pc + 1) := by
    unfold Decoder.instr
    show ((Reader.u1 : Decoder Nat) ⟨⟨l⟩⟩ pc >>= fun x => _) = _
    rw [u1_at h, hb]
    rfl
  rw [dec_of h9, Nat.add_sub_cancel_left]
theorem dc_54 {l : List UInt8} {pc : Nat} {b : UInt8} {c : UInt8} {r : List UInt8} (h : l.drop pc = b :: c :: r) (hb : b.toNat = 54) : decode ⟨⟨l⟩⟩ pc = .ok (.istore c.toNat, 2) := by
  have h9 : (Decoder.instr pc) ⟨⟨l⟩⟩ pc = .ok (.istore c.toNat, pc + 2) := by
    unfold Decoder.instr
    show ((Reader.u1 : Decoder Nat) ⟨⟨l⟩⟩ pc >>= fun x => _) = _
    rw [u1_at h, hb]
    show ((Reader.u1 : Decoder Nat) ⟨⟨l⟩⟩ (pc + 1) >>= fun x => _) = _
    rw [u1_at (drop_s h)]
    rfl
  rw [dec_of h9, Nat.add_sub_cancel_left]
theorem dc_58 {l : List UInt8} {pc : Nat} {b : UInt8} {c : UInt8} {r : List UInt8} (h : l.drop pc = b :: c :: r) (hb : b.toNat = 58) : decode ⟨⟨l⟩⟩ pc = .ok (.astore c.toNat, 2) := by
  have h9 : (Decoder.instr pc) ⟨⟨l⟩⟩ pc = .ok (.astore c.toNat, pc + 2) := by
    unfold Decoder.instr
    show ((Reader.u1 : Decoder Nat) ⟨⟨l⟩⟩ pc >>= fun x => _) = _
    rw [u1_at h, hb]
    show ((Reader.u1 : Decoder Nat) ⟨⟨l⟩⟩ (pc + 1) >>= fun x => _) = _
    rw [u1_at (drop_s h)]
    rfl
  rw [dec_of h9, Nat.add_sub_cancel_left]
theorem dc_59 {l : List UInt8} {pc : Nat} {b : UInt8} {r : List UInt8} (h : l.drop pc = b :: r) (hb : b.toNat = 59) : decode ⟨⟨l⟩⟩ pc = .ok (.istore_n 0, 1) := by
  have h9 : (Decoder.instr pc) ⟨⟨l⟩⟩ pc = .ok (.istore_n 0, pc + 1) := by
    unfold Decoder.instr
    show ((Reader.u1 : Decoder Nat) ⟨⟨l⟩⟩ pc >>= fun x => _) = _
    rw [u1_at h, hb]
    rfl
  rw [dec_of h9, Nat.add_sub_cancel_left]
theorem dc_60 {l : List UInt8} {pc : Nat} {b : UInt8} {r : List UInt8} (h : l.drop pc = b :: r) (hb : b.toNat = 60) : decode ⟨⟨l⟩⟩ pc = .ok (.istore_n 1, 1) := by
  have h9 : (Decoder.instr pc) ⟨⟨l⟩⟩ pc = .ok (.istore_n 1, pc + 1) := by
    unfold Decoder.instr
    show ((Reader.u1 : Decoder Nat) ⟨⟨l⟩⟩ pc >>= fun x => _) = _
    rw [u1_at h, hb]
    rfl
  rw [dec_of h9, Nat.add_sub_cancel_left]
theorem dc_61 {l : List UInt8} {pc : Nat} {b : UInt8} {r : List UInt8} (h : l.drop pc = b :: r) (hb : b.toNat = 61) : decode ⟨⟨l⟩⟩ pc = .ok (.istore_n 2, 1) := by
  have h9 : (Decoder.instr pc) ⟨⟨l⟩⟩ pc = .ok (.istore_n 2, pc + 1) := by
    unfold Decoder.instr
    show ((Reader.u1 : Decoder Nat) ⟨⟨l⟩⟩ pc >>= fun x => _) = _
    rw [u1_at h, hb]
    rfl
  rw [dec_of h9, Nat.add_sub_cancel_left]
theorem dc_62 {l : List UInt8} {pc : Nat} {b : UInt8} {r : List UInt8} (h : l.drop pc = b :: r) (hb : b.toNat = 62) : decode ⟨⟨l⟩⟩ pc = .ok (.istore_n 3, 1) := by
  have h9 : (Decoder.instr pc) ⟨⟨l⟩⟩ pc = .ok (.istore_n 3, pc + 1) := by
    unfold Decoder.instr
    show ((Reader.u1 : Decoder Nat) ⟨⟨l⟩⟩ pc >>= fun x => _) = _
    rw [u1_at h, hb]
    rfl
  rw [dec_of h9, Nat.add_sub_cancel_left]
theorem dc_75 {l : List UInt8} {pc : Nat} {b : UInt8} {r : List UInt8} (h : l.drop pc = b :: r) (hb : b.toNat = 75) : decode ⟨⟨l⟩⟩ pc = .ok (.astore_n 0, 1) := by
  have h9 : (Decoder.instr pc) ⟨⟨l⟩⟩ pc = .ok (.astore_n 0, pc + 1) := by
    unfold Decoder.instr
    show ((Reader.u1 : Decoder Nat) ⟨⟨l⟩⟩ pc >>= fun x => _) = _
    rw [u1_at h, hb]
    rfl
  rw [dec_of h9, Nat.add_sub_cancel_left]
theorem dc_76 {l : List UInt8} {pc : Nat} {b : UInt8} {r : List UInt8} (h : l.drop pc = b :: r) (hb : b.toNat = 76) : decode ⟨⟨l⟩⟩ pc = .ok (.astore_n 1, 1) := by
  have h9 : (Decoder.instr pc) ⟨⟨l⟩⟩ pc = .ok (.astore_n 1, pc + 1) := by
    unfold Decoder.instr
    show ((Reader.u1 : Decoder Nat) ⟨⟨l⟩⟩ pc >>= fun x => _) = _
    rw [u1_at h, hb]
    rfl
  rw [dec_of h9, Nat.add_sub_cancel_left]
theorem dc_77 {l : List UInt8} {pc : Nat} {b : UInt8} {r : List UInt8} (h : l.drop pc = b :: r) (hb : b.toNat = 77) : decode ⟨⟨l⟩⟩ pc = .ok (.astore_n 2, 1) := by
  have h9 : (Decoder.instr pc) ⟨⟨l⟩⟩ pc = .ok (.astore_n 2, pc + 1) := by
    unfold Decoder.instr
    show ((Reader.u1 : Decoder Nat) ⟨⟨l⟩⟩ pc >>= fun x => _) = _
    rw [u1_at h, hb]
    rfl
  rw [dec_of h9, Nat.add_sub_cancel_left]
theorem dc_78 {l : List UInt8} {pc : Nat} {b : UInt8} {r : List UInt8} (h : l.drop pc = b :: r) (hb : b.toNat = 78) : decode ⟨⟨l⟩⟩ pc = .ok (.astore_n 3, 1) := by
  have h9 : (Decoder.instr pc) ⟨⟨l⟩⟩ pc = .ok (.astore_n 3, pc + 1) := by
    unfold Decoder.instr
    show ((Reader.u1 : Decoder Nat) ⟨⟨l⟩⟩ pc >>= fun x => _) = _
    rw [u1_at h, hb]
    rfl
  rw [dec_of h9, Nat.add_sub_cancel_left]
theorem dc_79 {l : List UInt8} {pc : Nat} {b : UInt8} {r : List UInt8} (h : l.drop pc = b :: r) (hb : b.toNat = 79) : decode ⟨⟨l⟩⟩ pc = .ok (.iastore, 1) := by
  have h9 : (Decoder.instr pc) ⟨⟨l⟩⟩ pc = .ok (.iastore, pc + 1) := by
    unfold Decoder.instr
    show ((Reader.u1 : Decoder Nat) ⟨⟨l⟩⟩ pc >>= fun x => _) = _
    rw [u1_at h, hb]
    rfl
  rw [dec_of h9, Nat.add_sub_cancel_left]
theorem dc_83 {l : List UInt8} {pc : Nat} {b : UInt8} {r : List UInt8} (h : l.drop pc = b :: r) (hb : b.toNat = 83) : decode ⟨⟨l⟩⟩ pc = .ok (.aastore, 1) := by
  have h9 : (Decoder.instr pc) ⟨⟨l⟩⟩ pc = .ok (.aastore, pc + 1) := by
    unfold Decoder.instr
    show ((Reader.u1 : Decoder Nat) ⟨⟨l⟩⟩ pc >>= fun x => _) = _
    rw [u1_at h, hb]
    rfl
  rw [dec_of h9, Nat.add_sub_cancel_left]
theorem dc_84 {l : List UInt8} {pc : Nat} {b : UInt8} {r : List UInt8} (h : l.drop pc = b :: r) (hb : b.toNat = 84) : decode ⟨⟨l⟩⟩ pc = .ok (.bastore, 1) := by
  have h9 : (Decoder.instr pc) ⟨⟨l⟩⟩ pc = .ok (.bastore, pc + 1) := by
    unfold Decoder.instr
    show ((Reader.u1 : Decoder Nat) ⟨⟨l⟩⟩ pc >>= fun x => _) = _
    rw [u1_at h, hb]
    rfl
  rw [dec_of h9, Nat.add_sub_cancel_left]
theorem dc_87 {l : List UInt8} {pc : Nat} {b : UInt8} {r : List UInt8} (h : l.drop pc = b :: r) (hb : b.toNat = 87) : decode ⟨⟨l⟩⟩ pc = .ok (.pop, 1) := by
  have h9 : (Decoder.instr pc) ⟨⟨l⟩⟩ pc = .ok (.pop, pc + 1) := by
    unfold Decoder.instr
    show ((Reader.u1 : Decoder Nat) ⟨⟨l⟩⟩ pc >>= fun x => _) = _
    rw [u1_at h, hb]
    rfl
  rw [dec_of h9, Nat.add_sub_cancel_left]
theorem dc_89 {l : List UInt8} {pc : Nat} {b : UInt8} {r : List UInt8} (h : l.drop pc = b :: r) (hb : b.toNat = 89) : decode ⟨⟨l⟩⟩ pc = .ok (.dup, 1) := by
  have h9 : (Decoder.instr pc) ⟨⟨l⟩⟩ pc = .ok (.dup, pc + 1) := by
    unfold Decoder.instr
    show ((Reader.u1 : Decoder Nat) ⟨⟨l⟩⟩ pc >>= fun x => _) = _
    rw [u1_at h, hb]
    rfl
  rw [dec_of h9, Nat.add_sub_cancel_left]
theorem dc_92 {l : List UInt8} {pc : Nat} {b : UInt8} {r : List UInt8} (h : l.drop pc = b :: r) (hb : b.toNat = 92) : decode ⟨⟨l⟩⟩ pc = .ok (.dup2, 1) := by
  have h9 : (Decoder.instr pc) ⟨⟨l⟩⟩ pc = .ok (.dup2, pc + 1) := by
    unfold Decoder.instr
    show ((Reader.u1 : Decoder Nat) ⟨⟨l⟩⟩ pc >>= fun x => _) = _
    rw [u1_at h, hb]
    rfl
  rw [dec_of h9, Nat.add_sub_cancel_left]
theorem dc_96 {l : List UInt8} {pc : Nat} {b : UInt8} {r : List UInt8} (h : l.drop pc = b :: r) (hb : b.toNat = 96) : decode ⟨⟨l⟩⟩ pc = .ok (.iadd, 1) := by
  have h9 : (Decoder.instr pc) ⟨⟨l⟩⟩ pc = .ok (.iadd, pc + 1) := by
    unfold Decoder.instr
    show ((Reader.u1 : Decoder Nat) ⟨⟨l⟩⟩ pc >>= fun x => _) = _
    rw [u1_at h, hb]
    rfl
  rw [dec_of h9, Nat.add_sub_cancel_left]
theorem dc_100 {l : List UInt8} {pc : Nat} {b : UInt8} {r : List UInt8} (h : l.drop pc = b :: r) (hb : b.toNat = 100) : decode ⟨⟨l⟩⟩ pc = .ok (.isub, 1) := by
  have h9 : (Decoder.instr pc) ⟨⟨l⟩⟩ pc = .ok (.isub, pc + 1) := by
    unfold Decoder.instr
    show ((Reader.u1 : Decoder Nat) ⟨⟨l⟩⟩ pc >>= fun x => _) = _
    rw [u1_at h, hb]
    rfl
  rw [dec_of h9, Nat.add_sub_cancel_left]
theorem dc_104 {l : List UInt8} {pc : Nat} {b : UInt8} {r : List UInt8} (h : l.drop pc = b :: r) (hb : b.toNat = 104) : decode ⟨⟨l⟩⟩ pc = .ok (.imul, 1) := by
  have h9 : (Decoder.instr pc) ⟨⟨l⟩⟩ pc = .ok (.imul, pc + 1) := by
    unfold Decoder.instr
    show ((Reader.u1 : Decoder Nat) ⟨⟨l⟩⟩ pc >>= fun x => _) = _
    rw [u1_at h, hb]
    rfl
  rw [dec_of h9, Nat.add_sub_cancel_left]
theorem dc_108 {l : List UInt8} {pc : Nat} {b : UInt8} {r : List UInt8} (h : l.drop pc = b :: r) (hb : b.toNat = 108) : decode ⟨⟨l⟩⟩ pc = .ok (.idiv, 1) := by
  have h9 : (Decoder.instr pc) ⟨⟨l⟩⟩ pc = .ok (.idiv, pc + 1) := by
    unfold Decoder.instr
    show ((Reader.u1 : Decoder Nat) ⟨⟨l⟩⟩ pc >>= fun x => _) = _
    rw [u1_at h, hb]
    rfl
  rw [dec_of h9, Nat.add_sub_cancel_left]
theorem dc_112 {l : List UInt8} {pc : Nat} {b : UInt8} {r : List UInt8} (h : l.drop pc = b :: r) (hb : b.toNat = 112) : decode ⟨⟨l⟩⟩ pc = .ok (.irem, 1) := by
  have h9 : (Decoder.instr pc) ⟨⟨l⟩⟩ pc = .ok (.irem, pc + 1) := by
    unfold Decoder.instr
    show ((Reader.u1 : Decoder Nat) ⟨⟨l⟩⟩ pc >>= fun x => _) = _
    rw [u1_at h, hb]
    rfl
  rw [dec_of h9, Nat.add_sub_cancel_left]
theorem dc_116 {l : List UInt8} {pc : Nat} {b : UInt8} {r : List UInt8} (h : l.drop pc = b :: r) (hb : b.toNat = 116) : decode ⟨⟨l⟩⟩ pc = .ok (.ineg, 1) := by
  have h9 : (Decoder.instr pc) ⟨⟨l⟩⟩ pc = .ok (.ineg, pc + 1) := by
    unfold Decoder.instr
    show ((Reader.u1 : Decoder Nat) ⟨⟨l⟩⟩ pc >>= fun x => _) = _
    rw [u1_at h, hb]
    rfl
  rw [dec_of h9, Nat.add_sub_cancel_left]
theorem dc_120 {l : List UInt8} {pc : Nat} {b : UInt8} {r : List UInt8} (h : l.drop pc = b :: r) (hb : b.toNat = 120) : decode ⟨⟨l⟩⟩ pc = .ok (.ishl, 1) := by
  have h9 : (Decoder.instr pc) ⟨⟨l⟩⟩ pc = .ok (.ishl, pc + 1) := by
    unfold Decoder.instr
    show ((Reader.u1 : Decoder Nat) ⟨⟨l⟩⟩ pc >>= fun x => _) = _
    rw [u1_at h, hb]
    rfl
  rw [dec_of h9, Nat.add_sub_cancel_left]
theorem dc_122 {l : List UInt8} {pc : Nat} {b : UInt8} {r : List UInt8} (h : l.drop pc = b :: r) (hb : b.toNat = 122) : decode ⟨⟨l⟩⟩ pc = .ok (.ishr, 1) := by
  have h9 : (Decoder.instr pc) ⟨⟨l⟩⟩ pc = .ok (.ishr, pc + 1) := by
    unfold Decoder.instr
    show ((Reader.u1 : Decoder Nat) ⟨⟨l⟩⟩ pc >>= fun x => _) = _
    rw [u1_at h, hb]
    rfl
  rw [dec_of h9, Nat.add_sub_cancel_left]
theorem dc_124 {l : List UInt8} {pc : Nat} {b : UInt8} {r : List UInt8} (h : l.drop pc = b :: r) (hb : b.toNat = 124) : decode ⟨⟨l⟩⟩ pc = .ok (.iushr, 1) := by
  have h9 : (Decoder.instr pc) ⟨⟨l⟩⟩ pc = .ok (.iushr, pc + 1) := by
    unfold Decoder.instr
    show ((Reader.u1 : Decoder Nat) ⟨⟨l⟩⟩ pc >>= fun x => _) = _
    rw [u1_at h, hb]
    rfl
  rw [dec_of h9, Nat.add_sub_cancel_left]
theorem dc_126 {l : List UInt8} {pc : Nat} {b : UInt8} {r : List UInt8} (h : l.drop pc = b :: r) (hb : b.toNat = 126) : decode ⟨⟨l⟩⟩ pc = .ok (.iand, 1) := by
  have h9 : (Decoder.instr pc) ⟨⟨l⟩⟩ pc = .ok (.iand, pc + 1) := by
    unfold Decoder.instr
    show ((Reader.u1 : Decoder Nat) ⟨⟨l⟩⟩ pc >>= fun x => _) = _
    rw [u1_at h, hb]
    rfl
  rw [dec_of h9, Nat.add_sub_cancel_left]
theorem dc_128 {l : List UInt8} {pc : Nat} {b : UInt8} {r : List UInt8} (h : l.drop pc = b :: r) (hb : b.toNat = 128) : decode ⟨⟨l⟩⟩ pc = .ok (.ior, 1) := by
  have h9 : (Decoder.instr pc) ⟨⟨l⟩⟩ pc = .ok (.ior, pc + 1) := by
    unfold Decoder.instr
    show ((Reader.u1 : Decoder Nat) ⟨⟨l⟩⟩ pc >>= fun x => _) = _
    rw [u1_at h, hb]
    rfl
  rw [dec_of h9, Nat.add_sub_cancel_left]
theorem dc_130 {l : List UInt8} {pc : Nat} {b : UInt8} {r : List UInt8} (h : l.drop pc = b :: r) (hb : b.toNat = 130) : decode ⟨⟨l⟩⟩ pc = .ok (.ixor, 1) := by
  have h9 : (Decoder.instr pc) ⟨⟨l⟩⟩ pc = .ok (.ixor, pc + 1) := by
    unfold Decoder.instr
    show ((Reader.u1 : Decoder Nat) ⟨⟨l⟩⟩ pc >>= fun x => _) = _
    rw [u1_at h, hb]
    rfl
  rw [dec_of h9, Nat.add_sub_cancel_left]
theorem dc_132 {l : List UInt8} {pc : Nat} {b : UInt8} {c d : UInt8} {r : List UInt8} (h : l.drop pc = b :: c :: d :: r) (hb : b.toNat = 132) : decode ⟨⟨l⟩⟩ pc = .ok (.iinc c.toNat (Reader.signed 8 d.toNat), 3) := by
  have h9 : (Decoder.instr pc) ⟨⟨l⟩⟩ pc = .ok (.iinc c.toNat (Reader.signed 8 d.toNat), pc + 3) := by
    unfold Decoder.instr
    show ((Reader.u1 : Decoder Nat) ⟨⟨l⟩⟩ pc >>= fun x => _) = _
    rw [u1_at h, hb]
    show ((Reader.u1 : Decoder Nat) ⟨⟨l⟩⟩ (pc + 1) >>= fun x => _) = _
    rw [u1_at (drop_s h)]
    show ((Reader.s1 : Decoder Int) ⟨⟨l⟩⟩ (pc + 1 + 1) >>= fun x => _) = _
    rw [s1_at (drop_s (drop_s h))]
    rfl
  rw [dec_of h9, Nat.add_sub_cancel_left]
theorem dc_145 {l : List UInt8} {pc : Nat} {b : UInt8} {r : List UInt8} (h : l.drop pc = b :: r) (hb : b.toNat = 145) : decode ⟨⟨l⟩⟩ pc = .ok (.i2b, 1) := by
  have h9 : (Decoder.instr pc) ⟨⟨l⟩⟩ pc = .ok (.i2b, pc + 1) := by
    unfold Decoder.instr
    show ((Reader.u1 : Decoder Nat) ⟨⟨l⟩⟩ pc >>= fun x => _) = _
    rw [u1_at h, hb]
    rfl
  rw [dec_of h9, Nat.add_sub_cancel_left]
theorem dc_146 {l : List UInt8} {pc : Nat} {b : UInt8} {r : List UInt8} (h : l.drop pc = b :: r) (hb : b.toNat = 146) : decode ⟨⟨l⟩⟩ pc = .ok (.i2c, 1) := by
  have h9 : (Decoder.instr pc) ⟨⟨l⟩⟩ pc = .ok (.i2c, pc + 1) := by
    unfold Decoder.instr
    show ((Reader.u1 : Decoder Nat) ⟨⟨l⟩⟩ pc >>= fun x => _) = _
    rw [u1_at h, hb]
    rfl
  rw [dec_of h9, Nat.add_sub_cancel_left]
theorem dc_153 {l : List UInt8} {pc : Nat} {b : UInt8} {c d : UInt8} {r : List UInt8} (h : l.drop pc = b :: c :: d :: r) (hb : b.toNat = 153) : decode ⟨⟨l⟩⟩ pc = .ok (.ifCond .eq (Reader.signed 16 (c.toNat * 256 + d.toNat)), 3) := by
  have h9 : (Decoder.instr pc) ⟨⟨l⟩⟩ pc = .ok (.ifCond .eq (Reader.signed 16 (c.toNat * 256 + d.toNat)), pc + 3) := by
    unfold Decoder.instr
    show ((Reader.u1 : Decoder Nat) ⟨⟨l⟩⟩ pc >>= fun x => _) = _
    rw [u1_at h, hb]
    show ((Reader.s2 : Decoder Int) ⟨⟨l⟩⟩ (pc + 1) >>= fun x => _) = _
    rw [s2_at (drop_s h)]
    rfl
  rw [dec_of h9, Nat.add_sub_cancel_left]
theorem dc_154 {l : List UInt8} {pc : Nat} {b : UInt8} {c d : UInt8} {r : List UInt8} (h : l.drop pc = b :: c :: d :: r) (hb : b.toNat = 154) : decode ⟨⟨l⟩⟩ pc = .ok (.ifCond .ne (Reader.signed 16 (c.toNat * 256 + d.toNat)), 3) := by
  have h9 : (Decoder.instr pc) ⟨⟨l⟩⟩ pc = .ok (.ifCond .ne (Reader.signed 16 (c.toNat * 256 + d.toNat)), pc + 3) := by
    unfold Decoder.instr
    show ((Reader.u1 : Decoder Nat) ⟨⟨l⟩⟩ pc >>= fun x => _) = _
    rw [u1_at h, hb]
    show ((Reader.s2 : Decoder Int) ⟨⟨l⟩⟩ (pc + 1) >>= fun x => _) = _
    rw [s2_at (drop_s h)]
    rfl
  rw [dec_of h9, Nat.add_sub_cancel_left]
theorem dc_155 {l : List UInt8} {pc : Nat} {b : UInt8} {c d : UInt8} {r : List UInt8} (h : l.drop pc = b :: c :: d :: r) (hb : b.toNat = 155) : decode ⟨⟨l⟩⟩ pc = .ok (.ifCond .lt (Reader.signed 16 (c.toNat * 256 + d.toNat)), 3) := by
  have h9 : (Decoder.instr pc) ⟨⟨l⟩⟩ pc = .ok (.ifCond .lt (Reader.signed 16 (c.toNat * 256 + d.toNat)), pc + 3) := by
    unfold Decoder.instr
    show ((Reader.u1 : Decoder Nat) ⟨⟨l⟩⟩ pc >>= fun x => _) = _
    rw [u1_at h, hb]
    show ((Reader.s2 : Decoder Int) ⟨⟨l⟩⟩ (pc + 1) >>= fun x => _) = _
    rw [s2_at (drop_s h)]
    rfl
  rw [dec_of h9, Nat.add_sub_cancel_left]
theorem dc_156 {l : List UInt8} {pc : Nat} {b : UInt8} {c d : UInt8} {r : List UInt8} (h : l.drop pc = b :: c :: d :: r) (hb : b.toNat = 156) : decode ⟨⟨l⟩⟩ pc = .ok (.ifCond .ge (Reader.signed 16 (c.toNat * 256 + d.toNat)), 3) := by
  have h9 : (Decoder.instr pc) ⟨⟨l⟩⟩ pc = .ok (.ifCond .ge (Reader.signed 16 (c.toNat * 256 + d.toNat)), pc + 3) := by
    unfold Decoder.instr
    show ((Reader.u1 : Decoder Nat) ⟨⟨l⟩⟩ pc >>= fun x => _) = _
    rw [u1_at h, hb]
    show ((Reader.s2 : Decoder Int) ⟨⟨l⟩⟩ (pc + 1) >>= fun x => _) = _
    rw [s2_at (drop_s h)]
    rfl
  rw [dec_of h9, Nat.add_sub_cancel_left]
theorem dc_157 {l : List UInt8} {pc : Nat} {b : UInt8} {c d : UInt8} {r : List UInt8} (h : l.drop pc = b :: c :: d :: r) (hb : b.toNat = 157) : decode ⟨⟨l⟩⟩ pc = .ok (.ifCond .gt (Reader.signed 16 (c.toNat * 256 + d.toNat)), 3) := by
  have h9 : (Decoder.instr pc) ⟨⟨l⟩⟩ pc = .ok (.ifCond .gt (Reader.signed 16 (c.toNat * 256 + d.toNat)), pc + 3) := by
    unfold Decoder.instr
    show ((Reader.u1 : Decoder Nat) ⟨⟨l⟩⟩ pc >>= fun x => _) = _
    rw [u1_at h, hb]
    show ((Reader.s2 : Decoder Int) ⟨⟨l⟩⟩ (pc + 1) >>= fun x => _) = _
    rw [s2_at (drop_s h)]
    rfl
  rw [dec_of h9, Nat.add_sub_cancel_left]
theorem dc_158 {l : List UInt8} {pc : Nat} {b : UInt8} {c d : UInt8} {r : List UInt8} (h : l.drop pc = b :: c :: d :: r) (hb : b.toNat = 158) : decode ⟨⟨l⟩⟩ pc = .ok (.ifCond .le (Reader.signed 16 (c.toNat * 256 + d.toNat)), 3) := by
  have h9 : (Decoder.instr pc) ⟨⟨l⟩⟩ pc = .ok (.ifCond .le (Reader.signed 16 (c.toNat * 256 + d.toNat)), pc + 3) := by
    unfold Decoder.instr
    show ((Reader.u1 : Decoder Nat) ⟨⟨l⟩⟩ pc >>= fun x => _) = _
    rw [u1_at h, hb]
    show ((Reader.s2 : Decoder Int) ⟨⟨l⟩⟩ (pc + 1) >>= fun x => _) = _
    rw [s2_at (drop_s h)]
    rfl
  rw [dec_of h9, Nat.add_sub_cancel_left]
theorem dc_159 {l : List UInt8} {pc : Nat} {b : UInt8} {c d : UInt8} {r : List UInt8} (h : l.drop pc = b :: c :: d :: r) (hb : b.toNat = 159) : decode ⟨⟨l⟩⟩ pc = .ok (.if_icmp .eq (Reader.signed 16 (c.toNat * 256 + d.toNat)), 3) := by
  have h9 : (Decoder.instr pc) ⟨⟨l⟩⟩ pc = .ok (.if_icmp .eq (Reader.signed 16 (c.toNat * 256 + d.toNat)), pc + 3) := by
    unfold Decoder.instr
    show ((Reader.u1 : Decoder Nat) ⟨⟨l⟩⟩ pc >>= fun x => _) = _
    rw [u1_at h, hb]
    show ((Reader.s2 : Decoder Int) ⟨⟨l⟩⟩ (pc + 1) >>= fun x => _) = _
    rw [s2_at (drop_s h)]
    rfl
  rw [dec_of h9, Nat.add_sub_cancel_left]
theorem dc_160 {l : List UInt8} {pc : Nat} {b : UInt8} {c d : UInt8} {r : List UInt8} (h : l.drop pc = b :: c :: d :: r) (hb : b.toNat = 160) : decode ⟨⟨l⟩⟩ pc = .ok (.if_icmp .ne (Reader.signed 16 (c.toNat * 256 + d.toNat)), 3) := by
  have h9 : (Decoder.instr pc) ⟨⟨l⟩⟩ pc = .ok (.if_icmp .ne (Reader.signed 16 (c.toNat * 256 + d.toNat)), pc + 3) := by
    unfold Decoder.instr
    show ((Reader.u1 : Decoder Nat) ⟨⟨l⟩⟩ pc >>= fun x => _) = _
    rw [u1_at h, hb]
    show ((Reader.s2 : Decoder Int) ⟨⟨l⟩⟩ (pc + 1) >>= fun x => _) = _
    rw [s2_at (drop_s h)]
    rfl
  rw [dec_of h9, Nat.add_sub_cancel_left]
theorem dc_161 {l : List UInt8} {pc : Nat} {b : UInt8} {c d : UInt8} {r : List UInt8} (h : l.drop pc = b :: c :: d :: r) (hb : b.toNat = 161) : decode ⟨⟨l⟩⟩ pc = .ok (.if_icmp .lt (Reader.signed 16 (c.toNat * 256 + d.toNat)), 3) := by
  have h9 : (Decoder.instr pc) ⟨⟨l⟩⟩ pc = .ok (.if_icmp .lt (Reader.signed 16 (c.toNat * 256 + d.toNat)), pc + 3) := by
    unfold Decoder.instr
    show ((Reader.u1 : Decoder Nat) ⟨⟨l⟩⟩ pc >>= fun x => _) = _
    rw [u1_at h, hb]
    show ((Reader.s2 : Decoder Int) ⟨⟨l⟩⟩ (pc + 1) >>= fun x => _) = _
    rw [s2_at (drop_s h)]
    rfl
  rw [dec_of h9, Nat.add_sub_cancel_left]
theorem dc_162 {l : List UInt8} {pc : Nat} {b : UInt8} {c d : UInt8} {r : List UInt8} (h : l.drop pc = b :: c :: d :: r) (hb : b.toNat = 162) : decode ⟨⟨l⟩⟩ pc = .ok (.if_icmp .ge (Reader.signed 16 (c.toNat * 256 + d.toNat)), 3) := by
  have h9 : (Decoder.instr pc) ⟨⟨l⟩⟩ pc = .ok (.if_icmp .ge (Reader.signed 16 (c.toNat * 256 + d.toNat)), pc + 3) := by
    unfold Decoder.instr
    show ((Reader.u1 : Decoder Nat) ⟨⟨l⟩⟩ pc >>= fun x => _) = _
    rw [u1_at h, hb]
    show ((Reader.s2 : Decoder Int) ⟨⟨l⟩⟩ (pc + 1) >>= fun x => _) = _
    rw [s2_at (drop_s h)]
    rfl
  rw [dec_of h9, Nat.add_sub_cancel_left]
theorem dc_163 {l : List UInt8} {pc : Nat} {b : UInt8} {c d : UInt8} {r : List UInt8} (h : l.drop pc = b :: c :: d :: r) (hb : b.toNat = 163) : decode ⟨⟨l⟩⟩ pc = .ok (.if_icmp .gt (Reader.signed 16 (c.toNat * 256 + d.toNat)), 3) := by
  have h9 : (Decoder.instr pc) ⟨⟨l⟩⟩ pc = .ok (.if_icmp .gt (Reader.signed 16 (c.toNat * 256 + d.toNat)), pc + 3) := by
    unfold Decoder.instr
    show ((Reader.u1 : Decoder Nat) ⟨⟨l⟩⟩ pc >>= fun x => _) = _
    rw [u1_at h, hb]
    show ((Reader.s2 : Decoder Int) ⟨⟨l⟩⟩ (pc + 1) >>= fun x => _) = _
    rw [s2_at (drop_s h)]
    rfl
  rw [dec_of h9, Nat.add_sub_cancel_left]
theorem dc_164 {l : List UInt8} {pc : Nat} {b : UInt8} {c d : UInt8} {r : List UInt8} (h : l.drop pc = b :: c :: d :: r) (hb : b.toNat = 164) : decode ⟨⟨l⟩⟩ pc = .ok (.if_icmp .le (Reader.signed 16 (c.toNat * 256 + d.toNat)), 3) := by
  have h9 : (Decoder.instr pc) ⟨⟨l⟩⟩ pc = .ok (.if_icmp .le (Reader.signed 16 (c.toNat * 256 + d.toNat)), pc + 3) := by
    unfold Decoder.instr
    show ((Reader.u1 : Decoder Nat) ⟨⟨l⟩⟩ pc >>= fun x => _) = _
    rw [u1_at h, hb]
    show ((Reader.s2 : Decoder Int) ⟨⟨l⟩⟩ (pc + 1) >>= fun x => _) = _
    rw [s2_at (drop_s h)]
    rfl
  rw [dec_of h9, Nat.add_sub_cancel_left]
theorem dc_167 {l : List UInt8} {pc : Nat} {b : UInt8} {c d : UInt8} {r : List UInt8} (h : l.drop pc = b :: c :: d :: r) (hb : b.toNat = 167) : decode ⟨⟨l⟩⟩ pc = .ok (.goto (Reader.signed 16 (c.toNat * 256 + d.toNat)), 3) := by
  have h9 : (Decoder.instr pc) ⟨⟨l⟩⟩ pc = .ok (.goto (Reader.signed 16 (c.toNat * 256 + d.toNat)), pc + 3) := by
    unfold Decoder.instr
    show ((Reader.u1 : Decoder Nat) ⟨⟨l⟩⟩ pc >>= fun x => _) = _
    rw [u1_at h, hb]
    show ((Reader.s2 : Decoder Int) ⟨⟨l⟩⟩ (pc + 1) >>= fun x => _) = _
    rw [s2_at (drop_s h)]
    rfl
  rw [dec_of h9, Nat.add_sub_cancel_left]
theorem dc_172 {l : List UInt8} {pc : Nat} {b : UInt8} {r : List UInt8} (h : l.drop pc = b :: r) (hb : b.toNat = 172) : decode ⟨⟨l⟩⟩ pc = .ok (.ireturn, 1) := by
  have h9 : (Decoder.instr pc) ⟨⟨l⟩⟩ pc = .ok (.ireturn, pc + 1) := by
    unfold Decoder.instr
    show ((Reader.u1 : Decoder Nat) ⟨⟨l⟩⟩ pc >>= fun x => _) = _
    rw [u1_at h, hb]
    rfl
  rw [dec_of h9, Nat.add_sub_cancel_left]
theorem dc_176 {l : List UInt8} {pc : Nat} {b : UInt8} {r : List UInt8} (h : l.drop pc = b :: r) (hb : b.toNat = 176) : decode ⟨⟨l⟩⟩ pc = .ok (.areturn, 1) := by
  have h9 : (Decoder.instr pc) ⟨⟨l⟩⟩ pc = .ok (.areturn, pc + 1) := by
    unfold Decoder.instr
    show ((Reader.u1 : Decoder Nat) ⟨⟨l⟩⟩ pc >>= fun x => _) = _
    rw [u1_at h, hb]
    rfl
  rw [dec_of h9, Nat.add_sub_cancel_left]
theorem dc_177 {l : List UInt8} {pc : Nat} {b : UInt8} {r : List UInt8} (h : l.drop pc = b :: r) (hb : b.toNat = 177) : decode ⟨⟨l⟩⟩ pc = .ok (.return_, 1) := by
  have h9 : (Decoder.instr pc) ⟨⟨l⟩⟩ pc = .ok (.return_, pc + 1) := by
    unfold Decoder.instr
    show ((Reader.u1 : Decoder Nat) ⟨⟨l⟩⟩ pc >>= fun x => _) = _
    rw [u1_at h, hb]
    rfl
  rw [dec_of h9, Nat.add_sub_cancel_left]
theorem dc_178 {l : List UInt8} {pc : Nat} {b : UInt8} {c d : UInt8} {r : List UInt8} (h : l.drop pc = b :: c :: d :: r) (hb : b.toNat = 178) : decode ⟨⟨l⟩⟩ pc = .ok (.getstatic (c.toNat * 256 + d.toNat), 3) := by
  have h9 : (Decoder.instr pc) ⟨⟨l⟩⟩ pc = .ok (.getstatic (c.toNat * 256 + d.toNat), pc + 3) := by
    unfold Decoder.instr
    show ((Reader.u1 : Decoder Nat) ⟨⟨l⟩⟩ pc >>= fun x => _) = _
    rw [u1_at h, hb]
    show ((Reader.u2 : Decoder Nat) ⟨⟨l⟩⟩ (pc + 1) >>= fun x => _) = _
    rw [u2_at (drop_s h)]
    rfl
  rw [dec_of h9, Nat.add_sub_cancel_left]
theorem dc_180 {l : List UInt8} {pc : Nat} {b : UInt8} {c d : UInt8} {r : List UInt8} (h : l.drop pc = b :: c :: d :: r) (hb : b.toNat = 180) : decode ⟨⟨l⟩⟩ pc = .ok (.getfield (c.toNat * 256 + d.toNat), 3) := by
  have h9 : (Decoder.instr pc) ⟨⟨l⟩⟩ pc = .ok (.getfield (c.toNat * 256 + d.toNat), pc + 3) := by
    unfold Decoder.instr
    show ((Reader.u1 : Decoder Nat) ⟨⟨l⟩⟩ pc >>= fun x => _) = _
    rw [u1_at h, hb]
    show ((Reader.u2 : Decoder Nat) ⟨⟨l⟩⟩ (pc + 1) >>= fun x => _) = _
    rw [u2_at (drop_s h)]
    rfl
  rw [dec_of h9, Nat.add_sub_cancel_left]
theorem dc_181 {l : List UInt8} {pc : Nat} {b : UInt8} {c d : UInt8} {r : List UInt8} (h : l.drop pc = b :: c :: d :: r) (hb : b.toNat = 181) : decode ⟨⟨l⟩⟩ pc = .ok (.putfield (c.toNat * 256 + d.toNat), 3) := by
  have h9 : (Decoder.instr pc) ⟨⟨l⟩⟩ pc = .ok (.putfield (c.toNat * 256 + d.toNat), pc + 3) := by
    unfold Decoder.instr
    show ((Reader.u1 : Decoder Nat) ⟨⟨l⟩⟩ pc >>= fun x => _) = _
    rw [u1_at h, hb]
    show ((Reader.u2 : Decoder Nat) ⟨⟨l⟩⟩ (pc + 1) >>= fun x => _) = _
    rw [u2_at (drop_s h)]
    rfl
  rw [dec_of h9, Nat.add_sub_cancel_left]
theorem dc_182 {l : List UInt8} {pc : Nat} {b : UInt8} {c d : UInt8} {r : List UInt8} (h : l.drop pc = b :: c :: d :: r) (hb : b.toNat = 182) : decode ⟨⟨l⟩⟩ pc = .ok (.invokevirtual (c.toNat * 256 + d.toNat), 3) := by
  have h9 : (Decoder.instr pc) ⟨⟨l⟩⟩ pc = .ok (.invokevirtual (c.toNat * 256 + d.toNat), pc + 3) := by
    unfold Decoder.instr
    show ((Reader.u1 : Decoder Nat) ⟨⟨l⟩⟩ pc >>= fun x => _) = _
    rw [u1_at h, hb]
    show ((Reader.u2 : Decoder Nat) ⟨⟨l⟩⟩ (pc + 1) >>= fun x => _) = _
    rw [u2_at (drop_s h)]
    rfl
  rw [dec_of h9, Nat.add_sub_cancel_left]
theorem dc_183 {l : List UInt8} {pc : Nat} {b : UInt8} {c d : UInt8} {r : List UInt8} (h : l.drop pc = b :: c :: d :: r) (hb : b.toNat = 183) : decode ⟨⟨l⟩⟩ pc = .ok (.invokespecial (c.toNat * 256 + d.toNat), 3) := by
  have h9 : (Decoder.instr pc) ⟨⟨l⟩⟩ pc = .ok (.invokespecial (c.toNat * 256 + d.toNat), pc + 3) := by
    unfold Decoder.instr
    show ((Reader.u1 : Decoder Nat) ⟨⟨l⟩⟩ pc >>= fun x => _) = _
    rw [u1_at h, hb]
    show ((Reader.u2 : Decoder Nat) ⟨⟨l⟩⟩ (pc + 1) >>= fun x => _) = _
    rw [u2_at (drop_s h)]
    rfl
  rw [dec_of h9, Nat.add_sub_cancel_left]
theorem dc_184 {l : List UInt8} {pc : Nat} {b : UInt8} {c d : UInt8} {r : List UInt8} (h : l.drop pc = b :: c :: d :: r) (hb : b.toNat = 184) : decode ⟨⟨l⟩⟩ pc = .ok (.invokestatic (c.toNat * 256 + d.toNat), 3) := by
  have h9 : (Decoder.instr pc) ⟨⟨l⟩⟩ pc = .ok (.invokestatic (c.toNat * 256 + d.toNat), pc + 3) := by
    unfold Decoder.instr
    show ((Reader.u1 : Decoder Nat) ⟨⟨l⟩⟩ pc >>= fun x => _) = _
    rw [u1_at h, hb]
    show ((Reader.u2 : Decoder Nat) ⟨⟨l⟩⟩ (pc + 1) >>= fun x => _) = _
    rw [u2_at (drop_s h)]
    rfl
  rw [dec_of h9, Nat.add_sub_cancel_left]
theorem dc_187 {l : List UInt8} {pc : Nat} {b : UInt8} {c d : UInt8} {r : List UInt8} (h : l.drop pc = b :: c :: d :: r) (hb : b.toNat = 187) : decode ⟨⟨l⟩⟩ pc = .ok (.new (c.toNat * 256 + d.toNat), 3) := by
  have h9 : (Decoder.instr pc) ⟨⟨l⟩⟩ pc = .ok (.new (c.toNat * 256 + d.toNat), pc + 3) := by
    unfold Decoder.instr
    show ((Reader.u1 : Decoder Nat) ⟨⟨l⟩⟩ pc >>= fun x => _) = _
    rw [u1_at h, hb]
    show ((Reader.u2 : Decoder Nat) ⟨⟨l⟩⟩ (pc + 1) >>= fun x => _) = _
    rw [u2_at (drop_s h)]
    rfl
  rw [dec_of h9, Nat.add_sub_cancel_left]
theorem dc_188_8 {l : List UInt8} {pc : Nat} {b : UInt8} {c : UInt8} {r : List UInt8} (h : l.drop pc = b :: c :: r) (hb : b.toNat = 188) (hc : c.toNat = 8) : decode ⟨⟨l⟩⟩ pc = .ok (.newarray .byte, 2) := by
  have h9 : (Decoder.instr pc) ⟨⟨l⟩⟩ pc = .ok (.newarray .byte, pc + 2) := by
    unfold Decoder.instr
    show ((Reader.u1 : Decoder Nat) ⟨⟨l⟩⟩ pc >>= fun x => _) = _
    rw [u1_at h, hb]
    show ((Reader.u1 : Decoder Nat) ⟨⟨l⟩⟩ (pc + 1) >>= fun x => _) = _
    rw [u1_at (drop_s h), hc]
    rfl
  rw [dec_of h9, Nat.add_sub_cancel_left]
theorem dc_188_10 {l : List UInt8} {pc : Nat} {b : UInt8} {c : UInt8} {r : List UInt8} (h : l.drop pc = b :: c :: r) (hb : b.toNat = 188) (hc : c.toNat = 10) : decode ⟨⟨l⟩⟩ pc = .ok (.newarray .int, 2) := by
  have h9 : (Decoder.instr pc) ⟨⟨l⟩⟩ pc = .ok (.newarray .int, pc + 2) := by
    unfold Decoder.instr
    show ((Reader.u1 : Decoder Nat) ⟨⟨l⟩⟩ pc >>= fun x => _) = _
    rw [u1_at h, hb]
    show ((Reader.u1 : Decoder Nat) ⟨⟨l⟩⟩ (pc + 1) >>= fun x => _) = _
    rw [u1_at (drop_s h), hc]
    rfl
  rw [dec_of h9, Nat.add_sub_cancel_left]
theorem dc_189 {l : List UInt8} {pc : Nat} {b : UInt8} {c d : UInt8} {r : List UInt8} (h : l.drop pc = b :: c :: d :: r) (hb : b.toNat = 189) : decode ⟨⟨l⟩⟩ pc = .ok (.anewarray (c.toNat * 256 + d.toNat), 3) := by
  have h9 : (Decoder.instr pc) ⟨⟨l⟩⟩ pc = .ok (.anewarray (c.toNat * 256 + d.toNat), pc + 3) := by
    unfold Decoder.instr
    show ((Reader.u1 : Decoder Nat) ⟨⟨l⟩⟩ pc >>= fun x => _) = _
    rw [u1_at h, hb]
    show ((Reader.u2 : Decoder Nat) ⟨⟨l⟩⟩ (pc + 1) >>= fun x => _) = _
    rw [u2_at (drop_s h)]
    rfl
  rw [dec_of h9, Nat.add_sub_cancel_left]
theorem dc_190 {l : List UInt8} {pc : Nat} {b : UInt8} {r : List UInt8} (h : l.drop pc = b :: r) (hb : b.toNat = 190) : decode ⟨⟨l⟩⟩ pc = .ok (.arraylength, 1) := by
  have h9 : (Decoder.instr pc) ⟨⟨l⟩⟩ pc = .ok (.arraylength, pc + 1) := by
    unfold Decoder.instr
    show ((Reader.u1 : Decoder Nat) ⟨⟨l⟩⟩ pc >>= fun x => _) = _
    rw [u1_at h, hb]
    rfl
  rw [dec_of h9, Nat.add_sub_cancel_left]
set_option maxHeartbeats 4000000 in
theorem dcS_ok {l : List UInt8} {pc : Nat} {i : Instr} {len : Nat} {r : List UInt8} {x : List UInt8} (hx : l.drop pc = x) (h : dcS x = some (i, len, r)) : decode ⟨⟨l⟩⟩ pc = .ok (i, len) ∧ l.drop (pc + len) = r := by
  unfold dcS at h
  split at h
  · rename_i b r0
    split at h
    · rename_i hb
      cases h
      exact ⟨dc_2 hx hb, drop_s hx⟩
    · rename_i hb
      cases h
      exact ⟨dc_3 hx hb, drop_s hx⟩
    · rename_i hb
      cases h
      exact ⟨dc_4 hx hb, drop_s hx⟩
    · rename_i hb
      cases h
      exact ⟨dc_5 hx hb, drop_s hx⟩
    · rename_i hb
      cases h
      exact ⟨dc_6 hx hb, drop_s hx⟩
    · rename_i hb
      cases h
      exact ⟨dc_7 hx hb, drop_s hx⟩
    · rename_i hb
      cases h
      exact ⟨dc_8 hx hb, drop_s hx⟩
    · rename_i hb
      split at h
      · cases h
        exact ⟨dc_16 hx hb, drop_s (drop_s hx)⟩
      · cases h
    · rename_i hb
      split at h
      · cases h
        exact ⟨dc_17 hx hb, drop_s (drop_s (drop_s hx))⟩
      · cases h
    · rename_i hb
      split at h
      · cases h
        exact ⟨dc_18 hx hb, drop_s (drop_s hx)⟩
      · cases h
    · rename_i hb
      split at h
      · cases h
        exact ⟨dc_19 hx hb, drop_s (drop_s (drop_s hx))⟩
      · cases h
    · rename_i hb
      split at h
      · cases h
        exact ⟨dc_21 hx hb, drop_s (drop_s hx)⟩
      · cases h
    · rename_i hb
      split at h
      · cases h
        exact ⟨dc_25 hx hb, drop_s (drop_s hx)⟩
      · cases h
    · rename_i hb
      cases h
      exact ⟨dc_26 hx hb, drop_s hx⟩
    · rename_i hb
      cases h
      exact ⟨dc_27 hx hb, drop_s hx⟩
    · rename_i hb
      cases h
      exact ⟨dc_28 hx hb, drop_s hx⟩
    · rename_i hb
      cases h
      exact ⟨dc_29 hx hb, drop_s hx⟩
    · rename_i hb
      cases h
      exact ⟨dc_42 hx hb, drop_s hx⟩
    · rename_i hb
      cases h
      exact ⟨dc_43 hx hb, drop_s hx⟩
    · rename_i hb
      cases h
      exact ⟨dc_44 hx hb, drop_s hx⟩
    · rename_i hb
      cases h
      exact ⟨dc_45 hx hb, drop_s hx⟩
    · rename_i hb
      cases h
      exact ⟨dc_46 hx hb, drop_s hx⟩
    · rename_i hb
      cases h
      exact ⟨dc_50 hx hb, drop_s hx⟩
    · rename_i hb
      cases h
      exact ⟨dc_51 hx hb, drop_s hx⟩
    · rename_i hb
      split at h
      · cases h
        exact ⟨dc_54 hx hb, drop_s (drop_s hx)⟩
      · cases h
    · rename_i hb
      split at h
      · cases h
        exact ⟨dc_58 hx hb, drop_s (drop_s hx)⟩
      · cases h
    · rename_i hb
      cases h
      exact ⟨dc_59 hx hb, drop_s hx⟩
    · rename_i hb
      cases h
      exact ⟨dc_60 hx hb, drop_s hx⟩
    · rename_i hb
      cases h
      exact ⟨dc_61 hx hb, drop_s hx⟩
    · rename_i hb
      cases h
      exact ⟨dc_62 hx hb, drop_s hx⟩
    · rename_i hb
      cases h
      exact ⟨dc_75 hx hb, drop_s hx⟩
    · rename_i hb
      cases h
      exact ⟨dc_76 hx hb, drop_s hx⟩
    · rename_i hb
      cases h
      exact ⟨dc_77 hx hb, drop_s hx⟩
    · rename_i hb
      cases h
      exact ⟨dc_78 hx hb, drop_s hx⟩
    · rename_i hb
      cases h
      exact ⟨dc_79 hx hb, drop_s hx⟩
    · rename_i hb
      cases h
      exact ⟨dc_83 hx hb, drop_s hx⟩
    · rename_i hb
      cases h
      exact ⟨dc_84 hx hb, drop_s hx⟩
    · rename_i hb
      cases h
      exact ⟨dc_87 hx hb, drop_s hx⟩
    · rename_i hb
      cases h
      exact ⟨dc_89 hx hb, drop_s hx⟩
    · rename_i hb
      cases h
      exact ⟨dc_92 hx hb, drop_s hx⟩
    · rename_i hb
      cases h
      exact ⟨dc_96 hx hb, drop_s hx⟩
    · rename_i hb
      cases h
      exact ⟨dc_100 hx hb, drop_s hx⟩
    · rename_i hb
      cases h
      exact ⟨dc_104 hx hb, drop_s hx⟩
    · rename_i hb
      cases h
      exact ⟨dc_108 hx hb, drop_s hx⟩
    · rename_i hb
      cases h
      exact ⟨dc_112 hx hb, drop_s hx⟩
    · rename_i hb
      cases h
      exact ⟨dc_116 hx hb, drop_s hx⟩
    · rename_i hb
      cases h
      exact ⟨dc_120 hx hb, drop_s hx⟩
    · rename_i hb
      cases h
      exact ⟨dc_122 hx hb, drop_s hx⟩
    · rename_i hb
      cases h
      exact ⟨dc_124 hx hb, drop_s hx⟩
    · rename_i hb
      cases h
      exact ⟨dc_126 hx hb, drop_s hx⟩
    · rename_i hb
      cases h
      exact ⟨dc_128 hx hb, drop_s hx⟩
    · rename_i hb
      cases h
      exact ⟨dc_130 hx hb, drop_s hx⟩
    · rename_i hb
      split at h
      · cases h
        exact ⟨dc_132 hx hb, drop_s (drop_s (drop_s hx))⟩
      · cases h
    · rename_i hb
      cases h
      exact ⟨dc_145 hx hb, drop_s hx⟩
    · rename_i hb
      cases h
      exact ⟨dc_146 hx hb, drop_s hx⟩
    · rename_i hb
      split at h
      · cases h
        exact ⟨dc_153 hx hb, drop_s (drop_s (drop_s hx))⟩
      · cases h
    · rename_i hb
      split at h
      · cases h
        exact ⟨dc_154 hx hb, drop_s (drop_s (drop_s hx))⟩
      · cases h
    · rename_i hb
      split at h
      · cases h
        exact ⟨dc_155 hx hb, drop_s (drop_s (drop_s hx))⟩
      · cases h
    · rename_i hb
      split at h
      · cases h
        exact ⟨dc_156 hx hb, drop_s (drop_s (drop_s hx))⟩
      · cases h
    · rename_i hb
      split at h
      · cases h
        exact ⟨dc_157 hx hb, drop_s (drop_s (drop_s hx))⟩
      · cases h
    · rename_i hb
      split at h
      · cases h
        exact ⟨dc_158 hx hb, drop_s (drop_s (drop_s hx))⟩
      · cases h
    · rename_i hb
      split at h
      · cases h
        exact ⟨dc_159 hx hb, drop_s (drop_s (drop_s hx))⟩
      · cases h
    · rename_i hb
      split at h
      · cases h
        exact ⟨dc_160 hx hb, drop_s (drop_s (drop_s hx))⟩
      · cases h
    · rename_i hb
      split at h
      · cases h
        exact ⟨dc_161 hx hb, drop_s (drop_s (drop_s hx))⟩
      · cases h
    · rename_i hb
      split at h
      · cases h
        exact ⟨dc_162 hx hb, drop_s (drop_s (drop_s hx))⟩
      · cases h
    · rename_i hb
      split at h
      · cases h
        exact ⟨dc_163 hx hb, drop_s (drop_s (drop_s hx))⟩
      · cases h
    · rename_i hb
      split at h
      · cases h
        exact ⟨dc_164 hx hb, drop_s (drop_s (drop_s hx))⟩
      · cases h
    · rename_i hb
      split at h
      · cases h
        exact ⟨dc_167 hx hb, drop_s (drop_s (drop_s hx))⟩
      · cases h
    · rename_i hb
      cases h
      exact ⟨dc_172 hx hb, drop_s hx⟩
    · rename_i hb
      cases h
      exact ⟨dc_176 hx hb, drop_s hx⟩
    · rename_i hb
      cases h
      exact ⟨dc_177 hx hb, drop_s hx⟩
    · rename_i hb
      split at h
      · cases h
        exact ⟨dc_178 hx hb, drop_s (drop_s (drop_s hx))⟩
      · cases h
    · rename_i hb
      split at h
      · cases h
        exact ⟨dc_180 hx hb, drop_s (drop_s (drop_s hx))⟩
      · cases h
    · rename_i hb
      split at h
      · cases h
        exact ⟨dc_181 hx hb, drop_s (drop_s (drop_s hx))⟩
      · cases h
    · rename_i hb
      split at h
      · cases h
        exact ⟨dc_182 hx hb, drop_s (drop_s (drop_s hx))⟩
      · cases h
    · rename_i hb
      split at h
      · cases h
        exact ⟨dc_183 hx hb, drop_s (drop_s (drop_s hx))⟩
      · cases h
    · rename_i hb
      split at h
      · cases h
        exact ⟨dc_184 hx hb, drop_s (drop_s (drop_s hx))⟩
      · cases h
    · rename_i hb
      split at h
      · cases h
        exact ⟨dc_187 hx hb, drop_s (drop_s (drop_s hx))⟩
      · cases h
    · rename_i hb
      split at h
      · split at h
        · rename_i hc
          cases h
          exact ⟨dc_188_8 hx hb hc, drop_s (drop_s hx)⟩
        · rename_i hc
          cases h
          exact ⟨dc_188_10 hx hb hc, drop_s (drop_s hx)⟩
        · cases h
      · cases h
    · rename_i hb
      split at h
      · cases h
        exact ⟨dc_189 hx hb, drop_s (drop_s (drop_s hx))⟩
      · cases h
    · rename_i hb
      cases h
      exact ⟨dc_190 hx hb, drop_s hx⟩
    · cases h
  · cases h
def chkL : Nat → Nat → List UInt8 → List (Nat × CI) → Bool
  | _, _, _, [] => true
  | 0, _, _, _ :: _ => false
  | n + 1, pos, l, (pc, i, len, aux) :: t => bif Nat.beq pos pc then (bif isSw i then (match l with
      | [] => false
      | _ :: l' => chkL n (pc + 1) l' t) else (match dcS l with
      | some (i', len', l') => decide (i' = i) && (Nat.beq len' len && chkL n (pc + len) l' t)
      | none => false)) else (match l with
      | [] => false
      | _ :: l' => chkL n (pos + 1) l' ((pc, i, len, aux) :: t))
theorem chkL_ok {l : List UInt8} : ∀ (n pos : Nat) (x : List UInt8) (t : List (Nat × CI)), l.drop pos = x → chkL n pos x t = true → ∀ y ∈ t, isSw y.2.1 = false → decode ⟨⟨l⟩⟩ y.1 = .ok (y.2.1, y.2.2.1) := by
  intro n
  induction n with
  | zero =>
    intro pos x t hx h y hy
    cases t with
    | nil => cases hy
    | cons a t => cases h
  | succ n ih =>
    intro pos x t hx h y hy hs
    cases t with
    | nil => cases hy
    | cons a t =>
      obtain ⟨pc, i, len, aux⟩ := a
      unfold chkL at h
      cases hb : Nat.beq pos pc
      · rw [hb] at h
        simp only [cond_false] at h
        split at h
        · cases h
        · exact ih _ _ _ (drop_s hx) h y hy hs
      · rw [hb] at h
        simp only [cond_true] at h
        have hp : pos = pc := Nat.eq_of_beq_eq_true hb
        subst hp
        cases hw : isSw i
        · rw [hw] at h
          simp only [cond_false] at h
          split at h
          · rename_i i' len' l' hd
            simp only [Bool.and_eq_true, decide_eq_true_eq] at h
            obtain ⟨rfl, h2, h3⟩ := h
            have h4 : len' = len := Nat.eq_of_beq_eq_true h2
            subst h4
            obtain ⟨g1, g2⟩ := dcS_ok hx hd
            rcases List.mem_cons.mp hy with rfl | hy
            · exact g1
            · exact ih _ _ _ g2 h3 y hy hs
          · cases h
        · rw [hw] at h
          simp only [cond_true] at h
          split at h
          · cases h
          · rcases List.mem_cons.mp hy with rfl | hy
            · rw [hw] at hs; cases hs
            · exact ih _ _ _ (drop_s hx) h y hy hs
