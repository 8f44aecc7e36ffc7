/-! decode, byte by byte: what an instruction's bytes are; a block's bytes are gone through once (wip/whole/mkdec.py) -/
theorem dq_bind {α β : Type} {r : Decoder α} {f : α → Decoder β} {code : ByteArray} {p q : Nat} {a : α} (h : r code p = .ok (a, q)) : (r >>= f) code p = f a code q := by
  have e : (r >>= f) code p = Except.bind (r code p) (fun v => f v.1 code v.2) := rfl
  rw [e, h]; rfl
theorem dq_map {α β : Type} {r : Decoder α} {f : α → β} {code : ByteArray} {p q : Nat} {a : α} (h : r code p = .ok (a, q)) : (f <$> r) code p = .ok (f a, q) := by
  have e : (f <$> r) code p = Except.bind (r code p) (fun v => Except.ok (f v.1, v.2)) := rfl
  rw [e, h]; rfl
theorem dq_of {code : ByteArray} {pc n : Nat} {i : Instr} (h : Decoder.instr pc code pc = .ok (i, pc + n)) : decode code pc = .ok (i, n) := by
  have e : decode code pc = Except.bind (Decoder.instr pc code pc) (fun v => Except.ok (v.1, v.2 - pc)) := rfl
  rw [e, h]
  show Except.ok (i, pc + n - pc) = _
  rw [Nat.add_sub_cancel_left]
def dq_at (code : ByteArray) (p b : Nat) : Prop := (Reader.u1 : Decoder Nat) code p = .ok (b, p + 1)
theorem dq_u1 {code : ByteArray} {p : Nat} {b : UInt8} {r : List UInt8} (h : code.data.toList.drop p = b :: r) : dq_at code p b.toNat ∧ code.data.toList.drop (p + 1) = r := by
  have lt : p < code.data.toList.length := by
    rcases Nat.lt_or_ge p code.data.toList.length with q | q
    · exact q
    · rw [List.drop_eq_nil_of_le q] at h; cases h
  have hd := List.drop_eq_getElem_cons lt
  rw [h] at hd
  injection hd with hb hr
  have lt2 : p < code.size := by
    have e : code.data.toList.length = code.size := Array.length_toList
    rw [← e]; exact lt
  refine ⟨?_, hr.symm⟩
  have e : (Reader.u1 : Decoder Nat) code p = (dite (p < code.size) (fun h => (do set (p + 1); pure (code[p]'h).toNat : Decoder Nat)) (fun _ => throw (HasTruncated.truncated p))) code p := rfl
  unfold dq_at
  rw [e, dif_pos lt2]
  have g : code[p]'lt2 = b := by
    rw [hb]; exact (Array.getElem_toList lt2).symm
  show Except.ok ((code[p]'lt2).toNat, p + 1) = _
  rw [g]
theorem dq_u2 {code : ByteArray} {p a b : Nat} (h1 : dq_at code p a) (h2 : dq_at code (p + 1) b) : (Reader.u2 : Decoder Nat) code p = .ok (a * 256 + b, p + 2) := by
  have e : (Reader.u2 : Decoder Nat) code p = (Reader.u1 >>= fun hi => Reader.u1 >>= fun lo => (pure (hi * 256 + lo) : Decoder Nat)) code p := rfl
  rw [e, dq_bind h1, dq_bind h2]; rfl
/-- a number's two bytes, its one byte -/
def dq_h (x : Nat) : Nat := x / 256
def dq_l (x : Nat) : Nat := x % 256
theorem dq_hl (x : Nat) : dq_h x * 256 + dq_l x = x := by unfold dq_h dq_l; omega
def dq_n (bits : Nat) (x : Int) : Nat := if 0 ≤ x then x.toNat else (x + (2 ^ bits : Nat)).toNat
theorem dq_s (bits : Nat) (x : Int) (h : -((2 ^ (bits - 1) : Nat) : Int) ≤ x ∧ x < ((2 ^ (bits - 1) : Nat) : Int)) (b : 2 ^ bits = 2 * 2 ^ (bits - 1)) : Reader.signed bits (dq_n bits x) = x := by
  obtain ⟨h1, h2⟩ := h
  unfold Reader.signed dq_n
  rw [b]
  generalize 2 ^ (bits - 1) = m at h1 h2
  by_cases c : 0 ≤ x
  · rw [if_pos c, if_pos (by omega)]; omega
  · rw [if_neg c, if_neg (by omega)]; omega
theorem dq_aconst_null {code : ByteArray} {pc : Nat} (h : dq_at code pc 1) : decode code pc = .ok (.aconst_null, 1) := dq_of (dq_bind h)
theorem dq_iaload {code : ByteArray} {pc : Nat} (h : dq_at code pc 46) : decode code pc = .ok (.iaload, 1) := dq_of (dq_bind h)
theorem dq_laload {code : ByteArray} {pc : Nat} (h : dq_at code pc 47) : decode code pc = .ok (.laload, 1) := dq_of (dq_bind h)
theorem dq_aaload {code : ByteArray} {pc : Nat} (h : dq_at code pc 50) : decode code pc = .ok (.aaload, 1) := dq_of (dq_bind h)
theorem dq_baload {code : ByteArray} {pc : Nat} (h : dq_at code pc 51) : decode code pc = .ok (.baload, 1) := dq_of (dq_bind h)
theorem dq_iastore {code : ByteArray} {pc : Nat} (h : dq_at code pc 79) : decode code pc = .ok (.iastore, 1) := dq_of (dq_bind h)
theorem dq_lastore {code : ByteArray} {pc : Nat} (h : dq_at code pc 80) : decode code pc = .ok (.lastore, 1) := dq_of (dq_bind h)
theorem dq_bastore {code : ByteArray} {pc : Nat} (h : dq_at code pc 84) : decode code pc = .ok (.bastore, 1) := dq_of (dq_bind h)
theorem dq_pop {code : ByteArray} {pc : Nat} (h : dq_at code pc 87) : decode code pc = .ok (.pop, 1) := dq_of (dq_bind h)
theorem dq_dup {code : ByteArray} {pc : Nat} (h : dq_at code pc 89) : decode code pc = .ok (.dup, 1) := dq_of (dq_bind h)
theorem dq_dup2 {code : ByteArray} {pc : Nat} (h : dq_at code pc 92) : decode code pc = .ok (.dup2, 1) := dq_of (dq_bind h)
theorem dq_iadd {code : ByteArray} {pc : Nat} (h : dq_at code pc 96) : decode code pc = .ok (.iadd, 1) := dq_of (dq_bind h)
theorem dq_ladd {code : ByteArray} {pc : Nat} (h : dq_at code pc 97) : decode code pc = .ok (.ladd, 1) := dq_of (dq_bind h)
theorem dq_isub {code : ByteArray} {pc : Nat} (h : dq_at code pc 100) : decode code pc = .ok (.isub, 1) := dq_of (dq_bind h)
theorem dq_lsub {code : ByteArray} {pc : Nat} (h : dq_at code pc 101) : decode code pc = .ok (.lsub, 1) := dq_of (dq_bind h)
theorem dq_imul {code : ByteArray} {pc : Nat} (h : dq_at code pc 104) : decode code pc = .ok (.imul, 1) := dq_of (dq_bind h)
theorem dq_lmul {code : ByteArray} {pc : Nat} (h : dq_at code pc 105) : decode code pc = .ok (.lmul, 1) := dq_of (dq_bind h)
theorem dq_idiv {code : ByteArray} {pc : Nat} (h : dq_at code pc 108) : decode code pc = .ok (.idiv, 1) := dq_of (dq_bind h)
theorem dq_irem {code : ByteArray} {pc : Nat} (h : dq_at code pc 112) : decode code pc = .ok (.irem, 1) := dq_of (dq_bind h)
theorem dq_ineg {code : ByteArray} {pc : Nat} (h : dq_at code pc 116) : decode code pc = .ok (.ineg, 1) := dq_of (dq_bind h)
theorem dq_ishl {code : ByteArray} {pc : Nat} (h : dq_at code pc 120) : decode code pc = .ok (.ishl, 1) := dq_of (dq_bind h)
theorem dq_lshl {code : ByteArray} {pc : Nat} (h : dq_at code pc 121) : decode code pc = .ok (.lshl, 1) := dq_of (dq_bind h)
theorem dq_ishr {code : ByteArray} {pc : Nat} (h : dq_at code pc 122) : decode code pc = .ok (.ishr, 1) := dq_of (dq_bind h)
theorem dq_lshr {code : ByteArray} {pc : Nat} (h : dq_at code pc 123) : decode code pc = .ok (.lshr, 1) := dq_of (dq_bind h)
theorem dq_iushr {code : ByteArray} {pc : Nat} (h : dq_at code pc 124) : decode code pc = .ok (.iushr, 1) := dq_of (dq_bind h)
theorem dq_iand {code : ByteArray} {pc : Nat} (h : dq_at code pc 126) : decode code pc = .ok (.iand, 1) := dq_of (dq_bind h)
theorem dq_land {code : ByteArray} {pc : Nat} (h : dq_at code pc 127) : decode code pc = .ok (.land, 1) := dq_of (dq_bind h)
theorem dq_ior {code : ByteArray} {pc : Nat} (h : dq_at code pc 128) : decode code pc = .ok (.ior, 1) := dq_of (dq_bind h)
theorem dq_lor {code : ByteArray} {pc : Nat} (h : dq_at code pc 129) : decode code pc = .ok (.lor, 1) := dq_of (dq_bind h)
theorem dq_ixor {code : ByteArray} {pc : Nat} (h : dq_at code pc 130) : decode code pc = .ok (.ixor, 1) := dq_of (dq_bind h)
theorem dq_i2l {code : ByteArray} {pc : Nat} (h : dq_at code pc 133) : decode code pc = .ok (.i2l, 1) := dq_of (dq_bind h)
theorem dq_l2i {code : ByteArray} {pc : Nat} (h : dq_at code pc 136) : decode code pc = .ok (.l2i, 1) := dq_of (dq_bind h)
theorem dq_i2b {code : ByteArray} {pc : Nat} (h : dq_at code pc 145) : decode code pc = .ok (.i2b, 1) := dq_of (dq_bind h)
theorem dq_lcmp {code : ByteArray} {pc : Nat} (h : dq_at code pc 148) : decode code pc = .ok (.lcmp, 1) := dq_of (dq_bind h)
theorem dq_ireturn {code : ByteArray} {pc : Nat} (h : dq_at code pc 172) : decode code pc = .ok (.ireturn, 1) := dq_of (dq_bind h)
theorem dq_lreturn {code : ByteArray} {pc : Nat} (h : dq_at code pc 173) : decode code pc = .ok (.lreturn, 1) := dq_of (dq_bind h)
theorem dq_areturn {code : ByteArray} {pc : Nat} (h : dq_at code pc 176) : decode code pc = .ok (.areturn, 1) := dq_of (dq_bind h)
theorem dq_return_ {code : ByteArray} {pc : Nat} (h : dq_at code pc 177) : decode code pc = .ok (.return_, 1) := dq_of (dq_bind h)
theorem dq_arraylength {code : ByteArray} {pc : Nat} (h : dq_at code pc 190) : decode code pc = .ok (.arraylength, 1) := dq_of (dq_bind h)
theorem dq_iload_n_0 {code : ByteArray} {pc : Nat} (h : dq_at code pc 26) : decode code pc = .ok (.iload_n 0, 1) := dq_of (dq_bind h)
theorem dq_iload_n_1 {code : ByteArray} {pc : Nat} (h : dq_at code pc 27) : decode code pc = .ok (.iload_n 1, 1) := dq_of (dq_bind h)
theorem dq_iload_n_2 {code : ByteArray} {pc : Nat} (h : dq_at code pc 28) : decode code pc = .ok (.iload_n 2, 1) := dq_of (dq_bind h)
theorem dq_iload_n_3 {code : ByteArray} {pc : Nat} (h : dq_at code pc 29) : decode code pc = .ok (.iload_n 3, 1) := dq_of (dq_bind h)
theorem dq_lload_n_0 {code : ByteArray} {pc : Nat} (h : dq_at code pc 30) : decode code pc = .ok (.lload_n 0, 1) := dq_of (dq_bind h)
theorem dq_lload_n_1 {code : ByteArray} {pc : Nat} (h : dq_at code pc 31) : decode code pc = .ok (.lload_n 1, 1) := dq_of (dq_bind h)
theorem dq_lload_n_2 {code : ByteArray} {pc : Nat} (h : dq_at code pc 32) : decode code pc = .ok (.lload_n 2, 1) := dq_of (dq_bind h)
theorem dq_lload_n_3 {code : ByteArray} {pc : Nat} (h : dq_at code pc 33) : decode code pc = .ok (.lload_n 3, 1) := dq_of (dq_bind h)
theorem dq_aload_n_0 {code : ByteArray} {pc : Nat} (h : dq_at code pc 42) : decode code pc = .ok (.aload_n 0, 1) := dq_of (dq_bind h)
theorem dq_aload_n_1 {code : ByteArray} {pc : Nat} (h : dq_at code pc 43) : decode code pc = .ok (.aload_n 1, 1) := dq_of (dq_bind h)
theorem dq_aload_n_2 {code : ByteArray} {pc : Nat} (h : dq_at code pc 44) : decode code pc = .ok (.aload_n 2, 1) := dq_of (dq_bind h)
theorem dq_aload_n_3 {code : ByteArray} {pc : Nat} (h : dq_at code pc 45) : decode code pc = .ok (.aload_n 3, 1) := dq_of (dq_bind h)
theorem dq_istore_n_0 {code : ByteArray} {pc : Nat} (h : dq_at code pc 59) : decode code pc = .ok (.istore_n 0, 1) := dq_of (dq_bind h)
theorem dq_istore_n_1 {code : ByteArray} {pc : Nat} (h : dq_at code pc 60) : decode code pc = .ok (.istore_n 1, 1) := dq_of (dq_bind h)
theorem dq_istore_n_2 {code : ByteArray} {pc : Nat} (h : dq_at code pc 61) : decode code pc = .ok (.istore_n 2, 1) := dq_of (dq_bind h)
theorem dq_istore_n_3 {code : ByteArray} {pc : Nat} (h : dq_at code pc 62) : decode code pc = .ok (.istore_n 3, 1) := dq_of (dq_bind h)
theorem dq_lstore_n_0 {code : ByteArray} {pc : Nat} (h : dq_at code pc 63) : decode code pc = .ok (.lstore_n 0, 1) := dq_of (dq_bind h)
theorem dq_lstore_n_1 {code : ByteArray} {pc : Nat} (h : dq_at code pc 64) : decode code pc = .ok (.lstore_n 1, 1) := dq_of (dq_bind h)
theorem dq_lstore_n_2 {code : ByteArray} {pc : Nat} (h : dq_at code pc 65) : decode code pc = .ok (.lstore_n 2, 1) := dq_of (dq_bind h)
theorem dq_lstore_n_3 {code : ByteArray} {pc : Nat} (h : dq_at code pc 66) : decode code pc = .ok (.lstore_n 3, 1) := dq_of (dq_bind h)
theorem dq_astore_n_0 {code : ByteArray} {pc : Nat} (h : dq_at code pc 75) : decode code pc = .ok (.astore_n 0, 1) := dq_of (dq_bind h)
theorem dq_astore_n_1 {code : ByteArray} {pc : Nat} (h : dq_at code pc 76) : decode code pc = .ok (.astore_n 1, 1) := dq_of (dq_bind h)
theorem dq_astore_n_2 {code : ByteArray} {pc : Nat} (h : dq_at code pc 77) : decode code pc = .ok (.astore_n 2, 1) := dq_of (dq_bind h)
theorem dq_astore_n_3 {code : ByteArray} {pc : Nat} (h : dq_at code pc 78) : decode code pc = .ok (.astore_n 3, 1) := dq_of (dq_bind h)
theorem dq_lconst_0 {code : ByteArray} {pc : Nat} (h : dq_at code pc 9) : decode code pc = .ok (.lconst 0, 1) := dq_of (dq_bind h)
theorem dq_lconst_1 {code : ByteArray} {pc : Nat} (h : dq_at code pc 10) : decode code pc = .ok (.lconst 1, 1) := dq_of (dq_bind h)
theorem dq_iconst_m1 {code : ByteArray} {pc : Nat} (h : dq_at code pc 2) : decode code pc = .ok (.iconst (-1), 1) := dq_of (dq_bind h)
theorem dq_iconst_0 {code : ByteArray} {pc : Nat} (h : dq_at code pc 3) : decode code pc = .ok (.iconst (0), 1) := dq_of (dq_bind h)
theorem dq_iconst_1 {code : ByteArray} {pc : Nat} (h : dq_at code pc 4) : decode code pc = .ok (.iconst (1), 1) := dq_of (dq_bind h)
theorem dq_iconst_2 {code : ByteArray} {pc : Nat} (h : dq_at code pc 5) : decode code pc = .ok (.iconst (2), 1) := dq_of (dq_bind h)
theorem dq_iconst_3 {code : ByteArray} {pc : Nat} (h : dq_at code pc 6) : decode code pc = .ok (.iconst (3), 1) := dq_of (dq_bind h)
theorem dq_iconst_4 {code : ByteArray} {pc : Nat} (h : dq_at code pc 7) : decode code pc = .ok (.iconst (4), 1) := dq_of (dq_bind h)
theorem dq_iconst_5 {code : ByteArray} {pc : Nat} (h : dq_at code pc 8) : decode code pc = .ok (.iconst (5), 1) := dq_of (dq_bind h)
theorem dq_ldc {code : ByteArray} {pc : Nat} {a : Nat} (h : dq_at code pc 18) (h1 : dq_at code (pc + 1) a) : decode code pc = .ok (.ldc a, 2) := by
  have e : Decoder.instr pc code pc = (Reader.u1 >>= fun a => (pure (Instr.ldc a) : Decoder Instr)) code (pc + 1) := dq_bind h
  rw [dq_bind h1] at e
  exact dq_of e
theorem dq_iload {code : ByteArray} {pc : Nat} {a : Nat} (h : dq_at code pc 21) (h1 : dq_at code (pc + 1) a) : decode code pc = .ok (.iload a, 2) := by
  have e : Decoder.instr pc code pc = (Reader.u1 >>= fun a => (pure (Instr.iload a) : Decoder Instr)) code (pc + 1) := dq_bind h
  rw [dq_bind h1] at e
  exact dq_of e
theorem dq_lload {code : ByteArray} {pc : Nat} {a : Nat} (h : dq_at code pc 22) (h1 : dq_at code (pc + 1) a) : decode code pc = .ok (.lload a, 2) := by
  have e : Decoder.instr pc code pc = (Reader.u1 >>= fun a => (pure (Instr.lload a) : Decoder Instr)) code (pc + 1) := dq_bind h
  rw [dq_bind h1] at e
  exact dq_of e
theorem dq_aload {code : ByteArray} {pc : Nat} {a : Nat} (h : dq_at code pc 25) (h1 : dq_at code (pc + 1) a) : decode code pc = .ok (.aload a, 2) := by
  have e : Decoder.instr pc code pc = (Reader.u1 >>= fun a => (pure (Instr.aload a) : Decoder Instr)) code (pc + 1) := dq_bind h
  rw [dq_bind h1] at e
  exact dq_of e
theorem dq_istore {code : ByteArray} {pc : Nat} {a : Nat} (h : dq_at code pc 54) (h1 : dq_at code (pc + 1) a) : decode code pc = .ok (.istore a, 2) := by
  have e : Decoder.instr pc code pc = (Reader.u1 >>= fun a => (pure (Instr.istore a) : Decoder Instr)) code (pc + 1) := dq_bind h
  rw [dq_bind h1] at e
  exact dq_of e
theorem dq_lstore {code : ByteArray} {pc : Nat} {a : Nat} (h : dq_at code pc 55) (h1 : dq_at code (pc + 1) a) : decode code pc = .ok (.lstore a, 2) := by
  have e : Decoder.instr pc code pc = (Reader.u1 >>= fun a => (pure (Instr.lstore a) : Decoder Instr)) code (pc + 1) := dq_bind h
  rw [dq_bind h1] at e
  exact dq_of e
theorem dq_astore {code : ByteArray} {pc : Nat} {a : Nat} (h : dq_at code pc 58) (h1 : dq_at code (pc + 1) a) : decode code pc = .ok (.astore a, 2) := by
  have e : Decoder.instr pc code pc = (Reader.u1 >>= fun a => (pure (Instr.astore a) : Decoder Instr)) code (pc + 1) := dq_bind h
  rw [dq_bind h1] at e
  exact dq_of e
theorem dq_ldc_w {code : ByteArray} {pc : Nat} {x : Nat} (h : dq_at code pc 19) (h1 : dq_at code (pc + 1) (dq_h x)) (h2 : dq_at code (pc + 2) (dq_l x)) : decode code pc = .ok (.ldc_w x, 3) := by
  have e : Decoder.instr pc code pc = (Reader.u2 >>= fun a => (pure (Instr.ldc_w a) : Decoder Instr)) code (pc + 1) := dq_bind h
  rw [dq_bind (dq_u2 h1 h2), dq_hl] at e
  exact dq_of e
theorem dq_ldc2_w {code : ByteArray} {pc : Nat} {x : Nat} (h : dq_at code pc 20) (h1 : dq_at code (pc + 1) (dq_h x)) (h2 : dq_at code (pc + 2) (dq_l x)) : decode code pc = .ok (.ldc2_w x, 3) := by
  have e : Decoder.instr pc code pc = (Reader.u2 >>= fun a => (pure (Instr.ldc2_w a) : Decoder Instr)) code (pc + 1) := dq_bind h
  rw [dq_bind (dq_u2 h1 h2), dq_hl] at e
  exact dq_of e
theorem dq_getstatic {code : ByteArray} {pc : Nat} {x : Nat} (h : dq_at code pc 178) (h1 : dq_at code (pc + 1) (dq_h x)) (h2 : dq_at code (pc + 2) (dq_l x)) : decode code pc = .ok (.getstatic x, 3) := by
  have e : Decoder.instr pc code pc = (Reader.u2 >>= fun a => (pure (Instr.getstatic a) : Decoder Instr)) code (pc + 1) := dq_bind h
  rw [dq_bind (dq_u2 h1 h2), dq_hl] at e
  exact dq_of e
theorem dq_getfield {code : ByteArray} {pc : Nat} {x : Nat} (h : dq_at code pc 180) (h1 : dq_at code (pc + 1) (dq_h x)) (h2 : dq_at code (pc + 2) (dq_l x)) : decode code pc = .ok (.getfield x, 3) := by
  have e : Decoder.instr pc code pc = (Reader.u2 >>= fun a => (pure (Instr.getfield a) : Decoder Instr)) code (pc + 1) := dq_bind h
  rw [dq_bind (dq_u2 h1 h2), dq_hl] at e
  exact dq_of e
theorem dq_putfield {code : ByteArray} {pc : Nat} {x : Nat} (h : dq_at code pc 181) (h1 : dq_at code (pc + 1) (dq_h x)) (h2 : dq_at code (pc + 2) (dq_l x)) : decode code pc = .ok (.putfield x, 3) := by
  have e : Decoder.instr pc code pc = (Reader.u2 >>= fun a => (pure (Instr.putfield a) : Decoder Instr)) code (pc + 1) := dq_bind h
  rw [dq_bind (dq_u2 h1 h2), dq_hl] at e
  exact dq_of e
theorem dq_invokevirtual {code : ByteArray} {pc : Nat} {x : Nat} (h : dq_at code pc 182) (h1 : dq_at code (pc + 1) (dq_h x)) (h2 : dq_at code (pc + 2) (dq_l x)) : decode code pc = .ok (.invokevirtual x, 3) := by
  have e : Decoder.instr pc code pc = (Reader.u2 >>= fun a => (pure (Instr.invokevirtual a) : Decoder Instr)) code (pc + 1) := dq_bind h
  rw [dq_bind (dq_u2 h1 h2), dq_hl] at e
  exact dq_of e
theorem dq_invokespecial {code : ByteArray} {pc : Nat} {x : Nat} (h : dq_at code pc 183) (h1 : dq_at code (pc + 1) (dq_h x)) (h2 : dq_at code (pc + 2) (dq_l x)) : decode code pc = .ok (.invokespecial x, 3) := by
  have e : Decoder.instr pc code pc = (Reader.u2 >>= fun a => (pure (Instr.invokespecial a) : Decoder Instr)) code (pc + 1) := dq_bind h
  rw [dq_bind (dq_u2 h1 h2), dq_hl] at e
  exact dq_of e
theorem dq_invokestatic {code : ByteArray} {pc : Nat} {x : Nat} (h : dq_at code pc 184) (h1 : dq_at code (pc + 1) (dq_h x)) (h2 : dq_at code (pc + 2) (dq_l x)) : decode code pc = .ok (.invokestatic x, 3) := by
  have e : Decoder.instr pc code pc = (Reader.u2 >>= fun a => (pure (Instr.invokestatic a) : Decoder Instr)) code (pc + 1) := dq_bind h
  rw [dq_bind (dq_u2 h1 h2), dq_hl] at e
  exact dq_of e
theorem dq_new {code : ByteArray} {pc : Nat} {x : Nat} (h : dq_at code pc 187) (h1 : dq_at code (pc + 1) (dq_h x)) (h2 : dq_at code (pc + 2) (dq_l x)) : decode code pc = .ok (.new x, 3) := by
  have e : Decoder.instr pc code pc = (Reader.u2 >>= fun a => (pure (Instr.new a) : Decoder Instr)) code (pc + 1) := dq_bind h
  rw [dq_bind (dq_u2 h1 h2), dq_hl] at e
  exact dq_of e
theorem dq_sipush {code : ByteArray} {pc : Nat} {x : Int} (b : -32768 ≤ x ∧ x < 32768) (h : dq_at code pc 17) (h1 : dq_at code (pc + 1) (dq_h (dq_n 16 x))) (h2 : dq_at code (pc + 2) (dq_l (dq_n 16 x))) : decode code pc = .ok (.sipush x, 3) := by
  have e : Decoder.instr pc code pc = ((Reader.signed 16 <$> Reader.u2) >>= fun a => (pure (Instr.sipush a) : Decoder Instr)) code (pc + 1) := dq_bind h
  rw [dq_bind (dq_map (dq_u2 h1 h2)), dq_hl, dq_s 16 x b rfl] at e
  exact dq_of e
theorem dq_goto {code : ByteArray} {pc : Nat} {x : Int} (b : -32768 ≤ x ∧ x < 32768) (h : dq_at code pc 167) (h1 : dq_at code (pc + 1) (dq_h (dq_n 16 x))) (h2 : dq_at code (pc + 2) (dq_l (dq_n 16 x))) : decode code pc = .ok (.goto x, 3) := by
  have e : Decoder.instr pc code pc = ((Reader.signed 16 <$> Reader.u2) >>= fun a => (pure (Instr.goto a) : Decoder Instr)) code (pc + 1) := dq_bind h
  rw [dq_bind (dq_map (dq_u2 h1 h2)), dq_hl, dq_s 16 x b rfl] at e
  exact dq_of e
theorem dq_ifnull {code : ByteArray} {pc : Nat} {x : Int} (b : -32768 ≤ x ∧ x < 32768) (h : dq_at code pc 198) (h1 : dq_at code (pc + 1) (dq_h (dq_n 16 x))) (h2 : dq_at code (pc + 2) (dq_l (dq_n 16 x))) : decode code pc = .ok (.ifnull x, 3) := by
  have e : Decoder.instr pc code pc = ((Reader.signed 16 <$> Reader.u2) >>= fun a => (pure (Instr.ifnull a) : Decoder Instr)) code (pc + 1) := dq_bind h
  rw [dq_bind (dq_map (dq_u2 h1 h2)), dq_hl, dq_s 16 x b rfl] at e
  exact dq_of e
theorem dq_ifnonnull {code : ByteArray} {pc : Nat} {x : Int} (b : -32768 ≤ x ∧ x < 32768) (h : dq_at code pc 199) (h1 : dq_at code (pc + 1) (dq_h (dq_n 16 x))) (h2 : dq_at code (pc + 2) (dq_l (dq_n 16 x))) : decode code pc = .ok (.ifnonnull x, 3) := by
  have e : Decoder.instr pc code pc = ((Reader.signed 16 <$> Reader.u2) >>= fun a => (pure (Instr.ifnonnull a) : Decoder Instr)) code (pc + 1) := dq_bind h
  rw [dq_bind (dq_map (dq_u2 h1 h2)), dq_hl, dq_s 16 x b rfl] at e
  exact dq_of e
theorem dq_ifCond_eq {code : ByteArray} {pc : Nat} {x : Int} (b : -32768 ≤ x ∧ x < 32768) (h : dq_at code pc 153) (h1 : dq_at code (pc + 1) (dq_h (dq_n 16 x))) (h2 : dq_at code (pc + 2) (dq_l (dq_n 16 x))) : decode code pc = .ok (.ifCond .eq x, 3) := by
  have e : Decoder.instr pc code pc = ((Reader.signed 16 <$> Reader.u2) >>= fun a => (pure (Instr.ifCond .eq a) : Decoder Instr)) code (pc + 1) := dq_bind h
  rw [dq_bind (dq_map (dq_u2 h1 h2)), dq_hl, dq_s 16 x b rfl] at e
  exact dq_of e
theorem dq_if_icmp_eq {code : ByteArray} {pc : Nat} {x : Int} (b : -32768 ≤ x ∧ x < 32768) (h : dq_at code pc 159) (h1 : dq_at code (pc + 1) (dq_h (dq_n 16 x))) (h2 : dq_at code (pc + 2) (dq_l (dq_n 16 x))) : decode code pc = .ok (.if_icmp .eq x, 3) := by
  have e : Decoder.instr pc code pc = ((Reader.signed 16 <$> Reader.u2) >>= fun a => (pure (Instr.if_icmp .eq a) : Decoder Instr)) code (pc + 1) := dq_bind h
  rw [dq_bind (dq_map (dq_u2 h1 h2)), dq_hl, dq_s 16 x b rfl] at e
  exact dq_of e
theorem dq_ifCond_ne {code : ByteArray} {pc : Nat} {x : Int} (b : -32768 ≤ x ∧ x < 32768) (h : dq_at code pc 154) (h1 : dq_at code (pc + 1) (dq_h (dq_n 16 x))) (h2 : dq_at code (pc + 2) (dq_l (dq_n 16 x))) : decode code pc = .ok (.ifCond .ne x, 3) := by
  have e : Decoder.instr pc code pc = ((Reader.signed 16 <$> Reader.u2) >>= fun a => (pure (Instr.ifCond .ne a) : Decoder Instr)) code (pc + 1) := dq_bind h
  rw [dq_bind (dq_map (dq_u2 h1 h2)), dq_hl, dq_s 16 x b rfl] at e
  exact dq_of e
theorem dq_if_icmp_ne {code : ByteArray} {pc : Nat} {x : Int} (b : -32768 ≤ x ∧ x < 32768) (h : dq_at code pc 160) (h1 : dq_at code (pc + 1) (dq_h (dq_n 16 x))) (h2 : dq_at code (pc + 2) (dq_l (dq_n 16 x))) : decode code pc = .ok (.if_icmp .ne x, 3) := by
  have e : Decoder.instr pc code pc = ((Reader.signed 16 <$> Reader.u2) >>= fun a => (pure (Instr.if_icmp .ne a) : Decoder Instr)) code (pc + 1) := dq_bind h
  rw [dq_bind (dq_map (dq_u2 h1 h2)), dq_hl, dq_s 16 x b rfl] at e
  exact dq_of e
theorem dq_ifCond_lt {code : ByteArray} {pc : Nat} {x : Int} (b : -32768 ≤ x ∧ x < 32768) (h : dq_at code pc 155) (h1 : dq_at code (pc + 1) (dq_h (dq_n 16 x))) (h2 : dq_at code (pc + 2) (dq_l (dq_n 16 x))) : decode code pc = .ok (.ifCond .lt x, 3) := by
  have e : Decoder.instr pc code pc = ((Reader.signed 16 <$> Reader.u2) >>= fun a => (pure (Instr.ifCond .lt a) : Decoder Instr)) code (pc + 1) := dq_bind h
  rw [dq_bind (dq_map (dq_u2 h1 h2)), dq_hl, dq_s 16 x b rfl] at e
  exact dq_of e
theorem dq_if_icmp_lt {code : ByteArray} {pc : Nat} {x : Int} (b : -32768 ≤ x ∧ x < 32768) (h : dq_at code pc 161) (h1 : dq_at code (pc + 1) (dq_h (dq_n 16 x))) (h2 : dq_at code (pc + 2) (dq_l (dq_n 16 x))) : decode code pc = .ok (.if_icmp .lt x, 3) := by
  have e : Decoder.instr pc code pc = ((Reader.signed 16 <$> Reader.u2) >>= fun a => (pure (Instr.if_icmp .lt a) : Decoder Instr)) code (pc + 1) := dq_bind h
  rw [dq_bind (dq_map (dq_u2 h1 h2)), dq_hl, dq_s 16 x b rfl] at e
  exact dq_of e
theorem dq_ifCond_ge {code : ByteArray} {pc : Nat} {x : Int} (b : -32768 ≤ x ∧ x < 32768) (h : dq_at code pc 156) (h1 : dq_at code (pc + 1) (dq_h (dq_n 16 x))) (h2 : dq_at code (pc + 2) (dq_l (dq_n 16 x))) : decode code pc = .ok (.ifCond .ge x, 3) := by
  have e : Decoder.instr pc code pc = ((Reader.signed 16 <$> Reader.u2) >>= fun a => (pure (Instr.ifCond .ge a) : Decoder Instr)) code (pc + 1) := dq_bind h
  rw [dq_bind (dq_map (dq_u2 h1 h2)), dq_hl, dq_s 16 x b rfl] at e
  exact dq_of e
theorem dq_if_icmp_ge {code : ByteArray} {pc : Nat} {x : Int} (b : -32768 ≤ x ∧ x < 32768) (h : dq_at code pc 162) (h1 : dq_at code (pc + 1) (dq_h (dq_n 16 x))) (h2 : dq_at code (pc + 2) (dq_l (dq_n 16 x))) : decode code pc = .ok (.if_icmp .ge x, 3) := by
  have e : Decoder.instr pc code pc = ((Reader.signed 16 <$> Reader.u2) >>= fun a => (pure (Instr.if_icmp .ge a) : Decoder Instr)) code (pc + 1) := dq_bind h
  rw [dq_bind (dq_map (dq_u2 h1 h2)), dq_hl, dq_s 16 x b rfl] at e
  exact dq_of e
theorem dq_ifCond_gt {code : ByteArray} {pc : Nat} {x : Int} (b : -32768 ≤ x ∧ x < 32768) (h : dq_at code pc 157) (h1 : dq_at code (pc + 1) (dq_h (dq_n 16 x))) (h2 : dq_at code (pc + 2) (dq_l (dq_n 16 x))) : decode code pc = .ok (.ifCond .gt x, 3) := by
  have e : Decoder.instr pc code pc = ((Reader.signed 16 <$> Reader.u2) >>= fun a => (pure (Instr.ifCond .gt a) : Decoder Instr)) code (pc + 1) := dq_bind h
  rw [dq_bind (dq_map (dq_u2 h1 h2)), dq_hl, dq_s 16 x b rfl] at e
  exact dq_of e
theorem dq_if_icmp_gt {code : ByteArray} {pc : Nat} {x : Int} (b : -32768 ≤ x ∧ x < 32768) (h : dq_at code pc 163) (h1 : dq_at code (pc + 1) (dq_h (dq_n 16 x))) (h2 : dq_at code (pc + 2) (dq_l (dq_n 16 x))) : decode code pc = .ok (.if_icmp .gt x, 3) := by
  have e : Decoder.instr pc code pc = ((Reader.signed 16 <$> Reader.u2) >>= fun a => (pure (Instr.if_icmp .gt a) : Decoder Instr)) code (pc + 1) := dq_bind h
  rw [dq_bind (dq_map (dq_u2 h1 h2)), dq_hl, dq_s 16 x b rfl] at e
  exact dq_of e
theorem dq_ifCond_le {code : ByteArray} {pc : Nat} {x : Int} (b : -32768 ≤ x ∧ x < 32768) (h : dq_at code pc 158) (h1 : dq_at code (pc + 1) (dq_h (dq_n 16 x))) (h2 : dq_at code (pc + 2) (dq_l (dq_n 16 x))) : decode code pc = .ok (.ifCond .le x, 3) := by
  have e : Decoder.instr pc code pc = ((Reader.signed 16 <$> Reader.u2) >>= fun a => (pure (Instr.ifCond .le a) : Decoder Instr)) code (pc + 1) := dq_bind h
  rw [dq_bind (dq_map (dq_u2 h1 h2)), dq_hl, dq_s 16 x b rfl] at e
  exact dq_of e
theorem dq_if_icmp_le {code : ByteArray} {pc : Nat} {x : Int} (b : -32768 ≤ x ∧ x < 32768) (h : dq_at code pc 164) (h1 : dq_at code (pc + 1) (dq_h (dq_n 16 x))) (h2 : dq_at code (pc + 2) (dq_l (dq_n 16 x))) : decode code pc = .ok (.if_icmp .le x, 3) := by
  have e : Decoder.instr pc code pc = ((Reader.signed 16 <$> Reader.u2) >>= fun a => (pure (Instr.if_icmp .le a) : Decoder Instr)) code (pc + 1) := dq_bind h
  rw [dq_bind (dq_map (dq_u2 h1 h2)), dq_hl, dq_s 16 x b rfl] at e
  exact dq_of e
theorem dq_bipush {code : ByteArray} {pc : Nat} {x : Int} (b : -128 ≤ x ∧ x < 128) (h : dq_at code pc 16) (h1 : dq_at code (pc + 1) (dq_n 8 x)) : decode code pc = .ok (.bipush x, 2) := by
  have e : Decoder.instr pc code pc = ((Reader.signed 8 <$> Reader.u1) >>= fun a => (pure (Instr.bipush a) : Decoder Instr)) code (pc + 1) := dq_bind h
  rw [dq_bind (dq_map h1), dq_s 8 x b rfl] at e
  exact dq_of e
theorem dq_iinc {code : ByteArray} {pc : Nat} {a : Nat} {x : Int} (b : -128 ≤ x ∧ x < 128) (h : dq_at code pc 132) (h1 : dq_at code (pc + 1) a) (h2 : dq_at code (pc + 2) (dq_n 8 x)) : decode code pc = .ok (.iinc a x, 3) := by
  have e : Decoder.instr pc code pc = (Reader.u1 >>= fun a => (Reader.signed 8 <$> Reader.u1) >>= fun b => (pure (Instr.iinc a b) : Decoder Instr)) code (pc + 1) := dq_bind h
  rw [dq_bind h1, dq_bind (dq_map h2), dq_s 8 x b rfl] at e
  exact dq_of e
theorem dq_newarray_boolean {code : ByteArray} {pc : Nat} (h : dq_at code pc 188) (h1 : dq_at code (pc + 1) 4) : decode code pc = .ok (.newarray .boolean, 2) := by
  have e : Decoder.instr pc code pc = Decoder.newarray pc code (pc + 1) := dq_bind h
  have e2 : Decoder.newarray pc code (pc + 1) = .ok (.newarray .boolean, pc + 2) := dq_bind h1
  exact dq_of (e.trans e2)
theorem dq_newarray_byte {code : ByteArray} {pc : Nat} (h : dq_at code pc 188) (h1 : dq_at code (pc + 1) 8) : decode code pc = .ok (.newarray .byte, 2) := by
  have e : Decoder.instr pc code pc = Decoder.newarray pc code (pc + 1) := dq_bind h
  have e2 : Decoder.newarray pc code (pc + 1) = .ok (.newarray .byte, pc + 2) := dq_bind h1
  exact dq_of (e.trans e2)
theorem dq_newarray_int {code : ByteArray} {pc : Nat} (h : dq_at code pc 188) (h1 : dq_at code (pc + 1) 10) : decode code pc = .ok (.newarray .int, 2) := by
  have e : Decoder.instr pc code pc = Decoder.newarray pc code (pc + 1) := dq_bind h
  have e2 : Decoder.newarray pc code (pc + 1) = .ok (.newarray .int, pc + 2) := dq_bind h1
  exact dq_of (e.trans e2)
theorem dq_newarray_long {code : ByteArray} {pc : Nat} (h : dq_at code pc 188) (h1 : dq_at code (pc + 1) 11) : decode code pc = .ok (.newarray .long, 2) := by
  have e : Decoder.instr pc code pc = Decoder.newarray pc code (pc + 1) := dq_bind h
  have e2 : Decoder.newarray pc code (pc + 1) = .ok (.newarray .long, pc + 2) := dq_bind h1
  exact dq_of (e.trans e2)
/-- an instruction's bytes; none of those that are not told here -/
def sm_by (i : Instr) : List Nat := match i with
  | .aconst_null => [1]
  | .iaload => [46]
  | .laload => [47]
  | .aaload => [50]
  | .baload => [51]
  | .iastore => [79]
  | .lastore => [80]
  | .bastore => [84]
  | .pop => [87]
  | .dup => [89]
  | .dup2 => [92]
  | .iadd => [96]
  | .ladd => [97]
  | .isub => [100]
  | .lsub => [101]
  | .imul => [104]
  | .lmul => [105]
  | .idiv => [108]
  | .irem => [112]
  | .ineg => [116]
  | .ishl => [120]
  | .lshl => [121]
  | .ishr => [122]
  | .lshr => [123]
  | .iushr => [124]
  | .iand => [126]
  | .land => [127]
  | .ior => [128]
  | .lor => [129]
  | .ixor => [130]
  | .i2l => [133]
  | .l2i => [136]
  | .i2b => [145]
  | .lcmp => [148]
  | .ireturn => [172]
  | .lreturn => [173]
  | .areturn => [176]
  | .return_ => [177]
  | .arraylength => [190]
  | .iload_n n => [26 + n.val]
  | .lload_n n => [30 + n.val]
  | .aload_n n => [42 + n.val]
  | .istore_n n => [59 + n.val]
  | .lstore_n n => [63 + n.val]
  | .astore_n n => [75 + n.val]
  | .lconst n => [9 + n.val]
  | .iconst x => if -1 ≤ x ∧ x ≤ 5 then [(x + 3).toNat] else []
  | .ldc a => [18, a]
  | .iload a => [21, a]
  | .lload a => [22, a]
  | .aload a => [25, a]
  | .istore a => [54, a]
  | .lstore a => [55, a]
  | .astore a => [58, a]
  | .ldc_w x => [19, dq_h x, dq_l x]
  | .ldc2_w x => [20, dq_h x, dq_l x]
  | .getstatic x => [178, dq_h x, dq_l x]
  | .getfield x => [180, dq_h x, dq_l x]
  | .putfield x => [181, dq_h x, dq_l x]
  | .invokevirtual x => [182, dq_h x, dq_l x]
  | .invokespecial x => [183, dq_h x, dq_l x]
  | .invokestatic x => [184, dq_h x, dq_l x]
  | .new x => [187, dq_h x, dq_l x]
  | .sipush x => if -32768 ≤ x ∧ x < 32768 then [17, dq_h (dq_n 16 x), dq_l (dq_n 16 x)] else []
  | .goto x => if -32768 ≤ x ∧ x < 32768 then [167, dq_h (dq_n 16 x), dq_l (dq_n 16 x)] else []
  | .ifnull x => if -32768 ≤ x ∧ x < 32768 then [198, dq_h (dq_n 16 x), dq_l (dq_n 16 x)] else []
  | .ifnonnull x => if -32768 ≤ x ∧ x < 32768 then [199, dq_h (dq_n 16 x), dq_l (dq_n 16 x)] else []
  | .ifCond c x => if -32768 ≤ x ∧ x < 32768 then [(match c with | .eq => 153 | .ne => 154 | .lt => 155 | .ge => 156 | .gt => 157 | .le => 158), dq_h (dq_n 16 x), dq_l (dq_n 16 x)] else []
  | .if_icmp c x => if -32768 ≤ x ∧ x < 32768 then [(match c with | .eq => 159 | .ne => 160 | .lt => 161 | .ge => 162 | .gt => 163 | .le => 164), dq_h (dq_n 16 x), dq_l (dq_n 16 x)] else []
  | .bipush x => if -128 ≤ x ∧ x < 128 then [16, dq_n 8 x] else []
  | .iinc a x => if -128 ≤ x ∧ x < 128 then [132, a, dq_n 8 x] else []
  | .newarray t => (match t with | .boolean => [188, 4] | .byte => [188, 8] | .int => [188, 10] | .long => [188, 11] | _ => [])
  | _ => []
def sm_pf : List Nat → List UInt8 → Bool
  | [], _ => true
  | n :: ns, b :: bs => Nat.beq n b.toNat && sm_pf ns bs
  | _ :: _, [] => false
theorem sm_pf_c {code : ByteArray} {p n : Nat} {ns : List Nat} (h : sm_pf (n :: ns) (code.data.toList.drop p) = true) : dq_at code p n ∧ sm_pf ns (code.data.toList.drop (p + 1)) = true := by
  cases e : code.data.toList.drop p with
  | nil => rw [e] at h; cases h
  | cons b r =>
    rw [e] at h
    obtain ⟨h1, h2⟩ := Bool.and_eq_true_iff.mp h
    obtain ⟨u, v⟩ := dq_u1 e
    rw [Nat.eq_of_beq_eq_true h1, v]
    exact ⟨u, h2⟩
def sm_dq (i : Instr) (bs : List UInt8) : Bool := match sm_by i with
  | [] => false
  | n :: ns => sm_pf (n :: ns) bs
theorem sm_dq_c {i : Instr} {bs : List UInt8} {l : List Nat} (e : sm_by i = l) (h : sm_dq i bs = true) : l ≠ [] ∧ sm_pf l bs = true := by
  unfold sm_dq at h
  rw [e] at h
  cases l with
  | nil => cases h
  | cons n ns => exact ⟨List.cons_ne_nil _ _, h⟩
theorem sm_dq_i {i : Instr} {bs : List UInt8} {P : Prop} [d : Decidable P] {l : List Nat} (e : sm_by i = if P then l else []) (h : sm_dq i bs = true) : P ∧ sm_pf l bs = true := by
  obtain ⟨h1, h2⟩ := sm_dq_c e h
  by_cases c : P
  · rw [if_pos c] at h2; exact ⟨c, h2⟩
  · rw [if_neg c] at h1; exact absurd rfl h1
theorem sm_dq_of {code : ByteArray} {pc : Nat} {i : Instr} (h : sm_dq i (code.data.toList.drop pc) = true) : decode code pc = .ok (i, sm_ln i) := by
  cases i with
  | aconst_null => exact dq_aconst_null (sm_pf_c (sm_dq_c rfl h).2).1
  | iaload => exact dq_iaload (sm_pf_c (sm_dq_c rfl h).2).1
  | laload => exact dq_laload (sm_pf_c (sm_dq_c rfl h).2).1
  | aaload => exact dq_aaload (sm_pf_c (sm_dq_c rfl h).2).1
  | baload => exact dq_baload (sm_pf_c (sm_dq_c rfl h).2).1
  | iastore => exact dq_iastore (sm_pf_c (sm_dq_c rfl h).2).1
  | lastore => exact dq_lastore (sm_pf_c (sm_dq_c rfl h).2).1
  | bastore => exact dq_bastore (sm_pf_c (sm_dq_c rfl h).2).1
  | pop => exact dq_pop (sm_pf_c (sm_dq_c rfl h).2).1
  | dup => exact dq_dup (sm_pf_c (sm_dq_c rfl h).2).1
  | dup2 => exact dq_dup2 (sm_pf_c (sm_dq_c rfl h).2).1
  | iadd => exact dq_iadd (sm_pf_c (sm_dq_c rfl h).2).1
  | ladd => exact dq_ladd (sm_pf_c (sm_dq_c rfl h).2).1
  | isub => exact dq_isub (sm_pf_c (sm_dq_c rfl h).2).1
  | lsub => exact dq_lsub (sm_pf_c (sm_dq_c rfl h).2).1
  | imul => exact dq_imul (sm_pf_c (sm_dq_c rfl h).2).1
  | lmul => exact dq_lmul (sm_pf_c (sm_dq_c rfl h).2).1
  | idiv => exact dq_idiv (sm_pf_c (sm_dq_c rfl h).2).1
  | irem => exact dq_irem (sm_pf_c (sm_dq_c rfl h).2).1
  | ineg => exact dq_ineg (sm_pf_c (sm_dq_c rfl h).2).1
  | ishl => exact dq_ishl (sm_pf_c (sm_dq_c rfl h).2).1
  | lshl => exact dq_lshl (sm_pf_c (sm_dq_c rfl h).2).1
  | ishr => exact dq_ishr (sm_pf_c (sm_dq_c rfl h).2).1
  | lshr => exact dq_lshr (sm_pf_c (sm_dq_c rfl h).2).1
  | iushr => exact dq_iushr (sm_pf_c (sm_dq_c rfl h).2).1
  | iand => exact dq_iand (sm_pf_c (sm_dq_c rfl h).2).1
  | land => exact dq_land (sm_pf_c (sm_dq_c rfl h).2).1
  | ior => exact dq_ior (sm_pf_c (sm_dq_c rfl h).2).1
  | lor => exact dq_lor (sm_pf_c (sm_dq_c rfl h).2).1
  | ixor => exact dq_ixor (sm_pf_c (sm_dq_c rfl h).2).1
  | i2l => exact dq_i2l (sm_pf_c (sm_dq_c rfl h).2).1
  | l2i => exact dq_l2i (sm_pf_c (sm_dq_c rfl h).2).1
  | i2b => exact dq_i2b (sm_pf_c (sm_dq_c rfl h).2).1
  | lcmp => exact dq_lcmp (sm_pf_c (sm_dq_c rfl h).2).1
  | ireturn => exact dq_ireturn (sm_pf_c (sm_dq_c rfl h).2).1
  | lreturn => exact dq_lreturn (sm_pf_c (sm_dq_c rfl h).2).1
  | areturn => exact dq_areturn (sm_pf_c (sm_dq_c rfl h).2).1
  | return_ => exact dq_return_ (sm_pf_c (sm_dq_c rfl h).2).1
  | arraylength => exact dq_arraylength (sm_pf_c (sm_dq_c rfl h).2).1
  | iload_n n =>
    have k := (sm_pf_c (sm_dq_c rfl h).2).1
    match n, k with
    | ⟨0, _⟩, k => exact dq_iload_n_0 k
    | ⟨1, _⟩, k => exact dq_iload_n_1 k
    | ⟨2, _⟩, k => exact dq_iload_n_2 k
    | ⟨3, _⟩, k => exact dq_iload_n_3 k
  | lload_n n =>
    have k := (sm_pf_c (sm_dq_c rfl h).2).1
    match n, k with
    | ⟨0, _⟩, k => exact dq_lload_n_0 k
    | ⟨1, _⟩, k => exact dq_lload_n_1 k
    | ⟨2, _⟩, k => exact dq_lload_n_2 k
    | ⟨3, _⟩, k => exact dq_lload_n_3 k
  | aload_n n =>
    have k := (sm_pf_c (sm_dq_c rfl h).2).1
    match n, k with
    | ⟨0, _⟩, k => exact dq_aload_n_0 k
    | ⟨1, _⟩, k => exact dq_aload_n_1 k
    | ⟨2, _⟩, k => exact dq_aload_n_2 k
    | ⟨3, _⟩, k => exact dq_aload_n_3 k
  | istore_n n =>
    have k := (sm_pf_c (sm_dq_c rfl h).2).1
    match n, k with
    | ⟨0, _⟩, k => exact dq_istore_n_0 k
    | ⟨1, _⟩, k => exact dq_istore_n_1 k
    | ⟨2, _⟩, k => exact dq_istore_n_2 k
    | ⟨3, _⟩, k => exact dq_istore_n_3 k
  | lstore_n n =>
    have k := (sm_pf_c (sm_dq_c rfl h).2).1
    match n, k with
    | ⟨0, _⟩, k => exact dq_lstore_n_0 k
    | ⟨1, _⟩, k => exact dq_lstore_n_1 k
    | ⟨2, _⟩, k => exact dq_lstore_n_2 k
    | ⟨3, _⟩, k => exact dq_lstore_n_3 k
  | astore_n n =>
    have k := (sm_pf_c (sm_dq_c rfl h).2).1
    match n, k with
    | ⟨0, _⟩, k => exact dq_astore_n_0 k
    | ⟨1, _⟩, k => exact dq_astore_n_1 k
    | ⟨2, _⟩, k => exact dq_astore_n_2 k
    | ⟨3, _⟩, k => exact dq_astore_n_3 k
  | lconst n =>
    have k := (sm_pf_c (sm_dq_c rfl h).2).1
    match n, k with
    | ⟨0, _⟩, k => exact dq_lconst_0 k
    | ⟨1, _⟩, k => exact dq_lconst_1 k
  | iconst x =>
    obtain ⟨b, k⟩ := sm_dq_i rfl h
    have k := (sm_pf_c k).1
    have c : x = -1 ∨ x = 0 ∨ x = 1 ∨ x = 2 ∨ x = 3 ∨ x = 4 ∨ x = 5 := by omega
    rcases c with e | e | e | e | e | e | e <;> subst e
    · exact dq_iconst_m1 k
    · exact dq_iconst_0 k
    · exact dq_iconst_1 k
    · exact dq_iconst_2 k
    · exact dq_iconst_3 k
    · exact dq_iconst_4 k
    · exact dq_iconst_5 k
  | ldc a =>
    obtain ⟨k1, k⟩ := sm_pf_c (sm_dq_c rfl h).2
    exact dq_ldc k1 (sm_pf_c k).1
  | iload a =>
    obtain ⟨k1, k⟩ := sm_pf_c (sm_dq_c rfl h).2
    exact dq_iload k1 (sm_pf_c k).1
  | lload a =>
    obtain ⟨k1, k⟩ := sm_pf_c (sm_dq_c rfl h).2
    exact dq_lload k1 (sm_pf_c k).1
  | aload a =>
    obtain ⟨k1, k⟩ := sm_pf_c (sm_dq_c rfl h).2
    exact dq_aload k1 (sm_pf_c k).1
  | istore a =>
    obtain ⟨k1, k⟩ := sm_pf_c (sm_dq_c rfl h).2
    exact dq_istore k1 (sm_pf_c k).1
  | lstore a =>
    obtain ⟨k1, k⟩ := sm_pf_c (sm_dq_c rfl h).2
    exact dq_lstore k1 (sm_pf_c k).1
  | astore a =>
    obtain ⟨k1, k⟩ := sm_pf_c (sm_dq_c rfl h).2
    exact dq_astore k1 (sm_pf_c k).1
  | ldc_w a =>
    obtain ⟨k1, k⟩ := sm_pf_c (sm_dq_c rfl h).2
    obtain ⟨k2, k⟩ := sm_pf_c k
    exact dq_ldc_w k1 k2 (sm_pf_c k).1
  | ldc2_w a =>
    obtain ⟨k1, k⟩ := sm_pf_c (sm_dq_c rfl h).2
    obtain ⟨k2, k⟩ := sm_pf_c k
    exact dq_ldc2_w k1 k2 (sm_pf_c k).1
  | getstatic a =>
    obtain ⟨k1, k⟩ := sm_pf_c (sm_dq_c rfl h).2
    obtain ⟨k2, k⟩ := sm_pf_c k
    exact dq_getstatic k1 k2 (sm_pf_c k).1
  | getfield a =>
    obtain ⟨k1, k⟩ := sm_pf_c (sm_dq_c rfl h).2
    obtain ⟨k2, k⟩ := sm_pf_c k
    exact dq_getfield k1 k2 (sm_pf_c k).1
  | putfield a =>
    obtain ⟨k1, k⟩ := sm_pf_c (sm_dq_c rfl h).2
    obtain ⟨k2, k⟩ := sm_pf_c k
    exact dq_putfield k1 k2 (sm_pf_c k).1
  | invokevirtual a =>
    obtain ⟨k1, k⟩ := sm_pf_c (sm_dq_c rfl h).2
    obtain ⟨k2, k⟩ := sm_pf_c k
    exact dq_invokevirtual k1 k2 (sm_pf_c k).1
  | invokespecial a =>
    obtain ⟨k1, k⟩ := sm_pf_c (sm_dq_c rfl h).2
    obtain ⟨k2, k⟩ := sm_pf_c k
    exact dq_invokespecial k1 k2 (sm_pf_c k).1
  | invokestatic a =>
    obtain ⟨k1, k⟩ := sm_pf_c (sm_dq_c rfl h).2
    obtain ⟨k2, k⟩ := sm_pf_c k
    exact dq_invokestatic k1 k2 (sm_pf_c k).1
  | new a =>
    obtain ⟨k1, k⟩ := sm_pf_c (sm_dq_c rfl h).2
    obtain ⟨k2, k⟩ := sm_pf_c k
    exact dq_new k1 k2 (sm_pf_c k).1
  | sipush x =>
    obtain ⟨b, k⟩ := sm_dq_i rfl h
    obtain ⟨k1, k⟩ := sm_pf_c k
    obtain ⟨k2, k⟩ := sm_pf_c k
    exact dq_sipush b k1 k2 (sm_pf_c k).1
  | goto x =>
    obtain ⟨b, k⟩ := sm_dq_i rfl h
    obtain ⟨k1, k⟩ := sm_pf_c k
    obtain ⟨k2, k⟩ := sm_pf_c k
    exact dq_goto b k1 k2 (sm_pf_c k).1
  | ifnull x =>
    obtain ⟨b, k⟩ := sm_dq_i rfl h
    obtain ⟨k1, k⟩ := sm_pf_c k
    obtain ⟨k2, k⟩ := sm_pf_c k
    exact dq_ifnull b k1 k2 (sm_pf_c k).1
  | ifnonnull x =>
    obtain ⟨b, k⟩ := sm_dq_i rfl h
    obtain ⟨k1, k⟩ := sm_pf_c k
    obtain ⟨k2, k⟩ := sm_pf_c k
    exact dq_ifnonnull b k1 k2 (sm_pf_c k).1
  | ifCond c x =>
    obtain ⟨b, k⟩ := sm_dq_i rfl h
    obtain ⟨k1, k⟩ := sm_pf_c k
    obtain ⟨k2, k⟩ := sm_pf_c k
    have k3 := (sm_pf_c k).1
    cases c with
    | eq => exact dq_ifCond_eq b k1 k2 k3
    | ne => exact dq_ifCond_ne b k1 k2 k3
    | lt => exact dq_ifCond_lt b k1 k2 k3
    | ge => exact dq_ifCond_ge b k1 k2 k3
    | gt => exact dq_ifCond_gt b k1 k2 k3
    | le => exact dq_ifCond_le b k1 k2 k3
  | if_icmp c x =>
    obtain ⟨b, k⟩ := sm_dq_i rfl h
    obtain ⟨k1, k⟩ := sm_pf_c k
    obtain ⟨k2, k⟩ := sm_pf_c k
    have k3 := (sm_pf_c k).1
    cases c with
    | eq => exact dq_if_icmp_eq b k1 k2 k3
    | ne => exact dq_if_icmp_ne b k1 k2 k3
    | lt => exact dq_if_icmp_lt b k1 k2 k3
    | ge => exact dq_if_icmp_ge b k1 k2 k3
    | gt => exact dq_if_icmp_gt b k1 k2 k3
    | le => exact dq_if_icmp_le b k1 k2 k3
  | bipush x =>
    obtain ⟨b, k⟩ := sm_dq_i rfl h
    obtain ⟨k1, k⟩ := sm_pf_c k
    exact dq_bipush b k1 (sm_pf_c k).1
  | iinc a x =>
    obtain ⟨b, k⟩ := sm_dq_i rfl h
    obtain ⟨k1, k⟩ := sm_pf_c k
    obtain ⟨k2, k⟩ := sm_pf_c k
    exact dq_iinc b k1 k2 (sm_pf_c k).1
  | newarray t =>
    cases t with
    | boolean =>
      obtain ⟨k1, k⟩ := sm_pf_c (sm_dq_c rfl h).2
      exact dq_newarray_boolean k1 (sm_pf_c k).1
    | byte =>
      obtain ⟨k1, k⟩ := sm_pf_c (sm_dq_c rfl h).2
      exact dq_newarray_byte k1 (sm_pf_c k).1
    | int =>
      obtain ⟨k1, k⟩ := sm_pf_c (sm_dq_c rfl h).2
      exact dq_newarray_int k1 (sm_pf_c k).1
    | long =>
      obtain ⟨k1, k⟩ := sm_pf_c (sm_dq_c rfl h).2
      exact dq_newarray_long k1 (sm_pf_c k).1
    | _ => exact absurd rfl (sm_dq_c rfl h).1
  | _ => exact absurd rfl (sm_dq_c rfl h).1
/-- the tables, with a block's bytes at hand -/
def sm_okIq (P : Nat → sm_M) (M : sm_M) (pc : Nat) (i : Instr) (ops : List Nat) (bs : List UInt8) (k : Nat → Bool) : Bool := match i with
  | .goto off => sm_dq (.goto off) bs && sm_tg M pc off (ops.getD 0 0)
  | .ifCond c off => sm_dq (.ifCond c off) bs && sm_tg M pc off (ops.getD 0 0) && sm_tg M pc 3 (ops.getD 1 0)
  | .if_icmp c off => sm_dq (.if_icmp c off) bs && sm_tg M pc off (ops.getD 0 0) && sm_tg M pc 3 (ops.getD 1 0)
  | .ifnull off => sm_dq (.ifnull off) bs && sm_tg M pc off (ops.getD 0 0) && sm_tg M pc 3 (ops.getD 1 0)
  | .ifnonnull off => sm_dq (.ifnonnull off) bs && sm_tg M pc off (ops.getD 0 0) && sm_tg M pc 3 (ops.getD 1 0)
  | .tableswitch df lo hi offs => sm_okI P M pc (.tableswitch df lo hi offs) ops k
  | .lookupswitch df ps => sm_okI P M pc (.lookupswitch df ps) ops k
  | .ireturn => sm_dq .ireturn bs && sm_isI M.2.2.2.1
  | .lreturn => sm_dq .lreturn bs && decide (M.2.2.2.1 = some .long)
  | .areturn => sm_dq .areturn bs && sm_isO M.2.2.2.1
  | .return_ => sm_dq .return_ bs && decide (M.2.2.2.1 = none)
  | .new x => sm_dq (.new x) bs && sm_okN M x (ops.getD 0 0) (ops.getD 1 0) (ops.getD 2 0) (ops.getD 3 0) && k (pc + 3)
  | .newarray at' => sm_dq (.newarray at') bs && sm_okA M at' (ops.getD 0 0) (ops.getD 1 0) && k (pc + 2)
  | i => sm_dq i bs && sm_okE P M i ops && k (pc + sm_ln i)
theorem sm_dq_d {M : sm_M} {pc : Nat} {i : Instr} (h : sm_dq i (M.2.1.data.toList.drop pc) = true) : sm_dec M pc i = true := decide_eq_true (sm_dq_of h)
theorem sm_okIq_of {P : Nat → sm_M} {M : sm_M} {pc : Nat} {i : Instr} {ops : List Nat} {k k' : Nat → Bool} (hk : ∀ q, pc ≤ q → k q = true → k' q = true) (h : sm_okIq P M pc i ops (M.2.1.data.toList.drop pc) k = true) : sm_okI P M pc i ops k' = true := by
  have d1 : ∀ {i : Instr} {b : Bool}, (sm_dq i (M.2.1.data.toList.drop pc) && b) = true → (sm_dec M pc i && b) = true := fun {i b} h => by
    have h := Bool.and_eq_true_iff.mp h
    exact Bool.and_eq_true_iff.mpr ⟨sm_dq_d h.1, h.2⟩
  have d2 : ∀ {i : Instr} {b c : Bool}, (sm_dq i (M.2.1.data.toList.drop pc) && b && c) = true → (sm_dec M pc i && b && c) = true := fun {i b c} h => by
    have h := Bool.and_eq_true_iff.mp h
    exact Bool.and_eq_true_iff.mpr ⟨d1 h.1, h.2⟩
  have d3 : ∀ {i : Instr} {b : Bool} {q : Nat}, pc ≤ q → (sm_dq i (M.2.1.data.toList.drop pc) && b && k q) = true → (sm_dec M pc i && b && k' q) = true := fun {i b q} le h => by
    have h := Bool.and_eq_true_iff.mp h
    exact Bool.and_eq_true_iff.mpr ⟨d1 h.1, hk q le h.2⟩
  cases i with
  | goto off => exact d1 h
  | ifCond c off => exact d2 h
  | if_icmp c off => exact d2 h
  | ifnull off => exact d2 h
  | ifnonnull off => exact d2 h
  | tableswitch df lo hi offs => exact h
  | lookupswitch df ps => exact h
  | ireturn => exact d1 h
  | lreturn => exact d1 h
  | areturn => exact d1 h
  | return_ => exact d1 h
  | new x => exact d3 (Nat.le_add_right _ _) h
  | newarray at' => exact d3 (Nat.le_add_right _ _) h
  | _ => exact d3 (Nat.le_add_right _ _) h
def sm_okLq (P : Nat → sm_M) (M : sm_M) (fall : Nat) : List (Instr × List Nat) → List Nat → List UInt8 → Bool
  | [], pc :: _, _ => sm_tg M pc 0 fall
  | (i, ops) :: is, pc :: pcs, bs => sm_okIq P M pc i ops bs (fun q => sm_hd pcs (fun p' r => decide (q = p') && sm_okLq P M fall is (p' :: r) (bs.drop (p' - pc))))
  | _, [], _ => false
theorem sm_okLq_of {P : Nat → sm_M} {M : sm_M} {fall : Nat} : ∀ (is : List (Instr × List Nat)) (pc : Nat) (pcs : List Nat), sm_okLq P M fall is (pc :: pcs) (M.2.1.data.toList.drop pc) = true → sm_okL P M fall is pc = true
  | [], pc, pcs, h => h
  | (i, ops) :: is, pc, pcs, h => by
    have h : sm_okIq P M pc i ops (M.2.1.data.toList.drop pc) (fun q => sm_hd pcs (fun p' r => decide (q = p') && sm_okLq P M fall is (p' :: r) ((M.2.1.data.toList.drop pc).drop (p' - pc)))) = true := h
    refine sm_okIq_of (fun q le hq => ?_) h
    cases pcs with
    | nil => cases hq
    | cons p' r =>
      have hq := Bool.and_eq_true_iff.mp hq
      have e := of_decide_eq_true hq.1
      subst e
      have h2 := hq.2
      rw [List.drop_drop, show pc + (q - pc) = q by omega] at h2
      exact sm_okLq_of is q r h2
def sm_okBq (P : Nat → sm_M) (M : sm_M) : List sm_B → List (List Nat) → Bool
  | [], _ => true
  | B :: Bs, pcs :: r => sm_hd pcs (fun pc ps => decide (pc = B.1) && sm_okLq P M B.2.2.1 B.2.2.2 (pc :: ps) (M.2.1.data.toList.drop pc)) && sm_okBq P M Bs r
  | _ :: _, [] => false
theorem sm_okBq_of {P : Nat → sm_M} {M : sm_M} : ∀ (Bs : List sm_B) (L : List (List Nat)), sm_okBq P M Bs L = true → Bs.all (fun B => sm_okL P M B.2.2.1 B.2.2.2 B.1) = true
  | [], _, _ => rfl
  | B :: Bs, [], h => by cases h
  | B :: Bs, pcs :: r, h => by
    have h : (sm_hd pcs (fun pc ps => decide (pc = B.1) && sm_okLq P M B.2.2.1 B.2.2.2 (pc :: ps) (M.2.1.data.toList.drop pc)) && sm_okBq P M Bs r) = true := h
    have h := Bool.and_eq_true_iff.mp h
    rw [List.all_cons, Bool.and_eq_true]
    refine ⟨?_, sm_okBq_of Bs r h.2⟩
    cases pcs with
    | nil => cases h.1
    | cons pc ps =>
      have h1 := Bool.and_eq_true_iff.mp h.1
      have e := of_decide_eq_true h1.1
      subst e
      exact sm_okLq_of _ _ _ h1.2
theorem sm_okMq_of {P : Nat → sm_M} {M : sm_M} (L : List (List Nat)) (h : (sm_okMh M && sm_okBq P M (sm_blks M) L) = true) : sm_okM P M = true := by
  have h := Bool.and_eq_true_iff.mp h
  exact Bool.and_eq_true_iff.mpr ⟨h.1, sm_okBq_of _ _ h.2⟩

