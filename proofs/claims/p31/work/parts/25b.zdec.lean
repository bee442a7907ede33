/-! instructions by the bytes from a place on: what decode comes to -/
section DQ
variable {c : ByteArray} {p : Nat}
theorem dq_u1 {b : UInt8} {t : List UInt8} (h : c.data.toList.drop p = b :: t) : (Reader.u1 : Decoder Nat) c p = .ok (b.toNat, p + 1) := by
  have hp : p < c.data.toList.length := by
    rcases Nat.lt_or_ge p c.data.toList.length with q | q
    · exact q
    · rw [List.drop_eq_nil_of_le q] at h
      cases h
  have e : c.data.toList[p] = b := by
    rw [List.drop_eq_getElem_cons hp] at h
    injection h
  have hs : p < c.size := hp
  have e2 : c[p] = b := e
  show (if h : p < c.size then (do set (p + 1); pure c[p].toNat : Decoder Nat) else throw (HasTruncated.truncated p)) c p = _
  rw [dif_pos hs]
  show Except.ok (c[p].toNat, p + 1) = _
  rw [e2]
theorem dq_t {b : UInt8} {t : List UInt8} (h : c.data.toList.drop p = b :: t) : c.data.toList.drop (p + 1) = t := by
  rw [← List.tail_drop, h]
  rfl
theorem dq_u2 {a b : UInt8} {t : List UInt8} (h : c.data.toList.drop p = a :: b :: t) : (Reader.u2 : Decoder Nat) c p = .ok (a.toNat * 256 + b.toNat, p + 2) := by
  have u1 := dq_u1 h
  have u2 := dq_u1 (dq_t h)
  show Except.bind ((Reader.u1 : Decoder Nat) c p) _ = _
  rw [u1]
  show Except.bind ((Reader.u1 : Decoder Nat) c (p + 1)) _ = _
  rw [u2]
  rfl
theorem dq_s1 {b : UInt8} {t : List UInt8} (h : c.data.toList.drop p = b :: t) : (Reader.s1 : Decoder Int) c p = .ok (Reader.signed 8 b.toNat, p + 1) := by
  have u1 := dq_u1 h
  show Except.bind ((Reader.u1 : Decoder Nat) c p) _ = _
  rw [u1]
  rfl
theorem dq_s2 {a b : UInt8} {t : List UInt8} (h : c.data.toList.drop p = a :: b :: t) : (Reader.s2 : Decoder Int) c p = .ok (Reader.signed 16 (a.toNat * 256 + b.toNat), p + 2) := by
  have u2 := dq_u2 h
  show Except.bind ((Reader.u2 : Decoder Nat) c p) _ = _
  rw [u2]
  rfl
theorem dq_2 {b : UInt8} {t : List UInt8} (h : c.data.toList.drop p = b :: t) (e : b.toNat = 2) : decode c p = .ok (Instr.iconst (-1), 1) := by
  have u := dq_u1 h
  rw [e] at u
  show Except.bind (Except.bind ((Reader.u1 : Decoder Nat) c p) _) _ = _
  rw [u]
  show (Except.ok (Instr.iconst (-1), p + 1 - p) : Except DecodeError (Instr × Nat)) = _
  rw [Nat.add_sub_cancel_left]
theorem dq_3 {b : UInt8} {t : List UInt8} (h : c.data.toList.drop p = b :: t) (e : b.toNat = 3) : decode c p = .ok (Instr.iconst 0, 1) := by
  have u := dq_u1 h
  rw [e] at u
  show Except.bind (Except.bind ((Reader.u1 : Decoder Nat) c p) _) _ = _
  rw [u]
  show (Except.ok (Instr.iconst 0, p + 1 - p) : Except DecodeError (Instr × Nat)) = _
  rw [Nat.add_sub_cancel_left]
theorem dq_4 {b : UInt8} {t : List UInt8} (h : c.data.toList.drop p = b :: t) (e : b.toNat = 4) : decode c p = .ok (Instr.iconst 1, 1) := by
  have u := dq_u1 h
  rw [e] at u
  show Except.bind (Except.bind ((Reader.u1 : Decoder Nat) c p) _) _ = _
  rw [u]
  show (Except.ok (Instr.iconst 1, p + 1 - p) : Except DecodeError (Instr × Nat)) = _
  rw [Nat.add_sub_cancel_left]
theorem dq_5 {b : UInt8} {t : List UInt8} (h : c.data.toList.drop p = b :: t) (e : b.toNat = 5) : decode c p = .ok (Instr.iconst 2, 1) := by
  have u := dq_u1 h
  rw [e] at u
  show Except.bind (Except.bind ((Reader.u1 : Decoder Nat) c p) _) _ = _
  rw [u]
  show (Except.ok (Instr.iconst 2, p + 1 - p) : Except DecodeError (Instr × Nat)) = _
  rw [Nat.add_sub_cancel_left]
theorem dq_6 {b : UInt8} {t : List UInt8} (h : c.data.toList.drop p = b :: t) (e : b.toNat = 6) : decode c p = .ok (Instr.iconst 3, 1) := by
  have u := dq_u1 h
  rw [e] at u
  show Except.bind (Except.bind ((Reader.u1 : Decoder Nat) c p) _) _ = _
  rw [u]
  show (Except.ok (Instr.iconst 3, p + 1 - p) : Except DecodeError (Instr × Nat)) = _
  rw [Nat.add_sub_cancel_left]
theorem dq_7 {b : UInt8} {t : List UInt8} (h : c.data.toList.drop p = b :: t) (e : b.toNat = 7) : decode c p = .ok (Instr.iconst 4, 1) := by
  have u := dq_u1 h
  rw [e] at u
  show Except.bind (Except.bind ((Reader.u1 : Decoder Nat) c p) _) _ = _
  rw [u]
  show (Except.ok (Instr.iconst 4, p + 1 - p) : Except DecodeError (Instr × Nat)) = _
  rw [Nat.add_sub_cancel_left]
theorem dq_8 {b : UInt8} {t : List UInt8} (h : c.data.toList.drop p = b :: t) (e : b.toNat = 8) : decode c p = .ok (Instr.iconst 5, 1) := by
  have u := dq_u1 h
  rw [e] at u
  show Except.bind (Except.bind ((Reader.u1 : Decoder Nat) c p) _) _ = _
  rw [u]
  show (Except.ok (Instr.iconst 5, p + 1 - p) : Except DecodeError (Instr × Nat)) = _
  rw [Nat.add_sub_cancel_left]
theorem dq_9 {b : UInt8} {t : List UInt8} (h : c.data.toList.drop p = b :: t) (e : b.toNat = 9) : decode c p = .ok (Instr.lconst 0, 1) := by
  have u := dq_u1 h
  rw [e] at u
  show Except.bind (Except.bind ((Reader.u1 : Decoder Nat) c p) _) _ = _
  rw [u]
  show (Except.ok (Instr.lconst 0, p + 1 - p) : Except DecodeError (Instr × Nat)) = _
  rw [Nat.add_sub_cancel_left]
theorem dq_10 {b : UInt8} {t : List UInt8} (h : c.data.toList.drop p = b :: t) (e : b.toNat = 10) : decode c p = .ok (Instr.lconst 1, 1) := by
  have u := dq_u1 h
  rw [e] at u
  show Except.bind (Except.bind ((Reader.u1 : Decoder Nat) c p) _) _ = _
  rw [u]
  show (Except.ok (Instr.lconst 1, p + 1 - p) : Except DecodeError (Instr × Nat)) = _
  rw [Nat.add_sub_cancel_left]
theorem dq_16 {b x : UInt8} {t : List UInt8} (h : c.data.toList.drop p = b :: x :: t) (e : b.toNat = 16) : decode c p = .ok (Instr.bipush (Reader.signed 8 x.toNat), 2) := by
  have u := dq_u1 h
  rw [e] at u
  show Except.bind (Except.bind ((Reader.u1 : Decoder Nat) c p) _) _ = _
  rw [u]
  show Except.bind (Except.bind ((Reader.s1 : Decoder Int) c (p + 1)) _) _ = _
  rw [dq_s1 (dq_t h)]
  show (Except.ok (Instr.bipush (Reader.signed 8 x.toNat), p + 2 - p) : Except DecodeError (Instr × Nat)) = _
  rw [Nat.add_sub_cancel_left]
theorem dq_17 {b x y : UInt8} {t : List UInt8} (h : c.data.toList.drop p = b :: x :: y :: t) (e : b.toNat = 17) : decode c p = .ok (Instr.sipush (Reader.signed 16 (x.toNat * 256 + y.toNat)), 3) := by
  have u := dq_u1 h
  rw [e] at u
  show Except.bind (Except.bind ((Reader.u1 : Decoder Nat) c p) _) _ = _
  rw [u]
  show Except.bind (Except.bind ((Reader.s2 : Decoder Int) c (p + 1)) _) _ = _
  rw [dq_s2 (dq_t h)]
  show (Except.ok (Instr.sipush (Reader.signed 16 (x.toNat * 256 + y.toNat)), p + 3 - p) : Except DecodeError (Instr × Nat)) = _
  rw [Nat.add_sub_cancel_left]
theorem dq_18 {b x : UInt8} {t : List UInt8} (h : c.data.toList.drop p = b :: x :: t) (e : b.toNat = 18) : decode c p = .ok (Instr.ldc (x.toNat), 2) := by
  have u := dq_u1 h
  rw [e] at u
  show Except.bind (Except.bind ((Reader.u1 : Decoder Nat) c p) _) _ = _
  rw [u]
  show Except.bind (Except.bind ((Reader.u1 : Decoder Nat) c (p + 1)) _) _ = _
  rw [dq_u1 (dq_t h)]
  show (Except.ok (Instr.ldc (x.toNat), p + 2 - p) : Except DecodeError (Instr × Nat)) = _
  rw [Nat.add_sub_cancel_left]
theorem dq_19 {b x y : UInt8} {t : List UInt8} (h : c.data.toList.drop p = b :: x :: y :: t) (e : b.toNat = 19) : decode c p = .ok (Instr.ldc_w (x.toNat * 256 + y.toNat), 3) := by
  have u := dq_u1 h
  rw [e] at u
  show Except.bind (Except.bind ((Reader.u1 : Decoder Nat) c p) _) _ = _
  rw [u]
  show Except.bind (Except.bind ((Reader.u2 : Decoder Nat) c (p + 1)) _) _ = _
  rw [dq_u2 (dq_t h)]
  show (Except.ok (Instr.ldc_w (x.toNat * 256 + y.toNat), p + 3 - p) : Except DecodeError (Instr × Nat)) = _
  rw [Nat.add_sub_cancel_left]
theorem dq_20 {b x y : UInt8} {t : List UInt8} (h : c.data.toList.drop p = b :: x :: y :: t) (e : b.toNat = 20) : decode c p = .ok (Instr.ldc2_w (x.toNat * 256 + y.toNat), 3) := by
  have u := dq_u1 h
  rw [e] at u
  show Except.bind (Except.bind ((Reader.u1 : Decoder Nat) c p) _) _ = _
  rw [u]
  show Except.bind (Except.bind ((Reader.u2 : Decoder Nat) c (p + 1)) _) _ = _
  rw [dq_u2 (dq_t h)]
  show (Except.ok (Instr.ldc2_w (x.toNat * 256 + y.toNat), p + 3 - p) : Except DecodeError (Instr × Nat)) = _
  rw [Nat.add_sub_cancel_left]
theorem dq_21 {b x : UInt8} {t : List UInt8} (h : c.data.toList.drop p = b :: x :: t) (e : b.toNat = 21) : decode c p = .ok (Instr.iload (x.toNat), 2) := by
  have u := dq_u1 h
  rw [e] at u
  show Except.bind (Except.bind ((Reader.u1 : Decoder Nat) c p) _) _ = _
  rw [u]
  show Except.bind (Except.bind ((Reader.u1 : Decoder Nat) c (p + 1)) _) _ = _
  rw [dq_u1 (dq_t h)]
  show (Except.ok (Instr.iload (x.toNat), p + 2 - p) : Except DecodeError (Instr × Nat)) = _
  rw [Nat.add_sub_cancel_left]
theorem dq_22 {b x : UInt8} {t : List UInt8} (h : c.data.toList.drop p = b :: x :: t) (e : b.toNat = 22) : decode c p = .ok (Instr.lload (x.toNat), 2) := by
  have u := dq_u1 h
  rw [e] at u
  show Except.bind (Except.bind ((Reader.u1 : Decoder Nat) c p) _) _ = _
  rw [u]
  show Except.bind (Except.bind ((Reader.u1 : Decoder Nat) c (p + 1)) _) _ = _
  rw [dq_u1 (dq_t h)]
  show (Except.ok (Instr.lload (x.toNat), p + 2 - p) : Except DecodeError (Instr × Nat)) = _
  rw [Nat.add_sub_cancel_left]
theorem dq_25 {b x : UInt8} {t : List UInt8} (h : c.data.toList.drop p = b :: x :: t) (e : b.toNat = 25) : decode c p = .ok (Instr.aload (x.toNat), 2) := by
  have u := dq_u1 h
  rw [e] at u
  show Except.bind (Except.bind ((Reader.u1 : Decoder Nat) c p) _) _ = _
  rw [u]
  show Except.bind (Except.bind ((Reader.u1 : Decoder Nat) c (p + 1)) _) _ = _
  rw [dq_u1 (dq_t h)]
  show (Except.ok (Instr.aload (x.toNat), p + 2 - p) : Except DecodeError (Instr × Nat)) = _
  rw [Nat.add_sub_cancel_left]
theorem dq_26 {b : UInt8} {t : List UInt8} (h : c.data.toList.drop p = b :: t) (e : b.toNat = 26) : decode c p = .ok (Instr.iload_n 0, 1) := by
  have u := dq_u1 h
  rw [e] at u
  show Except.bind (Except.bind ((Reader.u1 : Decoder Nat) c p) _) _ = _
  rw [u]
  show (Except.ok (Instr.iload_n 0, p + 1 - p) : Except DecodeError (Instr × Nat)) = _
  rw [Nat.add_sub_cancel_left]
theorem dq_27 {b : UInt8} {t : List UInt8} (h : c.data.toList.drop p = b :: t) (e : b.toNat = 27) : decode c p = .ok (Instr.iload_n 1, 1) := by
  have u := dq_u1 h
  rw [e] at u
  show Except.bind (Except.bind ((Reader.u1 : Decoder Nat) c p) _) _ = _
  rw [u]
  show (Except.ok (Instr.iload_n 1, p + 1 - p) : Except DecodeError (Instr × Nat)) = _
  rw [Nat.add_sub_cancel_left]
theorem dq_28 {b : UInt8} {t : List UInt8} (h : c.data.toList.drop p = b :: t) (e : b.toNat = 28) : decode c p = .ok (Instr.iload_n 2, 1) := by
  have u := dq_u1 h
  rw [e] at u
  show Except.bind (Except.bind ((Reader.u1 : Decoder Nat) c p) _) _ = _
  rw [u]
  show (Except.ok (Instr.iload_n 2, p + 1 - p) : Except DecodeError (Instr × Nat)) = _
  rw [Nat.add_sub_cancel_left]
theorem dq_29 {b : UInt8} {t : List UInt8} (h : c.data.toList.drop p = b :: t) (e : b.toNat = 29) : decode c p = .ok (Instr.iload_n 3, 1) := by
  have u := dq_u1 h
  rw [e] at u
  show Except.bind (Except.bind ((Reader.u1 : Decoder Nat) c p) _) _ = _
  rw [u]
  show (Except.ok (Instr.iload_n 3, p + 1 - p) : Except DecodeError (Instr × Nat)) = _
  rw [Nat.add_sub_cancel_left]
theorem dq_30 {b : UInt8} {t : List UInt8} (h : c.data.toList.drop p = b :: t) (e : b.toNat = 30) : decode c p = .ok (Instr.lload_n 0, 1) := by
  have u := dq_u1 h
  rw [e] at u
  show Except.bind (Except.bind ((Reader.u1 : Decoder Nat) c p) _) _ = _
  rw [u]
  show (Except.ok (Instr.lload_n 0, p + 1 - p) : Except DecodeError (Instr × Nat)) = _
  rw [Nat.add_sub_cancel_left]
theorem dq_31 {b : UInt8} {t : List UInt8} (h : c.data.toList.drop p = b :: t) (e : b.toNat = 31) : decode c p = .ok (Instr.lload_n 1, 1) := by
  have u := dq_u1 h
  rw [e] at u
  show Except.bind (Except.bind ((Reader.u1 : Decoder Nat) c p) _) _ = _
  rw [u]
  show (Except.ok (Instr.lload_n 1, p + 1 - p) : Except DecodeError (Instr × Nat)) = _
  rw [Nat.add_sub_cancel_left]
theorem dq_32 {b : UInt8} {t : List UInt8} (h : c.data.toList.drop p = b :: t) (e : b.toNat = 32) : decode c p = .ok (Instr.lload_n 2, 1) := by
  have u := dq_u1 h
  rw [e] at u
  show Except.bind (Except.bind ((Reader.u1 : Decoder Nat) c p) _) _ = _
  rw [u]
  show (Except.ok (Instr.lload_n 2, p + 1 - p) : Except DecodeError (Instr × Nat)) = _
  rw [Nat.add_sub_cancel_left]
theorem dq_33 {b : UInt8} {t : List UInt8} (h : c.data.toList.drop p = b :: t) (e : b.toNat = 33) : decode c p = .ok (Instr.lload_n 3, 1) := by
  have u := dq_u1 h
  rw [e] at u
  show Except.bind (Except.bind ((Reader.u1 : Decoder Nat) c p) _) _ = _
  rw [u]
  show (Except.ok (Instr.lload_n 3, p + 1 - p) : Except DecodeError (Instr × Nat)) = _
  rw [Nat.add_sub_cancel_left]
theorem dq_42 {b : UInt8} {t : List UInt8} (h : c.data.toList.drop p = b :: t) (e : b.toNat = 42) : decode c p = .ok (Instr.aload_n 0, 1) := by
  have u := dq_u1 h
  rw [e] at u
  show Except.bind (Except.bind ((Reader.u1 : Decoder Nat) c p) _) _ = _
  rw [u]
  show (Except.ok (Instr.aload_n 0, p + 1 - p) : Except DecodeError (Instr × Nat)) = _
  rw [Nat.add_sub_cancel_left]
theorem dq_43 {b : UInt8} {t : List UInt8} (h : c.data.toList.drop p = b :: t) (e : b.toNat = 43) : decode c p = .ok (Instr.aload_n 1, 1) := by
  have u := dq_u1 h
  rw [e] at u
  show Except.bind (Except.bind ((Reader.u1 : Decoder Nat) c p) _) _ = _
  rw [u]
  show (Except.ok (Instr.aload_n 1, p + 1 - p) : Except DecodeError (Instr × Nat)) = _
  rw [Nat.add_sub_cancel_left]
theorem dq_44 {b : UInt8} {t : List UInt8} (h : c.data.toList.drop p = b :: t) (e : b.toNat = 44) : decode c p = .ok (Instr.aload_n 2, 1) := by
  have u := dq_u1 h
  rw [e] at u
  show Except.bind (Except.bind ((Reader.u1 : Decoder Nat) c p) _) _ = _
  rw [u]
  show (Except.ok (Instr.aload_n 2, p + 1 - p) : Except DecodeError (Instr × Nat)) = _
  rw [Nat.add_sub_cancel_left]
theorem dq_45 {b : UInt8} {t : List UInt8} (h : c.data.toList.drop p = b :: t) (e : b.toNat = 45) : decode c p = .ok (Instr.aload_n 3, 1) := by
  have u := dq_u1 h
  rw [e] at u
  show Except.bind (Except.bind ((Reader.u1 : Decoder Nat) c p) _) _ = _
  rw [u]
  show (Except.ok (Instr.aload_n 3, p + 1 - p) : Except DecodeError (Instr × Nat)) = _
  rw [Nat.add_sub_cancel_left]
theorem dq_46 {b : UInt8} {t : List UInt8} (h : c.data.toList.drop p = b :: t) (e : b.toNat = 46) : decode c p = .ok (Instr.iaload, 1) := by
  have u := dq_u1 h
  rw [e] at u
  show Except.bind (Except.bind ((Reader.u1 : Decoder Nat) c p) _) _ = _
  rw [u]
  show (Except.ok (Instr.iaload, p + 1 - p) : Except DecodeError (Instr × Nat)) = _
  rw [Nat.add_sub_cancel_left]
theorem dq_47 {b : UInt8} {t : List UInt8} (h : c.data.toList.drop p = b :: t) (e : b.toNat = 47) : decode c p = .ok (Instr.laload, 1) := by
  have u := dq_u1 h
  rw [e] at u
  show Except.bind (Except.bind ((Reader.u1 : Decoder Nat) c p) _) _ = _
  rw [u]
  show (Except.ok (Instr.laload, p + 1 - p) : Except DecodeError (Instr × Nat)) = _
  rw [Nat.add_sub_cancel_left]
theorem dq_50 {b : UInt8} {t : List UInt8} (h : c.data.toList.drop p = b :: t) (e : b.toNat = 50) : decode c p = .ok (Instr.aaload, 1) := by
  have u := dq_u1 h
  rw [e] at u
  show Except.bind (Except.bind ((Reader.u1 : Decoder Nat) c p) _) _ = _
  rw [u]
  show (Except.ok (Instr.aaload, p + 1 - p) : Except DecodeError (Instr × Nat)) = _
  rw [Nat.add_sub_cancel_left]
theorem dq_51 {b : UInt8} {t : List UInt8} (h : c.data.toList.drop p = b :: t) (e : b.toNat = 51) : decode c p = .ok (Instr.baload, 1) := by
  have u := dq_u1 h
  rw [e] at u
  show Except.bind (Except.bind ((Reader.u1 : Decoder Nat) c p) _) _ = _
  rw [u]
  show (Except.ok (Instr.baload, p + 1 - p) : Except DecodeError (Instr × Nat)) = _
  rw [Nat.add_sub_cancel_left]
theorem dq_54 {b x : UInt8} {t : List UInt8} (h : c.data.toList.drop p = b :: x :: t) (e : b.toNat = 54) : decode c p = .ok (Instr.istore (x.toNat), 2) := by
  have u := dq_u1 h
  rw [e] at u
  show Except.bind (Except.bind ((Reader.u1 : Decoder Nat) c p) _) _ = _
  rw [u]
  show Except.bind (Except.bind ((Reader.u1 : Decoder Nat) c (p + 1)) _) _ = _
  rw [dq_u1 (dq_t h)]
  show (Except.ok (Instr.istore (x.toNat), p + 2 - p) : Except DecodeError (Instr × Nat)) = _
  rw [Nat.add_sub_cancel_left]
theorem dq_55 {b x : UInt8} {t : List UInt8} (h : c.data.toList.drop p = b :: x :: t) (e : b.toNat = 55) : decode c p = .ok (Instr.lstore (x.toNat), 2) := by
  have u := dq_u1 h
  rw [e] at u
  show Except.bind (Except.bind ((Reader.u1 : Decoder Nat) c p) _) _ = _
  rw [u]
  show Except.bind (Except.bind ((Reader.u1 : Decoder Nat) c (p + 1)) _) _ = _
  rw [dq_u1 (dq_t h)]
  show (Except.ok (Instr.lstore (x.toNat), p + 2 - p) : Except DecodeError (Instr × Nat)) = _
  rw [Nat.add_sub_cancel_left]
theorem dq_58 {b x : UInt8} {t : List UInt8} (h : c.data.toList.drop p = b :: x :: t) (e : b.toNat = 58) : decode c p = .ok (Instr.astore (x.toNat), 2) := by
  have u := dq_u1 h
  rw [e] at u
  show Except.bind (Except.bind ((Reader.u1 : Decoder Nat) c p) _) _ = _
  rw [u]
  show Except.bind (Except.bind ((Reader.u1 : Decoder Nat) c (p + 1)) _) _ = _
  rw [dq_u1 (dq_t h)]
  show (Except.ok (Instr.astore (x.toNat), p + 2 - p) : Except DecodeError (Instr × Nat)) = _
  rw [Nat.add_sub_cancel_left]
theorem dq_59 {b : UInt8} {t : List UInt8} (h : c.data.toList.drop p = b :: t) (e : b.toNat = 59) : decode c p = .ok (Instr.istore_n 0, 1) := by
  have u := dq_u1 h
  rw [e] at u
  show Except.bind (Except.bind ((Reader.u1 : Decoder Nat) c p) _) _ = _
  rw [u]
  show (Except.ok (Instr.istore_n 0, p + 1 - p) : Except DecodeError (Instr × Nat)) = _
  rw [Nat.add_sub_cancel_left]
theorem dq_60 {b : UInt8} {t : List UInt8} (h : c.data.toList.drop p = b :: t) (e : b.toNat = 60) : decode c p = .ok (Instr.istore_n 1, 1) := by
  have u := dq_u1 h
  rw [e] at u
  show Except.bind (Except.bind ((Reader.u1 : Decoder Nat) c p) _) _ = _
  rw [u]
  show (Except.ok (Instr.istore_n 1, p + 1 - p) : Except DecodeError (Instr × Nat)) = _
  rw [Nat.add_sub_cancel_left]
theorem dq_61 {b : UInt8} {t : List UInt8} (h : c.data.toList.drop p = b :: t) (e : b.toNat = 61) : decode c p = .ok (Instr.istore_n 2, 1) := by
  have u := dq_u1 h
  rw [e] at u
  show Except.bind (Except.bind ((Reader.u1 : Decoder Nat) c p) _) _ = _
  rw [u]
  show (Except.ok (Instr.istore_n 2, p + 1 - p) : Except DecodeError (Instr × Nat)) = _
  rw [Nat.add_sub_cancel_left]
theorem dq_62 {b : UInt8} {t : List UInt8} (h : c.data.toList.drop p = b :: t) (e : b.toNat = 62) : decode c p = .ok (Instr.istore_n 3, 1) := by
  have u := dq_u1 h
  rw [e] at u
  show Except.bind (Except.bind ((Reader.u1 : Decoder Nat) c p) _) _ = _
  rw [u]
  show (Except.ok (Instr.istore_n 3, p + 1 - p) : Except DecodeError (Instr × Nat)) = _
  rw [Nat.add_sub_cancel_left]
theorem dq_63 {b : UInt8} {t : List UInt8} (h : c.data.toList.drop p = b :: t) (e : b.toNat = 63) : decode c p = .ok (Instr.lstore_n 0, 1) := by
  have u := dq_u1 h
  rw [e] at u
  show Except.bind (Except.bind ((Reader.u1 : Decoder Nat) c p) _) _ = _
  rw [u]
  show (Except.ok (Instr.lstore_n 0, p + 1 - p) : Except DecodeError (Instr × Nat)) = _
  rw [Nat.add_sub_cancel_left]
theorem dq_64 {b : UInt8} {t : List UInt8} (h : c.data.toList.drop p = b :: t) (e : b.toNat = 64) : decode c p = .ok (Instr.lstore_n 1, 1) := by
  have u := dq_u1 h
  rw [e] at u
  show Except.bind (Except.bind ((Reader.u1 : Decoder Nat) c p) _) _ = _
  rw [u]
  show (Except.ok (Instr.lstore_n 1, p + 1 - p) : Except DecodeError (Instr × Nat)) = _
  rw [Nat.add_sub_cancel_left]
theorem dq_65 {b : UInt8} {t : List UInt8} (h : c.data.toList.drop p = b :: t) (e : b.toNat = 65) : decode c p = .ok (Instr.lstore_n 2, 1) := by
  have u := dq_u1 h
  rw [e] at u
  show Except.bind (Except.bind ((Reader.u1 : Decoder Nat) c p) _) _ = _
  rw [u]
  show (Except.ok (Instr.lstore_n 2, p + 1 - p) : Except DecodeError (Instr × Nat)) = _
  rw [Nat.add_sub_cancel_left]
theorem dq_66 {b : UInt8} {t : List UInt8} (h : c.data.toList.drop p = b :: t) (e : b.toNat = 66) : decode c p = .ok (Instr.lstore_n 3, 1) := by
  have u := dq_u1 h
  rw [e] at u
  show Except.bind (Except.bind ((Reader.u1 : Decoder Nat) c p) _) _ = _
  rw [u]
  show (Except.ok (Instr.lstore_n 3, p + 1 - p) : Except DecodeError (Instr × Nat)) = _
  rw [Nat.add_sub_cancel_left]
theorem dq_75 {b : UInt8} {t : List UInt8} (h : c.data.toList.drop p = b :: t) (e : b.toNat = 75) : decode c p = .ok (Instr.astore_n 0, 1) := by
  have u := dq_u1 h
  rw [e] at u
  show Except.bind (Except.bind ((Reader.u1 : Decoder Nat) c p) _) _ = _
  rw [u]
  show (Except.ok (Instr.astore_n 0, p + 1 - p) : Except DecodeError (Instr × Nat)) = _
  rw [Nat.add_sub_cancel_left]
theorem dq_76 {b : UInt8} {t : List UInt8} (h : c.data.toList.drop p = b :: t) (e : b.toNat = 76) : decode c p = .ok (Instr.astore_n 1, 1) := by
  have u := dq_u1 h
  rw [e] at u
  show Except.bind (Except.bind ((Reader.u1 : Decoder Nat) c p) _) _ = _
  rw [u]
  show (Except.ok (Instr.astore_n 1, p + 1 - p) : Except DecodeError (Instr × Nat)) = _
  rw [Nat.add_sub_cancel_left]
theorem dq_77 {b : UInt8} {t : List UInt8} (h : c.data.toList.drop p = b :: t) (e : b.toNat = 77) : decode c p = .ok (Instr.astore_n 2, 1) := by
  have u := dq_u1 h
  rw [e] at u
  show Except.bind (Except.bind ((Reader.u1 : Decoder Nat) c p) _) _ = _
  rw [u]
  show (Except.ok (Instr.astore_n 2, p + 1 - p) : Except DecodeError (Instr × Nat)) = _
  rw [Nat.add_sub_cancel_left]
theorem dq_78 {b : UInt8} {t : List UInt8} (h : c.data.toList.drop p = b :: t) (e : b.toNat = 78) : decode c p = .ok (Instr.astore_n 3, 1) := by
  have u := dq_u1 h
  rw [e] at u
  show Except.bind (Except.bind ((Reader.u1 : Decoder Nat) c p) _) _ = _
  rw [u]
  show (Except.ok (Instr.astore_n 3, p + 1 - p) : Except DecodeError (Instr × Nat)) = _
  rw [Nat.add_sub_cancel_left]
theorem dq_79 {b : UInt8} {t : List UInt8} (h : c.data.toList.drop p = b :: t) (e : b.toNat = 79) : decode c p = .ok (Instr.iastore, 1) := by
  have u := dq_u1 h
  rw [e] at u
  show Except.bind (Except.bind ((Reader.u1 : Decoder Nat) c p) _) _ = _
  rw [u]
  show (Except.ok (Instr.iastore, p + 1 - p) : Except DecodeError (Instr × Nat)) = _
  rw [Nat.add_sub_cancel_left]
theorem dq_80 {b : UInt8} {t : List UInt8} (h : c.data.toList.drop p = b :: t) (e : b.toNat = 80) : decode c p = .ok (Instr.lastore, 1) := by
  have u := dq_u1 h
  rw [e] at u
  show Except.bind (Except.bind ((Reader.u1 : Decoder Nat) c p) _) _ = _
  rw [u]
  show (Except.ok (Instr.lastore, p + 1 - p) : Except DecodeError (Instr × Nat)) = _
  rw [Nat.add_sub_cancel_left]
theorem dq_84 {b : UInt8} {t : List UInt8} (h : c.data.toList.drop p = b :: t) (e : b.toNat = 84) : decode c p = .ok (Instr.bastore, 1) := by
  have u := dq_u1 h
  rw [e] at u
  show Except.bind (Except.bind ((Reader.u1 : Decoder Nat) c p) _) _ = _
  rw [u]
  show (Except.ok (Instr.bastore, p + 1 - p) : Except DecodeError (Instr × Nat)) = _
  rw [Nat.add_sub_cancel_left]
theorem dq_87 {b : UInt8} {t : List UInt8} (h : c.data.toList.drop p = b :: t) (e : b.toNat = 87) : decode c p = .ok (Instr.pop, 1) := by
  have u := dq_u1 h
  rw [e] at u
  show Except.bind (Except.bind ((Reader.u1 : Decoder Nat) c p) _) _ = _
  rw [u]
  show (Except.ok (Instr.pop, p + 1 - p) : Except DecodeError (Instr × Nat)) = _
  rw [Nat.add_sub_cancel_left]
theorem dq_88 {b : UInt8} {t : List UInt8} (h : c.data.toList.drop p = b :: t) (e : b.toNat = 88) : decode c p = .ok (Instr.pop2, 1) := by
  have u := dq_u1 h
  rw [e] at u
  show Except.bind (Except.bind ((Reader.u1 : Decoder Nat) c p) _) _ = _
  rw [u]
  show (Except.ok (Instr.pop2, p + 1 - p) : Except DecodeError (Instr × Nat)) = _
  rw [Nat.add_sub_cancel_left]
theorem dq_89 {b : UInt8} {t : List UInt8} (h : c.data.toList.drop p = b :: t) (e : b.toNat = 89) : decode c p = .ok (Instr.dup, 1) := by
  have u := dq_u1 h
  rw [e] at u
  show Except.bind (Except.bind ((Reader.u1 : Decoder Nat) c p) _) _ = _
  rw [u]
  show (Except.ok (Instr.dup, p + 1 - p) : Except DecodeError (Instr × Nat)) = _
  rw [Nat.add_sub_cancel_left]
theorem dq_92 {b : UInt8} {t : List UInt8} (h : c.data.toList.drop p = b :: t) (e : b.toNat = 92) : decode c p = .ok (Instr.dup2, 1) := by
  have u := dq_u1 h
  rw [e] at u
  show Except.bind (Except.bind ((Reader.u1 : Decoder Nat) c p) _) _ = _
  rw [u]
  show (Except.ok (Instr.dup2, p + 1 - p) : Except DecodeError (Instr × Nat)) = _
  rw [Nat.add_sub_cancel_left]
theorem dq_96 {b : UInt8} {t : List UInt8} (h : c.data.toList.drop p = b :: t) (e : b.toNat = 96) : decode c p = .ok (Instr.iadd, 1) := by
  have u := dq_u1 h
  rw [e] at u
  show Except.bind (Except.bind ((Reader.u1 : Decoder Nat) c p) _) _ = _
  rw [u]
  show (Except.ok (Instr.iadd, p + 1 - p) : Except DecodeError (Instr × Nat)) = _
  rw [Nat.add_sub_cancel_left]
theorem dq_97 {b : UInt8} {t : List UInt8} (h : c.data.toList.drop p = b :: t) (e : b.toNat = 97) : decode c p = .ok (Instr.ladd, 1) := by
  have u := dq_u1 h
  rw [e] at u
  show Except.bind (Except.bind ((Reader.u1 : Decoder Nat) c p) _) _ = _
  rw [u]
  show (Except.ok (Instr.ladd, p + 1 - p) : Except DecodeError (Instr × Nat)) = _
  rw [Nat.add_sub_cancel_left]
theorem dq_100 {b : UInt8} {t : List UInt8} (h : c.data.toList.drop p = b :: t) (e : b.toNat = 100) : decode c p = .ok (Instr.isub, 1) := by
  have u := dq_u1 h
  rw [e] at u
  show Except.bind (Except.bind ((Reader.u1 : Decoder Nat) c p) _) _ = _
  rw [u]
  show (Except.ok (Instr.isub, p + 1 - p) : Except DecodeError (Instr × Nat)) = _
  rw [Nat.add_sub_cancel_left]
theorem dq_101 {b : UInt8} {t : List UInt8} (h : c.data.toList.drop p = b :: t) (e : b.toNat = 101) : decode c p = .ok (Instr.lsub, 1) := by
  have u := dq_u1 h
  rw [e] at u
  show Except.bind (Except.bind ((Reader.u1 : Decoder Nat) c p) _) _ = _
  rw [u]
  show (Except.ok (Instr.lsub, p + 1 - p) : Except DecodeError (Instr × Nat)) = _
  rw [Nat.add_sub_cancel_left]
theorem dq_104 {b : UInt8} {t : List UInt8} (h : c.data.toList.drop p = b :: t) (e : b.toNat = 104) : decode c p = .ok (Instr.imul, 1) := by
  have u := dq_u1 h
  rw [e] at u
  show Except.bind (Except.bind ((Reader.u1 : Decoder Nat) c p) _) _ = _
  rw [u]
  show (Except.ok (Instr.imul, p + 1 - p) : Except DecodeError (Instr × Nat)) = _
  rw [Nat.add_sub_cancel_left]
theorem dq_105 {b : UInt8} {t : List UInt8} (h : c.data.toList.drop p = b :: t) (e : b.toNat = 105) : decode c p = .ok (Instr.lmul, 1) := by
  have u := dq_u1 h
  rw [e] at u
  show Except.bind (Except.bind ((Reader.u1 : Decoder Nat) c p) _) _ = _
  rw [u]
  show (Except.ok (Instr.lmul, p + 1 - p) : Except DecodeError (Instr × Nat)) = _
  rw [Nat.add_sub_cancel_left]
theorem dq_108 {b : UInt8} {t : List UInt8} (h : c.data.toList.drop p = b :: t) (e : b.toNat = 108) : decode c p = .ok (Instr.idiv, 1) := by
  have u := dq_u1 h
  rw [e] at u
  show Except.bind (Except.bind ((Reader.u1 : Decoder Nat) c p) _) _ = _
  rw [u]
  show (Except.ok (Instr.idiv, p + 1 - p) : Except DecodeError (Instr × Nat)) = _
  rw [Nat.add_sub_cancel_left]
theorem dq_109 {b : UInt8} {t : List UInt8} (h : c.data.toList.drop p = b :: t) (e : b.toNat = 109) : decode c p = .ok (Instr.ldiv, 1) := by
  have u := dq_u1 h
  rw [e] at u
  show Except.bind (Except.bind ((Reader.u1 : Decoder Nat) c p) _) _ = _
  rw [u]
  show (Except.ok (Instr.ldiv, p + 1 - p) : Except DecodeError (Instr × Nat)) = _
  rw [Nat.add_sub_cancel_left]
theorem dq_112 {b : UInt8} {t : List UInt8} (h : c.data.toList.drop p = b :: t) (e : b.toNat = 112) : decode c p = .ok (Instr.irem, 1) := by
  have u := dq_u1 h
  rw [e] at u
  show Except.bind (Except.bind ((Reader.u1 : Decoder Nat) c p) _) _ = _
  rw [u]
  show (Except.ok (Instr.irem, p + 1 - p) : Except DecodeError (Instr × Nat)) = _
  rw [Nat.add_sub_cancel_left]
theorem dq_113 {b : UInt8} {t : List UInt8} (h : c.data.toList.drop p = b :: t) (e : b.toNat = 113) : decode c p = .ok (Instr.lrem, 1) := by
  have u := dq_u1 h
  rw [e] at u
  show Except.bind (Except.bind ((Reader.u1 : Decoder Nat) c p) _) _ = _
  rw [u]
  show (Except.ok (Instr.lrem, p + 1 - p) : Except DecodeError (Instr × Nat)) = _
  rw [Nat.add_sub_cancel_left]
theorem dq_116 {b : UInt8} {t : List UInt8} (h : c.data.toList.drop p = b :: t) (e : b.toNat = 116) : decode c p = .ok (Instr.ineg, 1) := by
  have u := dq_u1 h
  rw [e] at u
  show Except.bind (Except.bind ((Reader.u1 : Decoder Nat) c p) _) _ = _
  rw [u]
  show (Except.ok (Instr.ineg, p + 1 - p) : Except DecodeError (Instr × Nat)) = _
  rw [Nat.add_sub_cancel_left]
theorem dq_117 {b : UInt8} {t : List UInt8} (h : c.data.toList.drop p = b :: t) (e : b.toNat = 117) : decode c p = .ok (Instr.lneg, 1) := by
  have u := dq_u1 h
  rw [e] at u
  show Except.bind (Except.bind ((Reader.u1 : Decoder Nat) c p) _) _ = _
  rw [u]
  show (Except.ok (Instr.lneg, p + 1 - p) : Except DecodeError (Instr × Nat)) = _
  rw [Nat.add_sub_cancel_left]
theorem dq_120 {b : UInt8} {t : List UInt8} (h : c.data.toList.drop p = b :: t) (e : b.toNat = 120) : decode c p = .ok (Instr.ishl, 1) := by
  have u := dq_u1 h
  rw [e] at u
  show Except.bind (Except.bind ((Reader.u1 : Decoder Nat) c p) _) _ = _
  rw [u]
  show (Except.ok (Instr.ishl, p + 1 - p) : Except DecodeError (Instr × Nat)) = _
  rw [Nat.add_sub_cancel_left]
theorem dq_121 {b : UInt8} {t : List UInt8} (h : c.data.toList.drop p = b :: t) (e : b.toNat = 121) : decode c p = .ok (Instr.lshl, 1) := by
  have u := dq_u1 h
  rw [e] at u
  show Except.bind (Except.bind ((Reader.u1 : Decoder Nat) c p) _) _ = _
  rw [u]
  show (Except.ok (Instr.lshl, p + 1 - p) : Except DecodeError (Instr × Nat)) = _
  rw [Nat.add_sub_cancel_left]
theorem dq_122 {b : UInt8} {t : List UInt8} (h : c.data.toList.drop p = b :: t) (e : b.toNat = 122) : decode c p = .ok (Instr.ishr, 1) := by
  have u := dq_u1 h
  rw [e] at u
  show Except.bind (Except.bind ((Reader.u1 : Decoder Nat) c p) _) _ = _
  rw [u]
  show (Except.ok (Instr.ishr, p + 1 - p) : Except DecodeError (Instr × Nat)) = _
  rw [Nat.add_sub_cancel_left]
theorem dq_124 {b : UInt8} {t : List UInt8} (h : c.data.toList.drop p = b :: t) (e : b.toNat = 124) : decode c p = .ok (Instr.iushr, 1) := by
  have u := dq_u1 h
  rw [e] at u
  show Except.bind (Except.bind ((Reader.u1 : Decoder Nat) c p) _) _ = _
  rw [u]
  show (Except.ok (Instr.iushr, p + 1 - p) : Except DecodeError (Instr × Nat)) = _
  rw [Nat.add_sub_cancel_left]
theorem dq_125 {b : UInt8} {t : List UInt8} (h : c.data.toList.drop p = b :: t) (e : b.toNat = 125) : decode c p = .ok (Instr.lushr, 1) := by
  have u := dq_u1 h
  rw [e] at u
  show Except.bind (Except.bind ((Reader.u1 : Decoder Nat) c p) _) _ = _
  rw [u]
  show (Except.ok (Instr.lushr, p + 1 - p) : Except DecodeError (Instr × Nat)) = _
  rw [Nat.add_sub_cancel_left]
theorem dq_126 {b : UInt8} {t : List UInt8} (h : c.data.toList.drop p = b :: t) (e : b.toNat = 126) : decode c p = .ok (Instr.iand, 1) := by
  have u := dq_u1 h
  rw [e] at u
  show Except.bind (Except.bind ((Reader.u1 : Decoder Nat) c p) _) _ = _
  rw [u]
  show (Except.ok (Instr.iand, p + 1 - p) : Except DecodeError (Instr × Nat)) = _
  rw [Nat.add_sub_cancel_left]
theorem dq_127 {b : UInt8} {t : List UInt8} (h : c.data.toList.drop p = b :: t) (e : b.toNat = 127) : decode c p = .ok (Instr.land, 1) := by
  have u := dq_u1 h
  rw [e] at u
  show Except.bind (Except.bind ((Reader.u1 : Decoder Nat) c p) _) _ = _
  rw [u]
  show (Except.ok (Instr.land, p + 1 - p) : Except DecodeError (Instr × Nat)) = _
  rw [Nat.add_sub_cancel_left]
theorem dq_128 {b : UInt8} {t : List UInt8} (h : c.data.toList.drop p = b :: t) (e : b.toNat = 128) : decode c p = .ok (Instr.ior, 1) := by
  have u := dq_u1 h
  rw [e] at u
  show Except.bind (Except.bind ((Reader.u1 : Decoder Nat) c p) _) _ = _
  rw [u]
  show (Except.ok (Instr.ior, p + 1 - p) : Except DecodeError (Instr × Nat)) = _
  rw [Nat.add_sub_cancel_left]
theorem dq_129 {b : UInt8} {t : List UInt8} (h : c.data.toList.drop p = b :: t) (e : b.toNat = 129) : decode c p = .ok (Instr.lor, 1) := by
  have u := dq_u1 h
  rw [e] at u
  show Except.bind (Except.bind ((Reader.u1 : Decoder Nat) c p) _) _ = _
  rw [u]
  show (Except.ok (Instr.lor, p + 1 - p) : Except DecodeError (Instr × Nat)) = _
  rw [Nat.add_sub_cancel_left]
theorem dq_130 {b : UInt8} {t : List UInt8} (h : c.data.toList.drop p = b :: t) (e : b.toNat = 130) : decode c p = .ok (Instr.ixor, 1) := by
  have u := dq_u1 h
  rw [e] at u
  show Except.bind (Except.bind ((Reader.u1 : Decoder Nat) c p) _) _ = _
  rw [u]
  show (Except.ok (Instr.ixor, p + 1 - p) : Except DecodeError (Instr × Nat)) = _
  rw [Nat.add_sub_cancel_left]
theorem dq_131 {b : UInt8} {t : List UInt8} (h : c.data.toList.drop p = b :: t) (e : b.toNat = 131) : decode c p = .ok (Instr.lxor, 1) := by
  have u := dq_u1 h
  rw [e] at u
  show Except.bind (Except.bind ((Reader.u1 : Decoder Nat) c p) _) _ = _
  rw [u]
  show (Except.ok (Instr.lxor, p + 1 - p) : Except DecodeError (Instr × Nat)) = _
  rw [Nat.add_sub_cancel_left]
theorem dq_132 {b x y : UInt8} {t : List UInt8} (h : c.data.toList.drop p = b :: x :: y :: t) (e : b.toNat = 132) : decode c p = .ok (Instr.iinc (x.toNat) (Reader.signed 8 y.toNat), 3) := by
  have u := dq_u1 h
  rw [e] at u
  show Except.bind (Except.bind ((Reader.u1 : Decoder Nat) c p) _) _ = _
  rw [u]
  show Except.bind (Except.bind ((Reader.u1 : Decoder Nat) c (p + 1)) _) _ = _
  rw [dq_u1 (dq_t h)]
  show Except.bind (Except.bind ((Reader.s1 : Decoder Int) c (p + 2)) _) _ = _
  rw [dq_s1 (dq_t (dq_t h))]
  show (Except.ok (Instr.iinc (x.toNat) (Reader.signed 8 y.toNat), p + 3 - p) : Except DecodeError (Instr × Nat)) = _
  rw [Nat.add_sub_cancel_left]
theorem dq_133 {b : UInt8} {t : List UInt8} (h : c.data.toList.drop p = b :: t) (e : b.toNat = 133) : decode c p = .ok (Instr.i2l, 1) := by
  have u := dq_u1 h
  rw [e] at u
  show Except.bind (Except.bind ((Reader.u1 : Decoder Nat) c p) _) _ = _
  rw [u]
  show (Except.ok (Instr.i2l, p + 1 - p) : Except DecodeError (Instr × Nat)) = _
  rw [Nat.add_sub_cancel_left]
theorem dq_136 {b : UInt8} {t : List UInt8} (h : c.data.toList.drop p = b :: t) (e : b.toNat = 136) : decode c p = .ok (Instr.l2i, 1) := by
  have u := dq_u1 h
  rw [e] at u
  show Except.bind (Except.bind ((Reader.u1 : Decoder Nat) c p) _) _ = _
  rw [u]
  show (Except.ok (Instr.l2i, p + 1 - p) : Except DecodeError (Instr × Nat)) = _
  rw [Nat.add_sub_cancel_left]
theorem dq_145 {b : UInt8} {t : List UInt8} (h : c.data.toList.drop p = b :: t) (e : b.toNat = 145) : decode c p = .ok (Instr.i2b, 1) := by
  have u := dq_u1 h
  rw [e] at u
  show Except.bind (Except.bind ((Reader.u1 : Decoder Nat) c p) _) _ = _
  rw [u]
  show (Except.ok (Instr.i2b, p + 1 - p) : Except DecodeError (Instr × Nat)) = _
  rw [Nat.add_sub_cancel_left]
theorem dq_147 {b : UInt8} {t : List UInt8} (h : c.data.toList.drop p = b :: t) (e : b.toNat = 147) : decode c p = .ok (Instr.i2s, 1) := by
  have u := dq_u1 h
  rw [e] at u
  show Except.bind (Except.bind ((Reader.u1 : Decoder Nat) c p) _) _ = _
  rw [u]
  show (Except.ok (Instr.i2s, p + 1 - p) : Except DecodeError (Instr × Nat)) = _
  rw [Nat.add_sub_cancel_left]
theorem dq_148 {b : UInt8} {t : List UInt8} (h : c.data.toList.drop p = b :: t) (e : b.toNat = 148) : decode c p = .ok (Instr.lcmp, 1) := by
  have u := dq_u1 h
  rw [e] at u
  show Except.bind (Except.bind ((Reader.u1 : Decoder Nat) c p) _) _ = _
  rw [u]
  show (Except.ok (Instr.lcmp, p + 1 - p) : Except DecodeError (Instr × Nat)) = _
  rw [Nat.add_sub_cancel_left]
theorem dq_153 {b x y : UInt8} {t : List UInt8} (h : c.data.toList.drop p = b :: x :: y :: t) (e : b.toNat = 153) : decode c p = .ok (Instr.ifCond .eq (Reader.signed 16 (x.toNat * 256 + y.toNat)), 3) := by
  have u := dq_u1 h
  rw [e] at u
  show Except.bind (Except.bind ((Reader.u1 : Decoder Nat) c p) _) _ = _
  rw [u]
  show Except.bind (Except.bind ((Reader.s2 : Decoder Int) c (p + 1)) _) _ = _
  rw [dq_s2 (dq_t h)]
  show (Except.ok (Instr.ifCond .eq (Reader.signed 16 (x.toNat * 256 + y.toNat)), p + 3 - p) : Except DecodeError (Instr × Nat)) = _
  rw [Nat.add_sub_cancel_left]
theorem dq_154 {b x y : UInt8} {t : List UInt8} (h : c.data.toList.drop p = b :: x :: y :: t) (e : b.toNat = 154) : decode c p = .ok (Instr.ifCond .ne (Reader.signed 16 (x.toNat * 256 + y.toNat)), 3) := by
  have u := dq_u1 h
  rw [e] at u
  show Except.bind (Except.bind ((Reader.u1 : Decoder Nat) c p) _) _ = _
  rw [u]
  show Except.bind (Except.bind ((Reader.s2 : Decoder Int) c (p + 1)) _) _ = _
  rw [dq_s2 (dq_t h)]
  show (Except.ok (Instr.ifCond .ne (Reader.signed 16 (x.toNat * 256 + y.toNat)), p + 3 - p) : Except DecodeError (Instr × Nat)) = _
  rw [Nat.add_sub_cancel_left]
theorem dq_155 {b x y : UInt8} {t : List UInt8} (h : c.data.toList.drop p = b :: x :: y :: t) (e : b.toNat = 155) : decode c p = .ok (Instr.ifCond .lt (Reader.signed 16 (x.toNat * 256 + y.toNat)), 3) := by
  have u := dq_u1 h
  rw [e] at u
  show Except.bind (Except.bind ((Reader.u1 : Decoder Nat) c p) _) _ = _
  rw [u]
  show Except.bind (Except.bind ((Reader.s2 : Decoder Int) c (p + 1)) _) _ = _
  rw [dq_s2 (dq_t h)]
  show (Except.ok (Instr.ifCond .lt (Reader.signed 16 (x.toNat * 256 + y.toNat)), p + 3 - p) : Except DecodeError (Instr × Nat)) = _
  rw [Nat.add_sub_cancel_left]
theorem dq_156 {b x y : UInt8} {t : List UInt8} (h : c.data.toList.drop p = b :: x :: y :: t) (e : b.toNat = 156) : decode c p = .ok (Instr.ifCond .ge (Reader.signed 16 (x.toNat * 256 + y.toNat)), 3) := by
  have u := dq_u1 h
  rw [e] at u
  show Except.bind (Except.bind ((Reader.u1 : Decoder Nat) c p) _) _ = _
  rw [u]
  show Except.bind (Except.bind ((Reader.s2 : Decoder Int) c (p + 1)) _) _ = _
  rw [dq_s2 (dq_t h)]
  show (Except.ok (Instr.ifCond .ge (Reader.signed 16 (x.toNat * 256 + y.toNat)), p + 3 - p) : Except DecodeError (Instr × Nat)) = _
  rw [Nat.add_sub_cancel_left]
theorem dq_157 {b x y : UInt8} {t : List UInt8} (h : c.data.toList.drop p = b :: x :: y :: t) (e : b.toNat = 157) : decode c p = .ok (Instr.ifCond .gt (Reader.signed 16 (x.toNat * 256 + y.toNat)), 3) := by
  have u := dq_u1 h
  rw [e] at u
  show Except.bind (Except.bind ((Reader.u1 : Decoder Nat) c p) _) _ = _
  rw [u]
  show Except.bind (Except.bind ((Reader.s2 : Decoder Int) c (p + 1)) _) _ = _
  rw [dq_s2 (dq_t h)]
  show (Except.ok (Instr.ifCond .gt (Reader.signed 16 (x.toNat * 256 + y.toNat)), p + 3 - p) : Except DecodeError (Instr × Nat)) = _
  rw [Nat.add_sub_cancel_left]
theorem dq_158 {b x y : UInt8} {t : List UInt8} (h : c.data.toList.drop p = b :: x :: y :: t) (e : b.toNat = 158) : decode c p = .ok (Instr.ifCond .le (Reader.signed 16 (x.toNat * 256 + y.toNat)), 3) := by
  have u := dq_u1 h
  rw [e] at u
  show Except.bind (Except.bind ((Reader.u1 : Decoder Nat) c p) _) _ = _
  rw [u]
  show Except.bind (Except.bind ((Reader.s2 : Decoder Int) c (p + 1)) _) _ = _
  rw [dq_s2 (dq_t h)]
  show (Except.ok (Instr.ifCond .le (Reader.signed 16 (x.toNat * 256 + y.toNat)), p + 3 - p) : Except DecodeError (Instr × Nat)) = _
  rw [Nat.add_sub_cancel_left]
theorem dq_159 {b x y : UInt8} {t : List UInt8} (h : c.data.toList.drop p = b :: x :: y :: t) (e : b.toNat = 159) : decode c p = .ok (Instr.if_icmp .eq (Reader.signed 16 (x.toNat * 256 + y.toNat)), 3) := by
  have u := dq_u1 h
  rw [e] at u
  show Except.bind (Except.bind ((Reader.u1 : Decoder Nat) c p) _) _ = _
  rw [u]
  show Except.bind (Except.bind ((Reader.s2 : Decoder Int) c (p + 1)) _) _ = _
  rw [dq_s2 (dq_t h)]
  show (Except.ok (Instr.if_icmp .eq (Reader.signed 16 (x.toNat * 256 + y.toNat)), p + 3 - p) : Except DecodeError (Instr × Nat)) = _
  rw [Nat.add_sub_cancel_left]
theorem dq_160 {b x y : UInt8} {t : List UInt8} (h : c.data.toList.drop p = b :: x :: y :: t) (e : b.toNat = 160) : decode c p = .ok (Instr.if_icmp .ne (Reader.signed 16 (x.toNat * 256 + y.toNat)), 3) := by
  have u := dq_u1 h
  rw [e] at u
  show Except.bind (Except.bind ((Reader.u1 : Decoder Nat) c p) _) _ = _
  rw [u]
  show Except.bind (Except.bind ((Reader.s2 : Decoder Int) c (p + 1)) _) _ = _
  rw [dq_s2 (dq_t h)]
  show (Except.ok (Instr.if_icmp .ne (Reader.signed 16 (x.toNat * 256 + y.toNat)), p + 3 - p) : Except DecodeError (Instr × Nat)) = _
  rw [Nat.add_sub_cancel_left]
theorem dq_161 {b x y : UInt8} {t : List UInt8} (h : c.data.toList.drop p = b :: x :: y :: t) (e : b.toNat = 161) : decode c p = .ok (Instr.if_icmp .lt (Reader.signed 16 (x.toNat * 256 + y.toNat)), 3) := by
  have u := dq_u1 h
  rw [e] at u
  show Except.bind (Except.bind ((Reader.u1 : Decoder Nat) c p) _) _ = _
  rw [u]
  show Except.bind (Except.bind ((Reader.s2 : Decoder Int) c (p + 1)) _) _ = _
  rw [dq_s2 (dq_t h)]
  show (Except.ok (Instr.if_icmp .lt (Reader.signed 16 (x.toNat * 256 + y.toNat)), p + 3 - p) : Except DecodeError (Instr × Nat)) = _
  rw [Nat.add_sub_cancel_left]
theorem dq_162 {b x y : UInt8} {t : List UInt8} (h : c.data.toList.drop p = b :: x :: y :: t) (e : b.toNat = 162) : decode c p = .ok (Instr.if_icmp .ge (Reader.signed 16 (x.toNat * 256 + y.toNat)), 3) := by
  have u := dq_u1 h
  rw [e] at u
  show Except.bind (Except.bind ((Reader.u1 : Decoder Nat) c p) _) _ = _
  rw [u]
  show Except.bind (Except.bind ((Reader.s2 : Decoder Int) c (p + 1)) _) _ = _
  rw [dq_s2 (dq_t h)]
  show (Except.ok (Instr.if_icmp .ge (Reader.signed 16 (x.toNat * 256 + y.toNat)), p + 3 - p) : Except DecodeError (Instr × Nat)) = _
  rw [Nat.add_sub_cancel_left]
theorem dq_163 {b x y : UInt8} {t : List UInt8} (h : c.data.toList.drop p = b :: x :: y :: t) (e : b.toNat = 163) : decode c p = .ok (Instr.if_icmp .gt (Reader.signed 16 (x.toNat * 256 + y.toNat)), 3) := by
  have u := dq_u1 h
  rw [e] at u
  show Except.bind (Except.bind ((Reader.u1 : Decoder Nat) c p) _) _ = _
  rw [u]
  show Except.bind (Except.bind ((Reader.s2 : Decoder Int) c (p + 1)) _) _ = _
  rw [dq_s2 (dq_t h)]
  show (Except.ok (Instr.if_icmp .gt (Reader.signed 16 (x.toNat * 256 + y.toNat)), p + 3 - p) : Except DecodeError (Instr × Nat)) = _
  rw [Nat.add_sub_cancel_left]
theorem dq_164 {b x y : UInt8} {t : List UInt8} (h : c.data.toList.drop p = b :: x :: y :: t) (e : b.toNat = 164) : decode c p = .ok (Instr.if_icmp .le (Reader.signed 16 (x.toNat * 256 + y.toNat)), 3) := by
  have u := dq_u1 h
  rw [e] at u
  show Except.bind (Except.bind ((Reader.u1 : Decoder Nat) c p) _) _ = _
  rw [u]
  show Except.bind (Except.bind ((Reader.s2 : Decoder Int) c (p + 1)) _) _ = _
  rw [dq_s2 (dq_t h)]
  show (Except.ok (Instr.if_icmp .le (Reader.signed 16 (x.toNat * 256 + y.toNat)), p + 3 - p) : Except DecodeError (Instr × Nat)) = _
  rw [Nat.add_sub_cancel_left]
theorem dq_167 {b x y : UInt8} {t : List UInt8} (h : c.data.toList.drop p = b :: x :: y :: t) (e : b.toNat = 167) : decode c p = .ok (Instr.goto (Reader.signed 16 (x.toNat * 256 + y.toNat)), 3) := by
  have u := dq_u1 h
  rw [e] at u
  show Except.bind (Except.bind ((Reader.u1 : Decoder Nat) c p) _) _ = _
  rw [u]
  show Except.bind (Except.bind ((Reader.s2 : Decoder Int) c (p + 1)) _) _ = _
  rw [dq_s2 (dq_t h)]
  show (Except.ok (Instr.goto (Reader.signed 16 (x.toNat * 256 + y.toNat)), p + 3 - p) : Except DecodeError (Instr × Nat)) = _
  rw [Nat.add_sub_cancel_left]
theorem dq_172 {b : UInt8} {t : List UInt8} (h : c.data.toList.drop p = b :: t) (e : b.toNat = 172) : decode c p = .ok (Instr.ireturn, 1) := by
  have u := dq_u1 h
  rw [e] at u
  show Except.bind (Except.bind ((Reader.u1 : Decoder Nat) c p) _) _ = _
  rw [u]
  show (Except.ok (Instr.ireturn, p + 1 - p) : Except DecodeError (Instr × Nat)) = _
  rw [Nat.add_sub_cancel_left]
theorem dq_173 {b : UInt8} {t : List UInt8} (h : c.data.toList.drop p = b :: t) (e : b.toNat = 173) : decode c p = .ok (Instr.lreturn, 1) := by
  have u := dq_u1 h
  rw [e] at u
  show Except.bind (Except.bind ((Reader.u1 : Decoder Nat) c p) _) _ = _
  rw [u]
  show (Except.ok (Instr.lreturn, p + 1 - p) : Except DecodeError (Instr × Nat)) = _
  rw [Nat.add_sub_cancel_left]
theorem dq_177 {b : UInt8} {t : List UInt8} (h : c.data.toList.drop p = b :: t) (e : b.toNat = 177) : decode c p = .ok (Instr.return_, 1) := by
  have u := dq_u1 h
  rw [e] at u
  show Except.bind (Except.bind ((Reader.u1 : Decoder Nat) c p) _) _ = _
  rw [u]
  show (Except.ok (Instr.return_, p + 1 - p) : Except DecodeError (Instr × Nat)) = _
  rw [Nat.add_sub_cancel_left]
theorem dq_178 {b x y : UInt8} {t : List UInt8} (h : c.data.toList.drop p = b :: x :: y :: t) (e : b.toNat = 178) : decode c p = .ok (Instr.getstatic (x.toNat * 256 + y.toNat), 3) := by
  have u := dq_u1 h
  rw [e] at u
  show Except.bind (Except.bind ((Reader.u1 : Decoder Nat) c p) _) _ = _
  rw [u]
  show Except.bind (Except.bind ((Reader.u2 : Decoder Nat) c (p + 1)) _) _ = _
  rw [dq_u2 (dq_t h)]
  show (Except.ok (Instr.getstatic (x.toNat * 256 + y.toNat), p + 3 - p) : Except DecodeError (Instr × Nat)) = _
  rw [Nat.add_sub_cancel_left]
theorem dq_180 {b x y : UInt8} {t : List UInt8} (h : c.data.toList.drop p = b :: x :: y :: t) (e : b.toNat = 180) : decode c p = .ok (Instr.getfield (x.toNat * 256 + y.toNat), 3) := by
  have u := dq_u1 h
  rw [e] at u
  show Except.bind (Except.bind ((Reader.u1 : Decoder Nat) c p) _) _ = _
  rw [u]
  show Except.bind (Except.bind ((Reader.u2 : Decoder Nat) c (p + 1)) _) _ = _
  rw [dq_u2 (dq_t h)]
  show (Except.ok (Instr.getfield (x.toNat * 256 + y.toNat), p + 3 - p) : Except DecodeError (Instr × Nat)) = _
  rw [Nat.add_sub_cancel_left]
theorem dq_181 {b x y : UInt8} {t : List UInt8} (h : c.data.toList.drop p = b :: x :: y :: t) (e : b.toNat = 181) : decode c p = .ok (Instr.putfield (x.toNat * 256 + y.toNat), 3) := by
  have u := dq_u1 h
  rw [e] at u
  show Except.bind (Except.bind ((Reader.u1 : Decoder Nat) c p) _) _ = _
  rw [u]
  show Except.bind (Except.bind ((Reader.u2 : Decoder Nat) c (p + 1)) _) _ = _
  rw [dq_u2 (dq_t h)]
  show (Except.ok (Instr.putfield (x.toNat * 256 + y.toNat), p + 3 - p) : Except DecodeError (Instr × Nat)) = _
  rw [Nat.add_sub_cancel_left]
theorem dq_182 {b x y : UInt8} {t : List UInt8} (h : c.data.toList.drop p = b :: x :: y :: t) (e : b.toNat = 182) : decode c p = .ok (Instr.invokevirtual (x.toNat * 256 + y.toNat), 3) := by
  have u := dq_u1 h
  rw [e] at u
  show Except.bind (Except.bind ((Reader.u1 : Decoder Nat) c p) _) _ = _
  rw [u]
  show Except.bind (Except.bind ((Reader.u2 : Decoder Nat) c (p + 1)) _) _ = _
  rw [dq_u2 (dq_t h)]
  show (Except.ok (Instr.invokevirtual (x.toNat * 256 + y.toNat), p + 3 - p) : Except DecodeError (Instr × Nat)) = _
  rw [Nat.add_sub_cancel_left]
theorem dq_184 {b x y : UInt8} {t : List UInt8} (h : c.data.toList.drop p = b :: x :: y :: t) (e : b.toNat = 184) : decode c p = .ok (Instr.invokestatic (x.toNat * 256 + y.toNat), 3) := by
  have u := dq_u1 h
  rw [e] at u
  show Except.bind (Except.bind ((Reader.u1 : Decoder Nat) c p) _) _ = _
  rw [u]
  show Except.bind (Except.bind ((Reader.u2 : Decoder Nat) c (p + 1)) _) _ = _
  rw [dq_u2 (dq_t h)]
  show (Except.ok (Instr.invokestatic (x.toNat * 256 + y.toNat), p + 3 - p) : Except DecodeError (Instr × Nat)) = _
  rw [Nat.add_sub_cancel_left]
theorem dq_190 {b : UInt8} {t : List UInt8} (h : c.data.toList.drop p = b :: t) (e : b.toNat = 190) : decode c p = .ok (Instr.arraylength, 1) := by
  have u := dq_u1 h
  rw [e] at u
  show Except.bind (Except.bind ((Reader.u1 : Decoder Nat) c p) _) _ = _
  rw [u]
  show (Except.ok (Instr.arraylength, p + 1 - p) : Except DecodeError (Instr × Nat)) = _
  rw [Nat.add_sub_cancel_left]
end DQ
def fD (op : Nat) (t : List UInt8) : Option (Instr × Nat) := cond (Nat.blt op 89)
 (cond (Nat.blt op 43)
 (cond (Nat.blt op 20)
 (cond (Nat.blt op 8)
 (cond (Nat.blt op 5)
 (cond (Nat.blt op 3)
 (cond (Nat.beq op 2) (some (Instr.iconst (-1), 1)) none)
 (cond (Nat.blt op 4)
 (cond (Nat.beq op 3) (some (Instr.iconst 0, 1)) none)
 (cond (Nat.beq op 4) (some (Instr.iconst 1, 1)) none)))
 (cond (Nat.blt op 6)
 (cond (Nat.beq op 5) (some (Instr.iconst 2, 1)) none)
 (cond (Nat.blt op 7)
 (cond (Nat.beq op 6) (some (Instr.iconst 3, 1)) none)
 (cond (Nat.beq op 7) (some (Instr.iconst 4, 1)) none))))
 (cond (Nat.blt op 16)
 (cond (Nat.blt op 9)
 (cond (Nat.beq op 8) (some (Instr.iconst 5, 1)) none)
 (cond (Nat.blt op 10)
 (cond (Nat.beq op 9) (some (Instr.lconst 0, 1)) none)
 (cond (Nat.beq op 10) (some (Instr.lconst 1, 1)) none)))
 (cond (Nat.blt op 18)
 (cond (Nat.blt op 17)
 (cond (Nat.beq op 16) ((match t with
  | x :: _ => some (Instr.bipush (Reader.signed 8 x.toNat), 2)
  | _ => none)) none)
 (cond (Nat.beq op 17) ((match t with
  | x :: y :: _ => some (Instr.sipush (Reader.signed 16 (x.toNat * 256 + y.toNat)), 3)
  | _ => none)) none))
 (cond (Nat.blt op 19)
 (cond (Nat.beq op 18) ((match t with
  | x :: _ => some (Instr.ldc (x.toNat), 2)
  | _ => none)) none)
 (cond (Nat.beq op 19) ((match t with
  | x :: y :: _ => some (Instr.ldc_w (x.toNat * 256 + y.toNat), 3)
  | _ => none)) none)))))
 (cond (Nat.blt op 28)
 (cond (Nat.blt op 25)
 (cond (Nat.blt op 21)
 (cond (Nat.beq op 20) ((match t with
  | x :: y :: _ => some (Instr.ldc2_w (x.toNat * 256 + y.toNat), 3)
  | _ => none)) none)
 (cond (Nat.blt op 22)
 (cond (Nat.beq op 21) ((match t with
  | x :: _ => some (Instr.iload (x.toNat), 2)
  | _ => none)) none)
 (cond (Nat.beq op 22) ((match t with
  | x :: _ => some (Instr.lload (x.toNat), 2)
  | _ => none)) none)))
 (cond (Nat.blt op 26)
 (cond (Nat.beq op 25) ((match t with
  | x :: _ => some (Instr.aload (x.toNat), 2)
  | _ => none)) none)
 (cond (Nat.blt op 27)
 (cond (Nat.beq op 26) (some (Instr.iload_n 0, 1)) none)
 (cond (Nat.beq op 27) (some (Instr.iload_n 1, 1)) none))))
 (cond (Nat.blt op 31)
 (cond (Nat.blt op 29)
 (cond (Nat.beq op 28) (some (Instr.iload_n 2, 1)) none)
 (cond (Nat.blt op 30)
 (cond (Nat.beq op 29) (some (Instr.iload_n 3, 1)) none)
 (cond (Nat.beq op 30) (some (Instr.lload_n 0, 1)) none)))
 (cond (Nat.blt op 33)
 (cond (Nat.blt op 32)
 (cond (Nat.beq op 31) (some (Instr.lload_n 1, 1)) none)
 (cond (Nat.beq op 32) (some (Instr.lload_n 2, 1)) none))
 (cond (Nat.blt op 42)
 (cond (Nat.beq op 33) (some (Instr.lload_n 3, 1)) none)
 (cond (Nat.beq op 42) (some (Instr.aload_n 0, 1)) none))))))
 (cond (Nat.blt op 62)
 (cond (Nat.blt op 51)
 (cond (Nat.blt op 46)
 (cond (Nat.blt op 44)
 (cond (Nat.beq op 43) (some (Instr.aload_n 1, 1)) none)
 (cond (Nat.blt op 45)
 (cond (Nat.beq op 44) (some (Instr.aload_n 2, 1)) none)
 (cond (Nat.beq op 45) (some (Instr.aload_n 3, 1)) none)))
 (cond (Nat.blt op 47)
 (cond (Nat.beq op 46) (some (Instr.iaload, 1)) none)
 (cond (Nat.blt op 50)
 (cond (Nat.beq op 47) (some (Instr.laload, 1)) none)
 (cond (Nat.beq op 50) (some (Instr.aaload, 1)) none))))
 (cond (Nat.blt op 58)
 (cond (Nat.blt op 54)
 (cond (Nat.beq op 51) (some (Instr.baload, 1)) none)
 (cond (Nat.blt op 55)
 (cond (Nat.beq op 54) ((match t with
  | x :: _ => some (Instr.istore (x.toNat), 2)
  | _ => none)) none)
 (cond (Nat.beq op 55) ((match t with
  | x :: _ => some (Instr.lstore (x.toNat), 2)
  | _ => none)) none)))
 (cond (Nat.blt op 60)
 (cond (Nat.blt op 59)
 (cond (Nat.beq op 58) ((match t with
  | x :: _ => some (Instr.astore (x.toNat), 2)
  | _ => none)) none)
 (cond (Nat.beq op 59) (some (Instr.istore_n 0, 1)) none))
 (cond (Nat.blt op 61)
 (cond (Nat.beq op 60) (some (Instr.istore_n 1, 1)) none)
 (cond (Nat.beq op 61) (some (Instr.istore_n 2, 1)) none)))))
 (cond (Nat.blt op 77)
 (cond (Nat.blt op 65)
 (cond (Nat.blt op 63)
 (cond (Nat.beq op 62) (some (Instr.istore_n 3, 1)) none)
 (cond (Nat.blt op 64)
 (cond (Nat.beq op 63) (some (Instr.lstore_n 0, 1)) none)
 (cond (Nat.beq op 64) (some (Instr.lstore_n 1, 1)) none)))
 (cond (Nat.blt op 75)
 (cond (Nat.blt op 66)
 (cond (Nat.beq op 65) (some (Instr.lstore_n 2, 1)) none)
 (cond (Nat.beq op 66) (some (Instr.lstore_n 3, 1)) none))
 (cond (Nat.blt op 76)
 (cond (Nat.beq op 75) (some (Instr.astore_n 0, 1)) none)
 (cond (Nat.beq op 76) (some (Instr.astore_n 1, 1)) none))))
 (cond (Nat.blt op 80)
 (cond (Nat.blt op 78)
 (cond (Nat.beq op 77) (some (Instr.astore_n 2, 1)) none)
 (cond (Nat.blt op 79)
 (cond (Nat.beq op 78) (some (Instr.astore_n 3, 1)) none)
 (cond (Nat.beq op 79) (some (Instr.iastore, 1)) none)))
 (cond (Nat.blt op 87)
 (cond (Nat.blt op 84)
 (cond (Nat.beq op 80) (some (Instr.lastore, 1)) none)
 (cond (Nat.beq op 84) (some (Instr.bastore, 1)) none))
 (cond (Nat.blt op 88)
 (cond (Nat.beq op 87) (some (Instr.pop, 1)) none)
 (cond (Nat.beq op 88) (some (Instr.pop2, 1)) none)))))))
 (cond (Nat.blt op 133)
 (cond (Nat.blt op 117)
 (cond (Nat.blt op 104)
 (cond (Nat.blt op 97)
 (cond (Nat.blt op 92)
 (cond (Nat.beq op 89) (some (Instr.dup, 1)) none)
 (cond (Nat.blt op 96)
 (cond (Nat.beq op 92) (some (Instr.dup2, 1)) none)
 (cond (Nat.beq op 96) (some (Instr.iadd, 1)) none)))
 (cond (Nat.blt op 100)
 (cond (Nat.beq op 97) (some (Instr.ladd, 1)) none)
 (cond (Nat.blt op 101)
 (cond (Nat.beq op 100) (some (Instr.isub, 1)) none)
 (cond (Nat.beq op 101) (some (Instr.lsub, 1)) none))))
 (cond (Nat.blt op 109)
 (cond (Nat.blt op 105)
 (cond (Nat.beq op 104) (some (Instr.imul, 1)) none)
 (cond (Nat.blt op 108)
 (cond (Nat.beq op 105) (some (Instr.lmul, 1)) none)
 (cond (Nat.beq op 108) (some (Instr.idiv, 1)) none)))
 (cond (Nat.blt op 113)
 (cond (Nat.blt op 112)
 (cond (Nat.beq op 109) (some (Instr.ldiv, 1)) none)
 (cond (Nat.beq op 112) (some (Instr.irem, 1)) none))
 (cond (Nat.blt op 116)
 (cond (Nat.beq op 113) (some (Instr.lrem, 1)) none)
 (cond (Nat.beq op 116) (some (Instr.ineg, 1)) none)))))
 (cond (Nat.blt op 126)
 (cond (Nat.blt op 122)
 (cond (Nat.blt op 120)
 (cond (Nat.beq op 117) (some (Instr.lneg, 1)) none)
 (cond (Nat.blt op 121)
 (cond (Nat.beq op 120) (some (Instr.ishl, 1)) none)
 (cond (Nat.beq op 121) (some (Instr.lshl, 1)) none)))
 (cond (Nat.blt op 124)
 (cond (Nat.beq op 122) (some (Instr.ishr, 1)) none)
 (cond (Nat.blt op 125)
 (cond (Nat.beq op 124) (some (Instr.iushr, 1)) none)
 (cond (Nat.beq op 125) (some (Instr.lushr, 1)) none))))
 (cond (Nat.blt op 129)
 (cond (Nat.blt op 127)
 (cond (Nat.beq op 126) (some (Instr.iand, 1)) none)
 (cond (Nat.blt op 128)
 (cond (Nat.beq op 127) (some (Instr.land, 1)) none)
 (cond (Nat.beq op 128) (some (Instr.ior, 1)) none)))
 (cond (Nat.blt op 131)
 (cond (Nat.blt op 130)
 (cond (Nat.beq op 129) (some (Instr.lor, 1)) none)
 (cond (Nat.beq op 130) (some (Instr.ixor, 1)) none))
 (cond (Nat.blt op 132)
 (cond (Nat.beq op 131) (some (Instr.lxor, 1)) none)
 (cond (Nat.beq op 132) ((match t with
  | x :: y :: _ => some (Instr.iinc (x.toNat) (Reader.signed 8 y.toNat), 3)
  | _ => none)) none))))))
 (cond (Nat.blt op 161)
 (cond (Nat.blt op 154)
 (cond (Nat.blt op 147)
 (cond (Nat.blt op 136)
 (cond (Nat.beq op 133) (some (Instr.i2l, 1)) none)
 (cond (Nat.blt op 145)
 (cond (Nat.beq op 136) (some (Instr.l2i, 1)) none)
 (cond (Nat.beq op 145) (some (Instr.i2b, 1)) none)))
 (cond (Nat.blt op 148)
 (cond (Nat.beq op 147) (some (Instr.i2s, 1)) none)
 (cond (Nat.blt op 153)
 (cond (Nat.beq op 148) (some (Instr.lcmp, 1)) none)
 (cond (Nat.beq op 153) ((match t with
  | x :: y :: _ => some (Instr.ifCond .eq (Reader.signed 16 (x.toNat * 256 + y.toNat)), 3)
  | _ => none)) none))))
 (cond (Nat.blt op 157)
 (cond (Nat.blt op 155)
 (cond (Nat.beq op 154) ((match t with
  | x :: y :: _ => some (Instr.ifCond .ne (Reader.signed 16 (x.toNat * 256 + y.toNat)), 3)
  | _ => none)) none)
 (cond (Nat.blt op 156)
 (cond (Nat.beq op 155) ((match t with
  | x :: y :: _ => some (Instr.ifCond .lt (Reader.signed 16 (x.toNat * 256 + y.toNat)), 3)
  | _ => none)) none)
 (cond (Nat.beq op 156) ((match t with
  | x :: y :: _ => some (Instr.ifCond .ge (Reader.signed 16 (x.toNat * 256 + y.toNat)), 3)
  | _ => none)) none)))
 (cond (Nat.blt op 159)
 (cond (Nat.blt op 158)
 (cond (Nat.beq op 157) ((match t with
  | x :: y :: _ => some (Instr.ifCond .gt (Reader.signed 16 (x.toNat * 256 + y.toNat)), 3)
  | _ => none)) none)
 (cond (Nat.beq op 158) ((match t with
  | x :: y :: _ => some (Instr.ifCond .le (Reader.signed 16 (x.toNat * 256 + y.toNat)), 3)
  | _ => none)) none))
 (cond (Nat.blt op 160)
 (cond (Nat.beq op 159) ((match t with
  | x :: y :: _ => some (Instr.if_icmp .eq (Reader.signed 16 (x.toNat * 256 + y.toNat)), 3)
  | _ => none)) none)
 (cond (Nat.beq op 160) ((match t with
  | x :: y :: _ => some (Instr.if_icmp .ne (Reader.signed 16 (x.toNat * 256 + y.toNat)), 3)
  | _ => none)) none)))))
 (cond (Nat.blt op 177)
 (cond (Nat.blt op 164)
 (cond (Nat.blt op 162)
 (cond (Nat.beq op 161) ((match t with
  | x :: y :: _ => some (Instr.if_icmp .lt (Reader.signed 16 (x.toNat * 256 + y.toNat)), 3)
  | _ => none)) none)
 (cond (Nat.blt op 163)
 (cond (Nat.beq op 162) ((match t with
  | x :: y :: _ => some (Instr.if_icmp .ge (Reader.signed 16 (x.toNat * 256 + y.toNat)), 3)
  | _ => none)) none)
 (cond (Nat.beq op 163) ((match t with
  | x :: y :: _ => some (Instr.if_icmp .gt (Reader.signed 16 (x.toNat * 256 + y.toNat)), 3)
  | _ => none)) none)))
 (cond (Nat.blt op 172)
 (cond (Nat.blt op 167)
 (cond (Nat.beq op 164) ((match t with
  | x :: y :: _ => some (Instr.if_icmp .le (Reader.signed 16 (x.toNat * 256 + y.toNat)), 3)
  | _ => none)) none)
 (cond (Nat.beq op 167) ((match t with
  | x :: y :: _ => some (Instr.goto (Reader.signed 16 (x.toNat * 256 + y.toNat)), 3)
  | _ => none)) none))
 (cond (Nat.blt op 173)
 (cond (Nat.beq op 172) (some (Instr.ireturn, 1)) none)
 (cond (Nat.beq op 173) (some (Instr.lreturn, 1)) none))))
 (cond (Nat.blt op 181)
 (cond (Nat.blt op 178)
 (cond (Nat.beq op 177) (some (Instr.return_, 1)) none)
 (cond (Nat.blt op 180)
 (cond (Nat.beq op 178) ((match t with
  | x :: y :: _ => some (Instr.getstatic (x.toNat * 256 + y.toNat), 3)
  | _ => none)) none)
 (cond (Nat.beq op 180) ((match t with
  | x :: y :: _ => some (Instr.getfield (x.toNat * 256 + y.toNat), 3)
  | _ => none)) none)))
 (cond (Nat.blt op 184)
 (cond (Nat.blt op 182)
 (cond (Nat.beq op 181) ((match t with
  | x :: y :: _ => some (Instr.putfield (x.toNat * 256 + y.toNat), 3)
  | _ => none)) none)
 (cond (Nat.beq op 182) ((match t with
  | x :: y :: _ => some (Instr.invokevirtual (x.toNat * 256 + y.toNat), 3)
  | _ => none)) none))
 (cond (Nat.blt op 190)
 (cond (Nat.beq op 184) ((match t with
  | x :: y :: _ => some (Instr.invokestatic (x.toNat * 256 + y.toNat), 3)
  | _ => none)) none)
 (cond (Nat.beq op 190) (some (Instr.arraylength, 1)) none)))))))
theorem dq_c {α : Type} {b : Bool} {x y : Option α} {r : α} {Q : Prop} (h : cond b x y = some r) (k1 : x = some r → Q) (k2 : y = some r → Q) : Q := by
  cases b
  · exact k2 h
  · exact k1 h
theorem dq_l {α : Type} {n v : Nat} {x : Option α} {r : α} {Q : Prop} (h : cond (Nat.beq n v) x none = some r) (k : n = v → x = some r → Q) : Q := by
  cases e : Nat.beq n v
  · rw [e] at h
    cases h
  · rw [e] at h
    exact k (Nat.eq_of_beq_eq_true e) h
theorem fD_ok {c : ByteArray} {p op : Nat} {b : UInt8} {t : List UInt8} {r : Instr × Nat} (hd : c.data.toList.drop p = b :: t) (ho : b.toNat = op) (h : fD op t = some r) : decode c p = .ok r := by
  subst ho
  unfold fD at h
  refine dq_c h (fun h => ?_) (fun h => ?_)
  · skip
    refine dq_c h (fun h => ?_) (fun h => ?_)
    · skip
      refine dq_c h (fun h => ?_) (fun h => ?_)
      · skip
        refine dq_c h (fun h => ?_) (fun h => ?_)
        · skip
          refine dq_c h (fun h => ?_) (fun h => ?_)
          · skip
            refine dq_c h (fun h => ?_) (fun h => ?_)
            · skip
              refine dq_l h (fun e h => ?_)
              cases h
              exact dq_2 hd e
            · skip
              refine dq_c h (fun h => ?_) (fun h => ?_)
              · skip
                refine dq_l h (fun e h => ?_)
                cases h
                exact dq_3 hd e
              · skip
                refine dq_l h (fun e h => ?_)
                cases h
                exact dq_4 hd e
          · skip
            refine dq_c h (fun h => ?_) (fun h => ?_)
            · skip
              refine dq_l h (fun e h => ?_)
              cases h
              exact dq_5 hd e
            · skip
              refine dq_c h (fun h => ?_) (fun h => ?_)
              · skip
                refine dq_l h (fun e h => ?_)
                cases h
                exact dq_6 hd e
              · skip
                refine dq_l h (fun e h => ?_)
                cases h
                exact dq_7 hd e
        · skip
          refine dq_c h (fun h => ?_) (fun h => ?_)
          · skip
            refine dq_c h (fun h => ?_) (fun h => ?_)
            · skip
              refine dq_l h (fun e h => ?_)
              cases h
              exact dq_8 hd e
            · skip
              refine dq_c h (fun h => ?_) (fun h => ?_)
              · skip
                refine dq_l h (fun e h => ?_)
                cases h
                exact dq_9 hd e
              · skip
                refine dq_l h (fun e h => ?_)
                cases h
                exact dq_10 hd e
          · skip
            refine dq_c h (fun h => ?_) (fun h => ?_)
            · skip
              refine dq_c h (fun h => ?_) (fun h => ?_)
              · skip
                refine dq_l h (fun e h => ?_)
                cases t with
                | nil => cases h
                | cons x t =>
                  cases h
                  exact dq_16 hd e
              · skip
                refine dq_l h (fun e h => ?_)
                cases t with
                | nil => cases h
                | cons x t =>
                  cases t with
                  | nil => cases h
                  | cons y t =>
                    cases h
                    exact dq_17 hd e
            · skip
              refine dq_c h (fun h => ?_) (fun h => ?_)
              · skip
                refine dq_l h (fun e h => ?_)
                cases t with
                | nil => cases h
                | cons x t =>
                  cases h
                  exact dq_18 hd e
              · skip
                refine dq_l h (fun e h => ?_)
                cases t with
                | nil => cases h
                | cons x t =>
                  cases t with
                  | nil => cases h
                  | cons y t =>
                    cases h
                    exact dq_19 hd e
      · skip
        refine dq_c h (fun h => ?_) (fun h => ?_)
        · skip
          refine dq_c h (fun h => ?_) (fun h => ?_)
          · skip
            refine dq_c h (fun h => ?_) (fun h => ?_)
            · skip
              refine dq_l h (fun e h => ?_)
              cases t with
              | nil => cases h
              | cons x t =>
                cases t with
                | nil => cases h
                | cons y t =>
                  cases h
                  exact dq_20 hd e
            · skip
              refine dq_c h (fun h => ?_) (fun h => ?_)
              · skip
                refine dq_l h (fun e h => ?_)
                cases t with
                | nil => cases h
                | cons x t =>
                  cases h
                  exact dq_21 hd e
              · skip
                refine dq_l h (fun e h => ?_)
                cases t with
                | nil => cases h
                | cons x t =>
                  cases h
                  exact dq_22 hd e
          · skip
            refine dq_c h (fun h => ?_) (fun h => ?_)
            · skip
              refine dq_l h (fun e h => ?_)
              cases t with
              | nil => cases h
              | cons x t =>
                cases h
                exact dq_25 hd e
            · skip
              refine dq_c h (fun h => ?_) (fun h => ?_)
              · skip
                refine dq_l h (fun e h => ?_)
                cases h
                exact dq_26 hd e
              · skip
                refine dq_l h (fun e h => ?_)
                cases h
                exact dq_27 hd e
        · skip
          refine dq_c h (fun h => ?_) (fun h => ?_)
          · skip
            refine dq_c h (fun h => ?_) (fun h => ?_)
            · skip
              refine dq_l h (fun e h => ?_)
              cases h
              exact dq_28 hd e
            · skip
              refine dq_c h (fun h => ?_) (fun h => ?_)
              · skip
                refine dq_l h (fun e h => ?_)
                cases h
                exact dq_29 hd e
              · skip
                refine dq_l h (fun e h => ?_)
                cases h
                exact dq_30 hd e
          · skip
            refine dq_c h (fun h => ?_) (fun h => ?_)
            · skip
              refine dq_c h (fun h => ?_) (fun h => ?_)
              · skip
                refine dq_l h (fun e h => ?_)
                cases h
                exact dq_31 hd e
              · skip
                refine dq_l h (fun e h => ?_)
                cases h
                exact dq_32 hd e
            · skip
              refine dq_c h (fun h => ?_) (fun h => ?_)
              · skip
                refine dq_l h (fun e h => ?_)
                cases h
                exact dq_33 hd e
              · skip
                refine dq_l h (fun e h => ?_)
                cases h
                exact dq_42 hd e
    · skip
      refine dq_c h (fun h => ?_) (fun h => ?_)
      · skip
        refine dq_c h (fun h => ?_) (fun h => ?_)
        · skip
          refine dq_c h (fun h => ?_) (fun h => ?_)
          · skip
            refine dq_c h (fun h => ?_) (fun h => ?_)
            · skip
              refine dq_l h (fun e h => ?_)
              cases h
              exact dq_43 hd e
            · skip
              refine dq_c h (fun h => ?_) (fun h => ?_)
              · skip
                refine dq_l h (fun e h => ?_)
                cases h
                exact dq_44 hd e
              · skip
                refine dq_l h (fun e h => ?_)
                cases h
                exact dq_45 hd e
          · skip
            refine dq_c h (fun h => ?_) (fun h => ?_)
            · skip
              refine dq_l h (fun e h => ?_)
              cases h
              exact dq_46 hd e
            · skip
              refine dq_c h (fun h => ?_) (fun h => ?_)
              · skip
                refine dq_l h (fun e h => ?_)
                cases h
                exact dq_47 hd e
              · skip
                refine dq_l h (fun e h => ?_)
                cases h
                exact dq_50 hd e
        · skip
          refine dq_c h (fun h => ?_) (fun h => ?_)
          · skip
            refine dq_c h (fun h => ?_) (fun h => ?_)
            · skip
              refine dq_l h (fun e h => ?_)
              cases h
              exact dq_51 hd e
            · skip
              refine dq_c h (fun h => ?_) (fun h => ?_)
              · skip
                refine dq_l h (fun e h => ?_)
                cases t with
                | nil => cases h
                | cons x t =>
                  cases h
                  exact dq_54 hd e
              · skip
                refine dq_l h (fun e h => ?_)
                cases t with
                | nil => cases h
                | cons x t =>
                  cases h
                  exact dq_55 hd e
          · skip
            refine dq_c h (fun h => ?_) (fun h => ?_)
            · skip
              refine dq_c h (fun h => ?_) (fun h => ?_)
              · skip
                refine dq_l h (fun e h => ?_)
                cases t with
                | nil => cases h
                | cons x t =>
                  cases h
                  exact dq_58 hd e
              · skip
                refine dq_l h (fun e h => ?_)
                cases h
                exact dq_59 hd e
            · skip
              refine dq_c h (fun h => ?_) (fun h => ?_)
              · skip
                refine dq_l h (fun e h => ?_)
                cases h
                exact dq_60 hd e
              · skip
                refine dq_l h (fun e h => ?_)
                cases h
                exact dq_61 hd e
      · skip
        refine dq_c h (fun h => ?_) (fun h => ?_)
        · skip
          refine dq_c h (fun h => ?_) (fun h => ?_)
          · skip
            refine dq_c h (fun h => ?_) (fun h => ?_)
            · skip
              refine dq_l h (fun e h => ?_)
              cases h
              exact dq_62 hd e
            · skip
              refine dq_c h (fun h => ?_) (fun h => ?_)
              · skip
                refine dq_l h (fun e h => ?_)
                cases h
                exact dq_63 hd e
              · skip
                refine dq_l h (fun e h => ?_)
                cases h
                exact dq_64 hd e
          · skip
            refine dq_c h (fun h => ?_) (fun h => ?_)
            · skip
              refine dq_c h (fun h => ?_) (fun h => ?_)
              · skip
                refine dq_l h (fun e h => ?_)
                cases h
                exact dq_65 hd e
              · skip
                refine dq_l h (fun e h => ?_)
                cases h
                exact dq_66 hd e
            · skip
              refine dq_c h (fun h => ?_) (fun h => ?_)
              · skip
                refine dq_l h (fun e h => ?_)
                cases h
                exact dq_75 hd e
              · skip
                refine dq_l h (fun e h => ?_)
                cases h
                exact dq_76 hd e
        · skip
          refine dq_c h (fun h => ?_) (fun h => ?_)
          · skip
            refine dq_c h (fun h => ?_) (fun h => ?_)
            · skip
              refine dq_l h (fun e h => ?_)
              cases h
              exact dq_77 hd e
            · skip
              refine dq_c h (fun h => ?_) (fun h => ?_)
              · skip
                refine dq_l h (fun e h => ?_)
                cases h
                exact dq_78 hd e
              · skip
                refine dq_l h (fun e h => ?_)
                cases h
                exact dq_79 hd e
          · skip
            refine dq_c h (fun h => ?_) (fun h => ?_)
            · skip
              refine dq_c h (fun h => ?_) (fun h => ?_)
              · skip
                refine dq_l h (fun e h => ?_)
                cases h
                exact dq_80 hd e
              · skip
                refine dq_l h (fun e h => ?_)
                cases h
                exact dq_84 hd e
            · skip
              refine dq_c h (fun h => ?_) (fun h => ?_)
              · skip
                refine dq_l h (fun e h => ?_)
                cases h
                exact dq_87 hd e
              · skip
                refine dq_l h (fun e h => ?_)
                cases h
                exact dq_88 hd e
  · skip
    refine dq_c h (fun h => ?_) (fun h => ?_)
    · skip
      refine dq_c h (fun h => ?_) (fun h => ?_)
      · skip
        refine dq_c h (fun h => ?_) (fun h => ?_)
        · skip
          refine dq_c h (fun h => ?_) (fun h => ?_)
          · skip
            refine dq_c h (fun h => ?_) (fun h => ?_)
            · skip
              refine dq_l h (fun e h => ?_)
              cases h
              exact dq_89 hd e
            · skip
              refine dq_c h (fun h => ?_) (fun h => ?_)
              · skip
                refine dq_l h (fun e h => ?_)
                cases h
                exact dq_92 hd e
              · skip
                refine dq_l h (fun e h => ?_)
                cases h
                exact dq_96 hd e
          · skip
            refine dq_c h (fun h => ?_) (fun h => ?_)
            · skip
              refine dq_l h (fun e h => ?_)
              cases h
              exact dq_97 hd e
            · skip
              refine dq_c h (fun h => ?_) (fun h => ?_)
              · skip
                refine dq_l h (fun e h => ?_)
                cases h
                exact dq_100 hd e
              · skip
                refine dq_l h (fun e h => ?_)
                cases h
                exact dq_101 hd e
        · skip
          refine dq_c h (fun h => ?_) (fun h => ?_)
          · skip
            refine dq_c h (fun h => ?_) (fun h => ?_)
            · skip
              refine dq_l h (fun e h => ?_)
              cases h
              exact dq_104 hd e
            · skip
              refine dq_c h (fun h => ?_) (fun h => ?_)
              · skip
                refine dq_l h (fun e h => ?_)
                cases h
                exact dq_105 hd e
              · skip
                refine dq_l h (fun e h => ?_)
                cases h
                exact dq_108 hd e
          · skip
            refine dq_c h (fun h => ?_) (fun h => ?_)
            · skip
              refine dq_c h (fun h => ?_) (fun h => ?_)
              · skip
                refine dq_l h (fun e h => ?_)
                cases h
                exact dq_109 hd e
              · skip
                refine dq_l h (fun e h => ?_)
                cases h
                exact dq_112 hd e
            · skip
              refine dq_c h (fun h => ?_) (fun h => ?_)
              · skip
                refine dq_l h (fun e h => ?_)
                cases h
                exact dq_113 hd e
              · skip
                refine dq_l h (fun e h => ?_)
                cases h
                exact dq_116 hd e
      · skip
        refine dq_c h (fun h => ?_) (fun h => ?_)
        · skip
          refine dq_c h (fun h => ?_) (fun h => ?_)
          · skip
            refine dq_c h (fun h => ?_) (fun h => ?_)
            · skip
              refine dq_l h (fun e h => ?_)
              cases h
              exact dq_117 hd e
            · skip
              refine dq_c h (fun h => ?_) (fun h => ?_)
              · skip
                refine dq_l h (fun e h => ?_)
                cases h
                exact dq_120 hd e
              · skip
                refine dq_l h (fun e h => ?_)
                cases h
                exact dq_121 hd e
          · skip
            refine dq_c h (fun h => ?_) (fun h => ?_)
            · skip
              refine dq_l h (fun e h => ?_)
              cases h
              exact dq_122 hd e
            · skip
              refine dq_c h (fun h => ?_) (fun h => ?_)
              · skip
                refine dq_l h (fun e h => ?_)
                cases h
                exact dq_124 hd e
              · skip
                refine dq_l h (fun e h => ?_)
                cases h
                exact dq_125 hd e
        · skip
          refine dq_c h (fun h => ?_) (fun h => ?_)
          · skip
            refine dq_c h (fun h => ?_) (fun h => ?_)
            · skip
              refine dq_l h (fun e h => ?_)
              cases h
              exact dq_126 hd e
            · skip
              refine dq_c h (fun h => ?_) (fun h => ?_)
              · skip
                refine dq_l h (fun e h => ?_)
                cases h
                exact dq_127 hd e
              · skip
                refine dq_l h (fun e h => ?_)
                cases h
                exact dq_128 hd e
          · skip
            refine dq_c h (fun h => ?_) (fun h => ?_)
            · skip
              refine dq_c h (fun h => ?_) (fun h => ?_)
              · skip
                refine dq_l h (fun e h => ?_)
                cases h
                exact dq_129 hd e
              · skip
                refine dq_l h (fun e h => ?_)
                cases h
                exact dq_130 hd e
            · skip
              refine dq_c h (fun h => ?_) (fun h => ?_)
              · skip
                refine dq_l h (fun e h => ?_)
                cases h
                exact dq_131 hd e
              · skip
                refine dq_l h (fun e h => ?_)
                cases t with
                | nil => cases h
                | cons x t =>
                  cases t with
                  | nil => cases h
                  | cons y t =>
                    cases h
                    exact dq_132 hd e
    · skip
      refine dq_c h (fun h => ?_) (fun h => ?_)
      · skip
        refine dq_c h (fun h => ?_) (fun h => ?_)
        · skip
          refine dq_c h (fun h => ?_) (fun h => ?_)
          · skip
            refine dq_c h (fun h => ?_) (fun h => ?_)
            · skip
              refine dq_l h (fun e h => ?_)
              cases h
              exact dq_133 hd e
            · skip
              refine dq_c h (fun h => ?_) (fun h => ?_)
              · skip
                refine dq_l h (fun e h => ?_)
                cases h
                exact dq_136 hd e
              · skip
                refine dq_l h (fun e h => ?_)
                cases h
                exact dq_145 hd e
          · skip
            refine dq_c h (fun h => ?_) (fun h => ?_)
            · skip
              refine dq_l h (fun e h => ?_)
              cases h
              exact dq_147 hd e
            · skip
              refine dq_c h (fun h => ?_) (fun h => ?_)
              · skip
                refine dq_l h (fun e h => ?_)
                cases h
                exact dq_148 hd e
              · skip
                refine dq_l h (fun e h => ?_)
                cases t with
                | nil => cases h
                | cons x t =>
                  cases t with
                  | nil => cases h
                  | cons y t =>
                    cases h
                    exact dq_153 hd e
        · skip
          refine dq_c h (fun h => ?_) (fun h => ?_)
          · skip
            refine dq_c h (fun h => ?_) (fun h => ?_)
            · skip
              refine dq_l h (fun e h => ?_)
              cases t with
              | nil => cases h
              | cons x t =>
                cases t with
                | nil => cases h
                | cons y t =>
                  cases h
                  exact dq_154 hd e
            · skip
              refine dq_c h (fun h => ?_) (fun h => ?_)
              · skip
                refine dq_l h (fun e h => ?_)
                cases t with
                | nil => cases h
                | cons x t =>
                  cases t with
                  | nil => cases h
                  | cons y t =>
                    cases h
                    exact dq_155 hd e
              · skip
                refine dq_l h (fun e h => ?_)
                cases t with
                | nil => cases h
                | cons x t =>
                  cases t with
                  | nil => cases h
                  | cons y t =>
                    cases h
                    exact dq_156 hd e
          · skip
            refine dq_c h (fun h => ?_) (fun h => ?_)
            · skip
              refine dq_c h (fun h => ?_) (fun h => ?_)
              · skip
                refine dq_l h (fun e h => ?_)
                cases t with
                | nil => cases h
                | cons x t =>
                  cases t with
                  | nil => cases h
                  | cons y t =>
                    cases h
                    exact dq_157 hd e
              · skip
                refine dq_l h (fun e h => ?_)
                cases t with
                | nil => cases h
                | cons x t =>
                  cases t with
                  | nil => cases h
                  | cons y t =>
                    cases h
                    exact dq_158 hd e
            · skip
              refine dq_c h (fun h => ?_) (fun h => ?_)
              · skip
                refine dq_l h (fun e h => ?_)
                cases t with
                | nil => cases h
                | cons x t =>
                  cases t with
                  | nil => cases h
                  | cons y t =>
                    cases h
                    exact dq_159 hd e
              · skip
                refine dq_l h (fun e h => ?_)
                cases t with
                | nil => cases h
                | cons x t =>
                  cases t with
                  | nil => cases h
                  | cons y t =>
                    cases h
                    exact dq_160 hd e
      · skip
        refine dq_c h (fun h => ?_) (fun h => ?_)
        · skip
          refine dq_c h (fun h => ?_) (fun h => ?_)
          · skip
            refine dq_c h (fun h => ?_) (fun h => ?_)
            · skip
              refine dq_l h (fun e h => ?_)
              cases t with
              | nil => cases h
              | cons x t =>
                cases t with
                | nil => cases h
                | cons y t =>
                  cases h
                  exact dq_161 hd e
            · skip
              refine dq_c h (fun h => ?_) (fun h => ?_)
              · skip
                refine dq_l h (fun e h => ?_)
                cases t with
                | nil => cases h
                | cons x t =>
                  cases t with
                  | nil => cases h
                  | cons y t =>
                    cases h
                    exact dq_162 hd e
              · skip
                refine dq_l h (fun e h => ?_)
                cases t with
                | nil => cases h
                | cons x t =>
                  cases t with
                  | nil => cases h
                  | cons y t =>
                    cases h
                    exact dq_163 hd e
          · skip
            refine dq_c h (fun h => ?_) (fun h => ?_)
            · skip
              refine dq_c h (fun h => ?_) (fun h => ?_)
              · skip
                refine dq_l h (fun e h => ?_)
                cases t with
                | nil => cases h
                | cons x t =>
                  cases t with
                  | nil => cases h
                  | cons y t =>
                    cases h
                    exact dq_164 hd e
              · skip
                refine dq_l h (fun e h => ?_)
                cases t with
                | nil => cases h
                | cons x t =>
                  cases t with
                  | nil => cases h
                  | cons y t =>
                    cases h
                    exact dq_167 hd e
            · skip
              refine dq_c h (fun h => ?_) (fun h => ?_)
              · skip
                refine dq_l h (fun e h => ?_)
                cases h
                exact dq_172 hd e
              · skip
                refine dq_l h (fun e h => ?_)
                cases h
                exact dq_173 hd e
        · skip
          refine dq_c h (fun h => ?_) (fun h => ?_)
          · skip
            refine dq_c h (fun h => ?_) (fun h => ?_)
            · skip
              refine dq_l h (fun e h => ?_)
              cases h
              exact dq_177 hd e
            · skip
              refine dq_c h (fun h => ?_) (fun h => ?_)
              · skip
                refine dq_l h (fun e h => ?_)
                cases t with
                | nil => cases h
                | cons x t =>
                  cases t with
                  | nil => cases h
                  | cons y t =>
                    cases h
                    exact dq_178 hd e
              · skip
                refine dq_l h (fun e h => ?_)
                cases t with
                | nil => cases h
                | cons x t =>
                  cases t with
                  | nil => cases h
                  | cons y t =>
                    cases h
                    exact dq_180 hd e
          · skip
            refine dq_c h (fun h => ?_) (fun h => ?_)
            · skip
              refine dq_c h (fun h => ?_) (fun h => ?_)
              · skip
                refine dq_l h (fun e h => ?_)
                cases t with
                | nil => cases h
                | cons x t =>
                  cases t with
                  | nil => cases h
                  | cons y t =>
                    cases h
                    exact dq_181 hd e
              · skip
                refine dq_l h (fun e h => ?_)
                cases t with
                | nil => cases h
                | cons x t =>
                  cases t with
                  | nil => cases h
                  | cons y t =>
                    cases h
                    exact dq_182 hd e
            · skip
              refine dq_c h (fun h => ?_) (fun h => ?_)
              · skip
                refine dq_l h (fun e h => ?_)
                cases t with
                | nil => cases h
                | cons x t =>
                  cases t with
                  | nil => cases h
                  | cons y t =>
                    cases h
                    exact dq_184 hd e
              · skip
                refine dq_l h (fun e h => ?_)
                cases h
                exact dq_190 hd e
noncomputable def zdec (c : ByteArray) (pc : Nat) (bs : List UInt8) : Except DecodeError (Instr × Nat) := match bs with
  | [] => .error (.truncated pc)
  | b :: t => match fD b.toNat t with
    | some r => .ok r
    | none => decode c pc
theorem zdec_ok {c : ByteArray} {pc : Nat} {bs : List UInt8} {r : Instr × Nat} (hb : c.data.toList.drop pc = bs) (h : zdec c pc bs = .ok r) : decode c pc = .ok r := by
  cases bs with
  | nil => cases h
  | cons b t =>
    have h : (match fD b.toNat t with
      | some r => .ok r
      | none => decode c pc) = (.ok r : Except DecodeError (Instr × Nat)) := h
    cases e : fD b.toNat t with
    | none =>
      rw [e] at h
      exact h
    | some r' =>
      rw [e] at h
      cases h
      exact fD_ok hb rfl e
noncomputable def zchkD (MQ : List (zY × zMh)) (μ : zM) (l : List (Option zX)) : Nat → List zIx → List UInt8 → Bool := List.rec (motive := fun _ => Nat → List zIx → List UInt8 → Bool) (fun _ _ _ => true) (fun o _ ih pc hs bs => match o with
  | none => ih (pc + 1) hs.tail bs.tail
  | some i => (match zdec μ.2.1 pc bs with
    | .ok (ins, len) => zchkI MQ μ (hs.head?.getD (0, 0)) pc ins len i
    | .error _ => false) && ih (pc + 1) hs.tail bs.tail) l
theorem dq_tl {c : ByteArray} {p : Nat} {bs : List UInt8} (h : c.data.toList.drop p = bs) : c.data.toList.drop (p + 1) = bs.tail := by rw [← List.tail_drop, h]
theorem zchkD_ok {l : Launch} {P : zP} {MQ : List (zY × zMh)} {μ : zM} (hM : zMhOK MQ) : ∀ {c : List (Option zX)} {pc : Nat} {hs : List zIx} {bs : List UInt8}, μ.2.1.data.toList.drop pc = bs → zchkD MQ μ c pc hs bs = true → zAll l P (MQ.map Prod.fst) μ pc c
  | [], _, _, _, _, _ => trivial
  | none :: c, pc, hs, bs, hb, h => zchkD_ok hM (c := c) (pc := pc + 1) (hs := hs.tail) (dq_tl hb) h
  | some i :: c, pc, hs, bs, hb, h => by
    have h : ((match zdec μ.2.1 pc bs with
      | .ok (ins, len) => zchkI MQ μ (hs.head?.getD (0, 0)) pc ins len i
      | .error _ => false) && zchkD MQ μ c (pc + 1) hs.tail bs.tail) = true := h
    rw [Bool.and_eq_true] at h
    refine ⟨?_, zchkD_ok hM (dq_tl hb) h.2⟩
    have h1 := h.1
    split at h1
    · rename_i ins len hd
      exact zchkI_ok hM (zdec_ok hb hd) h1
    · cases h1
noncomputable def zchkU (MQ : List (zY × zMh)) (μ : zM) (t : List (List (Option zX))) : Nat → List (List zIx) → List UInt8 → Bool := List.rec (motive := fun _ => Nat → List (List zIx) → List UInt8 → Bool) (fun _ _ _ => true) (fun c _ ih b hs bs => zchkD MQ μ c b (hs.head?.getD []) bs && ih (b + 16) hs.tail (bs.drop 16)) t
theorem dq_sixteen {c : ByteArray} {p : Nat} {bs : List UInt8} (h : c.data.toList.drop p = bs) : c.data.toList.drop (p + 16) = bs.drop 16 := by rw [← h, List.drop_drop]
theorem zchkU_ok {l : Launch} {P : zP} {MQ : List (zY × zMh)} {μ : zM} (hM : zMhOK MQ) : ∀ {t : List (List (Option zX))} {b : Nat} {hs : List (List zIx)} {bs : List UInt8}, μ.2.1.data.toList.drop b = bs → zchkU MQ μ t b hs bs = true → zAlls l P (MQ.map Prod.fst) μ b t
  | [], _, _, _, _, _ => trivial
  | c :: t, b, hs, bs, hb, h => by
    have h : (zchkD MQ μ c b (hs.head?.getD []) bs && zchkU MQ μ t (b + 16) hs.tail (bs.drop 16)) = true := h
    rw [Bool.and_eq_true] at h
    exact ⟨zchkD_ok hM hb h.1, zchkU_ok hM (dq_sixteen hb) h.2⟩
