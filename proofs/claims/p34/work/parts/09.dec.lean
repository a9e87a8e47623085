theorem dq_u1 {c : ByteArray} {pc : Nat} {b : UInt8} {t : List UInt8} (h : c.data.toList.drop pc = b :: t) : (Reader.u1 : Decoder Nat) c pc = .ok (b.toNat, pc + 1) := by
  have h1 : (c.data.toList.drop pc)[0]? = some b := by rw [h]; rfl
  rw [List.getElem?_drop, Nat.add_zero] at h1
  obtain ⟨hlt, hb⟩ := List.getElem?_eq_some_iff.mp h1
  have hlt2 : pc < c.size := hlt
  have hb2 : c[pc] = b := hb
  show (if h : pc < c.size then (do set (pc + 1); pure c[pc].toNat : Decoder Nat) else throw (HasTruncated.truncated pc)) c pc = _
  rw [dif_pos hlt2, hb2]
  rfl
theorem dq_un {c : ByteArray} {pc n : Nat} {b : UInt8} {t : List UInt8} (h : c.data.toList.drop pc = b :: t) (hb : b.toNat = n) : (Reader.u1 : Decoder Nat) c pc = .ok (n, pc + 1) := by
  rw [dq_u1 h, hb]
theorem dq_tl {c : ByteArray} {pc : Nat} {b : UInt8} {t : List UInt8} (h : c.data.toList.drop pc = b :: t) : c.data.toList.drop (pc + 1) = t := by
  rw [← List.drop_drop, h]; rfl
theorem dq_bind {α β : Type} (r : Decoder α) (f : α → Decoder β) {c : ByteArray} {pc q : Nat} {a : α} (h : r c pc = .ok (a, q)) : (r >>= f) c pc = f a c q := by
  show Except.bind (r c pc) (fun p => f p.1 c p.2) = _
  rw [h]; rfl
theorem dq_of {c : ByteArray} {pc k : Nat} {I : Instr} (h : Decoder.instr pc c pc = .ok (I, pc + k)) : decode c pc = .ok (I, k) := by
  unfold decode
  show Except.bind (Decoder.instr pc c pc) (fun p => Except.ok (p.1, p.2 - pc)) = _
  rw [h]
  show Except.ok (I, pc + k - pc) = _
  rw [Nat.add_sub_cancel_left]
theorem dq_u2 {c : ByteArray} {pc : Nat} {b d : UInt8} {t : List UInt8} (h : c.data.toList.drop pc = b :: d :: t) : (Reader.u2 : Decoder Nat) c pc = .ok (b.toNat * 256 + d.toNat, pc + 2) := by
  unfold Reader.u2
  rw [dq_bind _ _ (dq_u1 h), dq_bind _ _ (dq_u1 (dq_tl h))]
  rfl
theorem dq_s1 {c : ByteArray} {pc : Nat} {b : UInt8} {t : List UInt8} (h : c.data.toList.drop pc = b :: t) : (Reader.s1 : Decoder Int) c pc = .ok (Reader.signed 8 b.toNat, pc + 1) := by
  show Except.map (fun v => (Reader.signed 8 v.1, v.2)) ((Reader.u1 : Decoder Nat) c pc) = _
  rw [dq_u1 h]; rfl
theorem dq_s2 {c : ByteArray} {pc : Nat} {b d : UInt8} {t : List UInt8} (h : c.data.toList.drop pc = b :: d :: t) : (Reader.s2 : Decoder Int) c pc = .ok (Reader.signed 16 (b.toNat * 256 + d.toNat), pc + 2) := by
  show Except.map (fun v => (Reader.signed 16 v.1, v.2)) ((Reader.u2 : Decoder Nat) c pc) = _
  rw [dq_u2 h]; rfl
theorem dq_1 {c : ByteArray} {pc : Nat} {b : UInt8} {t : List UInt8} (h : c.data.toList.drop pc = b :: t) (hb : b.toNat = 1) : decode c pc = .ok (.aconst_null, 1) := dq_of ((dq_bind _ _ (dq_un h hb)).trans rfl)
theorem dq_3 {c : ByteArray} {pc : Nat} {b : UInt8} {t : List UInt8} (h : c.data.toList.drop pc = b :: t) (hb : b.toNat = 3) : decode c pc = .ok (.iconst 0, 1) := dq_of ((dq_bind _ _ (dq_un h hb)).trans rfl)
theorem dq_4 {c : ByteArray} {pc : Nat} {b : UInt8} {t : List UInt8} (h : c.data.toList.drop pc = b :: t) (hb : b.toNat = 4) : decode c pc = .ok (.iconst 1, 1) := dq_of ((dq_bind _ _ (dq_un h hb)).trans rfl)
theorem dq_5 {c : ByteArray} {pc : Nat} {b : UInt8} {t : List UInt8} (h : c.data.toList.drop pc = b :: t) (hb : b.toNat = 5) : decode c pc = .ok (.iconst 2, 1) := dq_of ((dq_bind _ _ (dq_un h hb)).trans rfl)
theorem dq_6 {c : ByteArray} {pc : Nat} {b : UInt8} {t : List UInt8} (h : c.data.toList.drop pc = b :: t) (hb : b.toNat = 6) : decode c pc = .ok (.iconst 3, 1) := dq_of ((dq_bind _ _ (dq_un h hb)).trans rfl)
theorem dq_7 {c : ByteArray} {pc : Nat} {b : UInt8} {t : List UInt8} (h : c.data.toList.drop pc = b :: t) (hb : b.toNat = 7) : decode c pc = .ok (.iconst 4, 1) := dq_of ((dq_bind _ _ (dq_un h hb)).trans rfl)
theorem dq_8 {c : ByteArray} {pc : Nat} {b : UInt8} {t : List UInt8} (h : c.data.toList.drop pc = b :: t) (hb : b.toNat = 8) : decode c pc = .ok (.iconst 5, 1) := dq_of ((dq_bind _ _ (dq_un h hb)).trans rfl)
theorem dq_26 {c : ByteArray} {pc : Nat} {b : UInt8} {t : List UInt8} (h : c.data.toList.drop pc = b :: t) (hb : b.toNat = 26) : decode c pc = .ok (.iload_n 0, 1) := dq_of ((dq_bind _ _ (dq_un h hb)).trans rfl)
theorem dq_27 {c : ByteArray} {pc : Nat} {b : UInt8} {t : List UInt8} (h : c.data.toList.drop pc = b :: t) (hb : b.toNat = 27) : decode c pc = .ok (.iload_n 1, 1) := dq_of ((dq_bind _ _ (dq_un h hb)).trans rfl)
theorem dq_28 {c : ByteArray} {pc : Nat} {b : UInt8} {t : List UInt8} (h : c.data.toList.drop pc = b :: t) (hb : b.toNat = 28) : decode c pc = .ok (.iload_n 2, 1) := dq_of ((dq_bind _ _ (dq_un h hb)).trans rfl)
theorem dq_29 {c : ByteArray} {pc : Nat} {b : UInt8} {t : List UInt8} (h : c.data.toList.drop pc = b :: t) (hb : b.toNat = 29) : decode c pc = .ok (.iload_n 3, 1) := dq_of ((dq_bind _ _ (dq_un h hb)).trans rfl)
theorem dq_42 {c : ByteArray} {pc : Nat} {b : UInt8} {t : List UInt8} (h : c.data.toList.drop pc = b :: t) (hb : b.toNat = 42) : decode c pc = .ok (.aload_n 0, 1) := dq_of ((dq_bind _ _ (dq_un h hb)).trans rfl)
theorem dq_43 {c : ByteArray} {pc : Nat} {b : UInt8} {t : List UInt8} (h : c.data.toList.drop pc = b :: t) (hb : b.toNat = 43) : decode c pc = .ok (.aload_n 1, 1) := dq_of ((dq_bind _ _ (dq_un h hb)).trans rfl)
theorem dq_44 {c : ByteArray} {pc : Nat} {b : UInt8} {t : List UInt8} (h : c.data.toList.drop pc = b :: t) (hb : b.toNat = 44) : decode c pc = .ok (.aload_n 2, 1) := dq_of ((dq_bind _ _ (dq_un h hb)).trans rfl)
theorem dq_45 {c : ByteArray} {pc : Nat} {b : UInt8} {t : List UInt8} (h : c.data.toList.drop pc = b :: t) (hb : b.toNat = 45) : decode c pc = .ok (.aload_n 3, 1) := dq_of ((dq_bind _ _ (dq_un h hb)).trans rfl)
theorem dq_59 {c : ByteArray} {pc : Nat} {b : UInt8} {t : List UInt8} (h : c.data.toList.drop pc = b :: t) (hb : b.toNat = 59) : decode c pc = .ok (.istore_n 0, 1) := dq_of ((dq_bind _ _ (dq_un h hb)).trans rfl)
theorem dq_60 {c : ByteArray} {pc : Nat} {b : UInt8} {t : List UInt8} (h : c.data.toList.drop pc = b :: t) (hb : b.toNat = 60) : decode c pc = .ok (.istore_n 1, 1) := dq_of ((dq_bind _ _ (dq_un h hb)).trans rfl)
theorem dq_61 {c : ByteArray} {pc : Nat} {b : UInt8} {t : List UInt8} (h : c.data.toList.drop pc = b :: t) (hb : b.toNat = 61) : decode c pc = .ok (.istore_n 2, 1) := dq_of ((dq_bind _ _ (dq_un h hb)).trans rfl)
theorem dq_62 {c : ByteArray} {pc : Nat} {b : UInt8} {t : List UInt8} (h : c.data.toList.drop pc = b :: t) (hb : b.toNat = 62) : decode c pc = .ok (.istore_n 3, 1) := dq_of ((dq_bind _ _ (dq_un h hb)).trans rfl)
theorem dq_75 {c : ByteArray} {pc : Nat} {b : UInt8} {t : List UInt8} (h : c.data.toList.drop pc = b :: t) (hb : b.toNat = 75) : decode c pc = .ok (.astore_n 0, 1) := dq_of ((dq_bind _ _ (dq_un h hb)).trans rfl)
theorem dq_76 {c : ByteArray} {pc : Nat} {b : UInt8} {t : List UInt8} (h : c.data.toList.drop pc = b :: t) (hb : b.toNat = 76) : decode c pc = .ok (.astore_n 1, 1) := dq_of ((dq_bind _ _ (dq_un h hb)).trans rfl)
theorem dq_77 {c : ByteArray} {pc : Nat} {b : UInt8} {t : List UInt8} (h : c.data.toList.drop pc = b :: t) (hb : b.toNat = 77) : decode c pc = .ok (.astore_n 2, 1) := dq_of ((dq_bind _ _ (dq_un h hb)).trans rfl)
theorem dq_78 {c : ByteArray} {pc : Nat} {b : UInt8} {t : List UInt8} (h : c.data.toList.drop pc = b :: t) (hb : b.toNat = 78) : decode c pc = .ok (.astore_n 3, 1) := dq_of ((dq_bind _ _ (dq_un h hb)).trans rfl)
theorem dq_46 {c : ByteArray} {pc : Nat} {b : UInt8} {t : List UInt8} (h : c.data.toList.drop pc = b :: t) (hb : b.toNat = 46) : decode c pc = .ok (.iaload, 1) := dq_of ((dq_bind _ _ (dq_un h hb)).trans rfl)
theorem dq_50 {c : ByteArray} {pc : Nat} {b : UInt8} {t : List UInt8} (h : c.data.toList.drop pc = b :: t) (hb : b.toNat = 50) : decode c pc = .ok (.aaload, 1) := dq_of ((dq_bind _ _ (dq_un h hb)).trans rfl)
theorem dq_51 {c : ByteArray} {pc : Nat} {b : UInt8} {t : List UInt8} (h : c.data.toList.drop pc = b :: t) (hb : b.toNat = 51) : decode c pc = .ok (.baload, 1) := dq_of ((dq_bind _ _ (dq_un h hb)).trans rfl)
theorem dq_79 {c : ByteArray} {pc : Nat} {b : UInt8} {t : List UInt8} (h : c.data.toList.drop pc = b :: t) (hb : b.toNat = 79) : decode c pc = .ok (.iastore, 1) := dq_of ((dq_bind _ _ (dq_un h hb)).trans rfl)
theorem dq_83 {c : ByteArray} {pc : Nat} {b : UInt8} {t : List UInt8} (h : c.data.toList.drop pc = b :: t) (hb : b.toNat = 83) : decode c pc = .ok (.aastore, 1) := dq_of ((dq_bind _ _ (dq_un h hb)).trans rfl)
theorem dq_84 {c : ByteArray} {pc : Nat} {b : UInt8} {t : List UInt8} (h : c.data.toList.drop pc = b :: t) (hb : b.toNat = 84) : decode c pc = .ok (.bastore, 1) := dq_of ((dq_bind _ _ (dq_un h hb)).trans rfl)
theorem dq_87 {c : ByteArray} {pc : Nat} {b : UInt8} {t : List UInt8} (h : c.data.toList.drop pc = b :: t) (hb : b.toNat = 87) : decode c pc = .ok (.pop, 1) := dq_of ((dq_bind _ _ (dq_un h hb)).trans rfl)
theorem dq_89 {c : ByteArray} {pc : Nat} {b : UInt8} {t : List UInt8} (h : c.data.toList.drop pc = b :: t) (hb : b.toNat = 89) : decode c pc = .ok (.dup, 1) := dq_of ((dq_bind _ _ (dq_un h hb)).trans rfl)
theorem dq_90 {c : ByteArray} {pc : Nat} {b : UInt8} {t : List UInt8} (h : c.data.toList.drop pc = b :: t) (hb : b.toNat = 90) : decode c pc = .ok (.dup_x1, 1) := dq_of ((dq_bind _ _ (dq_un h hb)).trans rfl)
theorem dq_92 {c : ByteArray} {pc : Nat} {b : UInt8} {t : List UInt8} (h : c.data.toList.drop pc = b :: t) (hb : b.toNat = 92) : decode c pc = .ok (.dup2, 1) := dq_of ((dq_bind _ _ (dq_un h hb)).trans rfl)
theorem dq_96 {c : ByteArray} {pc : Nat} {b : UInt8} {t : List UInt8} (h : c.data.toList.drop pc = b :: t) (hb : b.toNat = 96) : decode c pc = .ok (.iadd, 1) := dq_of ((dq_bind _ _ (dq_un h hb)).trans rfl)
theorem dq_100 {c : ByteArray} {pc : Nat} {b : UInt8} {t : List UInt8} (h : c.data.toList.drop pc = b :: t) (hb : b.toNat = 100) : decode c pc = .ok (.isub, 1) := dq_of ((dq_bind _ _ (dq_un h hb)).trans rfl)
theorem dq_104 {c : ByteArray} {pc : Nat} {b : UInt8} {t : List UInt8} (h : c.data.toList.drop pc = b :: t) (hb : b.toNat = 104) : decode c pc = .ok (.imul, 1) := dq_of ((dq_bind _ _ (dq_un h hb)).trans rfl)
theorem dq_108 {c : ByteArray} {pc : Nat} {b : UInt8} {t : List UInt8} (h : c.data.toList.drop pc = b :: t) (hb : b.toNat = 108) : decode c pc = .ok (.idiv, 1) := dq_of ((dq_bind _ _ (dq_un h hb)).trans rfl)
theorem dq_112 {c : ByteArray} {pc : Nat} {b : UInt8} {t : List UInt8} (h : c.data.toList.drop pc = b :: t) (hb : b.toNat = 112) : decode c pc = .ok (.irem, 1) := dq_of ((dq_bind _ _ (dq_un h hb)).trans rfl)
theorem dq_116 {c : ByteArray} {pc : Nat} {b : UInt8} {t : List UInt8} (h : c.data.toList.drop pc = b :: t) (hb : b.toNat = 116) : decode c pc = .ok (.ineg, 1) := dq_of ((dq_bind _ _ (dq_un h hb)).trans rfl)
theorem dq_120 {c : ByteArray} {pc : Nat} {b : UInt8} {t : List UInt8} (h : c.data.toList.drop pc = b :: t) (hb : b.toNat = 120) : decode c pc = .ok (.ishl, 1) := dq_of ((dq_bind _ _ (dq_un h hb)).trans rfl)
theorem dq_122 {c : ByteArray} {pc : Nat} {b : UInt8} {t : List UInt8} (h : c.data.toList.drop pc = b :: t) (hb : b.toNat = 122) : decode c pc = .ok (.ishr, 1) := dq_of ((dq_bind _ _ (dq_un h hb)).trans rfl)
theorem dq_124 {c : ByteArray} {pc : Nat} {b : UInt8} {t : List UInt8} (h : c.data.toList.drop pc = b :: t) (hb : b.toNat = 124) : decode c pc = .ok (.iushr, 1) := dq_of ((dq_bind _ _ (dq_un h hb)).trans rfl)
theorem dq_126 {c : ByteArray} {pc : Nat} {b : UInt8} {t : List UInt8} (h : c.data.toList.drop pc = b :: t) (hb : b.toNat = 126) : decode c pc = .ok (.iand, 1) := dq_of ((dq_bind _ _ (dq_un h hb)).trans rfl)
theorem dq_128 {c : ByteArray} {pc : Nat} {b : UInt8} {t : List UInt8} (h : c.data.toList.drop pc = b :: t) (hb : b.toNat = 128) : decode c pc = .ok (.ior, 1) := dq_of ((dq_bind _ _ (dq_un h hb)).trans rfl)
theorem dq_145 {c : ByteArray} {pc : Nat} {b : UInt8} {t : List UInt8} (h : c.data.toList.drop pc = b :: t) (hb : b.toNat = 145) : decode c pc = .ok (.i2b, 1) := dq_of ((dq_bind _ _ (dq_un h hb)).trans rfl)
theorem dq_172 {c : ByteArray} {pc : Nat} {b : UInt8} {t : List UInt8} (h : c.data.toList.drop pc = b :: t) (hb : b.toNat = 172) : decode c pc = .ok (.ireturn, 1) := dq_of ((dq_bind _ _ (dq_un h hb)).trans rfl)
theorem dq_176 {c : ByteArray} {pc : Nat} {b : UInt8} {t : List UInt8} (h : c.data.toList.drop pc = b :: t) (hb : b.toNat = 176) : decode c pc = .ok (.areturn, 1) := dq_of ((dq_bind _ _ (dq_un h hb)).trans rfl)
theorem dq_177 {c : ByteArray} {pc : Nat} {b : UInt8} {t : List UInt8} (h : c.data.toList.drop pc = b :: t) (hb : b.toNat = 177) : decode c pc = .ok (.return_, 1) := dq_of ((dq_bind _ _ (dq_un h hb)).trans rfl)
theorem dq_190 {c : ByteArray} {pc : Nat} {b : UInt8} {t : List UInt8} (h : c.data.toList.drop pc = b :: t) (hb : b.toNat = 190) : decode c pc = .ok (.arraylength, 1) := dq_of ((dq_bind _ _ (dq_un h hb)).trans rfl)
theorem dq_18 {c : ByteArray} {pc : Nat} {b x : UInt8} {t : List UInt8} (h : c.data.toList.drop pc = b :: x :: t) (hb : b.toNat = 18) : decode c pc = .ok (.ldc x.toNat, 2) := dq_of ((dq_bind _ _ (dq_un h hb)).trans (dq_bind _ _ (dq_u1 (dq_tl h))))
theorem dq_21 {c : ByteArray} {pc : Nat} {b x : UInt8} {t : List UInt8} (h : c.data.toList.drop pc = b :: x :: t) (hb : b.toNat = 21) : decode c pc = .ok (.iload x.toNat, 2) := dq_of ((dq_bind _ _ (dq_un h hb)).trans (dq_bind _ _ (dq_u1 (dq_tl h))))
theorem dq_25 {c : ByteArray} {pc : Nat} {b x : UInt8} {t : List UInt8} (h : c.data.toList.drop pc = b :: x :: t) (hb : b.toNat = 25) : decode c pc = .ok (.aload x.toNat, 2) := dq_of ((dq_bind _ _ (dq_un h hb)).trans (dq_bind _ _ (dq_u1 (dq_tl h))))
theorem dq_54 {c : ByteArray} {pc : Nat} {b x : UInt8} {t : List UInt8} (h : c.data.toList.drop pc = b :: x :: t) (hb : b.toNat = 54) : decode c pc = .ok (.istore x.toNat, 2) := dq_of ((dq_bind _ _ (dq_un h hb)).trans (dq_bind _ _ (dq_u1 (dq_tl h))))
theorem dq_58 {c : ByteArray} {pc : Nat} {b x : UInt8} {t : List UInt8} (h : c.data.toList.drop pc = b :: x :: t) (hb : b.toNat = 58) : decode c pc = .ok (.astore x.toNat, 2) := dq_of ((dq_bind _ _ (dq_un h hb)).trans (dq_bind _ _ (dq_u1 (dq_tl h))))
theorem dq_16 {c : ByteArray} {pc : Nat} {b x : UInt8} {t : List UInt8} (h : c.data.toList.drop pc = b :: x :: t) (hb : b.toNat = 16) : decode c pc = .ok (.bipush (Reader.signed 8 x.toNat), 2) := dq_of ((dq_bind _ _ (dq_un h hb)).trans (dq_bind _ _ (dq_s1 (dq_tl h))))
theorem dq_180 {c : ByteArray} {pc : Nat} {b x y : UInt8} {t : List UInt8} (h : c.data.toList.drop pc = b :: x :: y :: t) (hb : b.toNat = 180) : decode c pc = .ok (.getfield (x.toNat * 256 + y.toNat), 3) := dq_of ((dq_bind _ _ (dq_un h hb)).trans (dq_bind _ _ (dq_u2 (dq_tl h))))
theorem dq_181 {c : ByteArray} {pc : Nat} {b x y : UInt8} {t : List UInt8} (h : c.data.toList.drop pc = b :: x :: y :: t) (hb : b.toNat = 181) : decode c pc = .ok (.putfield (x.toNat * 256 + y.toNat), 3) := dq_of ((dq_bind _ _ (dq_un h hb)).trans (dq_bind _ _ (dq_u2 (dq_tl h))))
theorem dq_182 {c : ByteArray} {pc : Nat} {b x y : UInt8} {t : List UInt8} (h : c.data.toList.drop pc = b :: x :: y :: t) (hb : b.toNat = 182) : decode c pc = .ok (.invokevirtual (x.toNat * 256 + y.toNat), 3) := dq_of ((dq_bind _ _ (dq_un h hb)).trans (dq_bind _ _ (dq_u2 (dq_tl h))))
theorem dq_183 {c : ByteArray} {pc : Nat} {b x y : UInt8} {t : List UInt8} (h : c.data.toList.drop pc = b :: x :: y :: t) (hb : b.toNat = 183) : decode c pc = .ok (.invokespecial (x.toNat * 256 + y.toNat), 3) := dq_of ((dq_bind _ _ (dq_un h hb)).trans (dq_bind _ _ (dq_u2 (dq_tl h))))
theorem dq_184 {c : ByteArray} {pc : Nat} {b x y : UInt8} {t : List UInt8} (h : c.data.toList.drop pc = b :: x :: y :: t) (hb : b.toNat = 184) : decode c pc = .ok (.invokestatic (x.toNat * 256 + y.toNat), 3) := dq_of ((dq_bind _ _ (dq_un h hb)).trans (dq_bind _ _ (dq_u2 (dq_tl h))))
theorem dq_187 {c : ByteArray} {pc : Nat} {b x y : UInt8} {t : List UInt8} (h : c.data.toList.drop pc = b :: x :: y :: t) (hb : b.toNat = 187) : decode c pc = .ok (.new (x.toNat * 256 + y.toNat), 3) := dq_of ((dq_bind _ _ (dq_un h hb)).trans (dq_bind _ _ (dq_u2 (dq_tl h))))
theorem dq_189 {c : ByteArray} {pc : Nat} {b x y : UInt8} {t : List UInt8} (h : c.data.toList.drop pc = b :: x :: y :: t) (hb : b.toNat = 189) : decode c pc = .ok (.anewarray (x.toNat * 256 + y.toNat), 3) := dq_of ((dq_bind _ _ (dq_un h hb)).trans (dq_bind _ _ (dq_u2 (dq_tl h))))
theorem dq_19 {c : ByteArray} {pc : Nat} {b x y : UInt8} {t : List UInt8} (h : c.data.toList.drop pc = b :: x :: y :: t) (hb : b.toNat = 19) : decode c pc = .ok (.ldc_w (x.toNat * 256 + y.toNat), 3) := dq_of ((dq_bind _ _ (dq_un h hb)).trans (dq_bind _ _ (dq_u2 (dq_tl h))))
theorem dq_17 {c : ByteArray} {pc : Nat} {b x y : UInt8} {t : List UInt8} (h : c.data.toList.drop pc = b :: x :: y :: t) (hb : b.toNat = 17) : decode c pc = .ok (.sipush (Reader.signed 16 (x.toNat * 256 + y.toNat)), 3) := dq_of ((dq_bind _ _ (dq_un h hb)).trans (dq_bind _ _ (dq_s2 (dq_tl h))))
theorem dq_167 {c : ByteArray} {pc : Nat} {b x y : UInt8} {t : List UInt8} (h : c.data.toList.drop pc = b :: x :: y :: t) (hb : b.toNat = 167) : decode c pc = .ok (.goto (Reader.signed 16 (x.toNat * 256 + y.toNat)), 3) := dq_of ((dq_bind _ _ (dq_un h hb)).trans (dq_bind _ _ (dq_s2 (dq_tl h))))
theorem dq_198 {c : ByteArray} {pc : Nat} {b x y : UInt8} {t : List UInt8} (h : c.data.toList.drop pc = b :: x :: y :: t) (hb : b.toNat = 198) : decode c pc = .ok (.ifnull (Reader.signed 16 (x.toNat * 256 + y.toNat)), 3) := dq_of ((dq_bind _ _ (dq_un h hb)).trans (dq_bind _ _ (dq_s2 (dq_tl h))))
theorem dq_199 {c : ByteArray} {pc : Nat} {b x y : UInt8} {t : List UInt8} (h : c.data.toList.drop pc = b :: x :: y :: t) (hb : b.toNat = 199) : decode c pc = .ok (.ifnonnull (Reader.signed 16 (x.toNat * 256 + y.toNat)), 3) := dq_of ((dq_bind _ _ (dq_un h hb)).trans (dq_bind _ _ (dq_s2 (dq_tl h))))
theorem dq_153 {c : ByteArray} {pc : Nat} {b x y : UInt8} {t : List UInt8} (h : c.data.toList.drop pc = b :: x :: y :: t) (hb : b.toNat = 153) : decode c pc = .ok (.ifCond .eq (Reader.signed 16 (x.toNat * 256 + y.toNat)), 3) := dq_of ((dq_bind _ _ (dq_un h hb)).trans (dq_bind _ _ (dq_s2 (dq_tl h))))
theorem dq_159 {c : ByteArray} {pc : Nat} {b x y : UInt8} {t : List UInt8} (h : c.data.toList.drop pc = b :: x :: y :: t) (hb : b.toNat = 159) : decode c pc = .ok (.if_icmp .eq (Reader.signed 16 (x.toNat * 256 + y.toNat)), 3) := dq_of ((dq_bind _ _ (dq_un h hb)).trans (dq_bind _ _ (dq_s2 (dq_tl h))))
theorem dq_165 {c : ByteArray} {pc : Nat} {b x y : UInt8} {t : List UInt8} (h : c.data.toList.drop pc = b :: x :: y :: t) (hb : b.toNat = 165) : decode c pc = .ok (.if_acmp .eq (Reader.signed 16 (x.toNat * 256 + y.toNat)), 3) := dq_of ((dq_bind _ _ (dq_un h hb)).trans (dq_bind _ _ (dq_s2 (dq_tl h))))
theorem dq_154 {c : ByteArray} {pc : Nat} {b x y : UInt8} {t : List UInt8} (h : c.data.toList.drop pc = b :: x :: y :: t) (hb : b.toNat = 154) : decode c pc = .ok (.ifCond .ne (Reader.signed 16 (x.toNat * 256 + y.toNat)), 3) := dq_of ((dq_bind _ _ (dq_un h hb)).trans (dq_bind _ _ (dq_s2 (dq_tl h))))
theorem dq_160 {c : ByteArray} {pc : Nat} {b x y : UInt8} {t : List UInt8} (h : c.data.toList.drop pc = b :: x :: y :: t) (hb : b.toNat = 160) : decode c pc = .ok (.if_icmp .ne (Reader.signed 16 (x.toNat * 256 + y.toNat)), 3) := dq_of ((dq_bind _ _ (dq_un h hb)).trans (dq_bind _ _ (dq_s2 (dq_tl h))))
theorem dq_166 {c : ByteArray} {pc : Nat} {b x y : UInt8} {t : List UInt8} (h : c.data.toList.drop pc = b :: x :: y :: t) (hb : b.toNat = 166) : decode c pc = .ok (.if_acmp .ne (Reader.signed 16 (x.toNat * 256 + y.toNat)), 3) := dq_of ((dq_bind _ _ (dq_un h hb)).trans (dq_bind _ _ (dq_s2 (dq_tl h))))
theorem dq_155 {c : ByteArray} {pc : Nat} {b x y : UInt8} {t : List UInt8} (h : c.data.toList.drop pc = b :: x :: y :: t) (hb : b.toNat = 155) : decode c pc = .ok (.ifCond .lt (Reader.signed 16 (x.toNat * 256 + y.toNat)), 3) := dq_of ((dq_bind _ _ (dq_un h hb)).trans (dq_bind _ _ (dq_s2 (dq_tl h))))
theorem dq_161 {c : ByteArray} {pc : Nat} {b x y : UInt8} {t : List UInt8} (h : c.data.toList.drop pc = b :: x :: y :: t) (hb : b.toNat = 161) : decode c pc = .ok (.if_icmp .lt (Reader.signed 16 (x.toNat * 256 + y.toNat)), 3) := dq_of ((dq_bind _ _ (dq_un h hb)).trans (dq_bind _ _ (dq_s2 (dq_tl h))))
theorem dq_156 {c : ByteArray} {pc : Nat} {b x y : UInt8} {t : List UInt8} (h : c.data.toList.drop pc = b :: x :: y :: t) (hb : b.toNat = 156) : decode c pc = .ok (.ifCond .ge (Reader.signed 16 (x.toNat * 256 + y.toNat)), 3) := dq_of ((dq_bind _ _ (dq_un h hb)).trans (dq_bind _ _ (dq_s2 (dq_tl h))))
theorem dq_162 {c : ByteArray} {pc : Nat} {b x y : UInt8} {t : List UInt8} (h : c.data.toList.drop pc = b :: x :: y :: t) (hb : b.toNat = 162) : decode c pc = .ok (.if_icmp .ge (Reader.signed 16 (x.toNat * 256 + y.toNat)), 3) := dq_of ((dq_bind _ _ (dq_un h hb)).trans (dq_bind _ _ (dq_s2 (dq_tl h))))
theorem dq_157 {c : ByteArray} {pc : Nat} {b x y : UInt8} {t : List UInt8} (h : c.data.toList.drop pc = b :: x :: y :: t) (hb : b.toNat = 157) : decode c pc = .ok (.ifCond .gt (Reader.signed 16 (x.toNat * 256 + y.toNat)), 3) := dq_of ((dq_bind _ _ (dq_un h hb)).trans (dq_bind _ _ (dq_s2 (dq_tl h))))
theorem dq_163 {c : ByteArray} {pc : Nat} {b x y : UInt8} {t : List UInt8} (h : c.data.toList.drop pc = b :: x :: y :: t) (hb : b.toNat = 163) : decode c pc = .ok (.if_icmp .gt (Reader.signed 16 (x.toNat * 256 + y.toNat)), 3) := dq_of ((dq_bind _ _ (dq_un h hb)).trans (dq_bind _ _ (dq_s2 (dq_tl h))))
theorem dq_158 {c : ByteArray} {pc : Nat} {b x y : UInt8} {t : List UInt8} (h : c.data.toList.drop pc = b :: x :: y :: t) (hb : b.toNat = 158) : decode c pc = .ok (.ifCond .le (Reader.signed 16 (x.toNat * 256 + y.toNat)), 3) := dq_of ((dq_bind _ _ (dq_un h hb)).trans (dq_bind _ _ (dq_s2 (dq_tl h))))
theorem dq_164 {c : ByteArray} {pc : Nat} {b x y : UInt8} {t : List UInt8} (h : c.data.toList.drop pc = b :: x :: y :: t) (hb : b.toNat = 164) : decode c pc = .ok (.if_icmp .le (Reader.signed 16 (x.toNat * 256 + y.toNat)), 3) := dq_of ((dq_bind _ _ (dq_un h hb)).trans (dq_bind _ _ (dq_s2 (dq_tl h))))
theorem dq_132 {c : ByteArray} {pc : Nat} {b x y : UInt8} {t : List UInt8} (h : c.data.toList.drop pc = b :: x :: y :: t) (hb : b.toNat = 132) : decode c pc = .ok (.iinc x.toNat (Reader.signed 8 y.toNat), 3) := dq_of ((dq_bind _ _ (dq_un h hb)).trans ((dq_bind _ _ (dq_u1 (dq_tl h))).trans (dq_bind _ _ (dq_s1 (dq_tl (dq_tl h))))))
theorem dq_188_10 {c : ByteArray} {pc : Nat} {b x : UInt8} {t : List UInt8} (h : c.data.toList.drop pc = b :: x :: t) (hb : b.toNat = 188) (hx : x.toNat = 10) : decode c pc = .ok (.newarray .int, 2) := dq_of ((dq_bind _ _ (dq_un h hb)).trans ((dq_bind _ _ (dq_un (dq_tl h) hx)).trans rfl))
theorem dq_188_8 {c : ByteArray} {pc : Nat} {b x : UInt8} {t : List UInt8} (h : c.data.toList.drop pc = b :: x :: t) (hb : b.toNat = 188) (hx : x.toNat = 8) : decode c pc = .ok (.newarray .byte, 2) := dq_of ((dq_bind _ _ (dq_un h hb)).trans ((dq_bind _ _ (dq_un (dq_tl h) hx)).trans rfl))
theorem dq_188_4 {c : ByteArray} {pc : Nat} {b x : UInt8} {t : List UInt8} (h : c.data.toList.drop pc = b :: x :: t) (hb : b.toNat = 188) (hx : x.toNat = 4) : decode c pc = .ok (.newarray .boolean, 2) := dq_of ((dq_bind _ _ (dq_un h hb)).trans ((dq_bind _ _ (dq_un (dq_tl h) hx)).trans rfl))
def dkP (op k : Nat) : List UInt8 → Bool
  | b :: _ => Nat.beq b.toNat op && Nat.beq k 1
  | _ => false
def dkA (op n k : Nat) : List UInt8 → Bool
  | b :: x :: _ => Nat.beq b.toNat op && Nat.beq x.toNat n && Nat.beq k 2
  | _ => false
def dkB (v : Int) (k : Nat) : List UInt8 → Bool
  | b :: x :: _ => Nat.beq b.toNat 16 && decide (Reader.signed 8 x.toNat = v) && Nat.beq k 2
  | _ => false
def dkC (op n k : Nat) : List UInt8 → Bool
  | b :: x :: y :: _ => Nat.beq b.toNat op && Nat.beq (x.toNat * 256 + y.toNat) n && Nat.beq k 3
  | _ => false
def dkS (op : Nat) (v : Int) (k : Nat) : List UInt8 → Bool
  | b :: x :: y :: _ => Nat.beq b.toNat op && decide (Reader.signed 16 (x.toNat * 256 + y.toNat) = v) && Nat.beq k 3
  | _ => false
def dkN (n : Nat) (v : Int) (k : Nat) : List UInt8 → Bool
  | b :: x :: y :: _ => Nat.beq b.toNat 132 && Nat.beq x.toNat n && decide (Reader.signed 8 y.toNat = v) && Nat.beq k 3
  | _ => false
theorem dkP_ok {op k : Nat} {l : List UInt8} (h : dkP op k l = true) : ∃ b t, l = b :: t ∧ b.toNat = op ∧ k = 1 := by
  cases l with
  | nil => cases h
  | cons b t => exact ⟨b, t, rfl, Nat.eq_of_beq_eq_true (Bool.and_eq_true_iff.mp h).1, Nat.eq_of_beq_eq_true (Bool.and_eq_true_iff.mp h).2⟩
theorem dkA_ok {op n k : Nat} {l : List UInt8} (h : dkA op n k l = true) : ∃ b x t, l = b :: x :: t ∧ b.toNat = op ∧ x.toNat = n ∧ k = 2 := by
  rcases l with _ | ⟨b, _ | ⟨x, t⟩⟩
  · cases h
  · cases h
  · obtain ⟨h1, h3⟩ := Bool.and_eq_true_iff.mp h
    obtain ⟨h1, h2⟩ := Bool.and_eq_true_iff.mp h1
    exact ⟨b, x, t, rfl, Nat.eq_of_beq_eq_true h1, Nat.eq_of_beq_eq_true h2, Nat.eq_of_beq_eq_true h3⟩
theorem dkB_ok {v : Int} {k : Nat} {l : List UInt8} (h : dkB v k l = true) : ∃ b x t, l = b :: x :: t ∧ b.toNat = 16 ∧ Reader.signed 8 x.toNat = v ∧ k = 2 := by
  rcases l with _ | ⟨b, _ | ⟨x, t⟩⟩
  · cases h
  · cases h
  · obtain ⟨h1, h3⟩ := Bool.and_eq_true_iff.mp h
    obtain ⟨h1, h2⟩ := Bool.and_eq_true_iff.mp h1
    exact ⟨b, x, t, rfl, Nat.eq_of_beq_eq_true h1, of_decide_eq_true h2, Nat.eq_of_beq_eq_true h3⟩
theorem dkC_ok {op n k : Nat} {l : List UInt8} (h : dkC op n k l = true) : ∃ b x y t, l = b :: x :: y :: t ∧ b.toNat = op ∧ x.toNat * 256 + y.toNat = n ∧ k = 3 := by
  rcases l with _ | ⟨b, _ | ⟨x, _ | ⟨y, t⟩⟩⟩
  · cases h
  · cases h
  · cases h
  · obtain ⟨h1, h3⟩ := Bool.and_eq_true_iff.mp h
    obtain ⟨h1, h2⟩ := Bool.and_eq_true_iff.mp h1
    exact ⟨b, x, y, t, rfl, Nat.eq_of_beq_eq_true h1, Nat.eq_of_beq_eq_true h2, Nat.eq_of_beq_eq_true h3⟩
theorem dkS_ok {op : Nat} {v : Int} {k : Nat} {l : List UInt8} (h : dkS op v k l = true) : ∃ b x y t, l = b :: x :: y :: t ∧ b.toNat = op ∧ Reader.signed 16 (x.toNat * 256 + y.toNat) = v ∧ k = 3 := by
  rcases l with _ | ⟨b, _ | ⟨x, _ | ⟨y, t⟩⟩⟩
  · cases h
  · cases h
  · cases h
  · obtain ⟨h1, h3⟩ := Bool.and_eq_true_iff.mp h
    obtain ⟨h1, h2⟩ := Bool.and_eq_true_iff.mp h1
    exact ⟨b, x, y, t, rfl, Nat.eq_of_beq_eq_true h1, of_decide_eq_true h2, Nat.eq_of_beq_eq_true h3⟩
theorem dkN_ok {n : Nat} {v : Int} {k : Nat} {l : List UInt8} (h : dkN n v k l = true) : ∃ b x y t, l = b :: x :: y :: t ∧ b.toNat = 132 ∧ x.toNat = n ∧ Reader.signed 8 y.toNat = v ∧ k = 3 := by
  rcases l with _ | ⟨b, _ | ⟨x, _ | ⟨y, t⟩⟩⟩
  · cases h
  · cases h
  · cases h
  · obtain ⟨h1, h4⟩ := Bool.and_eq_true_iff.mp h
    obtain ⟨h1, h3⟩ := Bool.and_eq_true_iff.mp h1
    obtain ⟨h1, h2⟩ := Bool.and_eq_true_iff.mp h1
    exact ⟨b, x, y, t, rfl, Nat.eq_of_beq_eq_true h1, Nat.eq_of_beq_eq_true h2, of_decide_eq_true h3, Nat.eq_of_beq_eq_true h4⟩
def dkO : Jvm.ClassFile.Cond → Nat
  | .eq => 0 | .ne => 1 | .lt => 2 | .ge => 3 | .gt => 4 | .le => 5
def dkQ : Jvm.ClassFile.ACond → Nat
  | .eq => 0 | .ne => 1
def dkT : Jvm.ClassFile.ArrayType → Nat
  | .int => 10 | .byte => 8 | .boolean => 4 | _ => 999
def dkI : Int → Nat
  | .ofNat 0 => 3 | .ofNat 1 => 4 | .ofNat 2 => 5 | .ofNat 3 => 6 | .ofNat 4 => 7 | .ofNat 5 => 8 | _ => 999
def dkF : Instr → Nat → List UInt8 → Bool
  | .aconst_null => dkP 1
  | .iconst v => dkP (dkI v)
  | .iload_n n => dkP (26 + n.val)
  | .aload_n n => dkP (42 + n.val)
  | .istore_n n => dkP (59 + n.val)
  | .astore_n n => dkP (75 + n.val)
  | .iaload => dkP 46
  | .aaload => dkP 50
  | .baload => dkP 51
  | .iastore => dkP 79
  | .aastore => dkP 83
  | .bastore => dkP 84
  | .pop => dkP 87
  | .dup => dkP 89
  | .dup_x1 => dkP 90
  | .dup2 => dkP 92
  | .iadd => dkP 96
  | .isub => dkP 100
  | .imul => dkP 104
  | .idiv => dkP 108
  | .irem => dkP 112
  | .ineg => dkP 116
  | .ishl => dkP 120
  | .ishr => dkP 122
  | .iushr => dkP 124
  | .iand => dkP 126
  | .ior => dkP 128
  | .i2b => dkP 145
  | .ireturn => dkP 172
  | .areturn => dkP 176
  | .return_ => dkP 177
  | .arraylength => dkP 190
  | .ldc n => dkA 18 n
  | .iload n => dkA 21 n
  | .aload n => dkA 25 n
  | .istore n => dkA 54 n
  | .astore n => dkA 58 n
  | .bipush v => dkB v
  | .getfield n => dkC 180 n
  | .putfield n => dkC 181 n
  | .invokevirtual n => dkC 182 n
  | .invokespecial n => dkC 183 n
  | .invokestatic n => dkC 184 n
  | .new n => dkC 187 n
  | .anewarray n => dkC 189 n
  | .ldc_w n => dkC 19 n
  | .sipush v => dkS 17 v
  | .goto v => dkS 167 v
  | .ifnull v => dkS 198 v
  | .ifnonnull v => dkS 199 v
  | .ifCond o v => dkS (153 + dkO o) v
  | .if_icmp o v => dkS (159 + dkO o) v
  | .if_acmp o v => dkS (165 + dkQ o) v
  | .iinc n v => dkN n v
  | .newarray y => dkA 188 (dkT y)
  | _ => fun _ _ => false
theorem dkF_ok {c : ByteArray} {pc k : Nat} {I : Instr} (h : dkF I k (c.data.toList.drop pc) = true) : decode c pc = .ok (I, k) := by
  cases I
  case aconst_null => obtain ⟨b, t, e, hb, rfl⟩ := dkP_ok h; exact dq_1 e hb
  case iconst v =>
    obtain ⟨b, t, e, hb, rfl⟩ := dkP_ok h
    rcases v with n | n
    · rcases n with _ | _ | _ | _ | _ | _ | n
      · exact dq_3 e hb
      · exact dq_4 e hb
      · exact dq_5 e hb
      · exact dq_6 e hb
      · exact dq_7 e hb
      · exact dq_8 e hb
      · exact absurd ((show b.toNat = 999 from hb) ▸ b.toNat_lt) (by decide)
    · exact absurd ((show b.toNat = 999 from hb) ▸ b.toNat_lt) (by decide)
  case iload_n n =>
    obtain ⟨b, t, e, hb, rfl⟩ := dkP_ok h
    rcases n with ⟨_ | _ | _ | _ | n, hn⟩
    · exact dq_26 e hb
    · exact dq_27 e hb
    · exact dq_28 e hb
    · exact dq_29 e hb
    · exact absurd hn (by omega)
  case aload_n n =>
    obtain ⟨b, t, e, hb, rfl⟩ := dkP_ok h
    rcases n with ⟨_ | _ | _ | _ | n, hn⟩
    · exact dq_42 e hb
    · exact dq_43 e hb
    · exact dq_44 e hb
    · exact dq_45 e hb
    · exact absurd hn (by omega)
  case istore_n n =>
    obtain ⟨b, t, e, hb, rfl⟩ := dkP_ok h
    rcases n with ⟨_ | _ | _ | _ | n, hn⟩
    · exact dq_59 e hb
    · exact dq_60 e hb
    · exact dq_61 e hb
    · exact dq_62 e hb
    · exact absurd hn (by omega)
  case astore_n n =>
    obtain ⟨b, t, e, hb, rfl⟩ := dkP_ok h
    rcases n with ⟨_ | _ | _ | _ | n, hn⟩
    · exact dq_75 e hb
    · exact dq_76 e hb
    · exact dq_77 e hb
    · exact dq_78 e hb
    · exact absurd hn (by omega)
  case iaload => obtain ⟨b, t, e, hb, rfl⟩ := dkP_ok h; exact dq_46 e hb
  case aaload => obtain ⟨b, t, e, hb, rfl⟩ := dkP_ok h; exact dq_50 e hb
  case baload => obtain ⟨b, t, e, hb, rfl⟩ := dkP_ok h; exact dq_51 e hb
  case iastore => obtain ⟨b, t, e, hb, rfl⟩ := dkP_ok h; exact dq_79 e hb
  case aastore => obtain ⟨b, t, e, hb, rfl⟩ := dkP_ok h; exact dq_83 e hb
  case bastore => obtain ⟨b, t, e, hb, rfl⟩ := dkP_ok h; exact dq_84 e hb
  case pop => obtain ⟨b, t, e, hb, rfl⟩ := dkP_ok h; exact dq_87 e hb
  case dup => obtain ⟨b, t, e, hb, rfl⟩ := dkP_ok h; exact dq_89 e hb
  case dup_x1 => obtain ⟨b, t, e, hb, rfl⟩ := dkP_ok h; exact dq_90 e hb
  case dup2 => obtain ⟨b, t, e, hb, rfl⟩ := dkP_ok h; exact dq_92 e hb
  case iadd => obtain ⟨b, t, e, hb, rfl⟩ := dkP_ok h; exact dq_96 e hb
  case isub => obtain ⟨b, t, e, hb, rfl⟩ := dkP_ok h; exact dq_100 e hb
  case imul => obtain ⟨b, t, e, hb, rfl⟩ := dkP_ok h; exact dq_104 e hb
  case idiv => obtain ⟨b, t, e, hb, rfl⟩ := dkP_ok h; exact dq_108 e hb
  case irem => obtain ⟨b, t, e, hb, rfl⟩ := dkP_ok h; exact dq_112 e hb
  case ineg => obtain ⟨b, t, e, hb, rfl⟩ := dkP_ok h; exact dq_116 e hb
  case ishl => obtain ⟨b, t, e, hb, rfl⟩ := dkP_ok h; exact dq_120 e hb
  case ishr => obtain ⟨b, t, e, hb, rfl⟩ := dkP_ok h; exact dq_122 e hb
  case iushr => obtain ⟨b, t, e, hb, rfl⟩ := dkP_ok h; exact dq_124 e hb
  case iand => obtain ⟨b, t, e, hb, rfl⟩ := dkP_ok h; exact dq_126 e hb
  case ior => obtain ⟨b, t, e, hb, rfl⟩ := dkP_ok h; exact dq_128 e hb
  case i2b => obtain ⟨b, t, e, hb, rfl⟩ := dkP_ok h; exact dq_145 e hb
  case ireturn => obtain ⟨b, t, e, hb, rfl⟩ := dkP_ok h; exact dq_172 e hb
  case areturn => obtain ⟨b, t, e, hb, rfl⟩ := dkP_ok h; exact dq_176 e hb
  case return_ => obtain ⟨b, t, e, hb, rfl⟩ := dkP_ok h; exact dq_177 e hb
  case arraylength => obtain ⟨b, t, e, hb, rfl⟩ := dkP_ok h; exact dq_190 e hb
  case ldc n => obtain ⟨b, x, t, e, hb, rfl, rfl⟩ := dkA_ok h; exact dq_18 e hb
  case iload n => obtain ⟨b, x, t, e, hb, rfl, rfl⟩ := dkA_ok h; exact dq_21 e hb
  case aload n => obtain ⟨b, x, t, e, hb, rfl, rfl⟩ := dkA_ok h; exact dq_25 e hb
  case istore n => obtain ⟨b, x, t, e, hb, rfl, rfl⟩ := dkA_ok h; exact dq_54 e hb
  case astore n => obtain ⟨b, x, t, e, hb, rfl, rfl⟩ := dkA_ok h; exact dq_58 e hb
  case bipush v => obtain ⟨b, x, t, e, hb, rfl, rfl⟩ := dkB_ok h; exact dq_16 e hb
  case getfield n => obtain ⟨b, x, y, t, e, hb, rfl, rfl⟩ := dkC_ok h; exact dq_180 e hb
  case putfield n => obtain ⟨b, x, y, t, e, hb, rfl, rfl⟩ := dkC_ok h; exact dq_181 e hb
  case invokevirtual n => obtain ⟨b, x, y, t, e, hb, rfl, rfl⟩ := dkC_ok h; exact dq_182 e hb
  case invokespecial n => obtain ⟨b, x, y, t, e, hb, rfl, rfl⟩ := dkC_ok h; exact dq_183 e hb
  case invokestatic n => obtain ⟨b, x, y, t, e, hb, rfl, rfl⟩ := dkC_ok h; exact dq_184 e hb
  case new n => obtain ⟨b, x, y, t, e, hb, rfl, rfl⟩ := dkC_ok h; exact dq_187 e hb
  case anewarray n => obtain ⟨b, x, y, t, e, hb, rfl, rfl⟩ := dkC_ok h; exact dq_189 e hb
  case ldc_w n => obtain ⟨b, x, y, t, e, hb, rfl, rfl⟩ := dkC_ok h; exact dq_19 e hb
  case sipush v => obtain ⟨b, x, y, t, e, hb, rfl, rfl⟩ := dkS_ok h; exact dq_17 e hb
  case goto v => obtain ⟨b, x, y, t, e, hb, rfl, rfl⟩ := dkS_ok h; exact dq_167 e hb
  case ifnull v => obtain ⟨b, x, y, t, e, hb, rfl, rfl⟩ := dkS_ok h; exact dq_198 e hb
  case ifnonnull v => obtain ⟨b, x, y, t, e, hb, rfl, rfl⟩ := dkS_ok h; exact dq_199 e hb
  case ifCond o v =>
    obtain ⟨b, x, y, t, e, hb, rfl, rfl⟩ := dkS_ok h
    cases o
    · exact dq_153 e hb
    · exact dq_154 e hb
    · exact dq_155 e hb
    · exact dq_156 e hb
    · exact dq_157 e hb
    · exact dq_158 e hb
  case if_icmp o v =>
    obtain ⟨b, x, y, t, e, hb, rfl, rfl⟩ := dkS_ok h
    cases o
    · exact dq_159 e hb
    · exact dq_160 e hb
    · exact dq_161 e hb
    · exact dq_162 e hb
    · exact dq_163 e hb
    · exact dq_164 e hb
  case if_acmp o v =>
    obtain ⟨b, x, y, t, e, hb, rfl, rfl⟩ := dkS_ok h
    cases o
    · exact dq_165 e hb
    · exact dq_166 e hb
  case iinc n v => obtain ⟨b, x, y, t, e, hb, rfl, rfl, rfl⟩ := dkN_ok h; exact dq_132 e hb
  case newarray y =>
    obtain ⟨b, x, t, e, hb, hx, rfl⟩ := dkA_ok h
    cases y
    case int => exact dq_188_10 e hb hx
    case byte => exact dq_188_8 e hb hx
    case boolean => exact dq_188_4 e hb hx
    all_goals exact absurd (hx ▸ x.toNat_lt) (by decide)
  all_goals exact absurd h Bool.false_ne_true
def dkR (c : ByteArray) : List (Nat × Instr × Nat) → Prop
  | [] => True
  | (pc, I, k) :: rs => decode c pc = .ok (I, k) ∧ dkR c rs
def dkK : Nat → List UInt8 → List (Nat × Instr × Nat) → Bool
  | _, _, [] => true
  | f, l, (pc, I, k) :: rs => Nat.beq pc f && dkF I k l && dkK (f + k) (l.drop k) rs
theorem dkW {c : ByteArray} : ∀ (rs : List (Nat × Instr × Nat)) (f : Nat), dkK f (c.data.toList.drop f) rs = true → dkR c rs
  | [], _, _ => trivial
  | (pc, I, k) :: rs, f, h => by
    obtain ⟨h1, h3⟩ := Bool.and_eq_true_iff.mp h
    obtain ⟨h1, h2⟩ := Bool.and_eq_true_iff.mp h1
    have e : pc = f := Nat.eq_of_beq_eq_true h1
    rw [List.drop_drop] at h3
    subst e
    exact ⟨dkF_ok h2, dkW rs _ h3⟩
