/-! the decoder at one opcode: its bytes read once -/
def rdB (c : ByteArray) (p : Nat) : Option Nat := if h : p < c.size then some (c[p]).toNat else none
theorem bind_ok {α β : Type} {m : Decoder α} {f : α → Decoder β} {c : ByteArray} {p p' : Nat} {a : α} (h : m c p = .ok (a, p')) : (m >>= f) c p = f a c p' := by
  have e : (m >>= f) c p = (m c p >>= fun x => match x with | (a, s) => f a c s) := rfl
  rw [e, h]; rfl
theorem map_ok {α β : Type} {m : Decoder α} {g : α → β} {c : ByteArray} {p p' : Nat} {a : α} (h : m c p = .ok (a, p')) : (g <$> m) c p = .ok (g a, p') := by
  have e : (g <$> m) c p = (m c p >>= fun x => match x with | (a, s) => (Except.ok (g a, s) : Except DecodeError (β × Nat))) := rfl
  rw [e, h]; rfl
theorem u1_rd {c : ByteArray} {p b : Nat} (h : rdB c p = some b) : (Reader.u1 : Decoder Nat) c p = .ok (b, p + 1) := by
  unfold rdB at h
  by_cases hp : p < c.size
  · rw [dif_pos hp] at h
    injection h with h
    subst h
    have e : (Reader.u1 : Decoder Nat) c p = (dite (p < c.size) (fun h => (do set (p + 1); pure (c[p]).toNat : Decoder Nat)) (fun _ => throw (HasTruncated.truncated p))) c p := rfl
    rw [e, dif_pos hp]; rfl
  · rw [dif_neg hp] at h; cases h
theorem u2_rd {c : ByteArray} {p a b n : Nat} (h1 : rdB c p = some a) (h2 : rdB c (p + 1) = some b) (hn : a * 256 + b = n) : (Reader.u2 : Decoder Nat) c p = .ok (n, p + 2) := by
  have e : (Reader.u2 : Decoder Nat) = (Reader.u1 >>= fun hi => Reader.u1 >>= fun lo => pure (hi * 256 + lo)) := rfl
  rw [e, bind_ok (u1_rd h1), bind_ok (u1_rd h2), hn]; rfl
theorem dec_of {c : ByteArray} {k op n : Nat} {i : Instr} {F : Nat → Decoder Instr} (hF : Decoder.instr k = (Reader.u1 >>= F)) (h : rdB c k = some op) (hi : F op c (k + 1) = .ok (i, k + n)) : decode c k = .ok (i, n) := by
  have e : decode c k = (Decoder.instr k c k >>= fun x => match x with | (a, s) => (Except.ok (a, s - k) : Except DecodeError (Instr × Nat))) := rfl
  rw [e, hF, bind_ok (u1_rd h), hi]
  show (Except.ok (i, k + n - k) : Except DecodeError (Instr × Nat)) = _
  rw [Nat.add_sub_cancel_left]
theorem dk_1 {c : ByteArray} {k : Nat} (h : rdB c k = some 1) : decode c k = .ok (.aconst_null, 1) := dec_of rfl h rfl
theorem dk_2 {c : ByteArray} {k : Nat} (h : rdB c k = some 2) : decode c k = .ok (.iconst (-1), 1) := dec_of rfl h rfl
theorem dk_3 {c : ByteArray} {k : Nat} (h : rdB c k = some 3) : decode c k = .ok (.iconst 0, 1) := dec_of rfl h rfl
theorem dk_4 {c : ByteArray} {k : Nat} (h : rdB c k = some 4) : decode c k = .ok (.iconst 1, 1) := dec_of rfl h rfl
theorem dk_5 {c : ByteArray} {k : Nat} (h : rdB c k = some 5) : decode c k = .ok (.iconst 2, 1) := dec_of rfl h rfl
theorem dk_6 {c : ByteArray} {k : Nat} (h : rdB c k = some 6) : decode c k = .ok (.iconst 3, 1) := dec_of rfl h rfl
theorem dk_7 {c : ByteArray} {k : Nat} (h : rdB c k = some 7) : decode c k = .ok (.iconst 4, 1) := dec_of rfl h rfl
theorem dk_8 {c : ByteArray} {k : Nat} (h : rdB c k = some 8) : decode c k = .ok (.iconst 5, 1) := dec_of rfl h rfl
theorem dk_9 {c : ByteArray} {k : Nat} (h : rdB c k = some 9) : decode c k = .ok (.lconst 0, 1) := dec_of rfl h rfl
theorem dk_10 {c : ByteArray} {k : Nat} (h : rdB c k = some 10) : decode c k = .ok (.lconst 1, 1) := dec_of rfl h rfl
theorem dk_26 {c : ByteArray} {k : Nat} (h : rdB c k = some 26) : decode c k = .ok (.iload_n 0, 1) := dec_of rfl h rfl
theorem dk_27 {c : ByteArray} {k : Nat} (h : rdB c k = some 27) : decode c k = .ok (.iload_n 1, 1) := dec_of rfl h rfl
theorem dk_28 {c : ByteArray} {k : Nat} (h : rdB c k = some 28) : decode c k = .ok (.iload_n 2, 1) := dec_of rfl h rfl
theorem dk_29 {c : ByteArray} {k : Nat} (h : rdB c k = some 29) : decode c k = .ok (.iload_n 3, 1) := dec_of rfl h rfl
theorem dk_30 {c : ByteArray} {k : Nat} (h : rdB c k = some 30) : decode c k = .ok (.lload_n 0, 1) := dec_of rfl h rfl
theorem dk_31 {c : ByteArray} {k : Nat} (h : rdB c k = some 31) : decode c k = .ok (.lload_n 1, 1) := dec_of rfl h rfl
theorem dk_32 {c : ByteArray} {k : Nat} (h : rdB c k = some 32) : decode c k = .ok (.lload_n 2, 1) := dec_of rfl h rfl
theorem dk_33 {c : ByteArray} {k : Nat} (h : rdB c k = some 33) : decode c k = .ok (.lload_n 3, 1) := dec_of rfl h rfl
theorem dk_42 {c : ByteArray} {k : Nat} (h : rdB c k = some 42) : decode c k = .ok (.aload_n 0, 1) := dec_of rfl h rfl
theorem dk_43 {c : ByteArray} {k : Nat} (h : rdB c k = some 43) : decode c k = .ok (.aload_n 1, 1) := dec_of rfl h rfl
theorem dk_44 {c : ByteArray} {k : Nat} (h : rdB c k = some 44) : decode c k = .ok (.aload_n 2, 1) := dec_of rfl h rfl
theorem dk_45 {c : ByteArray} {k : Nat} (h : rdB c k = some 45) : decode c k = .ok (.aload_n 3, 1) := dec_of rfl h rfl
theorem dk_46 {c : ByteArray} {k : Nat} (h : rdB c k = some 46) : decode c k = .ok (.iaload, 1) := dec_of rfl h rfl
theorem dk_47 {c : ByteArray} {k : Nat} (h : rdB c k = some 47) : decode c k = .ok (.laload, 1) := dec_of rfl h rfl
theorem dk_50 {c : ByteArray} {k : Nat} (h : rdB c k = some 50) : decode c k = .ok (.aaload, 1) := dec_of rfl h rfl
theorem dk_51 {c : ByteArray} {k : Nat} (h : rdB c k = some 51) : decode c k = .ok (.baload, 1) := dec_of rfl h rfl
theorem dk_52 {c : ByteArray} {k : Nat} (h : rdB c k = some 52) : decode c k = .ok (.caload, 1) := dec_of rfl h rfl
theorem dk_59 {c : ByteArray} {k : Nat} (h : rdB c k = some 59) : decode c k = .ok (.istore_n 0, 1) := dec_of rfl h rfl
theorem dk_60 {c : ByteArray} {k : Nat} (h : rdB c k = some 60) : decode c k = .ok (.istore_n 1, 1) := dec_of rfl h rfl
theorem dk_61 {c : ByteArray} {k : Nat} (h : rdB c k = some 61) : decode c k = .ok (.istore_n 2, 1) := dec_of rfl h rfl
theorem dk_62 {c : ByteArray} {k : Nat} (h : rdB c k = some 62) : decode c k = .ok (.istore_n 3, 1) := dec_of rfl h rfl
theorem dk_63 {c : ByteArray} {k : Nat} (h : rdB c k = some 63) : decode c k = .ok (.lstore_n 0, 1) := dec_of rfl h rfl
theorem dk_64 {c : ByteArray} {k : Nat} (h : rdB c k = some 64) : decode c k = .ok (.lstore_n 1, 1) := dec_of rfl h rfl
theorem dk_65 {c : ByteArray} {k : Nat} (h : rdB c k = some 65) : decode c k = .ok (.lstore_n 2, 1) := dec_of rfl h rfl
theorem dk_66 {c : ByteArray} {k : Nat} (h : rdB c k = some 66) : decode c k = .ok (.lstore_n 3, 1) := dec_of rfl h rfl
theorem dk_75 {c : ByteArray} {k : Nat} (h : rdB c k = some 75) : decode c k = .ok (.astore_n 0, 1) := dec_of rfl h rfl
theorem dk_76 {c : ByteArray} {k : Nat} (h : rdB c k = some 76) : decode c k = .ok (.astore_n 1, 1) := dec_of rfl h rfl
theorem dk_77 {c : ByteArray} {k : Nat} (h : rdB c k = some 77) : decode c k = .ok (.astore_n 2, 1) := dec_of rfl h rfl
theorem dk_78 {c : ByteArray} {k : Nat} (h : rdB c k = some 78) : decode c k = .ok (.astore_n 3, 1) := dec_of rfl h rfl
theorem dk_79 {c : ByteArray} {k : Nat} (h : rdB c k = some 79) : decode c k = .ok (.iastore, 1) := dec_of rfl h rfl
theorem dk_80 {c : ByteArray} {k : Nat} (h : rdB c k = some 80) : decode c k = .ok (.lastore, 1) := dec_of rfl h rfl
theorem dk_83 {c : ByteArray} {k : Nat} (h : rdB c k = some 83) : decode c k = .ok (.aastore, 1) := dec_of rfl h rfl
theorem dk_84 {c : ByteArray} {k : Nat} (h : rdB c k = some 84) : decode c k = .ok (.bastore, 1) := dec_of rfl h rfl
theorem dk_87 {c : ByteArray} {k : Nat} (h : rdB c k = some 87) : decode c k = .ok (.pop, 1) := dec_of rfl h rfl
theorem dk_89 {c : ByteArray} {k : Nat} (h : rdB c k = some 89) : decode c k = .ok (.dup, 1) := dec_of rfl h rfl
theorem dk_92 {c : ByteArray} {k : Nat} (h : rdB c k = some 92) : decode c k = .ok (.dup2, 1) := dec_of rfl h rfl
theorem dk_96 {c : ByteArray} {k : Nat} (h : rdB c k = some 96) : decode c k = .ok (.iadd, 1) := dec_of rfl h rfl
theorem dk_97 {c : ByteArray} {k : Nat} (h : rdB c k = some 97) : decode c k = .ok (.ladd, 1) := dec_of rfl h rfl
theorem dk_100 {c : ByteArray} {k : Nat} (h : rdB c k = some 100) : decode c k = .ok (.isub, 1) := dec_of rfl h rfl
theorem dk_101 {c : ByteArray} {k : Nat} (h : rdB c k = some 101) : decode c k = .ok (.lsub, 1) := dec_of rfl h rfl
theorem dk_104 {c : ByteArray} {k : Nat} (h : rdB c k = some 104) : decode c k = .ok (.imul, 1) := dec_of rfl h rfl
theorem dk_105 {c : ByteArray} {k : Nat} (h : rdB c k = some 105) : decode c k = .ok (.lmul, 1) := dec_of rfl h rfl
theorem dk_108 {c : ByteArray} {k : Nat} (h : rdB c k = some 108) : decode c k = .ok (.idiv, 1) := dec_of rfl h rfl
theorem dk_109 {c : ByteArray} {k : Nat} (h : rdB c k = some 109) : decode c k = .ok (.ldiv, 1) := dec_of rfl h rfl
theorem dk_112 {c : ByteArray} {k : Nat} (h : rdB c k = some 112) : decode c k = .ok (.irem, 1) := dec_of rfl h rfl
theorem dk_113 {c : ByteArray} {k : Nat} (h : rdB c k = some 113) : decode c k = .ok (.lrem, 1) := dec_of rfl h rfl
theorem dk_120 {c : ByteArray} {k : Nat} (h : rdB c k = some 120) : decode c k = .ok (.ishl, 1) := dec_of rfl h rfl
theorem dk_121 {c : ByteArray} {k : Nat} (h : rdB c k = some 121) : decode c k = .ok (.lshl, 1) := dec_of rfl h rfl
theorem dk_122 {c : ByteArray} {k : Nat} (h : rdB c k = some 122) : decode c k = .ok (.ishr, 1) := dec_of rfl h rfl
theorem dk_124 {c : ByteArray} {k : Nat} (h : rdB c k = some 124) : decode c k = .ok (.iushr, 1) := dec_of rfl h rfl
theorem dk_126 {c : ByteArray} {k : Nat} (h : rdB c k = some 126) : decode c k = .ok (.iand, 1) := dec_of rfl h rfl
theorem dk_127 {c : ByteArray} {k : Nat} (h : rdB c k = some 127) : decode c k = .ok (.land, 1) := dec_of rfl h rfl
theorem dk_128 {c : ByteArray} {k : Nat} (h : rdB c k = some 128) : decode c k = .ok (.ior, 1) := dec_of rfl h rfl
theorem dk_129 {c : ByteArray} {k : Nat} (h : rdB c k = some 129) : decode c k = .ok (.lor, 1) := dec_of rfl h rfl
theorem dk_130 {c : ByteArray} {k : Nat} (h : rdB c k = some 130) : decode c k = .ok (.ixor, 1) := dec_of rfl h rfl
theorem dk_133 {c : ByteArray} {k : Nat} (h : rdB c k = some 133) : decode c k = .ok (.i2l, 1) := dec_of rfl h rfl
theorem dk_136 {c : ByteArray} {k : Nat} (h : rdB c k = some 136) : decode c k = .ok (.l2i, 1) := dec_of rfl h rfl
theorem dk_145 {c : ByteArray} {k : Nat} (h : rdB c k = some 145) : decode c k = .ok (.i2b, 1) := dec_of rfl h rfl
theorem dk_146 {c : ByteArray} {k : Nat} (h : rdB c k = some 146) : decode c k = .ok (.i2c, 1) := dec_of rfl h rfl
theorem dk_148 {c : ByteArray} {k : Nat} (h : rdB c k = some 148) : decode c k = .ok (.lcmp, 1) := dec_of rfl h rfl
theorem dk_172 {c : ByteArray} {k : Nat} (h : rdB c k = some 172) : decode c k = .ok (.ireturn, 1) := dec_of rfl h rfl
theorem dk_173 {c : ByteArray} {k : Nat} (h : rdB c k = some 173) : decode c k = .ok (.lreturn, 1) := dec_of rfl h rfl
theorem dk_176 {c : ByteArray} {k : Nat} (h : rdB c k = some 176) : decode c k = .ok (.areturn, 1) := dec_of rfl h rfl
theorem dk_177 {c : ByteArray} {k : Nat} (h : rdB c k = some 177) : decode c k = .ok (.return_, 1) := dec_of rfl h rfl
theorem dk_190 {c : ByteArray} {k : Nat} (h : rdB c k = some 190) : decode c k = .ok (.arraylength, 1) := dec_of rfl h rfl
theorem dk_191 {c : ByteArray} {k : Nat} (h : rdB c k = some 191) : decode c k = .ok (.athrow, 1) := dec_of rfl h rfl
theorem dk_18 {c : ByteArray} {k a : Nat} (h : rdB c k = some 18 ∧ rdB c (k + 1) = some a) : decode c k = .ok (.ldc a, 2) := dec_of rfl h.1 ((bind_ok (u1_rd h.2)).trans rfl)
theorem dk_21 {c : ByteArray} {k a : Nat} (h : rdB c k = some 21 ∧ rdB c (k + 1) = some a) : decode c k = .ok (.iload a, 2) := dec_of rfl h.1 ((bind_ok (u1_rd h.2)).trans rfl)
theorem dk_22 {c : ByteArray} {k a : Nat} (h : rdB c k = some 22 ∧ rdB c (k + 1) = some a) : decode c k = .ok (.lload a, 2) := dec_of rfl h.1 ((bind_ok (u1_rd h.2)).trans rfl)
theorem dk_25 {c : ByteArray} {k a : Nat} (h : rdB c k = some 25 ∧ rdB c (k + 1) = some a) : decode c k = .ok (.aload a, 2) := dec_of rfl h.1 ((bind_ok (u1_rd h.2)).trans rfl)
theorem dk_54 {c : ByteArray} {k a : Nat} (h : rdB c k = some 54 ∧ rdB c (k + 1) = some a) : decode c k = .ok (.istore a, 2) := dec_of rfl h.1 ((bind_ok (u1_rd h.2)).trans rfl)
theorem dk_55 {c : ByteArray} {k a : Nat} (h : rdB c k = some 55 ∧ rdB c (k + 1) = some a) : decode c k = .ok (.lstore a, 2) := dec_of rfl h.1 ((bind_ok (u1_rd h.2)).trans rfl)
theorem dk_58 {c : ByteArray} {k a : Nat} (h : rdB c k = some 58 ∧ rdB c (k + 1) = some a) : decode c k = .ok (.astore a, 2) := dec_of rfl h.1 ((bind_ok (u1_rd h.2)).trans rfl)
theorem dk_16 {c : ByteArray} {k a : Nat} {v : Int} (h : rdB c k = some 16 ∧ rdB c (k + 1) = some a ∧ Reader.signed 8 a = v) : decode c k = .ok (.bipush v, 2) := dec_of rfl h.1 ((bind_ok (map_ok (u1_rd h.2.1))).trans (by rw [h.2.2]; rfl))
theorem dk_19 {c : ByteArray} {k a b n : Nat} (h : rdB c k = some 19 ∧ rdB c (k + 1) = some a ∧ rdB c (k + 1 + 1) = some b ∧ a * 256 + b = n) : decode c k = .ok (.ldc_w n, 3) := dec_of rfl h.1 ((bind_ok (u2_rd h.2.1 h.2.2.1 h.2.2.2)).trans rfl)
theorem dk_20 {c : ByteArray} {k a b n : Nat} (h : rdB c k = some 20 ∧ rdB c (k + 1) = some a ∧ rdB c (k + 1 + 1) = some b ∧ a * 256 + b = n) : decode c k = .ok (.ldc2_w n, 3) := dec_of rfl h.1 ((bind_ok (u2_rd h.2.1 h.2.2.1 h.2.2.2)).trans rfl)
theorem dk_178 {c : ByteArray} {k a b n : Nat} (h : rdB c k = some 178 ∧ rdB c (k + 1) = some a ∧ rdB c (k + 1 + 1) = some b ∧ a * 256 + b = n) : decode c k = .ok (.getstatic n, 3) := dec_of rfl h.1 ((bind_ok (u2_rd h.2.1 h.2.2.1 h.2.2.2)).trans rfl)
theorem dk_179 {c : ByteArray} {k a b n : Nat} (h : rdB c k = some 179 ∧ rdB c (k + 1) = some a ∧ rdB c (k + 1 + 1) = some b ∧ a * 256 + b = n) : decode c k = .ok (.putstatic n, 3) := dec_of rfl h.1 ((bind_ok (u2_rd h.2.1 h.2.2.1 h.2.2.2)).trans rfl)
theorem dk_180 {c : ByteArray} {k a b n : Nat} (h : rdB c k = some 180 ∧ rdB c (k + 1) = some a ∧ rdB c (k + 1 + 1) = some b ∧ a * 256 + b = n) : decode c k = .ok (.getfield n, 3) := dec_of rfl h.1 ((bind_ok (u2_rd h.2.1 h.2.2.1 h.2.2.2)).trans rfl)
theorem dk_181 {c : ByteArray} {k a b n : Nat} (h : rdB c k = some 181 ∧ rdB c (k + 1) = some a ∧ rdB c (k + 1 + 1) = some b ∧ a * 256 + b = n) : decode c k = .ok (.putfield n, 3) := dec_of rfl h.1 ((bind_ok (u2_rd h.2.1 h.2.2.1 h.2.2.2)).trans rfl)
theorem dk_182 {c : ByteArray} {k a b n : Nat} (h : rdB c k = some 182 ∧ rdB c (k + 1) = some a ∧ rdB c (k + 1 + 1) = some b ∧ a * 256 + b = n) : decode c k = .ok (.invokevirtual n, 3) := dec_of rfl h.1 ((bind_ok (u2_rd h.2.1 h.2.2.1 h.2.2.2)).trans rfl)
theorem dk_183 {c : ByteArray} {k a b n : Nat} (h : rdB c k = some 183 ∧ rdB c (k + 1) = some a ∧ rdB c (k + 1 + 1) = some b ∧ a * 256 + b = n) : decode c k = .ok (.invokespecial n, 3) := dec_of rfl h.1 ((bind_ok (u2_rd h.2.1 h.2.2.1 h.2.2.2)).trans rfl)
theorem dk_184 {c : ByteArray} {k a b n : Nat} (h : rdB c k = some 184 ∧ rdB c (k + 1) = some a ∧ rdB c (k + 1 + 1) = some b ∧ a * 256 + b = n) : decode c k = .ok (.invokestatic n, 3) := dec_of rfl h.1 ((bind_ok (u2_rd h.2.1 h.2.2.1 h.2.2.2)).trans rfl)
theorem dk_187 {c : ByteArray} {k a b n : Nat} (h : rdB c k = some 187 ∧ rdB c (k + 1) = some a ∧ rdB c (k + 1 + 1) = some b ∧ a * 256 + b = n) : decode c k = .ok (.new n, 3) := dec_of rfl h.1 ((bind_ok (u2_rd h.2.1 h.2.2.1 h.2.2.2)).trans rfl)
theorem dk_189 {c : ByteArray} {k a b n : Nat} (h : rdB c k = some 189 ∧ rdB c (k + 1) = some a ∧ rdB c (k + 1 + 1) = some b ∧ a * 256 + b = n) : decode c k = .ok (.anewarray n, 3) := dec_of rfl h.1 ((bind_ok (u2_rd h.2.1 h.2.2.1 h.2.2.2)).trans rfl)
theorem dk_192 {c : ByteArray} {k a b n : Nat} (h : rdB c k = some 192 ∧ rdB c (k + 1) = some a ∧ rdB c (k + 1 + 1) = some b ∧ a * 256 + b = n) : decode c k = .ok (.checkcast n, 3) := dec_of rfl h.1 ((bind_ok (u2_rd h.2.1 h.2.2.1 h.2.2.2)).trans rfl)
theorem dk_193 {c : ByteArray} {k a b n : Nat} (h : rdB c k = some 193 ∧ rdB c (k + 1) = some a ∧ rdB c (k + 1 + 1) = some b ∧ a * 256 + b = n) : decode c k = .ok (.instanceof n, 3) := dec_of rfl h.1 ((bind_ok (u2_rd h.2.1 h.2.2.1 h.2.2.2)).trans rfl)
theorem dk_17 {c : ByteArray} {k a b : Nat} {v : Int} (h : rdB c k = some 17 ∧ rdB c (k + 1) = some a ∧ rdB c (k + 1 + 1) = some b ∧ Reader.signed 16 (a * 256 + b) = v) : decode c k = .ok (.sipush v, 3) := dec_of rfl h.1 ((bind_ok (map_ok (u2_rd h.2.1 h.2.2.1 rfl))).trans (by rw [h.2.2.2]; rfl))
theorem dk_153 {c : ByteArray} {k a b : Nat} {v : Int} (h : rdB c k = some 153 ∧ rdB c (k + 1) = some a ∧ rdB c (k + 1 + 1) = some b ∧ Reader.signed 16 (a * 256 + b) = v) : decode c k = .ok (.ifCond .eq v, 3) := dec_of rfl h.1 ((bind_ok (map_ok (u2_rd h.2.1 h.2.2.1 rfl))).trans (by rw [h.2.2.2]; rfl))
theorem dk_154 {c : ByteArray} {k a b : Nat} {v : Int} (h : rdB c k = some 154 ∧ rdB c (k + 1) = some a ∧ rdB c (k + 1 + 1) = some b ∧ Reader.signed 16 (a * 256 + b) = v) : decode c k = .ok (.ifCond .ne v, 3) := dec_of rfl h.1 ((bind_ok (map_ok (u2_rd h.2.1 h.2.2.1 rfl))).trans (by rw [h.2.2.2]; rfl))
theorem dk_155 {c : ByteArray} {k a b : Nat} {v : Int} (h : rdB c k = some 155 ∧ rdB c (k + 1) = some a ∧ rdB c (k + 1 + 1) = some b ∧ Reader.signed 16 (a * 256 + b) = v) : decode c k = .ok (.ifCond .lt v, 3) := dec_of rfl h.1 ((bind_ok (map_ok (u2_rd h.2.1 h.2.2.1 rfl))).trans (by rw [h.2.2.2]; rfl))
theorem dk_156 {c : ByteArray} {k a b : Nat} {v : Int} (h : rdB c k = some 156 ∧ rdB c (k + 1) = some a ∧ rdB c (k + 1 + 1) = some b ∧ Reader.signed 16 (a * 256 + b) = v) : decode c k = .ok (.ifCond .ge v, 3) := dec_of rfl h.1 ((bind_ok (map_ok (u2_rd h.2.1 h.2.2.1 rfl))).trans (by rw [h.2.2.2]; rfl))
theorem dk_157 {c : ByteArray} {k a b : Nat} {v : Int} (h : rdB c k = some 157 ∧ rdB c (k + 1) = some a ∧ rdB c (k + 1 + 1) = some b ∧ Reader.signed 16 (a * 256 + b) = v) : decode c k = .ok (.ifCond .gt v, 3) := dec_of rfl h.1 ((bind_ok (map_ok (u2_rd h.2.1 h.2.2.1 rfl))).trans (by rw [h.2.2.2]; rfl))
theorem dk_158 {c : ByteArray} {k a b : Nat} {v : Int} (h : rdB c k = some 158 ∧ rdB c (k + 1) = some a ∧ rdB c (k + 1 + 1) = some b ∧ Reader.signed 16 (a * 256 + b) = v) : decode c k = .ok (.ifCond .le v, 3) := dec_of rfl h.1 ((bind_ok (map_ok (u2_rd h.2.1 h.2.2.1 rfl))).trans (by rw [h.2.2.2]; rfl))
theorem dk_159 {c : ByteArray} {k a b : Nat} {v : Int} (h : rdB c k = some 159 ∧ rdB c (k + 1) = some a ∧ rdB c (k + 1 + 1) = some b ∧ Reader.signed 16 (a * 256 + b) = v) : decode c k = .ok (.if_icmp .eq v, 3) := dec_of rfl h.1 ((bind_ok (map_ok (u2_rd h.2.1 h.2.2.1 rfl))).trans (by rw [h.2.2.2]; rfl))
theorem dk_160 {c : ByteArray} {k a b : Nat} {v : Int} (h : rdB c k = some 160 ∧ rdB c (k + 1) = some a ∧ rdB c (k + 1 + 1) = some b ∧ Reader.signed 16 (a * 256 + b) = v) : decode c k = .ok (.if_icmp .ne v, 3) := dec_of rfl h.1 ((bind_ok (map_ok (u2_rd h.2.1 h.2.2.1 rfl))).trans (by rw [h.2.2.2]; rfl))
theorem dk_161 {c : ByteArray} {k a b : Nat} {v : Int} (h : rdB c k = some 161 ∧ rdB c (k + 1) = some a ∧ rdB c (k + 1 + 1) = some b ∧ Reader.signed 16 (a * 256 + b) = v) : decode c k = .ok (.if_icmp .lt v, 3) := dec_of rfl h.1 ((bind_ok (map_ok (u2_rd h.2.1 h.2.2.1 rfl))).trans (by rw [h.2.2.2]; rfl))
theorem dk_162 {c : ByteArray} {k a b : Nat} {v : Int} (h : rdB c k = some 162 ∧ rdB c (k + 1) = some a ∧ rdB c (k + 1 + 1) = some b ∧ Reader.signed 16 (a * 256 + b) = v) : decode c k = .ok (.if_icmp .ge v, 3) := dec_of rfl h.1 ((bind_ok (map_ok (u2_rd h.2.1 h.2.2.1 rfl))).trans (by rw [h.2.2.2]; rfl))
theorem dk_163 {c : ByteArray} {k a b : Nat} {v : Int} (h : rdB c k = some 163 ∧ rdB c (k + 1) = some a ∧ rdB c (k + 1 + 1) = some b ∧ Reader.signed 16 (a * 256 + b) = v) : decode c k = .ok (.if_icmp .gt v, 3) := dec_of rfl h.1 ((bind_ok (map_ok (u2_rd h.2.1 h.2.2.1 rfl))).trans (by rw [h.2.2.2]; rfl))
theorem dk_164 {c : ByteArray} {k a b : Nat} {v : Int} (h : rdB c k = some 164 ∧ rdB c (k + 1) = some a ∧ rdB c (k + 1 + 1) = some b ∧ Reader.signed 16 (a * 256 + b) = v) : decode c k = .ok (.if_icmp .le v, 3) := dec_of rfl h.1 ((bind_ok (map_ok (u2_rd h.2.1 h.2.2.1 rfl))).trans (by rw [h.2.2.2]; rfl))
theorem dk_165 {c : ByteArray} {k a b : Nat} {v : Int} (h : rdB c k = some 165 ∧ rdB c (k + 1) = some a ∧ rdB c (k + 1 + 1) = some b ∧ Reader.signed 16 (a * 256 + b) = v) : decode c k = .ok (.if_acmp .eq v, 3) := dec_of rfl h.1 ((bind_ok (map_ok (u2_rd h.2.1 h.2.2.1 rfl))).trans (by rw [h.2.2.2]; rfl))
theorem dk_166 {c : ByteArray} {k a b : Nat} {v : Int} (h : rdB c k = some 166 ∧ rdB c (k + 1) = some a ∧ rdB c (k + 1 + 1) = some b ∧ Reader.signed 16 (a * 256 + b) = v) : decode c k = .ok (.if_acmp .ne v, 3) := dec_of rfl h.1 ((bind_ok (map_ok (u2_rd h.2.1 h.2.2.1 rfl))).trans (by rw [h.2.2.2]; rfl))
theorem dk_167 {c : ByteArray} {k a b : Nat} {v : Int} (h : rdB c k = some 167 ∧ rdB c (k + 1) = some a ∧ rdB c (k + 1 + 1) = some b ∧ Reader.signed 16 (a * 256 + b) = v) : decode c k = .ok (.goto v, 3) := dec_of rfl h.1 ((bind_ok (map_ok (u2_rd h.2.1 h.2.2.1 rfl))).trans (by rw [h.2.2.2]; rfl))
theorem dk_198 {c : ByteArray} {k a b : Nat} {v : Int} (h : rdB c k = some 198 ∧ rdB c (k + 1) = some a ∧ rdB c (k + 1 + 1) = some b ∧ Reader.signed 16 (a * 256 + b) = v) : decode c k = .ok (.ifnull v, 3) := dec_of rfl h.1 ((bind_ok (map_ok (u2_rd h.2.1 h.2.2.1 rfl))).trans (by rw [h.2.2.2]; rfl))
theorem dk_199 {c : ByteArray} {k a b : Nat} {v : Int} (h : rdB c k = some 199 ∧ rdB c (k + 1) = some a ∧ rdB c (k + 1 + 1) = some b ∧ Reader.signed 16 (a * 256 + b) = v) : decode c k = .ok (.ifnonnull v, 3) := dec_of rfl h.1 ((bind_ok (map_ok (u2_rd h.2.1 h.2.2.1 rfl))).trans (by rw [h.2.2.2]; rfl))
theorem dk_188_4 {c : ByteArray} {k : Nat} (h : rdB c k = some 188 ∧ rdB c (k + 1) = some 4) : decode c k = .ok (.newarray .boolean, 2) := dec_of rfl h.1 ((bind_ok (u1_rd h.2)).trans rfl)
theorem dk_188_5 {c : ByteArray} {k : Nat} (h : rdB c k = some 188 ∧ rdB c (k + 1) = some 5) : decode c k = .ok (.newarray .char, 2) := dec_of rfl h.1 ((bind_ok (u1_rd h.2)).trans rfl)
theorem dk_188_8 {c : ByteArray} {k : Nat} (h : rdB c k = some 188 ∧ rdB c (k + 1) = some 8) : decode c k = .ok (.newarray .byte, 2) := dec_of rfl h.1 ((bind_ok (u1_rd h.2)).trans rfl)
theorem dk_188_10 {c : ByteArray} {k : Nat} (h : rdB c k = some 188 ∧ rdB c (k + 1) = some 10) : decode c k = .ok (.newarray .int, 2) := dec_of rfl h.1 ((bind_ok (u1_rd h.2)).trans rfl)
theorem dk_188_11 {c : ByteArray} {k : Nat} (h : rdB c k = some 188 ∧ rdB c (k + 1) = some 11) : decode c k = .ok (.newarray .long, 2) := dec_of rfl h.1 ((bind_ok (u1_rd h.2)).trans rfl)
theorem dk_132 {c : ByteArray} {k a b : Nat} {v : Int} (h : rdB c k = some 132 ∧ rdB c (k + 1) = some a ∧ rdB c (k + 1 + 1) = some b ∧ Reader.signed 8 b = v) : decode c k = .ok (.iinc a v, 3) := dec_of rfl h.1 ((bind_ok (u1_rd h.2.1)).trans ((bind_ok (map_ok (u1_rd h.2.2.1))).trans (by rw [h.2.2.2]; rfl)))
