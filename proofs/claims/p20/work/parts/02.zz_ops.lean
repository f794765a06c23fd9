/-! bytes of the code, read by lists; decode rows -/
abbrev dI (c : ByteArray) (p : Nat) (i : Instr) (n : Nat) : Prop := decode c p = .ok (i, n)
def rd (c : ByteArray) (p : Nat) : Option Nat := (c.data.toList[p]?).map (fun x => x.toNat)
theorem rd_u1 {c : ByteArray} {p b : Nat} (h : rd c p = some b) : (Reader.u1 : Decoder Nat).runAt c p = .ok (b, p + 1) := by
  have g : (Reader.u1 : Decoder Nat).runAt c p = (if h : p < c.size then (do set (p + 1); Pure.pure c[p].toNat : Decoder Nat) else MonadExcept.throw (HasTruncated.truncated p)) c p := rfl
  unfold rd at h
  obtain ⟨x, hx, hb⟩ := Option.map_eq_some_iff.mp h
  obtain ⟨h1, h2⟩ := List.getElem?_eq_some_iff.mp hx
  have h3 : p < c.size := h1
  rw [g, dif_pos h3, ← hb, ← h2]
  rfl
theorem dk0 {c : ByteArray} {pc b : Nat} {ins : Instr} (f : Nat → Decoder Instr) (e : Decoder.instr pc = Reader.u1 >>= f) (hf : f b = Pure.pure ins) (h0 : rd c pc = some b) : decode c pc = .ok (ins, 1) := by
  show Except.bind ((Decoder.instr pc).runAt c pc) (fun q => Except.ok (q.1, q.2 - pc)) = _
  rw [e]
  show Except.bind (Except.bind ((Reader.u1 : Decoder Nat).runAt c pc) (fun q => (f q.1).runAt c q.2)) (fun q => Except.ok (q.1, q.2 - pc)) = _
  rw [rd_u1 h0]
  show Except.bind ((f b).runAt c (pc + 1)) (fun q => Except.ok (q.1, q.2 - pc)) = _
  rw [hf]
  show Except.ok (ins, pc + 1 - pc) = _
  rw [Nat.add_sub_cancel_left]
theorem dk1 {c : ByteArray} {pc b x : Nat} {g : Nat → Instr} (f : Nat → Decoder Instr) (e : Decoder.instr pc = Reader.u1 >>= f) (hf : f b = (Reader.u1 >>= fun x => Pure.pure (g x))) (h0 : rd c pc = some b) (h1 : rd c (pc + 1) = some x) : decode c pc = .ok (g x, 2) := by
  show Except.bind ((Decoder.instr pc).runAt c pc) (fun q => Except.ok (q.1, q.2 - pc)) = _
  rw [e]
  show Except.bind (Except.bind ((Reader.u1 : Decoder Nat).runAt c pc) (fun q => (f q.1).runAt c q.2)) (fun q => Except.ok (q.1, q.2 - pc)) = _
  rw [rd_u1 h0]
  show Except.bind ((f b).runAt c (pc + 1)) (fun q => Except.ok (q.1, q.2 - pc)) = _
  rw [hf]
  show Except.bind (Except.bind ((Reader.u1 : Decoder Nat).runAt c (pc + 1)) (fun q => (Pure.pure (g q.1) : Decoder Instr).runAt c q.2)) (fun q => Except.ok (q.1, q.2 - pc)) = _
  rw [rd_u1 h1]
  show Except.ok (g x, pc + 1 + 1 - pc) = _
  rw [Nat.add_assoc, Nat.add_sub_cancel_left]
theorem rd_u2 {c : ByteArray} {p a b : Nat} (h : rd c p = some a) (h2 : rd c (p + 1) = some b) : (Reader.u2 : Decoder Nat).runAt c p = .ok (a * 256 + b, p + 2) := by
  show Except.bind ((Reader.u1 : Decoder Nat).runAt c p) (fun q => Except.bind ((Reader.u1 : Decoder Nat).runAt c q.2) (fun r => Except.ok (q.1 * 256 + r.1, r.2))) = _
  rw [rd_u1 h]
  show Except.bind ((Reader.u1 : Decoder Nat).runAt c (p + 1)) (fun r => Except.ok (a * 256 + r.1, r.2)) = _
  rw [rd_u1 h2]
  rfl
theorem dk2 {c : ByteArray} {pc b x y : Nat} {g : Nat → Instr} (f : Nat → Decoder Instr) (e : Decoder.instr pc = Reader.u1 >>= f) (hf : f b = (Reader.u2 >>= fun x => Pure.pure (g x))) (h0 : rd c pc = some b) (h1 : rd c (pc + 1) = some x) (h2 : rd c (pc + 2) = some y) : decode c pc = .ok (g (x * 256 + y), 3) := by
  show Except.bind ((Decoder.instr pc).runAt c pc) (fun q => Except.ok (q.1, q.2 - pc)) = _
  rw [e]
  show Except.bind (Except.bind ((Reader.u1 : Decoder Nat).runAt c pc) (fun q => (f q.1).runAt c q.2)) (fun q => Except.ok (q.1, q.2 - pc)) = _
  rw [rd_u1 h0]
  show Except.bind ((f b).runAt c (pc + 1)) (fun q => Except.ok (q.1, q.2 - pc)) = _
  rw [hf]
  show Except.bind (Except.bind ((Reader.u2 : Decoder Nat).runAt c (pc + 1)) (fun q => (Pure.pure (g q.1) : Decoder Instr).runAt c q.2)) (fun q => Except.ok (q.1, q.2 - pc)) = _
  rw [rd_u2 h1 h2]
  show Except.ok (g (x * 256 + y), pc + 1 + 2 - pc) = _
  rw [Nat.add_assoc, Nat.add_sub_cancel_left]
theorem dk2s {c : ByteArray} {pc b x y : Nat} {g : Int → Instr} (f : Nat → Decoder Instr) (e : Decoder.instr pc = Reader.u1 >>= f) (hf : f b = (Reader.s2 >>= fun x => Pure.pure (g x))) (h0 : rd c pc = some b) (h1 : rd c (pc + 1) = some x) (h2 : rd c (pc + 2) = some y) : decode c pc = .ok (g (Reader.signed 16 (x * 256 + y)), 3) := by
  show Except.bind ((Decoder.instr pc).runAt c pc) (fun q => Except.ok (q.1, q.2 - pc)) = _
  rw [e]
  show Except.bind (Except.bind ((Reader.u1 : Decoder Nat).runAt c pc) (fun q => (f q.1).runAt c q.2)) (fun q => Except.ok (q.1, q.2 - pc)) = _
  rw [rd_u1 h0]
  show Except.bind ((f b).runAt c (pc + 1)) (fun q => Except.ok (q.1, q.2 - pc)) = _
  rw [hf]
  show Except.bind (Except.bind (Except.map (fun q : Nat × Nat => (Reader.signed 16 q.1, q.2)) ((Reader.u2 : Decoder Nat).runAt c (pc + 1))) (fun q => (Pure.pure (g q.1) : Decoder Instr).runAt c q.2)) (fun q => Except.ok (q.1, q.2 - pc)) = _
  rw [rd_u2 h1 h2]
  show Except.ok (g (Reader.signed 16 (x * 256 + y)), pc + 1 + 2 - pc) = _
  rw [Nat.add_assoc, Nat.add_sub_cancel_left]
theorem dk1s {c : ByteArray} {pc b x : Nat} {g : Int → Instr} (f : Nat → Decoder Instr) (e : Decoder.instr pc = Reader.u1 >>= f) (hf : f b = (Reader.s1 >>= fun x => Pure.pure (g x))) (h0 : rd c pc = some b) (h1 : rd c (pc + 1) = some x) : decode c pc = .ok (g (Reader.signed 8 x), 2) := by
  show Except.bind ((Decoder.instr pc).runAt c pc) (fun q => Except.ok (q.1, q.2 - pc)) = _
  rw [e]
  show Except.bind (Except.bind ((Reader.u1 : Decoder Nat).runAt c pc) (fun q => (f q.1).runAt c q.2)) (fun q => Except.ok (q.1, q.2 - pc)) = _
  rw [rd_u1 h0]
  show Except.bind ((f b).runAt c (pc + 1)) (fun q => Except.ok (q.1, q.2 - pc)) = _
  rw [hf]
  show Except.bind (Except.bind (Except.map (fun q : Nat × Nat => (Reader.signed 8 q.1, q.2)) ((Reader.u1 : Decoder Nat).runAt c (pc + 1))) (fun q => (Pure.pure (g q.1) : Decoder Instr).runAt c q.2)) (fun q => Except.ok (q.1, q.2 - pc)) = _
  rw [rd_u1 h1]
  show Except.ok (g (Reader.signed 8 x), pc + 1 + 1 - pc) = _
  rw [Nat.add_assoc, Nat.add_sub_cancel_left]
theorem op_2 {c : ByteArray} {pc : Nat} (h0 : rd c pc = some 2) : decode c pc = .ok (.iconst (-1), 1) := dk0 _ rfl rfl h0
theorem op_3 {c : ByteArray} {pc : Nat} (h0 : rd c pc = some 3) : decode c pc = .ok (.iconst 0, 1) := dk0 _ rfl rfl h0
theorem op_4 {c : ByteArray} {pc : Nat} (h0 : rd c pc = some 4) : decode c pc = .ok (.iconst 1, 1) := dk0 _ rfl rfl h0
theorem op_5 {c : ByteArray} {pc : Nat} (h0 : rd c pc = some 5) : decode c pc = .ok (.iconst 2, 1) := dk0 _ rfl rfl h0
theorem op_6 {c : ByteArray} {pc : Nat} (h0 : rd c pc = some 6) : decode c pc = .ok (.iconst 3, 1) := dk0 _ rfl rfl h0
theorem op_7 {c : ByteArray} {pc : Nat} (h0 : rd c pc = some 7) : decode c pc = .ok (.iconst 4, 1) := dk0 _ rfl rfl h0
theorem op_8 {c : ByteArray} {pc : Nat} (h0 : rd c pc = some 8) : decode c pc = .ok (.iconst 5, 1) := dk0 _ rfl rfl h0
theorem op_9 {c : ByteArray} {pc : Nat} (h0 : rd c pc = some 9) : decode c pc = .ok (.lconst 0, 1) := dk0 _ rfl rfl h0
theorem op_10 {c : ByteArray} {pc : Nat} (h0 : rd c pc = some 10) : decode c pc = .ok (.lconst 1, 1) := dk0 _ rfl rfl h0
theorem op_16 {c : ByteArray} {pc x : Nat} (h0 : rd c pc = some 16) (h1 : rd c (pc + 1) = some x) {z : Int} (hz : Reader.signed 8 x = z) : decode c pc = .ok (.bipush z, 2) := by rw [← hz]; exact dk1s (g := fun x => .bipush x) _ rfl rfl h0 h1
theorem op_17 {c : ByteArray} {pc x y : Nat} (h0 : rd c pc = some 17) (h1 : rd c (pc + 1) = some x) (h2 : rd c (pc + 2) = some y) {z : Int} (hz : Reader.signed 16 (x * 256 + y) = z) : decode c pc = .ok (.sipush z, 3) := by rw [← hz]; exact dk2s (g := fun x => .sipush x) _ rfl rfl h0 h1 h2
theorem op_18 {c : ByteArray} {pc x : Nat} (h0 : rd c pc = some 18) (h1 : rd c (pc + 1) = some x) : decode c pc = .ok (.ldc x, 2) := dk1 (g := fun x => .ldc x) _ rfl rfl h0 h1
theorem op_19 {c : ByteArray} {pc x y : Nat} (h0 : rd c pc = some 19) (h1 : rd c (pc + 1) = some x) (h2 : rd c (pc + 2) = some y) : decode c pc = .ok (.ldc_w (x * 256 + y), 3) := dk2 (g := fun x => .ldc_w x) _ rfl rfl h0 h1 h2
theorem op_20 {c : ByteArray} {pc x y : Nat} (h0 : rd c pc = some 20) (h1 : rd c (pc + 1) = some x) (h2 : rd c (pc + 2) = some y) : decode c pc = .ok (.ldc2_w (x * 256 + y), 3) := dk2 (g := fun x => .ldc2_w x) _ rfl rfl h0 h1 h2
theorem op_21 {c : ByteArray} {pc x : Nat} (h0 : rd c pc = some 21) (h1 : rd c (pc + 1) = some x) : decode c pc = .ok (.iload x, 2) := dk1 (g := fun x => .iload x) _ rfl rfl h0 h1
theorem op_22 {c : ByteArray} {pc x : Nat} (h0 : rd c pc = some 22) (h1 : rd c (pc + 1) = some x) : decode c pc = .ok (.lload x, 2) := dk1 (g := fun x => .lload x) _ rfl rfl h0 h1
theorem op_26 {c : ByteArray} {pc : Nat} (h0 : rd c pc = some 26) : decode c pc = .ok (.iload_n 0, 1) := dk0 _ rfl rfl h0
theorem op_27 {c : ByteArray} {pc : Nat} (h0 : rd c pc = some 27) : decode c pc = .ok (.iload_n 1, 1) := dk0 _ rfl rfl h0
theorem op_28 {c : ByteArray} {pc : Nat} (h0 : rd c pc = some 28) : decode c pc = .ok (.iload_n 2, 1) := dk0 _ rfl rfl h0
theorem op_29 {c : ByteArray} {pc : Nat} (h0 : rd c pc = some 29) : decode c pc = .ok (.iload_n 3, 1) := dk0 _ rfl rfl h0
theorem op_30 {c : ByteArray} {pc : Nat} (h0 : rd c pc = some 30) : decode c pc = .ok (.lload_n 0, 1) := dk0 _ rfl rfl h0
theorem op_31 {c : ByteArray} {pc : Nat} (h0 : rd c pc = some 31) : decode c pc = .ok (.lload_n 1, 1) := dk0 _ rfl rfl h0
theorem op_32 {c : ByteArray} {pc : Nat} (h0 : rd c pc = some 32) : decode c pc = .ok (.lload_n 2, 1) := dk0 _ rfl rfl h0
theorem op_33 {c : ByteArray} {pc : Nat} (h0 : rd c pc = some 33) : decode c pc = .ok (.lload_n 3, 1) := dk0 _ rfl rfl h0
theorem op_42 {c : ByteArray} {pc : Nat} (h0 : rd c pc = some 42) : decode c pc = .ok (.aload_n 0, 1) := dk0 _ rfl rfl h0
theorem op_43 {c : ByteArray} {pc : Nat} (h0 : rd c pc = some 43) : decode c pc = .ok (.aload_n 1, 1) := dk0 _ rfl rfl h0
theorem op_44 {c : ByteArray} {pc : Nat} (h0 : rd c pc = some 44) : decode c pc = .ok (.aload_n 2, 1) := dk0 _ rfl rfl h0
theorem op_45 {c : ByteArray} {pc : Nat} (h0 : rd c pc = some 45) : decode c pc = .ok (.aload_n 3, 1) := dk0 _ rfl rfl h0
theorem op_46 {c : ByteArray} {pc : Nat} (h0 : rd c pc = some 46) : decode c pc = .ok (.iaload, 1) := dk0 _ rfl rfl h0
theorem op_47 {c : ByteArray} {pc : Nat} (h0 : rd c pc = some 47) : decode c pc = .ok (.laload, 1) := dk0 _ rfl rfl h0
theorem op_50 {c : ByteArray} {pc : Nat} (h0 : rd c pc = some 50) : decode c pc = .ok (.aaload, 1) := dk0 _ rfl rfl h0
theorem op_51 {c : ByteArray} {pc : Nat} (h0 : rd c pc = some 51) : decode c pc = .ok (.baload, 1) := dk0 _ rfl rfl h0
theorem op_54 {c : ByteArray} {pc x : Nat} (h0 : rd c pc = some 54) (h1 : rd c (pc + 1) = some x) : decode c pc = .ok (.istore x, 2) := dk1 (g := fun x => .istore x) _ rfl rfl h0 h1
theorem op_55 {c : ByteArray} {pc x : Nat} (h0 : rd c pc = some 55) (h1 : rd c (pc + 1) = some x) : decode c pc = .ok (.lstore x, 2) := dk1 (g := fun x => .lstore x) _ rfl rfl h0 h1
theorem op_60 {c : ByteArray} {pc : Nat} (h0 : rd c pc = some 60) : decode c pc = .ok (.istore_n 1, 1) := dk0 _ rfl rfl h0
theorem op_61 {c : ByteArray} {pc : Nat} (h0 : rd c pc = some 61) : decode c pc = .ok (.istore_n 2, 1) := dk0 _ rfl rfl h0
theorem op_62 {c : ByteArray} {pc : Nat} (h0 : rd c pc = some 62) : decode c pc = .ok (.istore_n 3, 1) := dk0 _ rfl rfl h0
theorem op_65 {c : ByteArray} {pc : Nat} (h0 : rd c pc = some 65) : decode c pc = .ok (.lstore_n 2, 1) := dk0 _ rfl rfl h0
theorem op_66 {c : ByteArray} {pc : Nat} (h0 : rd c pc = some 66) : decode c pc = .ok (.lstore_n 3, 1) := dk0 _ rfl rfl h0
theorem op_76 {c : ByteArray} {pc : Nat} (h0 : rd c pc = some 76) : decode c pc = .ok (.astore_n 1, 1) := dk0 _ rfl rfl h0
theorem op_77 {c : ByteArray} {pc : Nat} (h0 : rd c pc = some 77) : decode c pc = .ok (.astore_n 2, 1) := dk0 _ rfl rfl h0
theorem op_79 {c : ByteArray} {pc : Nat} (h0 : rd c pc = some 79) : decode c pc = .ok (.iastore, 1) := dk0 _ rfl rfl h0
theorem op_80 {c : ByteArray} {pc : Nat} (h0 : rd c pc = some 80) : decode c pc = .ok (.lastore, 1) := dk0 _ rfl rfl h0
theorem op_83 {c : ByteArray} {pc : Nat} (h0 : rd c pc = some 83) : decode c pc = .ok (.aastore, 1) := dk0 _ rfl rfl h0
theorem op_84 {c : ByteArray} {pc : Nat} (h0 : rd c pc = some 84) : decode c pc = .ok (.bastore, 1) := dk0 _ rfl rfl h0
theorem op_87 {c : ByteArray} {pc : Nat} (h0 : rd c pc = some 87) : decode c pc = .ok (.pop, 1) := dk0 _ rfl rfl h0
theorem op_88 {c : ByteArray} {pc : Nat} (h0 : rd c pc = some 88) : decode c pc = .ok (.pop2, 1) := dk0 _ rfl rfl h0
theorem op_89 {c : ByteArray} {pc : Nat} (h0 : rd c pc = some 89) : decode c pc = .ok (.dup, 1) := dk0 _ rfl rfl h0
theorem op_96 {c : ByteArray} {pc : Nat} (h0 : rd c pc = some 96) : decode c pc = .ok (.iadd, 1) := dk0 _ rfl rfl h0
theorem op_97 {c : ByteArray} {pc : Nat} (h0 : rd c pc = some 97) : decode c pc = .ok (.ladd, 1) := dk0 _ rfl rfl h0
theorem op_100 {c : ByteArray} {pc : Nat} (h0 : rd c pc = some 100) : decode c pc = .ok (.isub, 1) := dk0 _ rfl rfl h0
theorem op_101 {c : ByteArray} {pc : Nat} (h0 : rd c pc = some 101) : decode c pc = .ok (.lsub, 1) := dk0 _ rfl rfl h0
theorem op_104 {c : ByteArray} {pc : Nat} (h0 : rd c pc = some 104) : decode c pc = .ok (.imul, 1) := dk0 _ rfl rfl h0
theorem op_105 {c : ByteArray} {pc : Nat} (h0 : rd c pc = some 105) : decode c pc = .ok (.lmul, 1) := dk0 _ rfl rfl h0
theorem op_108 {c : ByteArray} {pc : Nat} (h0 : rd c pc = some 108) : decode c pc = .ok (.idiv, 1) := dk0 _ rfl rfl h0
theorem op_109 {c : ByteArray} {pc : Nat} (h0 : rd c pc = some 109) : decode c pc = .ok (.ldiv, 1) := dk0 _ rfl rfl h0
theorem op_112 {c : ByteArray} {pc : Nat} (h0 : rd c pc = some 112) : decode c pc = .ok (.irem, 1) := dk0 _ rfl rfl h0
theorem op_113 {c : ByteArray} {pc : Nat} (h0 : rd c pc = some 113) : decode c pc = .ok (.lrem, 1) := dk0 _ rfl rfl h0
theorem op_117 {c : ByteArray} {pc : Nat} (h0 : rd c pc = some 117) : decode c pc = .ok (.lneg, 1) := dk0 _ rfl rfl h0
theorem op_120 {c : ByteArray} {pc : Nat} (h0 : rd c pc = some 120) : decode c pc = .ok (.ishl, 1) := dk0 _ rfl rfl h0
theorem op_122 {c : ByteArray} {pc : Nat} (h0 : rd c pc = some 122) : decode c pc = .ok (.ishr, 1) := dk0 _ rfl rfl h0
theorem op_126 {c : ByteArray} {pc : Nat} (h0 : rd c pc = some 126) : decode c pc = .ok (.iand, 1) := dk0 _ rfl rfl h0
theorem op_128 {c : ByteArray} {pc : Nat} (h0 : rd c pc = some 128) : decode c pc = .ok (.ior, 1) := dk0 _ rfl rfl h0
theorem op_130 {c : ByteArray} {pc : Nat} (h0 : rd c pc = some 130) : decode c pc = .ok (.ixor, 1) := dk0 _ rfl rfl h0
theorem op_131 {c : ByteArray} {pc : Nat} (h0 : rd c pc = some 131) : decode c pc = .ok (.lxor, 1) := dk0 _ rfl rfl h0
theorem op_133 {c : ByteArray} {pc : Nat} (h0 : rd c pc = some 133) : decode c pc = .ok (.i2l, 1) := dk0 _ rfl rfl h0
theorem op_136 {c : ByteArray} {pc : Nat} (h0 : rd c pc = some 136) : decode c pc = .ok (.l2i, 1) := dk0 _ rfl rfl h0
theorem op_145 {c : ByteArray} {pc : Nat} (h0 : rd c pc = some 145) : decode c pc = .ok (.i2b, 1) := dk0 _ rfl rfl h0
theorem op_146 {c : ByteArray} {pc : Nat} (h0 : rd c pc = some 146) : decode c pc = .ok (.i2c, 1) := dk0 _ rfl rfl h0
theorem op_148 {c : ByteArray} {pc : Nat} (h0 : rd c pc = some 148) : decode c pc = .ok (.lcmp, 1) := dk0 _ rfl rfl h0
theorem op_153 {c : ByteArray} {pc x y : Nat} (h0 : rd c pc = some 153) (h1 : rd c (pc + 1) = some x) (h2 : rd c (pc + 2) = some y) {z : Int} (hz : Reader.signed 16 (x * 256 + y) = z) : decode c pc = .ok (.ifCond .eq z, 3) := by rw [← hz]; exact dk2s (g := fun x => .ifCond .eq x) _ rfl rfl h0 h1 h2
theorem op_154 {c : ByteArray} {pc x y : Nat} (h0 : rd c pc = some 154) (h1 : rd c (pc + 1) = some x) (h2 : rd c (pc + 2) = some y) {z : Int} (hz : Reader.signed 16 (x * 256 + y) = z) : decode c pc = .ok (.ifCond .ne z, 3) := by rw [← hz]; exact dk2s (g := fun x => .ifCond .ne x) _ rfl rfl h0 h1 h2
theorem op_155 {c : ByteArray} {pc x y : Nat} (h0 : rd c pc = some 155) (h1 : rd c (pc + 1) = some x) (h2 : rd c (pc + 2) = some y) {z : Int} (hz : Reader.signed 16 (x * 256 + y) = z) : decode c pc = .ok (.ifCond .lt z, 3) := by rw [← hz]; exact dk2s (g := fun x => .ifCond .lt x) _ rfl rfl h0 h1 h2
theorem op_156 {c : ByteArray} {pc x y : Nat} (h0 : rd c pc = some 156) (h1 : rd c (pc + 1) = some x) (h2 : rd c (pc + 2) = some y) {z : Int} (hz : Reader.signed 16 (x * 256 + y) = z) : decode c pc = .ok (.ifCond .ge z, 3) := by rw [← hz]; exact dk2s (g := fun x => .ifCond .ge x) _ rfl rfl h0 h1 h2
theorem op_157 {c : ByteArray} {pc x y : Nat} (h0 : rd c pc = some 157) (h1 : rd c (pc + 1) = some x) (h2 : rd c (pc + 2) = some y) {z : Int} (hz : Reader.signed 16 (x * 256 + y) = z) : decode c pc = .ok (.ifCond .gt z, 3) := by rw [← hz]; exact dk2s (g := fun x => .ifCond .gt x) _ rfl rfl h0 h1 h2
theorem op_158 {c : ByteArray} {pc x y : Nat} (h0 : rd c pc = some 158) (h1 : rd c (pc + 1) = some x) (h2 : rd c (pc + 2) = some y) {z : Int} (hz : Reader.signed 16 (x * 256 + y) = z) : decode c pc = .ok (.ifCond .le z, 3) := by rw [← hz]; exact dk2s (g := fun x => .ifCond .le x) _ rfl rfl h0 h1 h2
theorem op_159 {c : ByteArray} {pc x y : Nat} (h0 : rd c pc = some 159) (h1 : rd c (pc + 1) = some x) (h2 : rd c (pc + 2) = some y) {z : Int} (hz : Reader.signed 16 (x * 256 + y) = z) : decode c pc = .ok (.if_icmp .eq z, 3) := by rw [← hz]; exact dk2s (g := fun x => .if_icmp .eq x) _ rfl rfl h0 h1 h2
theorem op_160 {c : ByteArray} {pc x y : Nat} (h0 : rd c pc = some 160) (h1 : rd c (pc + 1) = some x) (h2 : rd c (pc + 2) = some y) {z : Int} (hz : Reader.signed 16 (x * 256 + y) = z) : decode c pc = .ok (.if_icmp .ne z, 3) := by rw [← hz]; exact dk2s (g := fun x => .if_icmp .ne x) _ rfl rfl h0 h1 h2
theorem op_161 {c : ByteArray} {pc x y : Nat} (h0 : rd c pc = some 161) (h1 : rd c (pc + 1) = some x) (h2 : rd c (pc + 2) = some y) {z : Int} (hz : Reader.signed 16 (x * 256 + y) = z) : decode c pc = .ok (.if_icmp .lt z, 3) := by rw [← hz]; exact dk2s (g := fun x => .if_icmp .lt x) _ rfl rfl h0 h1 h2
theorem op_162 {c : ByteArray} {pc x y : Nat} (h0 : rd c pc = some 162) (h1 : rd c (pc + 1) = some x) (h2 : rd c (pc + 2) = some y) {z : Int} (hz : Reader.signed 16 (x * 256 + y) = z) : decode c pc = .ok (.if_icmp .ge z, 3) := by rw [← hz]; exact dk2s (g := fun x => .if_icmp .ge x) _ rfl rfl h0 h1 h2
theorem op_163 {c : ByteArray} {pc x y : Nat} (h0 : rd c pc = some 163) (h1 : rd c (pc + 1) = some x) (h2 : rd c (pc + 2) = some y) {z : Int} (hz : Reader.signed 16 (x * 256 + y) = z) : decode c pc = .ok (.if_icmp .gt z, 3) := by rw [← hz]; exact dk2s (g := fun x => .if_icmp .gt x) _ rfl rfl h0 h1 h2
theorem op_164 {c : ByteArray} {pc x y : Nat} (h0 : rd c pc = some 164) (h1 : rd c (pc + 1) = some x) (h2 : rd c (pc + 2) = some y) {z : Int} (hz : Reader.signed 16 (x * 256 + y) = z) : decode c pc = .ok (.if_icmp .le z, 3) := by rw [← hz]; exact dk2s (g := fun x => .if_icmp .le x) _ rfl rfl h0 h1 h2
theorem op_167 {c : ByteArray} {pc x y : Nat} (h0 : rd c pc = some 167) (h1 : rd c (pc + 1) = some x) (h2 : rd c (pc + 2) = some y) {z : Int} (hz : Reader.signed 16 (x * 256 + y) = z) : decode c pc = .ok (.goto z, 3) := by rw [← hz]; exact dk2s (g := fun x => .goto x) _ rfl rfl h0 h1 h2
theorem op_172 {c : ByteArray} {pc : Nat} (h0 : rd c pc = some 172) : decode c pc = .ok (.ireturn, 1) := dk0 _ rfl rfl h0
theorem op_173 {c : ByteArray} {pc : Nat} (h0 : rd c pc = some 173) : decode c pc = .ok (.lreturn, 1) := dk0 _ rfl rfl h0
theorem op_177 {c : ByteArray} {pc : Nat} (h0 : rd c pc = some 177) : decode c pc = .ok (.return_, 1) := dk0 _ rfl rfl h0
theorem op_178 {c : ByteArray} {pc x y : Nat} (h0 : rd c pc = some 178) (h1 : rd c (pc + 1) = some x) (h2 : rd c (pc + 2) = some y) : decode c pc = .ok (.getstatic (x * 256 + y), 3) := dk2 (g := fun x => .getstatic x) _ rfl rfl h0 h1 h2
theorem op_180 {c : ByteArray} {pc x y : Nat} (h0 : rd c pc = some 180) (h1 : rd c (pc + 1) = some x) (h2 : rd c (pc + 2) = some y) : decode c pc = .ok (.getfield (x * 256 + y), 3) := dk2 (g := fun x => .getfield x) _ rfl rfl h0 h1 h2
theorem op_181 {c : ByteArray} {pc x y : Nat} (h0 : rd c pc = some 181) (h1 : rd c (pc + 1) = some x) (h2 : rd c (pc + 2) = some y) : decode c pc = .ok (.putfield (x * 256 + y), 3) := dk2 (g := fun x => .putfield x) _ rfl rfl h0 h1 h2
theorem op_182 {c : ByteArray} {pc x y : Nat} (h0 : rd c pc = some 182) (h1 : rd c (pc + 1) = some x) (h2 : rd c (pc + 2) = some y) : decode c pc = .ok (.invokevirtual (x * 256 + y), 3) := dk2 (g := fun x => .invokevirtual x) _ rfl rfl h0 h1 h2
theorem op_183 {c : ByteArray} {pc x y : Nat} (h0 : rd c pc = some 183) (h1 : rd c (pc + 1) = some x) (h2 : rd c (pc + 2) = some y) : decode c pc = .ok (.invokespecial (x * 256 + y), 3) := dk2 (g := fun x => .invokespecial x) _ rfl rfl h0 h1 h2
theorem op_184 {c : ByteArray} {pc x y : Nat} (h0 : rd c pc = some 184) (h1 : rd c (pc + 1) = some x) (h2 : rd c (pc + 2) = some y) : decode c pc = .ok (.invokestatic (x * 256 + y), 3) := dk2 (g := fun x => .invokestatic x) _ rfl rfl h0 h1 h2
theorem op_187 {c : ByteArray} {pc x y : Nat} (h0 : rd c pc = some 187) (h1 : rd c (pc + 1) = some x) (h2 : rd c (pc + 2) = some y) : decode c pc = .ok (.new (x * 256 + y), 3) := dk2 (g := fun x => .new x) _ rfl rfl h0 h1 h2
theorem op_189 {c : ByteArray} {pc x y : Nat} (h0 : rd c pc = some 189) (h1 : rd c (pc + 1) = some x) (h2 : rd c (pc + 2) = some y) : decode c pc = .ok (.anewarray (x * 256 + y), 3) := dk2 (g := fun x => .anewarray x) _ rfl rfl h0 h1 h2
theorem op_190 {c : ByteArray} {pc : Nat} (h0 : rd c pc = some 190) : decode c pc = .ok (.arraylength, 1) := dk0 _ rfl rfl h0
theorem op_191 {c : ByteArray} {pc : Nat} (h0 : rd c pc = some 191) : decode c pc = .ok (.athrow, 1) := dk0 _ rfl rfl h0
