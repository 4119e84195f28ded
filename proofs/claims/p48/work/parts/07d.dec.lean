/-! ===== a quick decoder ===== -/
def RD (b : ByteArray) (p : Nat) (v : UInt8) : Prop := ∃ h : p < b.size, b[p] = v
theorem rd_u1 {b : ByteArray} {p : Nat} {v : UInt8} (h : RD b p v) : (ClassFile.Reader.u1 : ClassFile.Decoder Nat) b p = .ok (v.toNat, p + 1) := by
  obtain ⟨h, e⟩ := h
  unfold ClassFile.Reader.u1
  show (dite (p < b.size) (fun h => (set (p + 1) >>= fun _ => pure b[p].toNat : ClassFile.Decoder Nat)) _) b p = _
  rw [dif_pos h, e]
  rfl
theorem rd_bind {α β : Type} {r : ClassFile.Decoder α} {f : α → ClassFile.Decoder β} {b : ByteArray} {p q : Nat} {x : α} (h : r b p = .ok (x, q)) : (r >>= f) b p = f x b q := by
  show Except.bind (r b p) _ = _
  rw [h]
  rfl
theorem rd_u2 {b : ByteArray} {p : Nat} {v w : UInt8} (h : RD b p v) (h2 : RD b (p + 1) w) : (ClassFile.Reader.u2 : ClassFile.Decoder Nat) b p = .ok (v.toNat * 256 + w.toNat, p + 2) := by
  unfold ClassFile.Reader.u2
  rw [rd_bind (rd_u1 h), rd_bind (rd_u1 h2)]
  rfl
theorem rd_s1 {b : ByteArray} {p : Nat} {v : UInt8} (h : RD b p v) : (ClassFile.Reader.s1 : ClassFile.Decoder Int) b p = .ok (ClassFile.Reader.signed 8 v.toNat, p + 1) := by
  unfold ClassFile.Reader.s1
  show Except.map _ (ClassFile.Reader.u1 b p) = _
  rw [rd_u1 h]
  rfl
theorem rd_s2 {b : ByteArray} {p : Nat} {v w : UInt8} (h : RD b p v) (h2 : RD b (p + 1) w) : (ClassFile.Reader.s2 : ClassFile.Decoder Int) b p = .ok (ClassFile.Reader.signed 16 (v.toNat * 256 + w.toNat), p + 2) := by
  unfold ClassFile.Reader.s2
  show Except.map _ (ClassFile.Reader.u2 b p) = _
  rw [rd_u2 h h2]
  rfl
theorem rd_dec {b : ByteArray} {p q : Nat} {i : Instr} (h : ClassFile.Decoder.instr p b p = .ok (i, q)) : decode b p = .ok (i, q - p) := by
  unfold decode ClassFile.Reader.runAt
  show Except.bind (ClassFile.Decoder.instr p b p) _ = _
  rw [h]
  rfl
set_option maxRecDepth 20000 in
theorem dec_2 {b : ByteArray} {p : Nat} (h : RD b p 2)  : decode b p = .ok (.iconst (-1), 1) := by
  have e : ClassFile.Decoder.instr p b p = .ok (.iconst (-1), p + 1) := by
    refine (rd_bind (rd_u1 h)).trans ?_
    rfl
  have k := rd_dec e
  rw [Nat.add_sub_cancel_left] at k
  exact k
set_option maxRecDepth 20000 in
theorem dec_3 {b : ByteArray} {p : Nat} (h : RD b p 3)  : decode b p = .ok (.iconst (0), 1) := by
  have e : ClassFile.Decoder.instr p b p = .ok (.iconst (0), p + 1) := by
    refine (rd_bind (rd_u1 h)).trans ?_
    rfl
  have k := rd_dec e
  rw [Nat.add_sub_cancel_left] at k
  exact k
set_option maxRecDepth 20000 in
theorem dec_4 {b : ByteArray} {p : Nat} (h : RD b p 4)  : decode b p = .ok (.iconst (1), 1) := by
  have e : ClassFile.Decoder.instr p b p = .ok (.iconst (1), p + 1) := by
    refine (rd_bind (rd_u1 h)).trans ?_
    rfl
  have k := rd_dec e
  rw [Nat.add_sub_cancel_left] at k
  exact k
set_option maxRecDepth 20000 in
theorem dec_5 {b : ByteArray} {p : Nat} (h : RD b p 5)  : decode b p = .ok (.iconst (2), 1) := by
  have e : ClassFile.Decoder.instr p b p = .ok (.iconst (2), p + 1) := by
    refine (rd_bind (rd_u1 h)).trans ?_
    rfl
  have k := rd_dec e
  rw [Nat.add_sub_cancel_left] at k
  exact k
set_option maxRecDepth 20000 in
theorem dec_6 {b : ByteArray} {p : Nat} (h : RD b p 6)  : decode b p = .ok (.iconst (3), 1) := by
  have e : ClassFile.Decoder.instr p b p = .ok (.iconst (3), p + 1) := by
    refine (rd_bind (rd_u1 h)).trans ?_
    rfl
  have k := rd_dec e
  rw [Nat.add_sub_cancel_left] at k
  exact k
set_option maxRecDepth 20000 in
theorem dec_7 {b : ByteArray} {p : Nat} (h : RD b p 7)  : decode b p = .ok (.iconst (4), 1) := by
  have e : ClassFile.Decoder.instr p b p = .ok (.iconst (4), p + 1) := by
    refine (rd_bind (rd_u1 h)).trans ?_
    rfl
  have k := rd_dec e
  rw [Nat.add_sub_cancel_left] at k
  exact k
set_option maxRecDepth 20000 in
theorem dec_8 {b : ByteArray} {p : Nat} (h : RD b p 8)  : decode b p = .ok (.iconst (5), 1) := by
  have e : ClassFile.Decoder.instr p b p = .ok (.iconst (5), p + 1) := by
    refine (rd_bind (rd_u1 h)).trans ?_
    rfl
  have k := rd_dec e
  rw [Nat.add_sub_cancel_left] at k
  exact k
set_option maxRecDepth 20000 in
theorem dec_9 {b : ByteArray} {p : Nat} (h : RD b p 9)  : decode b p = .ok (.lconst 0, 1) := by
  have e : ClassFile.Decoder.instr p b p = .ok (.lconst 0, p + 1) := by
    refine (rd_bind (rd_u1 h)).trans ?_
    rfl
  have k := rd_dec e
  rw [Nat.add_sub_cancel_left] at k
  exact k
set_option maxRecDepth 20000 in
theorem dec_10 {b : ByteArray} {p : Nat} (h : RD b p 10)  : decode b p = .ok (.lconst 1, 1) := by
  have e : ClassFile.Decoder.instr p b p = .ok (.lconst 1, p + 1) := by
    refine (rd_bind (rd_u1 h)).trans ?_
    rfl
  have k := rd_dec e
  rw [Nat.add_sub_cancel_left] at k
  exact k
set_option maxRecDepth 20000 in
theorem dec_14 {b : ByteArray} {p : Nat} (h : RD b p 14)  : decode b p = .ok (.dconst 0, 1) := by
  have e : ClassFile.Decoder.instr p b p = .ok (.dconst 0, p + 1) := by
    refine (rd_bind (rd_u1 h)).trans ?_
    rfl
  have k := rd_dec e
  rw [Nat.add_sub_cancel_left] at k
  exact k
set_option maxRecDepth 20000 in
theorem dec_15 {b : ByteArray} {p : Nat} (h : RD b p 15)  : decode b p = .ok (.dconst 1, 1) := by
  have e : ClassFile.Decoder.instr p b p = .ok (.dconst 1, p + 1) := by
    refine (rd_bind (rd_u1 h)).trans ?_
    rfl
  have k := rd_dec e
  rw [Nat.add_sub_cancel_left] at k
  exact k
set_option maxRecDepth 20000 in
theorem dec_26 {b : ByteArray} {p : Nat} (h : RD b p 26)  : decode b p = .ok (.iload_n 0, 1) := by
  have e : ClassFile.Decoder.instr p b p = .ok (.iload_n 0, p + 1) := by
    refine (rd_bind (rd_u1 h)).trans ?_
    rfl
  have k := rd_dec e
  rw [Nat.add_sub_cancel_left] at k
  exact k
set_option maxRecDepth 20000 in
theorem dec_27 {b : ByteArray} {p : Nat} (h : RD b p 27)  : decode b p = .ok (.iload_n 1, 1) := by
  have e : ClassFile.Decoder.instr p b p = .ok (.iload_n 1, p + 1) := by
    refine (rd_bind (rd_u1 h)).trans ?_
    rfl
  have k := rd_dec e
  rw [Nat.add_sub_cancel_left] at k
  exact k
set_option maxRecDepth 20000 in
theorem dec_28 {b : ByteArray} {p : Nat} (h : RD b p 28)  : decode b p = .ok (.iload_n 2, 1) := by
  have e : ClassFile.Decoder.instr p b p = .ok (.iload_n 2, p + 1) := by
    refine (rd_bind (rd_u1 h)).trans ?_
    rfl
  have k := rd_dec e
  rw [Nat.add_sub_cancel_left] at k
  exact k
set_option maxRecDepth 20000 in
theorem dec_29 {b : ByteArray} {p : Nat} (h : RD b p 29)  : decode b p = .ok (.iload_n 3, 1) := by
  have e : ClassFile.Decoder.instr p b p = .ok (.iload_n 3, p + 1) := by
    refine (rd_bind (rd_u1 h)).trans ?_
    rfl
  have k := rd_dec e
  rw [Nat.add_sub_cancel_left] at k
  exact k
set_option maxRecDepth 20000 in
theorem dec_30 {b : ByteArray} {p : Nat} (h : RD b p 30)  : decode b p = .ok (.lload_n 0, 1) := by
  have e : ClassFile.Decoder.instr p b p = .ok (.lload_n 0, p + 1) := by
    refine (rd_bind (rd_u1 h)).trans ?_
    rfl
  have k := rd_dec e
  rw [Nat.add_sub_cancel_left] at k
  exact k
set_option maxRecDepth 20000 in
theorem dec_31 {b : ByteArray} {p : Nat} (h : RD b p 31)  : decode b p = .ok (.lload_n 1, 1) := by
  have e : ClassFile.Decoder.instr p b p = .ok (.lload_n 1, p + 1) := by
    refine (rd_bind (rd_u1 h)).trans ?_
    rfl
  have k := rd_dec e
  rw [Nat.add_sub_cancel_left] at k
  exact k
set_option maxRecDepth 20000 in
theorem dec_32 {b : ByteArray} {p : Nat} (h : RD b p 32)  : decode b p = .ok (.lload_n 2, 1) := by
  have e : ClassFile.Decoder.instr p b p = .ok (.lload_n 2, p + 1) := by
    refine (rd_bind (rd_u1 h)).trans ?_
    rfl
  have k := rd_dec e
  rw [Nat.add_sub_cancel_left] at k
  exact k
set_option maxRecDepth 20000 in
theorem dec_33 {b : ByteArray} {p : Nat} (h : RD b p 33)  : decode b p = .ok (.lload_n 3, 1) := by
  have e : ClassFile.Decoder.instr p b p = .ok (.lload_n 3, p + 1) := by
    refine (rd_bind (rd_u1 h)).trans ?_
    rfl
  have k := rd_dec e
  rw [Nat.add_sub_cancel_left] at k
  exact k
set_option maxRecDepth 20000 in
theorem dec_38 {b : ByteArray} {p : Nat} (h : RD b p 38)  : decode b p = .ok (.dload_n 0, 1) := by
  have e : ClassFile.Decoder.instr p b p = .ok (.dload_n 0, p + 1) := by
    refine (rd_bind (rd_u1 h)).trans ?_
    rfl
  have k := rd_dec e
  rw [Nat.add_sub_cancel_left] at k
  exact k
set_option maxRecDepth 20000 in
theorem dec_39 {b : ByteArray} {p : Nat} (h : RD b p 39)  : decode b p = .ok (.dload_n 1, 1) := by
  have e : ClassFile.Decoder.instr p b p = .ok (.dload_n 1, p + 1) := by
    refine (rd_bind (rd_u1 h)).trans ?_
    rfl
  have k := rd_dec e
  rw [Nat.add_sub_cancel_left] at k
  exact k
set_option maxRecDepth 20000 in
theorem dec_40 {b : ByteArray} {p : Nat} (h : RD b p 40)  : decode b p = .ok (.dload_n 2, 1) := by
  have e : ClassFile.Decoder.instr p b p = .ok (.dload_n 2, p + 1) := by
    refine (rd_bind (rd_u1 h)).trans ?_
    rfl
  have k := rd_dec e
  rw [Nat.add_sub_cancel_left] at k
  exact k
set_option maxRecDepth 20000 in
theorem dec_41 {b : ByteArray} {p : Nat} (h : RD b p 41)  : decode b p = .ok (.dload_n 3, 1) := by
  have e : ClassFile.Decoder.instr p b p = .ok (.dload_n 3, p + 1) := by
    refine (rd_bind (rd_u1 h)).trans ?_
    rfl
  have k := rd_dec e
  rw [Nat.add_sub_cancel_left] at k
  exact k
set_option maxRecDepth 20000 in
theorem dec_42 {b : ByteArray} {p : Nat} (h : RD b p 42)  : decode b p = .ok (.aload_n 0, 1) := by
  have e : ClassFile.Decoder.instr p b p = .ok (.aload_n 0, p + 1) := by
    refine (rd_bind (rd_u1 h)).trans ?_
    rfl
  have k := rd_dec e
  rw [Nat.add_sub_cancel_left] at k
  exact k
set_option maxRecDepth 20000 in
theorem dec_43 {b : ByteArray} {p : Nat} (h : RD b p 43)  : decode b p = .ok (.aload_n 1, 1) := by
  have e : ClassFile.Decoder.instr p b p = .ok (.aload_n 1, p + 1) := by
    refine (rd_bind (rd_u1 h)).trans ?_
    rfl
  have k := rd_dec e
  rw [Nat.add_sub_cancel_left] at k
  exact k
set_option maxRecDepth 20000 in
theorem dec_44 {b : ByteArray} {p : Nat} (h : RD b p 44)  : decode b p = .ok (.aload_n 2, 1) := by
  have e : ClassFile.Decoder.instr p b p = .ok (.aload_n 2, p + 1) := by
    refine (rd_bind (rd_u1 h)).trans ?_
    rfl
  have k := rd_dec e
  rw [Nat.add_sub_cancel_left] at k
  exact k
set_option maxRecDepth 20000 in
theorem dec_45 {b : ByteArray} {p : Nat} (h : RD b p 45)  : decode b p = .ok (.aload_n 3, 1) := by
  have e : ClassFile.Decoder.instr p b p = .ok (.aload_n 3, p + 1) := by
    refine (rd_bind (rd_u1 h)).trans ?_
    rfl
  have k := rd_dec e
  rw [Nat.add_sub_cancel_left] at k
  exact k
set_option maxRecDepth 20000 in
theorem dec_46 {b : ByteArray} {p : Nat} (h : RD b p 46)  : decode b p = .ok (.iaload, 1) := by
  have e : ClassFile.Decoder.instr p b p = .ok (.iaload, p + 1) := by
    refine (rd_bind (rd_u1 h)).trans ?_
    rfl
  have k := rd_dec e
  rw [Nat.add_sub_cancel_left] at k
  exact k
set_option maxRecDepth 20000 in
theorem dec_47 {b : ByteArray} {p : Nat} (h : RD b p 47)  : decode b p = .ok (.laload, 1) := by
  have e : ClassFile.Decoder.instr p b p = .ok (.laload, p + 1) := by
    refine (rd_bind (rd_u1 h)).trans ?_
    rfl
  have k := rd_dec e
  rw [Nat.add_sub_cancel_left] at k
  exact k
set_option maxRecDepth 20000 in
theorem dec_50 {b : ByteArray} {p : Nat} (h : RD b p 50)  : decode b p = .ok (.aaload, 1) := by
  have e : ClassFile.Decoder.instr p b p = .ok (.aaload, p + 1) := by
    refine (rd_bind (rd_u1 h)).trans ?_
    rfl
  have k := rd_dec e
  rw [Nat.add_sub_cancel_left] at k
  exact k
set_option maxRecDepth 20000 in
theorem dec_51 {b : ByteArray} {p : Nat} (h : RD b p 51)  : decode b p = .ok (.baload, 1) := by
  have e : ClassFile.Decoder.instr p b p = .ok (.baload, p + 1) := by
    refine (rd_bind (rd_u1 h)).trans ?_
    rfl
  have k := rd_dec e
  rw [Nat.add_sub_cancel_left] at k
  exact k
set_option maxRecDepth 20000 in
theorem dec_59 {b : ByteArray} {p : Nat} (h : RD b p 59)  : decode b p = .ok (.istore_n 0, 1) := by
  have e : ClassFile.Decoder.instr p b p = .ok (.istore_n 0, p + 1) := by
    refine (rd_bind (rd_u1 h)).trans ?_
    rfl
  have k := rd_dec e
  rw [Nat.add_sub_cancel_left] at k
  exact k
set_option maxRecDepth 20000 in
theorem dec_60 {b : ByteArray} {p : Nat} (h : RD b p 60)  : decode b p = .ok (.istore_n 1, 1) := by
  have e : ClassFile.Decoder.instr p b p = .ok (.istore_n 1, p + 1) := by
    refine (rd_bind (rd_u1 h)).trans ?_
    rfl
  have k := rd_dec e
  rw [Nat.add_sub_cancel_left] at k
  exact k
set_option maxRecDepth 20000 in
theorem dec_61 {b : ByteArray} {p : Nat} (h : RD b p 61)  : decode b p = .ok (.istore_n 2, 1) := by
  have e : ClassFile.Decoder.instr p b p = .ok (.istore_n 2, p + 1) := by
    refine (rd_bind (rd_u1 h)).trans ?_
    rfl
  have k := rd_dec e
  rw [Nat.add_sub_cancel_left] at k
  exact k
set_option maxRecDepth 20000 in
theorem dec_62 {b : ByteArray} {p : Nat} (h : RD b p 62)  : decode b p = .ok (.istore_n 3, 1) := by
  have e : ClassFile.Decoder.instr p b p = .ok (.istore_n 3, p + 1) := by
    refine (rd_bind (rd_u1 h)).trans ?_
    rfl
  have k := rd_dec e
  rw [Nat.add_sub_cancel_left] at k
  exact k
set_option maxRecDepth 20000 in
theorem dec_63 {b : ByteArray} {p : Nat} (h : RD b p 63)  : decode b p = .ok (.lstore_n 0, 1) := by
  have e : ClassFile.Decoder.instr p b p = .ok (.lstore_n 0, p + 1) := by
    refine (rd_bind (rd_u1 h)).trans ?_
    rfl
  have k := rd_dec e
  rw [Nat.add_sub_cancel_left] at k
  exact k
set_option maxRecDepth 20000 in
theorem dec_64 {b : ByteArray} {p : Nat} (h : RD b p 64)  : decode b p = .ok (.lstore_n 1, 1) := by
  have e : ClassFile.Decoder.instr p b p = .ok (.lstore_n 1, p + 1) := by
    refine (rd_bind (rd_u1 h)).trans ?_
    rfl
  have k := rd_dec e
  rw [Nat.add_sub_cancel_left] at k
  exact k
set_option maxRecDepth 20000 in
theorem dec_65 {b : ByteArray} {p : Nat} (h : RD b p 65)  : decode b p = .ok (.lstore_n 2, 1) := by
  have e : ClassFile.Decoder.instr p b p = .ok (.lstore_n 2, p + 1) := by
    refine (rd_bind (rd_u1 h)).trans ?_
    rfl
  have k := rd_dec e
  rw [Nat.add_sub_cancel_left] at k
  exact k
set_option maxRecDepth 20000 in
theorem dec_66 {b : ByteArray} {p : Nat} (h : RD b p 66)  : decode b p = .ok (.lstore_n 3, 1) := by
  have e : ClassFile.Decoder.instr p b p = .ok (.lstore_n 3, p + 1) := by
    refine (rd_bind (rd_u1 h)).trans ?_
    rfl
  have k := rd_dec e
  rw [Nat.add_sub_cancel_left] at k
  exact k
set_option maxRecDepth 20000 in
theorem dec_71 {b : ByteArray} {p : Nat} (h : RD b p 71)  : decode b p = .ok (.dstore_n 0, 1) := by
  have e : ClassFile.Decoder.instr p b p = .ok (.dstore_n 0, p + 1) := by
    refine (rd_bind (rd_u1 h)).trans ?_
    rfl
  have k := rd_dec e
  rw [Nat.add_sub_cancel_left] at k
  exact k
set_option maxRecDepth 20000 in
theorem dec_72 {b : ByteArray} {p : Nat} (h : RD b p 72)  : decode b p = .ok (.dstore_n 1, 1) := by
  have e : ClassFile.Decoder.instr p b p = .ok (.dstore_n 1, p + 1) := by
    refine (rd_bind (rd_u1 h)).trans ?_
    rfl
  have k := rd_dec e
  rw [Nat.add_sub_cancel_left] at k
  exact k
set_option maxRecDepth 20000 in
theorem dec_73 {b : ByteArray} {p : Nat} (h : RD b p 73)  : decode b p = .ok (.dstore_n 2, 1) := by
  have e : ClassFile.Decoder.instr p b p = .ok (.dstore_n 2, p + 1) := by
    refine (rd_bind (rd_u1 h)).trans ?_
    rfl
  have k := rd_dec e
  rw [Nat.add_sub_cancel_left] at k
  exact k
set_option maxRecDepth 20000 in
theorem dec_74 {b : ByteArray} {p : Nat} (h : RD b p 74)  : decode b p = .ok (.dstore_n 3, 1) := by
  have e : ClassFile.Decoder.instr p b p = .ok (.dstore_n 3, p + 1) := by
    refine (rd_bind (rd_u1 h)).trans ?_
    rfl
  have k := rd_dec e
  rw [Nat.add_sub_cancel_left] at k
  exact k
set_option maxRecDepth 20000 in
theorem dec_75 {b : ByteArray} {p : Nat} (h : RD b p 75)  : decode b p = .ok (.astore_n 0, 1) := by
  have e : ClassFile.Decoder.instr p b p = .ok (.astore_n 0, p + 1) := by
    refine (rd_bind (rd_u1 h)).trans ?_
    rfl
  have k := rd_dec e
  rw [Nat.add_sub_cancel_left] at k
  exact k
set_option maxRecDepth 20000 in
theorem dec_76 {b : ByteArray} {p : Nat} (h : RD b p 76)  : decode b p = .ok (.astore_n 1, 1) := by
  have e : ClassFile.Decoder.instr p b p = .ok (.astore_n 1, p + 1) := by
    refine (rd_bind (rd_u1 h)).trans ?_
    rfl
  have k := rd_dec e
  rw [Nat.add_sub_cancel_left] at k
  exact k
set_option maxRecDepth 20000 in
theorem dec_77 {b : ByteArray} {p : Nat} (h : RD b p 77)  : decode b p = .ok (.astore_n 2, 1) := by
  have e : ClassFile.Decoder.instr p b p = .ok (.astore_n 2, p + 1) := by
    refine (rd_bind (rd_u1 h)).trans ?_
    rfl
  have k := rd_dec e
  rw [Nat.add_sub_cancel_left] at k
  exact k
set_option maxRecDepth 20000 in
theorem dec_78 {b : ByteArray} {p : Nat} (h : RD b p 78)  : decode b p = .ok (.astore_n 3, 1) := by
  have e : ClassFile.Decoder.instr p b p = .ok (.astore_n 3, p + 1) := by
    refine (rd_bind (rd_u1 h)).trans ?_
    rfl
  have k := rd_dec e
  rw [Nat.add_sub_cancel_left] at k
  exact k
set_option maxRecDepth 20000 in
theorem dec_79 {b : ByteArray} {p : Nat} (h : RD b p 79)  : decode b p = .ok (.iastore, 1) := by
  have e : ClassFile.Decoder.instr p b p = .ok (.iastore, p + 1) := by
    refine (rd_bind (rd_u1 h)).trans ?_
    rfl
  have k := rd_dec e
  rw [Nat.add_sub_cancel_left] at k
  exact k
set_option maxRecDepth 20000 in
theorem dec_80 {b : ByteArray} {p : Nat} (h : RD b p 80)  : decode b p = .ok (.lastore, 1) := by
  have e : ClassFile.Decoder.instr p b p = .ok (.lastore, p + 1) := by
    refine (rd_bind (rd_u1 h)).trans ?_
    rfl
  have k := rd_dec e
  rw [Nat.add_sub_cancel_left] at k
  exact k
set_option maxRecDepth 20000 in
theorem dec_83 {b : ByteArray} {p : Nat} (h : RD b p 83)  : decode b p = .ok (.aastore, 1) := by
  have e : ClassFile.Decoder.instr p b p = .ok (.aastore, p + 1) := by
    refine (rd_bind (rd_u1 h)).trans ?_
    rfl
  have k := rd_dec e
  rw [Nat.add_sub_cancel_left] at k
  exact k
set_option maxRecDepth 20000 in
theorem dec_84 {b : ByteArray} {p : Nat} (h : RD b p 84)  : decode b p = .ok (.bastore, 1) := by
  have e : ClassFile.Decoder.instr p b p = .ok (.bastore, p + 1) := by
    refine (rd_bind (rd_u1 h)).trans ?_
    rfl
  have k := rd_dec e
  rw [Nat.add_sub_cancel_left] at k
  exact k
set_option maxRecDepth 20000 in
theorem dec_87 {b : ByteArray} {p : Nat} (h : RD b p 87)  : decode b p = .ok (.pop, 1) := by
  have e : ClassFile.Decoder.instr p b p = .ok (.pop, p + 1) := by
    refine (rd_bind (rd_u1 h)).trans ?_
    rfl
  have k := rd_dec e
  rw [Nat.add_sub_cancel_left] at k
  exact k
set_option maxRecDepth 20000 in
theorem dec_89 {b : ByteArray} {p : Nat} (h : RD b p 89)  : decode b p = .ok (.dup, 1) := by
  have e : ClassFile.Decoder.instr p b p = .ok (.dup, p + 1) := by
    refine (rd_bind (rd_u1 h)).trans ?_
    rfl
  have k := rd_dec e
  rw [Nat.add_sub_cancel_left] at k
  exact k
set_option maxRecDepth 20000 in
theorem dec_92 {b : ByteArray} {p : Nat} (h : RD b p 92)  : decode b p = .ok (.dup2, 1) := by
  have e : ClassFile.Decoder.instr p b p = .ok (.dup2, p + 1) := by
    refine (rd_bind (rd_u1 h)).trans ?_
    rfl
  have k := rd_dec e
  rw [Nat.add_sub_cancel_left] at k
  exact k
set_option maxRecDepth 20000 in
theorem dec_96 {b : ByteArray} {p : Nat} (h : RD b p 96)  : decode b p = .ok (.iadd, 1) := by
  have e : ClassFile.Decoder.instr p b p = .ok (.iadd, p + 1) := by
    refine (rd_bind (rd_u1 h)).trans ?_
    rfl
  have k := rd_dec e
  rw [Nat.add_sub_cancel_left] at k
  exact k
set_option maxRecDepth 20000 in
theorem dec_97 {b : ByteArray} {p : Nat} (h : RD b p 97)  : decode b p = .ok (.ladd, 1) := by
  have e : ClassFile.Decoder.instr p b p = .ok (.ladd, p + 1) := by
    refine (rd_bind (rd_u1 h)).trans ?_
    rfl
  have k := rd_dec e
  rw [Nat.add_sub_cancel_left] at k
  exact k
set_option maxRecDepth 20000 in
theorem dec_100 {b : ByteArray} {p : Nat} (h : RD b p 100)  : decode b p = .ok (.isub, 1) := by
  have e : ClassFile.Decoder.instr p b p = .ok (.isub, p + 1) := by
    refine (rd_bind (rd_u1 h)).trans ?_
    rfl
  have k := rd_dec e
  rw [Nat.add_sub_cancel_left] at k
  exact k
set_option maxRecDepth 20000 in
theorem dec_101 {b : ByteArray} {p : Nat} (h : RD b p 101)  : decode b p = .ok (.lsub, 1) := by
  have e : ClassFile.Decoder.instr p b p = .ok (.lsub, p + 1) := by
    refine (rd_bind (rd_u1 h)).trans ?_
    rfl
  have k := rd_dec e
  rw [Nat.add_sub_cancel_left] at k
  exact k
set_option maxRecDepth 20000 in
theorem dec_104 {b : ByteArray} {p : Nat} (h : RD b p 104)  : decode b p = .ok (.imul, 1) := by
  have e : ClassFile.Decoder.instr p b p = .ok (.imul, p + 1) := by
    refine (rd_bind (rd_u1 h)).trans ?_
    rfl
  have k := rd_dec e
  rw [Nat.add_sub_cancel_left] at k
  exact k
set_option maxRecDepth 20000 in
theorem dec_105 {b : ByteArray} {p : Nat} (h : RD b p 105)  : decode b p = .ok (.lmul, 1) := by
  have e : ClassFile.Decoder.instr p b p = .ok (.lmul, p + 1) := by
    refine (rd_bind (rd_u1 h)).trans ?_
    rfl
  have k := rd_dec e
  rw [Nat.add_sub_cancel_left] at k
  exact k
set_option maxRecDepth 20000 in
theorem dec_108 {b : ByteArray} {p : Nat} (h : RD b p 108)  : decode b p = .ok (.idiv, 1) := by
  have e : ClassFile.Decoder.instr p b p = .ok (.idiv, p + 1) := by
    refine (rd_bind (rd_u1 h)).trans ?_
    rfl
  have k := rd_dec e
  rw [Nat.add_sub_cancel_left] at k
  exact k
set_option maxRecDepth 20000 in
theorem dec_111 {b : ByteArray} {p : Nat} (h : RD b p 111)  : decode b p = .ok (.ddiv, 1) := by
  have e : ClassFile.Decoder.instr p b p = .ok (.ddiv, p + 1) := by
    refine (rd_bind (rd_u1 h)).trans ?_
    rfl
  have k := rd_dec e
  rw [Nat.add_sub_cancel_left] at k
  exact k
set_option maxRecDepth 20000 in
theorem dec_112 {b : ByteArray} {p : Nat} (h : RD b p 112)  : decode b p = .ok (.irem, 1) := by
  have e : ClassFile.Decoder.instr p b p = .ok (.irem, p + 1) := by
    refine (rd_bind (rd_u1 h)).trans ?_
    rfl
  have k := rd_dec e
  rw [Nat.add_sub_cancel_left] at k
  exact k
set_option maxRecDepth 20000 in
theorem dec_120 {b : ByteArray} {p : Nat} (h : RD b p 120)  : decode b p = .ok (.ishl, 1) := by
  have e : ClassFile.Decoder.instr p b p = .ok (.ishl, p + 1) := by
    refine (rd_bind (rd_u1 h)).trans ?_
    rfl
  have k := rd_dec e
  rw [Nat.add_sub_cancel_left] at k
  exact k
set_option maxRecDepth 20000 in
theorem dec_121 {b : ByteArray} {p : Nat} (h : RD b p 121)  : decode b p = .ok (.lshl, 1) := by
  have e : ClassFile.Decoder.instr p b p = .ok (.lshl, p + 1) := by
    refine (rd_bind (rd_u1 h)).trans ?_
    rfl
  have k := rd_dec e
  rw [Nat.add_sub_cancel_left] at k
  exact k
set_option maxRecDepth 20000 in
theorem dec_122 {b : ByteArray} {p : Nat} (h : RD b p 122)  : decode b p = .ok (.ishr, 1) := by
  have e : ClassFile.Decoder.instr p b p = .ok (.ishr, p + 1) := by
    refine (rd_bind (rd_u1 h)).trans ?_
    rfl
  have k := rd_dec e
  rw [Nat.add_sub_cancel_left] at k
  exact k
set_option maxRecDepth 20000 in
theorem dec_124 {b : ByteArray} {p : Nat} (h : RD b p 124)  : decode b p = .ok (.iushr, 1) := by
  have e : ClassFile.Decoder.instr p b p = .ok (.iushr, p + 1) := by
    refine (rd_bind (rd_u1 h)).trans ?_
    rfl
  have k := rd_dec e
  rw [Nat.add_sub_cancel_left] at k
  exact k
set_option maxRecDepth 20000 in
theorem dec_125 {b : ByteArray} {p : Nat} (h : RD b p 125)  : decode b p = .ok (.lushr, 1) := by
  have e : ClassFile.Decoder.instr p b p = .ok (.lushr, p + 1) := by
    refine (rd_bind (rd_u1 h)).trans ?_
    rfl
  have k := rd_dec e
  rw [Nat.add_sub_cancel_left] at k
  exact k
set_option maxRecDepth 20000 in
theorem dec_126 {b : ByteArray} {p : Nat} (h : RD b p 126)  : decode b p = .ok (.iand, 1) := by
  have e : ClassFile.Decoder.instr p b p = .ok (.iand, p + 1) := by
    refine (rd_bind (rd_u1 h)).trans ?_
    rfl
  have k := rd_dec e
  rw [Nat.add_sub_cancel_left] at k
  exact k
set_option maxRecDepth 20000 in
theorem dec_127 {b : ByteArray} {p : Nat} (h : RD b p 127)  : decode b p = .ok (.land, 1) := by
  have e : ClassFile.Decoder.instr p b p = .ok (.land, p + 1) := by
    refine (rd_bind (rd_u1 h)).trans ?_
    rfl
  have k := rd_dec e
  rw [Nat.add_sub_cancel_left] at k
  exact k
set_option maxRecDepth 20000 in
theorem dec_128 {b : ByteArray} {p : Nat} (h : RD b p 128)  : decode b p = .ok (.ior, 1) := by
  have e : ClassFile.Decoder.instr p b p = .ok (.ior, p + 1) := by
    refine (rd_bind (rd_u1 h)).trans ?_
    rfl
  have k := rd_dec e
  rw [Nat.add_sub_cancel_left] at k
  exact k
set_option maxRecDepth 20000 in
theorem dec_129 {b : ByteArray} {p : Nat} (h : RD b p 129)  : decode b p = .ok (.lor, 1) := by
  have e : ClassFile.Decoder.instr p b p = .ok (.lor, p + 1) := by
    refine (rd_bind (rd_u1 h)).trans ?_
    rfl
  have k := rd_dec e
  rw [Nat.add_sub_cancel_left] at k
  exact k
set_option maxRecDepth 20000 in
theorem dec_131 {b : ByteArray} {p : Nat} (h : RD b p 131)  : decode b p = .ok (.lxor, 1) := by
  have e : ClassFile.Decoder.instr p b p = .ok (.lxor, p + 1) := by
    refine (rd_bind (rd_u1 h)).trans ?_
    rfl
  have k := rd_dec e
  rw [Nat.add_sub_cancel_left] at k
  exact k
set_option maxRecDepth 20000 in
theorem dec_133 {b : ByteArray} {p : Nat} (h : RD b p 133)  : decode b p = .ok (.i2l, 1) := by
  have e : ClassFile.Decoder.instr p b p = .ok (.i2l, p + 1) := by
    refine (rd_bind (rd_u1 h)).trans ?_
    rfl
  have k := rd_dec e
  rw [Nat.add_sub_cancel_left] at k
  exact k
set_option maxRecDepth 20000 in
theorem dec_135 {b : ByteArray} {p : Nat} (h : RD b p 135)  : decode b p = .ok (.i2d, 1) := by
  have e : ClassFile.Decoder.instr p b p = .ok (.i2d, p + 1) := by
    refine (rd_bind (rd_u1 h)).trans ?_
    rfl
  have k := rd_dec e
  rw [Nat.add_sub_cancel_left] at k
  exact k
set_option maxRecDepth 20000 in
theorem dec_136 {b : ByteArray} {p : Nat} (h : RD b p 136)  : decode b p = .ok (.l2i, 1) := by
  have e : ClassFile.Decoder.instr p b p = .ok (.l2i, p + 1) := by
    refine (rd_bind (rd_u1 h)).trans ?_
    rfl
  have k := rd_dec e
  rw [Nat.add_sub_cancel_left] at k
  exact k
set_option maxRecDepth 20000 in
theorem dec_145 {b : ByteArray} {p : Nat} (h : RD b p 145)  : decode b p = .ok (.i2b, 1) := by
  have e : ClassFile.Decoder.instr p b p = .ok (.i2b, p + 1) := by
    refine (rd_bind (rd_u1 h)).trans ?_
    rfl
  have k := rd_dec e
  rw [Nat.add_sub_cancel_left] at k
  exact k
set_option maxRecDepth 20000 in
theorem dec_148 {b : ByteArray} {p : Nat} (h : RD b p 148)  : decode b p = .ok (.lcmp, 1) := by
  have e : ClassFile.Decoder.instr p b p = .ok (.lcmp, p + 1) := by
    refine (rd_bind (rd_u1 h)).trans ?_
    rfl
  have k := rd_dec e
  rw [Nat.add_sub_cancel_left] at k
  exact k
set_option maxRecDepth 20000 in
theorem dec_151 {b : ByteArray} {p : Nat} (h : RD b p 151)  : decode b p = .ok (.dcmp .l, 1) := by
  have e : ClassFile.Decoder.instr p b p = .ok (.dcmp .l, p + 1) := by
    refine (rd_bind (rd_u1 h)).trans ?_
    rfl
  have k := rd_dec e
  rw [Nat.add_sub_cancel_left] at k
  exact k
set_option maxRecDepth 20000 in
theorem dec_152 {b : ByteArray} {p : Nat} (h : RD b p 152)  : decode b p = .ok (.dcmp .g, 1) := by
  have e : ClassFile.Decoder.instr p b p = .ok (.dcmp .g, p + 1) := by
    refine (rd_bind (rd_u1 h)).trans ?_
    rfl
  have k := rd_dec e
  rw [Nat.add_sub_cancel_left] at k
  exact k
set_option maxRecDepth 20000 in
theorem dec_172 {b : ByteArray} {p : Nat} (h : RD b p 172)  : decode b p = .ok (.ireturn, 1) := by
  have e : ClassFile.Decoder.instr p b p = .ok (.ireturn, p + 1) := by
    refine (rd_bind (rd_u1 h)).trans ?_
    rfl
  have k := rd_dec e
  rw [Nat.add_sub_cancel_left] at k
  exact k
set_option maxRecDepth 20000 in
theorem dec_173 {b : ByteArray} {p : Nat} (h : RD b p 173)  : decode b p = .ok (.lreturn, 1) := by
  have e : ClassFile.Decoder.instr p b p = .ok (.lreturn, p + 1) := by
    refine (rd_bind (rd_u1 h)).trans ?_
    rfl
  have k := rd_dec e
  rw [Nat.add_sub_cancel_left] at k
  exact k
set_option maxRecDepth 20000 in
theorem dec_175 {b : ByteArray} {p : Nat} (h : RD b p 175)  : decode b p = .ok (.dreturn, 1) := by
  have e : ClassFile.Decoder.instr p b p = .ok (.dreturn, p + 1) := by
    refine (rd_bind (rd_u1 h)).trans ?_
    rfl
  have k := rd_dec e
  rw [Nat.add_sub_cancel_left] at k
  exact k
set_option maxRecDepth 20000 in
theorem dec_177 {b : ByteArray} {p : Nat} (h : RD b p 177)  : decode b p = .ok (.return_, 1) := by
  have e : ClassFile.Decoder.instr p b p = .ok (.return_, p + 1) := by
    refine (rd_bind (rd_u1 h)).trans ?_
    rfl
  have k := rd_dec e
  rw [Nat.add_sub_cancel_left] at k
  exact k
set_option maxRecDepth 20000 in
theorem dec_190 {b : ByteArray} {p : Nat} (h : RD b p 190)  : decode b p = .ok (.arraylength, 1) := by
  have e : ClassFile.Decoder.instr p b p = .ok (.arraylength, p + 1) := by
    refine (rd_bind (rd_u1 h)).trans ?_
    rfl
  have k := rd_dec e
  rw [Nat.add_sub_cancel_left] at k
  exact k
set_option maxRecDepth 20000 in
theorem dec_191 {b : ByteArray} {p : Nat} (h : RD b p 191)  : decode b p = .ok (.athrow, 1) := by
  have e : ClassFile.Decoder.instr p b p = .ok (.athrow, p + 1) := by
    refine (rd_bind (rd_u1 h)).trans ?_
    rfl
  have k := rd_dec e
  rw [Nat.add_sub_cancel_left] at k
  exact k
set_option maxRecDepth 20000 in
theorem dec_18 {b : ByteArray} {p : Nat} {x1 : UInt8} (h : RD b p 18) (h1 : RD b (p + 1) x1) : decode b p = .ok (.ldc x1.toNat, 2) := by
  have e : ClassFile.Decoder.instr p b p = .ok (.ldc x1.toNat, p + 2) := by
    refine (rd_bind (rd_u1 h)).trans ?_
    refine (rd_bind (r := ClassFile.Reader.u1) (rd_u1 h1)).trans ?_
    rfl
  have k := rd_dec e
  rw [Nat.add_sub_cancel_left] at k
  exact k
set_option maxRecDepth 20000 in
theorem dec_21 {b : ByteArray} {p : Nat} {x1 : UInt8} (h : RD b p 21) (h1 : RD b (p + 1) x1) : decode b p = .ok (.iload x1.toNat, 2) := by
  have e : ClassFile.Decoder.instr p b p = .ok (.iload x1.toNat, p + 2) := by
    refine (rd_bind (rd_u1 h)).trans ?_
    refine (rd_bind (r := ClassFile.Reader.u1) (rd_u1 h1)).trans ?_
    rfl
  have k := rd_dec e
  rw [Nat.add_sub_cancel_left] at k
  exact k
set_option maxRecDepth 20000 in
theorem dec_22 {b : ByteArray} {p : Nat} {x1 : UInt8} (h : RD b p 22) (h1 : RD b (p + 1) x1) : decode b p = .ok (.lload x1.toNat, 2) := by
  have e : ClassFile.Decoder.instr p b p = .ok (.lload x1.toNat, p + 2) := by
    refine (rd_bind (rd_u1 h)).trans ?_
    refine (rd_bind (r := ClassFile.Reader.u1) (rd_u1 h1)).trans ?_
    rfl
  have k := rd_dec e
  rw [Nat.add_sub_cancel_left] at k
  exact k
set_option maxRecDepth 20000 in
theorem dec_24 {b : ByteArray} {p : Nat} {x1 : UInt8} (h : RD b p 24) (h1 : RD b (p + 1) x1) : decode b p = .ok (.dload x1.toNat, 2) := by
  have e : ClassFile.Decoder.instr p b p = .ok (.dload x1.toNat, p + 2) := by
    refine (rd_bind (rd_u1 h)).trans ?_
    refine (rd_bind (r := ClassFile.Reader.u1) (rd_u1 h1)).trans ?_
    rfl
  have k := rd_dec e
  rw [Nat.add_sub_cancel_left] at k
  exact k
set_option maxRecDepth 20000 in
theorem dec_25 {b : ByteArray} {p : Nat} {x1 : UInt8} (h : RD b p 25) (h1 : RD b (p + 1) x1) : decode b p = .ok (.aload x1.toNat, 2) := by
  have e : ClassFile.Decoder.instr p b p = .ok (.aload x1.toNat, p + 2) := by
    refine (rd_bind (rd_u1 h)).trans ?_
    refine (rd_bind (r := ClassFile.Reader.u1) (rd_u1 h1)).trans ?_
    rfl
  have k := rd_dec e
  rw [Nat.add_sub_cancel_left] at k
  exact k
set_option maxRecDepth 20000 in
theorem dec_54 {b : ByteArray} {p : Nat} {x1 : UInt8} (h : RD b p 54) (h1 : RD b (p + 1) x1) : decode b p = .ok (.istore x1.toNat, 2) := by
  have e : ClassFile.Decoder.instr p b p = .ok (.istore x1.toNat, p + 2) := by
    refine (rd_bind (rd_u1 h)).trans ?_
    refine (rd_bind (r := ClassFile.Reader.u1) (rd_u1 h1)).trans ?_
    rfl
  have k := rd_dec e
  rw [Nat.add_sub_cancel_left] at k
  exact k
set_option maxRecDepth 20000 in
theorem dec_55 {b : ByteArray} {p : Nat} {x1 : UInt8} (h : RD b p 55) (h1 : RD b (p + 1) x1) : decode b p = .ok (.lstore x1.toNat, 2) := by
  have e : ClassFile.Decoder.instr p b p = .ok (.lstore x1.toNat, p + 2) := by
    refine (rd_bind (rd_u1 h)).trans ?_
    refine (rd_bind (r := ClassFile.Reader.u1) (rd_u1 h1)).trans ?_
    rfl
  have k := rd_dec e
  rw [Nat.add_sub_cancel_left] at k
  exact k
set_option maxRecDepth 20000 in
theorem dec_57 {b : ByteArray} {p : Nat} {x1 : UInt8} (h : RD b p 57) (h1 : RD b (p + 1) x1) : decode b p = .ok (.dstore x1.toNat, 2) := by
  have e : ClassFile.Decoder.instr p b p = .ok (.dstore x1.toNat, p + 2) := by
    refine (rd_bind (rd_u1 h)).trans ?_
    refine (rd_bind (r := ClassFile.Reader.u1) (rd_u1 h1)).trans ?_
    rfl
  have k := rd_dec e
  rw [Nat.add_sub_cancel_left] at k
  exact k
set_option maxRecDepth 20000 in
theorem dec_58 {b : ByteArray} {p : Nat} {x1 : UInt8} (h : RD b p 58) (h1 : RD b (p + 1) x1) : decode b p = .ok (.astore x1.toNat, 2) := by
  have e : ClassFile.Decoder.instr p b p = .ok (.astore x1.toNat, p + 2) := by
    refine (rd_bind (rd_u1 h)).trans ?_
    refine (rd_bind (r := ClassFile.Reader.u1) (rd_u1 h1)).trans ?_
    rfl
  have k := rd_dec e
  rw [Nat.add_sub_cancel_left] at k
  exact k
set_option maxRecDepth 20000 in
theorem dec_16 {b : ByteArray} {p : Nat} {x1 : UInt8} (h : RD b p 16) (h1 : RD b (p + 1) x1) : decode b p = .ok (.bipush (ClassFile.Reader.signed 8 x1.toNat), 2) := by
  have e : ClassFile.Decoder.instr p b p = .ok (.bipush (ClassFile.Reader.signed 8 x1.toNat), p + 2) := by
    refine (rd_bind (rd_u1 h)).trans ?_
    refine (rd_bind (r := ClassFile.Reader.s1) (rd_s1 h1)).trans ?_
    rfl
  have k := rd_dec e
  rw [Nat.add_sub_cancel_left] at k
  exact k
set_option maxRecDepth 20000 in
theorem dec_19 {b : ByteArray} {p : Nat} {x1 x2 : UInt8} (h : RD b p 19) (h1 : RD b (p + 1) x1) (h2 : RD b (p + 2) x2) : decode b p = .ok (.ldc_w (x1.toNat * 256 + x2.toNat), 3) := by
  have e : ClassFile.Decoder.instr p b p = .ok (.ldc_w (x1.toNat * 256 + x2.toNat), p + 3) := by
    refine (rd_bind (rd_u1 h)).trans ?_
    refine (rd_bind (r := ClassFile.Reader.u2) (rd_u2 h1 h2)).trans ?_
    rfl
  have k := rd_dec e
  rw [Nat.add_sub_cancel_left] at k
  exact k
set_option maxRecDepth 20000 in
theorem dec_20 {b : ByteArray} {p : Nat} {x1 x2 : UInt8} (h : RD b p 20) (h1 : RD b (p + 1) x1) (h2 : RD b (p + 2) x2) : decode b p = .ok (.ldc2_w (x1.toNat * 256 + x2.toNat), 3) := by
  have e : ClassFile.Decoder.instr p b p = .ok (.ldc2_w (x1.toNat * 256 + x2.toNat), p + 3) := by
    refine (rd_bind (rd_u1 h)).trans ?_
    refine (rd_bind (r := ClassFile.Reader.u2) (rd_u2 h1 h2)).trans ?_
    rfl
  have k := rd_dec e
  rw [Nat.add_sub_cancel_left] at k
  exact k
set_option maxRecDepth 20000 in
theorem dec_178 {b : ByteArray} {p : Nat} {x1 x2 : UInt8} (h : RD b p 178) (h1 : RD b (p + 1) x1) (h2 : RD b (p + 2) x2) : decode b p = .ok (.getstatic (x1.toNat * 256 + x2.toNat), 3) := by
  have e : ClassFile.Decoder.instr p b p = .ok (.getstatic (x1.toNat * 256 + x2.toNat), p + 3) := by
    refine (rd_bind (rd_u1 h)).trans ?_
    refine (rd_bind (r := ClassFile.Reader.u2) (rd_u2 h1 h2)).trans ?_
    rfl
  have k := rd_dec e
  rw [Nat.add_sub_cancel_left] at k
  exact k
set_option maxRecDepth 20000 in
theorem dec_180 {b : ByteArray} {p : Nat} {x1 x2 : UInt8} (h : RD b p 180) (h1 : RD b (p + 1) x1) (h2 : RD b (p + 2) x2) : decode b p = .ok (.getfield (x1.toNat * 256 + x2.toNat), 3) := by
  have e : ClassFile.Decoder.instr p b p = .ok (.getfield (x1.toNat * 256 + x2.toNat), p + 3) := by
    refine (rd_bind (rd_u1 h)).trans ?_
    refine (rd_bind (r := ClassFile.Reader.u2) (rd_u2 h1 h2)).trans ?_
    rfl
  have k := rd_dec e
  rw [Nat.add_sub_cancel_left] at k
  exact k
set_option maxRecDepth 20000 in
theorem dec_181 {b : ByteArray} {p : Nat} {x1 x2 : UInt8} (h : RD b p 181) (h1 : RD b (p + 1) x1) (h2 : RD b (p + 2) x2) : decode b p = .ok (.putfield (x1.toNat * 256 + x2.toNat), 3) := by
  have e : ClassFile.Decoder.instr p b p = .ok (.putfield (x1.toNat * 256 + x2.toNat), p + 3) := by
    refine (rd_bind (rd_u1 h)).trans ?_
    refine (rd_bind (r := ClassFile.Reader.u2) (rd_u2 h1 h2)).trans ?_
    rfl
  have k := rd_dec e
  rw [Nat.add_sub_cancel_left] at k
  exact k
set_option maxRecDepth 20000 in
theorem dec_182 {b : ByteArray} {p : Nat} {x1 x2 : UInt8} (h : RD b p 182) (h1 : RD b (p + 1) x1) (h2 : RD b (p + 2) x2) : decode b p = .ok (.invokevirtual (x1.toNat * 256 + x2.toNat), 3) := by
  have e : ClassFile.Decoder.instr p b p = .ok (.invokevirtual (x1.toNat * 256 + x2.toNat), p + 3) := by
    refine (rd_bind (rd_u1 h)).trans ?_
    refine (rd_bind (r := ClassFile.Reader.u2) (rd_u2 h1 h2)).trans ?_
    rfl
  have k := rd_dec e
  rw [Nat.add_sub_cancel_left] at k
  exact k
set_option maxRecDepth 20000 in
theorem dec_183 {b : ByteArray} {p : Nat} {x1 x2 : UInt8} (h : RD b p 183) (h1 : RD b (p + 1) x1) (h2 : RD b (p + 2) x2) : decode b p = .ok (.invokespecial (x1.toNat * 256 + x2.toNat), 3) := by
  have e : ClassFile.Decoder.instr p b p = .ok (.invokespecial (x1.toNat * 256 + x2.toNat), p + 3) := by
    refine (rd_bind (rd_u1 h)).trans ?_
    refine (rd_bind (r := ClassFile.Reader.u2) (rd_u2 h1 h2)).trans ?_
    rfl
  have k := rd_dec e
  rw [Nat.add_sub_cancel_left] at k
  exact k
set_option maxRecDepth 20000 in
theorem dec_184 {b : ByteArray} {p : Nat} {x1 x2 : UInt8} (h : RD b p 184) (h1 : RD b (p + 1) x1) (h2 : RD b (p + 2) x2) : decode b p = .ok (.invokestatic (x1.toNat * 256 + x2.toNat), 3) := by
  have e : ClassFile.Decoder.instr p b p = .ok (.invokestatic (x1.toNat * 256 + x2.toNat), p + 3) := by
    refine (rd_bind (rd_u1 h)).trans ?_
    refine (rd_bind (r := ClassFile.Reader.u2) (rd_u2 h1 h2)).trans ?_
    rfl
  have k := rd_dec e
  rw [Nat.add_sub_cancel_left] at k
  exact k
set_option maxRecDepth 20000 in
theorem dec_187 {b : ByteArray} {p : Nat} {x1 x2 : UInt8} (h : RD b p 187) (h1 : RD b (p + 1) x1) (h2 : RD b (p + 2) x2) : decode b p = .ok (.new (x1.toNat * 256 + x2.toNat), 3) := by
  have e : ClassFile.Decoder.instr p b p = .ok (.new (x1.toNat * 256 + x2.toNat), p + 3) := by
    refine (rd_bind (rd_u1 h)).trans ?_
    refine (rd_bind (r := ClassFile.Reader.u2) (rd_u2 h1 h2)).trans ?_
    rfl
  have k := rd_dec e
  rw [Nat.add_sub_cancel_left] at k
  exact k
set_option maxRecDepth 20000 in
theorem dec_189 {b : ByteArray} {p : Nat} {x1 x2 : UInt8} (h : RD b p 189) (h1 : RD b (p + 1) x1) (h2 : RD b (p + 2) x2) : decode b p = .ok (.anewarray (x1.toNat * 256 + x2.toNat), 3) := by
  have e : ClassFile.Decoder.instr p b p = .ok (.anewarray (x1.toNat * 256 + x2.toNat), p + 3) := by
    refine (rd_bind (rd_u1 h)).trans ?_
    refine (rd_bind (r := ClassFile.Reader.u2) (rd_u2 h1 h2)).trans ?_
    rfl
  have k := rd_dec e
  rw [Nat.add_sub_cancel_left] at k
  exact k
set_option maxRecDepth 20000 in
theorem dec_17 {b : ByteArray} {p : Nat} {x1 x2 : UInt8} (h : RD b p 17) (h1 : RD b (p + 1) x1) (h2 : RD b (p + 2) x2) : decode b p = .ok (.sipush (ClassFile.Reader.signed 16 (x1.toNat * 256 + x2.toNat)), 3) := by
  have e : ClassFile.Decoder.instr p b p = .ok (.sipush (ClassFile.Reader.signed 16 (x1.toNat * 256 + x2.toNat)), p + 3) := by
    refine (rd_bind (rd_u1 h)).trans ?_
    refine (rd_bind (r := ClassFile.Reader.s2) (rd_s2 h1 h2)).trans ?_
    rfl
  have k := rd_dec e
  rw [Nat.add_sub_cancel_left] at k
  exact k
set_option maxRecDepth 20000 in
theorem dec_153 {b : ByteArray} {p : Nat} {x1 x2 : UInt8} (h : RD b p 153) (h1 : RD b (p + 1) x1) (h2 : RD b (p + 2) x2) : decode b p = .ok (.ifCond .eq (ClassFile.Reader.signed 16 (x1.toNat * 256 + x2.toNat)), 3) := by
  have e : ClassFile.Decoder.instr p b p = .ok (.ifCond .eq (ClassFile.Reader.signed 16 (x1.toNat * 256 + x2.toNat)), p + 3) := by
    refine (rd_bind (rd_u1 h)).trans ?_
    refine (rd_bind (r := ClassFile.Reader.s2) (rd_s2 h1 h2)).trans ?_
    rfl
  have k := rd_dec e
  rw [Nat.add_sub_cancel_left] at k
  exact k
set_option maxRecDepth 20000 in
theorem dec_154 {b : ByteArray} {p : Nat} {x1 x2 : UInt8} (h : RD b p 154) (h1 : RD b (p + 1) x1) (h2 : RD b (p + 2) x2) : decode b p = .ok (.ifCond .ne (ClassFile.Reader.signed 16 (x1.toNat * 256 + x2.toNat)), 3) := by
  have e : ClassFile.Decoder.instr p b p = .ok (.ifCond .ne (ClassFile.Reader.signed 16 (x1.toNat * 256 + x2.toNat)), p + 3) := by
    refine (rd_bind (rd_u1 h)).trans ?_
    refine (rd_bind (r := ClassFile.Reader.s2) (rd_s2 h1 h2)).trans ?_
    rfl
  have k := rd_dec e
  rw [Nat.add_sub_cancel_left] at k
  exact k
set_option maxRecDepth 20000 in
theorem dec_155 {b : ByteArray} {p : Nat} {x1 x2 : UInt8} (h : RD b p 155) (h1 : RD b (p + 1) x1) (h2 : RD b (p + 2) x2) : decode b p = .ok (.ifCond .lt (ClassFile.Reader.signed 16 (x1.toNat * 256 + x2.toNat)), 3) := by
  have e : ClassFile.Decoder.instr p b p = .ok (.ifCond .lt (ClassFile.Reader.signed 16 (x1.toNat * 256 + x2.toNat)), p + 3) := by
    refine (rd_bind (rd_u1 h)).trans ?_
    refine (rd_bind (r := ClassFile.Reader.s2) (rd_s2 h1 h2)).trans ?_
    rfl
  have k := rd_dec e
  rw [Nat.add_sub_cancel_left] at k
  exact k
set_option maxRecDepth 20000 in
theorem dec_156 {b : ByteArray} {p : Nat} {x1 x2 : UInt8} (h : RD b p 156) (h1 : RD b (p + 1) x1) (h2 : RD b (p + 2) x2) : decode b p = .ok (.ifCond .ge (ClassFile.Reader.signed 16 (x1.toNat * 256 + x2.toNat)), 3) := by
  have e : ClassFile.Decoder.instr p b p = .ok (.ifCond .ge (ClassFile.Reader.signed 16 (x1.toNat * 256 + x2.toNat)), p + 3) := by
    refine (rd_bind (rd_u1 h)).trans ?_
    refine (rd_bind (r := ClassFile.Reader.s2) (rd_s2 h1 h2)).trans ?_
    rfl
  have k := rd_dec e
  rw [Nat.add_sub_cancel_left] at k
  exact k
set_option maxRecDepth 20000 in
theorem dec_157 {b : ByteArray} {p : Nat} {x1 x2 : UInt8} (h : RD b p 157) (h1 : RD b (p + 1) x1) (h2 : RD b (p + 2) x2) : decode b p = .ok (.ifCond .gt (ClassFile.Reader.signed 16 (x1.toNat * 256 + x2.toNat)), 3) := by
  have e : ClassFile.Decoder.instr p b p = .ok (.ifCond .gt (ClassFile.Reader.signed 16 (x1.toNat * 256 + x2.toNat)), p + 3) := by
    refine (rd_bind (rd_u1 h)).trans ?_
    refine (rd_bind (r := ClassFile.Reader.s2) (rd_s2 h1 h2)).trans ?_
    rfl
  have k := rd_dec e
  rw [Nat.add_sub_cancel_left] at k
  exact k
set_option maxRecDepth 20000 in
theorem dec_158 {b : ByteArray} {p : Nat} {x1 x2 : UInt8} (h : RD b p 158) (h1 : RD b (p + 1) x1) (h2 : RD b (p + 2) x2) : decode b p = .ok (.ifCond .le (ClassFile.Reader.signed 16 (x1.toNat * 256 + x2.toNat)), 3) := by
  have e : ClassFile.Decoder.instr p b p = .ok (.ifCond .le (ClassFile.Reader.signed 16 (x1.toNat * 256 + x2.toNat)), p + 3) := by
    refine (rd_bind (rd_u1 h)).trans ?_
    refine (rd_bind (r := ClassFile.Reader.s2) (rd_s2 h1 h2)).trans ?_
    rfl
  have k := rd_dec e
  rw [Nat.add_sub_cancel_left] at k
  exact k
set_option maxRecDepth 20000 in
theorem dec_159 {b : ByteArray} {p : Nat} {x1 x2 : UInt8} (h : RD b p 159) (h1 : RD b (p + 1) x1) (h2 : RD b (p + 2) x2) : decode b p = .ok (.if_icmp .eq (ClassFile.Reader.signed 16 (x1.toNat * 256 + x2.toNat)), 3) := by
  have e : ClassFile.Decoder.instr p b p = .ok (.if_icmp .eq (ClassFile.Reader.signed 16 (x1.toNat * 256 + x2.toNat)), p + 3) := by
    refine (rd_bind (rd_u1 h)).trans ?_
    refine (rd_bind (r := ClassFile.Reader.s2) (rd_s2 h1 h2)).trans ?_
    rfl
  have k := rd_dec e
  rw [Nat.add_sub_cancel_left] at k
  exact k
set_option maxRecDepth 20000 in
theorem dec_160 {b : ByteArray} {p : Nat} {x1 x2 : UInt8} (h : RD b p 160) (h1 : RD b (p + 1) x1) (h2 : RD b (p + 2) x2) : decode b p = .ok (.if_icmp .ne (ClassFile.Reader.signed 16 (x1.toNat * 256 + x2.toNat)), 3) := by
  have e : ClassFile.Decoder.instr p b p = .ok (.if_icmp .ne (ClassFile.Reader.signed 16 (x1.toNat * 256 + x2.toNat)), p + 3) := by
    refine (rd_bind (rd_u1 h)).trans ?_
    refine (rd_bind (r := ClassFile.Reader.s2) (rd_s2 h1 h2)).trans ?_
    rfl
  have k := rd_dec e
  rw [Nat.add_sub_cancel_left] at k
  exact k
set_option maxRecDepth 20000 in
theorem dec_161 {b : ByteArray} {p : Nat} {x1 x2 : UInt8} (h : RD b p 161) (h1 : RD b (p + 1) x1) (h2 : RD b (p + 2) x2) : decode b p = .ok (.if_icmp .lt (ClassFile.Reader.signed 16 (x1.toNat * 256 + x2.toNat)), 3) := by
  have e : ClassFile.Decoder.instr p b p = .ok (.if_icmp .lt (ClassFile.Reader.signed 16 (x1.toNat * 256 + x2.toNat)), p + 3) := by
    refine (rd_bind (rd_u1 h)).trans ?_
    refine (rd_bind (r := ClassFile.Reader.s2) (rd_s2 h1 h2)).trans ?_
    rfl
  have k := rd_dec e
  rw [Nat.add_sub_cancel_left] at k
  exact k
set_option maxRecDepth 20000 in
theorem dec_162 {b : ByteArray} {p : Nat} {x1 x2 : UInt8} (h : RD b p 162) (h1 : RD b (p + 1) x1) (h2 : RD b (p + 2) x2) : decode b p = .ok (.if_icmp .ge (ClassFile.Reader.signed 16 (x1.toNat * 256 + x2.toNat)), 3) := by
  have e : ClassFile.Decoder.instr p b p = .ok (.if_icmp .ge (ClassFile.Reader.signed 16 (x1.toNat * 256 + x2.toNat)), p + 3) := by
    refine (rd_bind (rd_u1 h)).trans ?_
    refine (rd_bind (r := ClassFile.Reader.s2) (rd_s2 h1 h2)).trans ?_
    rfl
  have k := rd_dec e
  rw [Nat.add_sub_cancel_left] at k
  exact k
set_option maxRecDepth 20000 in
theorem dec_163 {b : ByteArray} {p : Nat} {x1 x2 : UInt8} (h : RD b p 163) (h1 : RD b (p + 1) x1) (h2 : RD b (p + 2) x2) : decode b p = .ok (.if_icmp .gt (ClassFile.Reader.signed 16 (x1.toNat * 256 + x2.toNat)), 3) := by
  have e : ClassFile.Decoder.instr p b p = .ok (.if_icmp .gt (ClassFile.Reader.signed 16 (x1.toNat * 256 + x2.toNat)), p + 3) := by
    refine (rd_bind (rd_u1 h)).trans ?_
    refine (rd_bind (r := ClassFile.Reader.s2) (rd_s2 h1 h2)).trans ?_
    rfl
  have k := rd_dec e
  rw [Nat.add_sub_cancel_left] at k
  exact k
set_option maxRecDepth 20000 in
theorem dec_164 {b : ByteArray} {p : Nat} {x1 x2 : UInt8} (h : RD b p 164) (h1 : RD b (p + 1) x1) (h2 : RD b (p + 2) x2) : decode b p = .ok (.if_icmp .le (ClassFile.Reader.signed 16 (x1.toNat * 256 + x2.toNat)), 3) := by
  have e : ClassFile.Decoder.instr p b p = .ok (.if_icmp .le (ClassFile.Reader.signed 16 (x1.toNat * 256 + x2.toNat)), p + 3) := by
    refine (rd_bind (rd_u1 h)).trans ?_
    refine (rd_bind (r := ClassFile.Reader.s2) (rd_s2 h1 h2)).trans ?_
    rfl
  have k := rd_dec e
  rw [Nat.add_sub_cancel_left] at k
  exact k
set_option maxRecDepth 20000 in
theorem dec_167 {b : ByteArray} {p : Nat} {x1 x2 : UInt8} (h : RD b p 167) (h1 : RD b (p + 1) x1) (h2 : RD b (p + 2) x2) : decode b p = .ok (.goto (ClassFile.Reader.signed 16 (x1.toNat * 256 + x2.toNat)), 3) := by
  have e : ClassFile.Decoder.instr p b p = .ok (.goto (ClassFile.Reader.signed 16 (x1.toNat * 256 + x2.toNat)), p + 3) := by
    refine (rd_bind (rd_u1 h)).trans ?_
    refine (rd_bind (r := ClassFile.Reader.s2) (rd_s2 h1 h2)).trans ?_
    rfl
  have k := rd_dec e
  rw [Nat.add_sub_cancel_left] at k
  exact k
set_option maxRecDepth 20000 in
theorem dec_132 {b : ByteArray} {p : Nat} {x1 x2 : UInt8} (h : RD b p 132) (h1 : RD b (p + 1) x1) (h2 : RD b (p + 2) x2) : decode b p = .ok (.iinc x1.toNat (ClassFile.Reader.signed 8 x2.toNat), 3) := by
  have e : ClassFile.Decoder.instr p b p = .ok (.iinc x1.toNat (ClassFile.Reader.signed 8 x2.toNat), p + 3) := by
    refine (rd_bind (rd_u1 h)).trans ?_
    refine (rd_bind (r := ClassFile.Reader.u1) (rd_u1 h1)).trans ?_
    refine (rd_bind (r := ClassFile.Reader.s1) (rd_s1 h2)).trans ?_
    rfl
  have k := rd_dec e
  rw [Nat.add_sub_cancel_left] at k
  exact k
set_option maxRecDepth 20000 in
theorem dec_188_4 {b : ByteArray} {p : Nat} (h : RD b p 188) (h1 : RD b (p + 1) 4) : decode b p = .ok (.newarray .boolean, 2) := by
  have e : ClassFile.Decoder.instr p b p = .ok (.newarray .boolean, p + 2) := by
    refine (rd_bind (rd_u1 h)).trans ?_
    show (ClassFile.Decoder.newarray p) b (p + 1) = _
    refine (rd_bind (rd_u1 h1)).trans ?_
    rfl
  have k := rd_dec e
  rw [Nat.add_sub_cancel_left] at k
  exact k
set_option maxRecDepth 20000 in
theorem dec_188_8 {b : ByteArray} {p : Nat} (h : RD b p 188) (h1 : RD b (p + 1) 8) : decode b p = .ok (.newarray .byte, 2) := by
  have e : ClassFile.Decoder.instr p b p = .ok (.newarray .byte, p + 2) := by
    refine (rd_bind (rd_u1 h)).trans ?_
    show (ClassFile.Decoder.newarray p) b (p + 1) = _
    refine (rd_bind (rd_u1 h1)).trans ?_
    rfl
  have k := rd_dec e
  rw [Nat.add_sub_cancel_left] at k
  exact k
set_option maxRecDepth 20000 in
theorem dec_188_10 {b : ByteArray} {p : Nat} (h : RD b p 188) (h1 : RD b (p + 1) 10) : decode b p = .ok (.newarray .int, 2) := by
  have e : ClassFile.Decoder.instr p b p = .ok (.newarray .int, p + 2) := by
    refine (rd_bind (rd_u1 h)).trans ?_
    show (ClassFile.Decoder.newarray p) b (p + 1) = _
    refine (rd_bind (rd_u1 h1)).trans ?_
    rfl
  have k := rd_dec e
  rw [Nat.add_sub_cancel_left] at k
  exact k
set_option maxRecDepth 20000 in
theorem dec_188_11 {b : ByteArray} {p : Nat} (h : RD b p 188) (h1 : RD b (p + 1) 11) : decode b p = .ok (.newarray .long, 2) := by
  have e : ClassFile.Decoder.instr p b p = .ok (.newarray .long, p + 2) := by
    refine (rd_bind (rd_u1 h)).trans ?_
    show (ClassFile.Decoder.newarray p) b (p + 1) = _
    refine (rd_bind (rd_u1 h1)).trans ?_
    rfl
  have k := rd_dec e
  rw [Nat.add_sub_cancel_left] at k
  exact k
def fdU1 (f : Nat → Instr) : List UInt8 → Option (Instr × Nat)
  | x :: _ => some (f x.toNat, 2)
  | _ => none
def fdS1 (f : Int → Instr) : List UInt8 → Option (Instr × Nat)
  | x :: _ => some (f (ClassFile.Reader.signed 8 x.toNat), 2)
  | _ => none
def fdU2 (f : Nat → Instr) : List UInt8 → Option (Instr × Nat)
  | x :: y :: _ => some (f (x.toNat * 256 + y.toNat), 3)
  | _ => none
def fdS2 (f : Int → Instr) : List UInt8 → Option (Instr × Nat)
  | x :: y :: _ => some (f (ClassFile.Reader.signed 16 (x.toNat * 256 + y.toNat)), 3)
  | _ => none
def fdI : List UInt8 → Option (Instr × Nat)
  | x :: y :: _ => some (.iinc x.toNat (ClassFile.Reader.signed 8 y.toNat), 3)
  | _ => none
def fdN : List UInt8 → Option (Instr × Nat)
  | x :: _ => bif Nat.beq x.toNat 10 then some (.newarray .int, 2) else bif Nat.beq x.toNat 4 then some (.newarray .boolean, 2) else bif Nat.beq x.toNat 8 then some (.newarray .byte, 2) else bif Nat.beq x.toNat 11 then some (.newarray .long, 2) else none
  | _ => none
theorem u8_eq {a : UInt8} {k : Nat} (h : Nat.beq a.toNat k = true) (hk : k < 256) : a = UInt8.ofNat k := by
  have e := Nat.eq_of_beq_eq_true h
  rw [← e]
  exact (UInt8.ofNat_toNat).symm
-- the bytes from a place on
def RBs (b : ByteArray) (p : Nat) : List UInt8 → Prop
  | [] => True
  | a :: l => RD b p a ∧ RBs b (p + 1) l
def fd1 (a : Nat) (r : List UInt8) : Option (Instr × Nat) := bif Nat.ble 80 a then (bif Nat.ble 148 a then (bif Nat.ble 167 a then (bif Nat.ble 182 a then (bif Nat.ble 188 a then (bif Nat.ble 190 a then (bif Nat.ble 191 a then (bif Nat.beq a 191 then some (.athrow, 1) else none) else (bif Nat.beq a 190 then some (.arraylength, 1) else none)) else (bif Nat.ble 189 a then (bif Nat.beq a 189 then fdU2 (fun x => .anewarray x) r else none) else (bif Nat.beq a 188 then fdN r else none))) else (bif Nat.ble 184 a then (bif Nat.ble 187 a then (bif Nat.beq a 187 then fdU2 (fun x => .new x) r else none) else (bif Nat.beq a 184 then fdU2 (fun x => .invokestatic x) r else none)) else (bif Nat.ble 183 a then (bif Nat.beq a 183 then fdU2 (fun x => .invokespecial x) r else none) else (bif Nat.beq a 182 then fdU2 (fun x => .invokevirtual x) r else none)))) else (bif Nat.ble 177 a then (bif Nat.ble 180 a then (bif Nat.ble 181 a then (bif Nat.beq a 181 then fdU2 (fun x => .putfield x) r else none) else (bif Nat.beq a 180 then fdU2 (fun x => .getfield x) r else none)) else (bif Nat.ble 178 a then (bif Nat.beq a 178 then fdU2 (fun x => .getstatic x) r else none) else (bif Nat.beq a 177 then some (.return_, 1) else none))) else (bif Nat.ble 173 a then (bif Nat.ble 175 a then (bif Nat.beq a 175 then some (.dreturn, 1) else none) else (bif Nat.beq a 173 then some (.lreturn, 1) else none)) else (bif Nat.ble 172 a then (bif Nat.beq a 172 then some (.ireturn, 1) else none) else (bif Nat.beq a 167 then fdS2 (fun x => .goto x) r else none))))) else (bif Nat.ble 157 a then (bif Nat.ble 161 a then (bif Nat.ble 163 a then (bif Nat.ble 164 a then (bif Nat.beq a 164 then fdS2 (fun x => .if_icmp .le x) r else none) else (bif Nat.beq a 163 then fdS2 (fun x => .if_icmp .gt x) r else none)) else (bif Nat.ble 162 a then (bif Nat.beq a 162 then fdS2 (fun x => .if_icmp .ge x) r else none) else (bif Nat.beq a 161 then fdS2 (fun x => .if_icmp .lt x) r else none))) else (bif Nat.ble 159 a then (bif Nat.ble 160 a then (bif Nat.beq a 160 then fdS2 (fun x => .if_icmp .ne x) r else none) else (bif Nat.beq a 159 then fdS2 (fun x => .if_icmp .eq x) r else none)) else (bif Nat.ble 158 a then (bif Nat.beq a 158 then fdS2 (fun x => .ifCond .le x) r else none) else (bif Nat.beq a 157 then fdS2 (fun x => .ifCond .gt x) r else none)))) else (bif Nat.ble 153 a then (bif Nat.ble 155 a then (bif Nat.ble 156 a then (bif Nat.beq a 156 then fdS2 (fun x => .ifCond .ge x) r else none) else (bif Nat.beq a 155 then fdS2 (fun x => .ifCond .lt x) r else none)) else (bif Nat.ble 154 a then (bif Nat.beq a 154 then fdS2 (fun x => .ifCond .ne x) r else none) else (bif Nat.beq a 153 then fdS2 (fun x => .ifCond .eq x) r else none))) else (bif Nat.ble 151 a then (bif Nat.ble 152 a then (bif Nat.beq a 152 then some (.dcmp .g, 1) else none) else (bif Nat.beq a 151 then some (.dcmp .l, 1) else none)) else (bif Nat.beq a 148 then some (.lcmp, 1) else none))))) else (bif Nat.ble 120 a then (bif Nat.ble 128 a then (bif Nat.ble 133 a then (bif Nat.ble 136 a then (bif Nat.ble 145 a then (bif Nat.beq a 145 then some (.i2b, 1) else none) else (bif Nat.beq a 136 then some (.l2i, 1) else none)) else (bif Nat.ble 135 a then (bif Nat.beq a 135 then some (.i2d, 1) else none) else (bif Nat.beq a 133 then some (.i2l, 1) else none))) else (bif Nat.ble 131 a then (bif Nat.ble 132 a then (bif Nat.beq a 132 then fdI r else none) else (bif Nat.beq a 131 then some (.lxor, 1) else none)) else (bif Nat.ble 129 a then (bif Nat.beq a 129 then some (.lor, 1) else none) else (bif Nat.beq a 128 then some (.ior, 1) else none)))) else (bif Nat.ble 124 a then (bif Nat.ble 126 a then (bif Nat.ble 127 a then (bif Nat.beq a 127 then some (.land, 1) else none) else (bif Nat.beq a 126 then some (.iand, 1) else none)) else (bif Nat.ble 125 a then (bif Nat.beq a 125 then some (.lushr, 1) else none) else (bif Nat.beq a 124 then some (.iushr, 1) else none))) else (bif Nat.ble 121 a then (bif Nat.ble 122 a then (bif Nat.beq a 122 then some (.ishr, 1) else none) else (bif Nat.beq a 121 then some (.lshl, 1) else none)) else (bif Nat.beq a 120 then some (.ishl, 1) else none)))) else (bif Nat.ble 97 a then (bif Nat.ble 105 a then (bif Nat.ble 111 a then (bif Nat.ble 112 a then (bif Nat.beq a 112 then some (.irem, 1) else none) else (bif Nat.beq a 111 then some (.ddiv, 1) else none)) else (bif Nat.ble 108 a then (bif Nat.beq a 108 then some (.idiv, 1) else none) else (bif Nat.beq a 105 then some (.lmul, 1) else none))) else (bif Nat.ble 101 a then (bif Nat.ble 104 a then (bif Nat.beq a 104 then some (.imul, 1) else none) else (bif Nat.beq a 101 then some (.lsub, 1) else none)) else (bif Nat.ble 100 a then (bif Nat.beq a 100 then some (.isub, 1) else none) else (bif Nat.beq a 97 then some (.ladd, 1) else none)))) else (bif Nat.ble 87 a then (bif Nat.ble 92 a then (bif Nat.ble 96 a then (bif Nat.beq a 96 then some (.iadd, 1) else none) else (bif Nat.beq a 92 then some (.dup2, 1) else none)) else (bif Nat.ble 89 a then (bif Nat.beq a 89 then some (.dup, 1) else none) else (bif Nat.beq a 87 then some (.pop, 1) else none))) else (bif Nat.ble 83 a then (bif Nat.ble 84 a then (bif Nat.beq a 84 then some (.bastore, 1) else none) else (bif Nat.beq a 83 then some (.aastore, 1) else none)) else (bif Nat.beq a 80 then some (.lastore, 1) else none)))))) else (bif Nat.ble 40 a then (bif Nat.ble 60 a then (bif Nat.ble 72 a then (bif Nat.ble 76 a then (bif Nat.ble 78 a then (bif Nat.ble 79 a then (bif Nat.beq a 79 then some (.iastore, 1) else none) else (bif Nat.beq a 78 then some (.astore_n 3, 1) else none)) else (bif Nat.ble 77 a then (bif Nat.beq a 77 then some (.astore_n 2, 1) else none) else (bif Nat.beq a 76 then some (.astore_n 1, 1) else none))) else (bif Nat.ble 74 a then (bif Nat.ble 75 a then (bif Nat.beq a 75 then some (.astore_n 0, 1) else none) else (bif Nat.beq a 74 then some (.dstore_n 3, 1) else none)) else (bif Nat.ble 73 a then (bif Nat.beq a 73 then some (.dstore_n 2, 1) else none) else (bif Nat.beq a 72 then some (.dstore_n 1, 1) else none)))) else (bif Nat.ble 64 a then (bif Nat.ble 66 a then (bif Nat.ble 71 a then (bif Nat.beq a 71 then some (.dstore_n 0, 1) else none) else (bif Nat.beq a 66 then some (.lstore_n 3, 1) else none)) else (bif Nat.ble 65 a then (bif Nat.beq a 65 then some (.lstore_n 2, 1) else none) else (bif Nat.beq a 64 then some (.lstore_n 1, 1) else none))) else (bif Nat.ble 62 a then (bif Nat.ble 63 a then (bif Nat.beq a 63 then some (.lstore_n 0, 1) else none) else (bif Nat.beq a 62 then some (.istore_n 3, 1) else none)) else (bif Nat.ble 61 a then (bif Nat.beq a 61 then some (.istore_n 2, 1) else none) else (bif Nat.beq a 60 then some (.istore_n 1, 1) else none))))) else (bif Nat.ble 47 a then (bif Nat.ble 55 a then (bif Nat.ble 58 a then (bif Nat.ble 59 a then (bif Nat.beq a 59 then some (.istore_n 0, 1) else none) else (bif Nat.beq a 58 then fdU1 (fun x => .astore x) r else none)) else (bif Nat.ble 57 a then (bif Nat.beq a 57 then fdU1 (fun x => .dstore x) r else none) else (bif Nat.beq a 55 then fdU1 (fun x => .lstore x) r else none))) else (bif Nat.ble 51 a then (bif Nat.ble 54 a then (bif Nat.beq a 54 then fdU1 (fun x => .istore x) r else none) else (bif Nat.beq a 51 then some (.baload, 1) else none)) else (bif Nat.ble 50 a then (bif Nat.beq a 50 then some (.aaload, 1) else none) else (bif Nat.beq a 47 then some (.laload, 1) else none)))) else (bif Nat.ble 43 a then (bif Nat.ble 45 a then (bif Nat.ble 46 a then (bif Nat.beq a 46 then some (.iaload, 1) else none) else (bif Nat.beq a 45 then some (.aload_n 3, 1) else none)) else (bif Nat.ble 44 a then (bif Nat.beq a 44 then some (.aload_n 2, 1) else none) else (bif Nat.beq a 43 then some (.aload_n 1, 1) else none))) else (bif Nat.ble 41 a then (bif Nat.ble 42 a then (bif Nat.beq a 42 then some (.aload_n 0, 1) else none) else (bif Nat.beq a 41 then some (.dload_n 3, 1) else none)) else (bif Nat.beq a 40 then some (.dload_n 2, 1) else none))))) else (bif Nat.ble 20 a then (bif Nat.ble 28 a then (bif Nat.ble 32 a then (bif Nat.ble 38 a then (bif Nat.ble 39 a then (bif Nat.beq a 39 then some (.dload_n 1, 1) else none) else (bif Nat.beq a 38 then some (.dload_n 0, 1) else none)) else (bif Nat.ble 33 a then (bif Nat.beq a 33 then some (.lload_n 3, 1) else none) else (bif Nat.beq a 32 then some (.lload_n 2, 1) else none))) else (bif Nat.ble 30 a then (bif Nat.ble 31 a then (bif Nat.beq a 31 then some (.lload_n 1, 1) else none) else (bif Nat.beq a 30 then some (.lload_n 0, 1) else none)) else (bif Nat.ble 29 a then (bif Nat.beq a 29 then some (.iload_n 3, 1) else none) else (bif Nat.beq a 28 then some (.iload_n 2, 1) else none)))) else (bif Nat.ble 24 a then (bif Nat.ble 26 a then (bif Nat.ble 27 a then (bif Nat.beq a 27 then some (.iload_n 1, 1) else none) else (bif Nat.beq a 26 then some (.iload_n 0, 1) else none)) else (bif Nat.ble 25 a then (bif Nat.beq a 25 then fdU1 (fun x => .aload x) r else none) else (bif Nat.beq a 24 then fdU1 (fun x => .dload x) r else none))) else (bif Nat.ble 21 a then (bif Nat.ble 22 a then (bif Nat.beq a 22 then fdU1 (fun x => .lload x) r else none) else (bif Nat.beq a 21 then fdU1 (fun x => .iload x) r else none)) else (bif Nat.beq a 20 then fdU2 (fun x => .ldc2_w x) r else none)))) else (bif Nat.ble 9 a then (bif Nat.ble 16 a then (bif Nat.ble 18 a then (bif Nat.ble 19 a then (bif Nat.beq a 19 then fdU2 (fun x => .ldc_w x) r else none) else (bif Nat.beq a 18 then fdU1 (fun x => .ldc x) r else none)) else (bif Nat.ble 17 a then (bif Nat.beq a 17 then fdS2 (fun x => .sipush x) r else none) else (bif Nat.beq a 16 then fdS1 (fun x => .bipush x) r else none))) else (bif Nat.ble 14 a then (bif Nat.ble 15 a then (bif Nat.beq a 15 then some (.dconst 1, 1) else none) else (bif Nat.beq a 14 then some (.dconst 0, 1) else none)) else (bif Nat.ble 10 a then (bif Nat.beq a 10 then some (.lconst 1, 1) else none) else (bif Nat.beq a 9 then some (.lconst 0, 1) else none)))) else (bif Nat.ble 5 a then (bif Nat.ble 7 a then (bif Nat.ble 8 a then (bif Nat.beq a 8 then some (.iconst (5), 1) else none) else (bif Nat.beq a 7 then some (.iconst (4), 1) else none)) else (bif Nat.ble 6 a then (bif Nat.beq a 6 then some (.iconst (3), 1) else none) else (bif Nat.beq a 5 then some (.iconst (2), 1) else none))) else (bif Nat.ble 3 a then (bif Nat.ble 4 a then (bif Nat.beq a 4 then some (.iconst (1), 1) else none) else (bif Nat.beq a 3 then some (.iconst (0), 1) else none)) else (bif Nat.beq a 2 then some (.iconst (-1), 1) else none))))))
def fdec : List UInt8 → Option (Instr × Nat)
  | a :: r => fd1 a.toNat r
  | _ => none
theorem fd1_ok {b : ByteArray} {p : Nat} {a : UInt8} {r : List UInt8} {q : Instr × Nat} (h0 : RD b p a) (h1 : RBs b (p + 1) r) (h : fd1 a.toNat r = some q) : decode b p = .ok q := by
  unfold fd1 at h
  cases b80 : Nat.ble 80 a.toNat with
  | true =>
    rw [b80] at h
    dsimp only [cond] at h
    cases b148 : Nat.ble 148 a.toNat with
    | true =>
      rw [b148] at h
      dsimp only [cond] at h
      cases b167 : Nat.ble 167 a.toNat with
      | true =>
        rw [b167] at h
        dsimp only [cond] at h
        cases b182 : Nat.ble 182 a.toNat with
        | true =>
          rw [b182] at h
          dsimp only [cond] at h
          cases b188 : Nat.ble 188 a.toNat with
          | true =>
            rw [b188] at h
            dsimp only [cond] at h
            cases b190 : Nat.ble 190 a.toNat with
            | true =>
              rw [b190] at h
              dsimp only [cond] at h
              cases b191 : Nat.ble 191 a.toNat with
              | true =>
                rw [b191] at h
                dsimp only [cond] at h
                cases c191 : Nat.beq a.toNat 191 with
                | false => rw [c191] at h; cases h
                | true =>
                  rw [c191] at h
                  dsimp only [cond] at h
                  have ea := u8_eq c191 (by decide)
                  subst ea
                  cases h
                  exact dec_191 h0
              | false =>
                rw [b191] at h
                dsimp only [cond] at h
                cases c190 : Nat.beq a.toNat 190 with
                | false => rw [c190] at h; cases h
                | true =>
                  rw [c190] at h
                  dsimp only [cond] at h
                  have ea := u8_eq c190 (by decide)
                  subst ea
                  cases h
                  exact dec_190 h0
            | false =>
              rw [b190] at h
              dsimp only [cond] at h
              cases b189 : Nat.ble 189 a.toNat with
              | true =>
                rw [b189] at h
                dsimp only [cond] at h
                cases c189 : Nat.beq a.toNat 189 with
                | false => rw [c189] at h; cases h
                | true =>
                  rw [c189] at h
                  dsimp only [cond] at h
                  have ea := u8_eq c189 (by decide)
                  subst ea
                  match r, h1, h with
                  | x :: y :: _, h1, h => cases h; exact dec_189 h0 h1.1 h1.2.1
              | false =>
                rw [b189] at h
                dsimp only [cond] at h
                cases c188 : Nat.beq a.toNat 188 with
                | false => rw [c188] at h; cases h
                | true =>
                  rw [c188] at h
                  dsimp only [cond] at h
                  have ea := u8_eq c188 (by decide)
                  subst ea
                  match r, h1, h with
                  | x :: _, h1, h =>
                    unfold fdN at h
                    dsimp only at h
                    cases d10 : Nat.beq x.toNat 10 with
                    | true =>
                      rw [d10] at h
                      cases h
                      have ex := u8_eq d10 (by decide)
                      subst ex
                      exact dec_188_10 h0 h1.1
                    | false =>
                    rw [d10] at h
                    dsimp only [cond] at h
                    cases d4 : Nat.beq x.toNat 4 with
                    | true =>
                      rw [d4] at h
                      cases h
                      have ex := u8_eq d4 (by decide)
                      subst ex
                      exact dec_188_4 h0 h1.1
                    | false =>
                    rw [d4] at h
                    dsimp only [cond] at h
                    cases d8 : Nat.beq x.toNat 8 with
                    | true =>
                      rw [d8] at h
                      cases h
                      have ex := u8_eq d8 (by decide)
                      subst ex
                      exact dec_188_8 h0 h1.1
                    | false =>
                    rw [d8] at h
                    dsimp only [cond] at h
                    cases d11 : Nat.beq x.toNat 11 with
                    | true =>
                      rw [d11] at h
                      cases h
                      have ex := u8_eq d11 (by decide)
                      subst ex
                      exact dec_188_11 h0 h1.1
                    | false =>
                    rw [d11] at h
                    dsimp only [cond] at h
                    cases h
          | false =>
            rw [b188] at h
            dsimp only [cond] at h
            cases b184 : Nat.ble 184 a.toNat with
            | true =>
              rw [b184] at h
              dsimp only [cond] at h
              cases b187 : Nat.ble 187 a.toNat with
              | true =>
                rw [b187] at h
                dsimp only [cond] at h
                cases c187 : Nat.beq a.toNat 187 with
                | false => rw [c187] at h; cases h
                | true =>
                  rw [c187] at h
                  dsimp only [cond] at h
                  have ea := u8_eq c187 (by decide)
                  subst ea
                  match r, h1, h with
                  | x :: y :: _, h1, h => cases h; exact dec_187 h0 h1.1 h1.2.1
              | false =>
                rw [b187] at h
                dsimp only [cond] at h
                cases c184 : Nat.beq a.toNat 184 with
                | false => rw [c184] at h; cases h
                | true =>
                  rw [c184] at h
                  dsimp only [cond] at h
                  have ea := u8_eq c184 (by decide)
                  subst ea
                  match r, h1, h with
                  | x :: y :: _, h1, h => cases h; exact dec_184 h0 h1.1 h1.2.1
            | false =>
              rw [b184] at h
              dsimp only [cond] at h
              cases b183 : Nat.ble 183 a.toNat with
              | true =>
                rw [b183] at h
                dsimp only [cond] at h
                cases c183 : Nat.beq a.toNat 183 with
                | false => rw [c183] at h; cases h
                | true =>
                  rw [c183] at h
                  dsimp only [cond] at h
                  have ea := u8_eq c183 (by decide)
                  subst ea
                  match r, h1, h with
                  | x :: y :: _, h1, h => cases h; exact dec_183 h0 h1.1 h1.2.1
              | false =>
                rw [b183] at h
                dsimp only [cond] at h
                cases c182 : Nat.beq a.toNat 182 with
                | false => rw [c182] at h; cases h
                | true =>
                  rw [c182] at h
                  dsimp only [cond] at h
                  have ea := u8_eq c182 (by decide)
                  subst ea
                  match r, h1, h with
                  | x :: y :: _, h1, h => cases h; exact dec_182 h0 h1.1 h1.2.1
        | false =>
          rw [b182] at h
          dsimp only [cond] at h
          cases b177 : Nat.ble 177 a.toNat with
          | true =>
            rw [b177] at h
            dsimp only [cond] at h
            cases b180 : Nat.ble 180 a.toNat with
            | true =>
              rw [b180] at h
              dsimp only [cond] at h
              cases b181 : Nat.ble 181 a.toNat with
              | true =>
                rw [b181] at h
                dsimp only [cond] at h
                cases c181 : Nat.beq a.toNat 181 with
                | false => rw [c181] at h; cases h
                | true =>
                  rw [c181] at h
                  dsimp only [cond] at h
                  have ea := u8_eq c181 (by decide)
                  subst ea
                  match r, h1, h with
                  | x :: y :: _, h1, h => cases h; exact dec_181 h0 h1.1 h1.2.1
              | false =>
                rw [b181] at h
                dsimp only [cond] at h
                cases c180 : Nat.beq a.toNat 180 with
                | false => rw [c180] at h; cases h
                | true =>
                  rw [c180] at h
                  dsimp only [cond] at h
                  have ea := u8_eq c180 (by decide)
                  subst ea
                  match r, h1, h with
                  | x :: y :: _, h1, h => cases h; exact dec_180 h0 h1.1 h1.2.1
            | false =>
              rw [b180] at h
              dsimp only [cond] at h
              cases b178 : Nat.ble 178 a.toNat with
              | true =>
                rw [b178] at h
                dsimp only [cond] at h
                cases c178 : Nat.beq a.toNat 178 with
                | false => rw [c178] at h; cases h
                | true =>
                  rw [c178] at h
                  dsimp only [cond] at h
                  have ea := u8_eq c178 (by decide)
                  subst ea
                  match r, h1, h with
                  | x :: y :: _, h1, h => cases h; exact dec_178 h0 h1.1 h1.2.1
              | false =>
                rw [b178] at h
                dsimp only [cond] at h
                cases c177 : Nat.beq a.toNat 177 with
                | false => rw [c177] at h; cases h
                | true =>
                  rw [c177] at h
                  dsimp only [cond] at h
                  have ea := u8_eq c177 (by decide)
                  subst ea
                  cases h
                  exact dec_177 h0
          | false =>
            rw [b177] at h
            dsimp only [cond] at h
            cases b173 : Nat.ble 173 a.toNat with
            | true =>
              rw [b173] at h
              dsimp only [cond] at h
              cases b175 : Nat.ble 175 a.toNat with
              | true =>
                rw [b175] at h
                dsimp only [cond] at h
                cases c175 : Nat.beq a.toNat 175 with
                | false => rw [c175] at h; cases h
                | true =>
                  rw [c175] at h
                  dsimp only [cond] at h
                  have ea := u8_eq c175 (by decide)
                  subst ea
                  cases h
                  exact dec_175 h0
              | false =>
                rw [b175] at h
                dsimp only [cond] at h
                cases c173 : Nat.beq a.toNat 173 with
                | false => rw [c173] at h; cases h
                | true =>
                  rw [c173] at h
                  dsimp only [cond] at h
                  have ea := u8_eq c173 (by decide)
                  subst ea
                  cases h
                  exact dec_173 h0
            | false =>
              rw [b173] at h
              dsimp only [cond] at h
              cases b172 : Nat.ble 172 a.toNat with
              | true =>
                rw [b172] at h
                dsimp only [cond] at h
                cases c172 : Nat.beq a.toNat 172 with
                | false => rw [c172] at h; cases h
                | true =>
                  rw [c172] at h
                  dsimp only [cond] at h
                  have ea := u8_eq c172 (by decide)
                  subst ea
                  cases h
                  exact dec_172 h0
              | false =>
                rw [b172] at h
                dsimp only [cond] at h
                cases c167 : Nat.beq a.toNat 167 with
                | false => rw [c167] at h; cases h
                | true =>
                  rw [c167] at h
                  dsimp only [cond] at h
                  have ea := u8_eq c167 (by decide)
                  subst ea
                  match r, h1, h with
                  | x :: y :: _, h1, h => cases h; exact dec_167 h0 h1.1 h1.2.1
      | false =>
        rw [b167] at h
        dsimp only [cond] at h
        cases b157 : Nat.ble 157 a.toNat with
        | true =>
          rw [b157] at h
          dsimp only [cond] at h
          cases b161 : Nat.ble 161 a.toNat with
          | true =>
            rw [b161] at h
            dsimp only [cond] at h
            cases b163 : Nat.ble 163 a.toNat with
            | true =>
              rw [b163] at h
              dsimp only [cond] at h
              cases b164 : Nat.ble 164 a.toNat with
              | true =>
                rw [b164] at h
                dsimp only [cond] at h
                cases c164 : Nat.beq a.toNat 164 with
                | false => rw [c164] at h; cases h
                | true =>
                  rw [c164] at h
                  dsimp only [cond] at h
                  have ea := u8_eq c164 (by decide)
                  subst ea
                  match r, h1, h with
                  | x :: y :: _, h1, h => cases h; exact dec_164 h0 h1.1 h1.2.1
              | false =>
                rw [b164] at h
                dsimp only [cond] at h
                cases c163 : Nat.beq a.toNat 163 with
                | false => rw [c163] at h; cases h
                | true =>
                  rw [c163] at h
                  dsimp only [cond] at h
                  have ea := u8_eq c163 (by decide)
                  subst ea
                  match r, h1, h with
                  | x :: y :: _, h1, h => cases h; exact dec_163 h0 h1.1 h1.2.1
            | false =>
              rw [b163] at h
              dsimp only [cond] at h
              cases b162 : Nat.ble 162 a.toNat with
              | true =>
                rw [b162] at h
                dsimp only [cond] at h
                cases c162 : Nat.beq a.toNat 162 with
                | false => rw [c162] at h; cases h
                | true =>
                  rw [c162] at h
                  dsimp only [cond] at h
                  have ea := u8_eq c162 (by decide)
                  subst ea
                  match r, h1, h with
                  | x :: y :: _, h1, h => cases h; exact dec_162 h0 h1.1 h1.2.1
              | false =>
                rw [b162] at h
                dsimp only [cond] at h
                cases c161 : Nat.beq a.toNat 161 with
                | false => rw [c161] at h; cases h
                | true =>
                  rw [c161] at h
                  dsimp only [cond] at h
                  have ea := u8_eq c161 (by decide)
                  subst ea
                  match r, h1, h with
                  | x :: y :: _, h1, h => cases h; exact dec_161 h0 h1.1 h1.2.1
          | false =>
            rw [b161] at h
            dsimp only [cond] at h
            cases b159 : Nat.ble 159 a.toNat with
            | true =>
              rw [b159] at h
              dsimp only [cond] at h
              cases b160 : Nat.ble 160 a.toNat with
              | true =>
                rw [b160] at h
                dsimp only [cond] at h
                cases c160 : Nat.beq a.toNat 160 with
                | false => rw [c160] at h; cases h
                | true =>
                  rw [c160] at h
                  dsimp only [cond] at h
                  have ea := u8_eq c160 (by decide)
                  subst ea
                  match r, h1, h with
                  | x :: y :: _, h1, h => cases h; exact dec_160 h0 h1.1 h1.2.1
              | false =>
                rw [b160] at h
                dsimp only [cond] at h
                cases c159 : Nat.beq a.toNat 159 with
                | false => rw [c159] at h; cases h
                | true =>
                  rw [c159] at h
                  dsimp only [cond] at h
                  have ea := u8_eq c159 (by decide)
                  subst ea
                  match r, h1, h with
                  | x :: y :: _, h1, h => cases h; exact dec_159 h0 h1.1 h1.2.1
            | false =>
              rw [b159] at h
              dsimp only [cond] at h
              cases b158 : Nat.ble 158 a.toNat with
              | true =>
                rw [b158] at h
                dsimp only [cond] at h
                cases c158 : Nat.beq a.toNat 158 with
                | false => rw [c158] at h; cases h
                | true =>
                  rw [c158] at h
                  dsimp only [cond] at h
                  have ea := u8_eq c158 (by decide)
                  subst ea
                  match r, h1, h with
                  | x :: y :: _, h1, h => cases h; exact dec_158 h0 h1.1 h1.2.1
              | false =>
                rw [b158] at h
                dsimp only [cond] at h
                cases c157 : Nat.beq a.toNat 157 with
                | false => rw [c157] at h; cases h
                | true =>
                  rw [c157] at h
                  dsimp only [cond] at h
                  have ea := u8_eq c157 (by decide)
                  subst ea
                  match r, h1, h with
                  | x :: y :: _, h1, h => cases h; exact dec_157 h0 h1.1 h1.2.1
        | false =>
          rw [b157] at h
          dsimp only [cond] at h
          cases b153 : Nat.ble 153 a.toNat with
          | true =>
            rw [b153] at h
            dsimp only [cond] at h
            cases b155 : Nat.ble 155 a.toNat with
            | true =>
              rw [b155] at h
              dsimp only [cond] at h
              cases b156 : Nat.ble 156 a.toNat with
              | true =>
                rw [b156] at h
                dsimp only [cond] at h
                cases c156 : Nat.beq a.toNat 156 with
                | false => rw [c156] at h; cases h
                | true =>
                  rw [c156] at h
                  dsimp only [cond] at h
                  have ea := u8_eq c156 (by decide)
                  subst ea
                  match r, h1, h with
                  | x :: y :: _, h1, h => cases h; exact dec_156 h0 h1.1 h1.2.1
              | false =>
                rw [b156] at h
                dsimp only [cond] at h
                cases c155 : Nat.beq a.toNat 155 with
                | false => rw [c155] at h; cases h
                | true =>
                  rw [c155] at h
                  dsimp only [cond] at h
                  have ea := u8_eq c155 (by decide)
                  subst ea
                  match r, h1, h with
                  | x :: y :: _, h1, h => cases h; exact dec_155 h0 h1.1 h1.2.1
            | false =>
              rw [b155] at h
              dsimp only [cond] at h
              cases b154 : Nat.ble 154 a.toNat with
              | true =>
                rw [b154] at h
                dsimp only [cond] at h
                cases c154 : Nat.beq a.toNat 154 with
                | false => rw [c154] at h; cases h
                | true =>
                  rw [c154] at h
                  dsimp only [cond] at h
                  have ea := u8_eq c154 (by decide)
                  subst ea
                  match r, h1, h with
                  | x :: y :: _, h1, h => cases h; exact dec_154 h0 h1.1 h1.2.1
              | false =>
                rw [b154] at h
                dsimp only [cond] at h
                cases c153 : Nat.beq a.toNat 153 with
                | false => rw [c153] at h; cases h
                | true =>
                  rw [c153] at h
                  dsimp only [cond] at h
                  have ea := u8_eq c153 (by decide)
                  subst ea
                  match r, h1, h with
                  | x :: y :: _, h1, h => cases h; exact dec_153 h0 h1.1 h1.2.1
          | false =>
            rw [b153] at h
            dsimp only [cond] at h
            cases b151 : Nat.ble 151 a.toNat with
            | true =>
              rw [b151] at h
              dsimp only [cond] at h
              cases b152 : Nat.ble 152 a.toNat with
              | true =>
                rw [b152] at h
                dsimp only [cond] at h
                cases c152 : Nat.beq a.toNat 152 with
                | false => rw [c152] at h; cases h
                | true =>
                  rw [c152] at h
                  dsimp only [cond] at h
                  have ea := u8_eq c152 (by decide)
                  subst ea
                  cases h
                  exact dec_152 h0
              | false =>
                rw [b152] at h
                dsimp only [cond] at h
                cases c151 : Nat.beq a.toNat 151 with
                | false => rw [c151] at h; cases h
                | true =>
                  rw [c151] at h
                  dsimp only [cond] at h
                  have ea := u8_eq c151 (by decide)
                  subst ea
                  cases h
                  exact dec_151 h0
            | false =>
              rw [b151] at h
              dsimp only [cond] at h
              cases c148 : Nat.beq a.toNat 148 with
              | false => rw [c148] at h; cases h
              | true =>
                rw [c148] at h
                dsimp only [cond] at h
                have ea := u8_eq c148 (by decide)
                subst ea
                cases h
                exact dec_148 h0
    | false =>
      rw [b148] at h
      dsimp only [cond] at h
      cases b120 : Nat.ble 120 a.toNat with
      | true =>
        rw [b120] at h
        dsimp only [cond] at h
        cases b128 : Nat.ble 128 a.toNat with
        | true =>
          rw [b128] at h
          dsimp only [cond] at h
          cases b133 : Nat.ble 133 a.toNat with
          | true =>
            rw [b133] at h
            dsimp only [cond] at h
            cases b136 : Nat.ble 136 a.toNat with
            | true =>
              rw [b136] at h
              dsimp only [cond] at h
              cases b145 : Nat.ble 145 a.toNat with
              | true =>
                rw [b145] at h
                dsimp only [cond] at h
                cases c145 : Nat.beq a.toNat 145 with
                | false => rw [c145] at h; cases h
                | true =>
                  rw [c145] at h
                  dsimp only [cond] at h
                  have ea := u8_eq c145 (by decide)
                  subst ea
                  cases h
                  exact dec_145 h0
              | false =>
                rw [b145] at h
                dsimp only [cond] at h
                cases c136 : Nat.beq a.toNat 136 with
                | false => rw [c136] at h; cases h
                | true =>
                  rw [c136] at h
                  dsimp only [cond] at h
                  have ea := u8_eq c136 (by decide)
                  subst ea
                  cases h
                  exact dec_136 h0
            | false =>
              rw [b136] at h
              dsimp only [cond] at h
              cases b135 : Nat.ble 135 a.toNat with
              | true =>
                rw [b135] at h
                dsimp only [cond] at h
                cases c135 : Nat.beq a.toNat 135 with
                | false => rw [c135] at h; cases h
                | true =>
                  rw [c135] at h
                  dsimp only [cond] at h
                  have ea := u8_eq c135 (by decide)
                  subst ea
                  cases h
                  exact dec_135 h0
              | false =>
                rw [b135] at h
                dsimp only [cond] at h
                cases c133 : Nat.beq a.toNat 133 with
                | false => rw [c133] at h; cases h
                | true =>
                  rw [c133] at h
                  dsimp only [cond] at h
                  have ea := u8_eq c133 (by decide)
                  subst ea
                  cases h
                  exact dec_133 h0
          | false =>
            rw [b133] at h
            dsimp only [cond] at h
            cases b131 : Nat.ble 131 a.toNat with
            | true =>
              rw [b131] at h
              dsimp only [cond] at h
              cases b132 : Nat.ble 132 a.toNat with
              | true =>
                rw [b132] at h
                dsimp only [cond] at h
                cases c132 : Nat.beq a.toNat 132 with
                | false => rw [c132] at h; cases h
                | true =>
                  rw [c132] at h
                  dsimp only [cond] at h
                  have ea := u8_eq c132 (by decide)
                  subst ea
                  match r, h1, h with
                  | x :: y :: _, h1, h => cases h; exact dec_132 h0 h1.1 h1.2.1
              | false =>
                rw [b132] at h
                dsimp only [cond] at h
                cases c131 : Nat.beq a.toNat 131 with
                | false => rw [c131] at h; cases h
                | true =>
                  rw [c131] at h
                  dsimp only [cond] at h
                  have ea := u8_eq c131 (by decide)
                  subst ea
                  cases h
                  exact dec_131 h0
            | false =>
              rw [b131] at h
              dsimp only [cond] at h
              cases b129 : Nat.ble 129 a.toNat with
              | true =>
                rw [b129] at h
                dsimp only [cond] at h
                cases c129 : Nat.beq a.toNat 129 with
                | false => rw [c129] at h; cases h
                | true =>
                  rw [c129] at h
                  dsimp only [cond] at h
                  have ea := u8_eq c129 (by decide)
                  subst ea
                  cases h
                  exact dec_129 h0
              | false =>
                rw [b129] at h
                dsimp only [cond] at h
                cases c128 : Nat.beq a.toNat 128 with
                | false => rw [c128] at h; cases h
                | true =>
                  rw [c128] at h
                  dsimp only [cond] at h
                  have ea := u8_eq c128 (by decide)
                  subst ea
                  cases h
                  exact dec_128 h0
        | false =>
          rw [b128] at h
          dsimp only [cond] at h
          cases b124 : Nat.ble 124 a.toNat with
          | true =>
            rw [b124] at h
            dsimp only [cond] at h
            cases b126 : Nat.ble 126 a.toNat with
            | true =>
              rw [b126] at h
              dsimp only [cond] at h
              cases b127 : Nat.ble 127 a.toNat with
              | true =>
                rw [b127] at h
                dsimp only [cond] at h
                cases c127 : Nat.beq a.toNat 127 with
                | false => rw [c127] at h; cases h
                | true =>
                  rw [c127] at h
                  dsimp only [cond] at h
                  have ea := u8_eq c127 (by decide)
                  subst ea
                  cases h
                  exact dec_127 h0
              | false =>
                rw [b127] at h
                dsimp only [cond] at h
                cases c126 : Nat.beq a.toNat 126 with
                | false => rw [c126] at h; cases h
                | true =>
                  rw [c126] at h
                  dsimp only [cond] at h
                  have ea := u8_eq c126 (by decide)
                  subst ea
                  cases h
                  exact dec_126 h0
            | false =>
              rw [b126] at h
              dsimp only [cond] at h
              cases b125 : Nat.ble 125 a.toNat with
              | true =>
                rw [b125] at h
                dsimp only [cond] at h
                cases c125 : Nat.beq a.toNat 125 with
                | false => rw [c125] at h; cases h
                | true =>
                  rw [c125] at h
                  dsimp only [cond] at h
                  have ea := u8_eq c125 (by decide)
                  subst ea
                  cases h
                  exact dec_125 h0
              | false =>
                rw [b125] at h
                dsimp only [cond] at h
                cases c124 : Nat.beq a.toNat 124 with
                | false => rw [c124] at h; cases h
                | true =>
                  rw [c124] at h
                  dsimp only [cond] at h
                  have ea := u8_eq c124 (by decide)
                  subst ea
                  cases h
                  exact dec_124 h0
          | false =>
            rw [b124] at h
            dsimp only [cond] at h
            cases b121 : Nat.ble 121 a.toNat with
            | true =>
              rw [b121] at h
              dsimp only [cond] at h
              cases b122 : Nat.ble 122 a.toNat with
              | true =>
                rw [b122] at h
                dsimp only [cond] at h
                cases c122 : Nat.beq a.toNat 122 with
                | false => rw [c122] at h; cases h
                | true =>
                  rw [c122] at h
                  dsimp only [cond] at h
                  have ea := u8_eq c122 (by decide)
                  subst ea
                  cases h
                  exact dec_122 h0
              | false =>
                rw [b122] at h
                dsimp only [cond] at h
                cases c121 : Nat.beq a.toNat 121 with
                | false => rw [c121] at h; cases h
                | true =>
                  rw [c121] at h
                  dsimp only [cond] at h
                  have ea := u8_eq c121 (by decide)
                  subst ea
                  cases h
                  exact dec_121 h0
            | false =>
              rw [b121] at h
              dsimp only [cond] at h
              cases c120 : Nat.beq a.toNat 120 with
              | false => rw [c120] at h; cases h
              | true =>
                rw [c120] at h
                dsimp only [cond] at h
                have ea := u8_eq c120 (by decide)
                subst ea
                cases h
                exact dec_120 h0
      | false =>
        rw [b120] at h
        dsimp only [cond] at h
        cases b97 : Nat.ble 97 a.toNat with
        | true =>
          rw [b97] at h
          dsimp only [cond] at h
          cases b105 : Nat.ble 105 a.toNat with
          | true =>
            rw [b105] at h
            dsimp only [cond] at h
            cases b111 : Nat.ble 111 a.toNat with
            | true =>
              rw [b111] at h
              dsimp only [cond] at h
              cases b112 : Nat.ble 112 a.toNat with
              | true =>
                rw [b112] at h
                dsimp only [cond] at h
                cases c112 : Nat.beq a.toNat 112 with
                | false => rw [c112] at h; cases h
                | true =>
                  rw [c112] at h
                  dsimp only [cond] at h
                  have ea := u8_eq c112 (by decide)
                  subst ea
                  cases h
                  exact dec_112 h0
              | false =>
                rw [b112] at h
                dsimp only [cond] at h
                cases c111 : Nat.beq a.toNat 111 with
                | false => rw [c111] at h; cases h
                | true =>
                  rw [c111] at h
                  dsimp only [cond] at h
                  have ea := u8_eq c111 (by decide)
                  subst ea
                  cases h
                  exact dec_111 h0
            | false =>
              rw [b111] at h
              dsimp only [cond] at h
              cases b108 : Nat.ble 108 a.toNat with
              | true =>
                rw [b108] at h
                dsimp only [cond] at h
                cases c108 : Nat.beq a.toNat 108 with
                | false => rw [c108] at h; cases h
                | true =>
                  rw [c108] at h
                  dsimp only [cond] at h
                  have ea := u8_eq c108 (by decide)
                  subst ea
                  cases h
                  exact dec_108 h0
              | false =>
                rw [b108] at h
                dsimp only [cond] at h
                cases c105 : Nat.beq a.toNat 105 with
                | false => rw [c105] at h; cases h
                | true =>
                  rw [c105] at h
                  dsimp only [cond] at h
                  have ea := u8_eq c105 (by decide)
                  subst ea
                  cases h
                  exact dec_105 h0
          | false =>
            rw [b105] at h
            dsimp only [cond] at h
            cases b101 : Nat.ble 101 a.toNat with
            | true =>
              rw [b101] at h
              dsimp only [cond] at h
              cases b104 : Nat.ble 104 a.toNat with
              | true =>
                rw [b104] at h
                dsimp only [cond] at h
                cases c104 : Nat.beq a.toNat 104 with
                | false => rw [c104] at h; cases h
                | true =>
                  rw [c104] at h
                  dsimp only [cond] at h
                  have ea := u8_eq c104 (by decide)
                  subst ea
                  cases h
                  exact dec_104 h0
              | false =>
                rw [b104] at h
                dsimp only [cond] at h
                cases c101 : Nat.beq a.toNat 101 with
                | false => rw [c101] at h; cases h
                | true =>
                  rw [c101] at h
                  dsimp only [cond] at h
                  have ea := u8_eq c101 (by decide)
                  subst ea
                  cases h
                  exact dec_101 h0
            | false =>
              rw [b101] at h
              dsimp only [cond] at h
              cases b100 : Nat.ble 100 a.toNat with
              | true =>
                rw [b100] at h
                dsimp only [cond] at h
                cases c100 : Nat.beq a.toNat 100 with
                | false => rw [c100] at h; cases h
                | true =>
                  rw [c100] at h
                  dsimp only [cond] at h
                  have ea := u8_eq c100 (by decide)
                  subst ea
                  cases h
                  exact dec_100 h0
              | false =>
                rw [b100] at h
                dsimp only [cond] at h
                cases c97 : Nat.beq a.toNat 97 with
                | false => rw [c97] at h; cases h
                | true =>
                  rw [c97] at h
                  dsimp only [cond] at h
                  have ea := u8_eq c97 (by decide)
                  subst ea
                  cases h
                  exact dec_97 h0
        | false =>
          rw [b97] at h
          dsimp only [cond] at h
          cases b87 : Nat.ble 87 a.toNat with
          | true =>
            rw [b87] at h
            dsimp only [cond] at h
            cases b92 : Nat.ble 92 a.toNat with
            | true =>
              rw [b92] at h
              dsimp only [cond] at h
              cases b96 : Nat.ble 96 a.toNat with
              | true =>
                rw [b96] at h
                dsimp only [cond] at h
                cases c96 : Nat.beq a.toNat 96 with
                | false => rw [c96] at h; cases h
                | true =>
                  rw [c96] at h
                  dsimp only [cond] at h
                  have ea := u8_eq c96 (by decide)
                  subst ea
                  cases h
                  exact dec_96 h0
              | false =>
                rw [b96] at h
                dsimp only [cond] at h
                cases c92 : Nat.beq a.toNat 92 with
                | false => rw [c92] at h; cases h
                | true =>
                  rw [c92] at h
                  dsimp only [cond] at h
                  have ea := u8_eq c92 (by decide)
                  subst ea
                  cases h
                  exact dec_92 h0
            | false =>
              rw [b92] at h
              dsimp only [cond] at h
              cases b89 : Nat.ble 89 a.toNat with
              | true =>
                rw [b89] at h
                dsimp only [cond] at h
                cases c89 : Nat.beq a.toNat 89 with
                | false => rw [c89] at h; cases h
                | true =>
                  rw [c89] at h
                  dsimp only [cond] at h
                  have ea := u8_eq c89 (by decide)
                  subst ea
                  cases h
                  exact dec_89 h0
              | false =>
                rw [b89] at h
                dsimp only [cond] at h
                cases c87 : Nat.beq a.toNat 87 with
                | false => rw [c87] at h; cases h
                | true =>
                  rw [c87] at h
                  dsimp only [cond] at h
                  have ea := u8_eq c87 (by decide)
                  subst ea
                  cases h
                  exact dec_87 h0
          | false =>
            rw [b87] at h
            dsimp only [cond] at h
            cases b83 : Nat.ble 83 a.toNat with
            | true =>
              rw [b83] at h
              dsimp only [cond] at h
              cases b84 : Nat.ble 84 a.toNat with
              | true =>
                rw [b84] at h
                dsimp only [cond] at h
                cases c84 : Nat.beq a.toNat 84 with
                | false => rw [c84] at h; cases h
                | true =>
                  rw [c84] at h
                  dsimp only [cond] at h
                  have ea := u8_eq c84 (by decide)
                  subst ea
                  cases h
                  exact dec_84 h0
              | false =>
                rw [b84] at h
                dsimp only [cond] at h
                cases c83 : Nat.beq a.toNat 83 with
                | false => rw [c83] at h; cases h
                | true =>
                  rw [c83] at h
                  dsimp only [cond] at h
                  have ea := u8_eq c83 (by decide)
                  subst ea
                  cases h
                  exact dec_83 h0
            | false =>
              rw [b83] at h
              dsimp only [cond] at h
              cases c80 : Nat.beq a.toNat 80 with
              | false => rw [c80] at h; cases h
              | true =>
                rw [c80] at h
                dsimp only [cond] at h
                have ea := u8_eq c80 (by decide)
                subst ea
                cases h
                exact dec_80 h0
  | false =>
    rw [b80] at h
    dsimp only [cond] at h
    cases b40 : Nat.ble 40 a.toNat with
    | true =>
      rw [b40] at h
      dsimp only [cond] at h
      cases b60 : Nat.ble 60 a.toNat with
      | true =>
        rw [b60] at h
        dsimp only [cond] at h
        cases b72 : Nat.ble 72 a.toNat with
        | true =>
          rw [b72] at h
          dsimp only [cond] at h
          cases b76 : Nat.ble 76 a.toNat with
          | true =>
            rw [b76] at h
            dsimp only [cond] at h
            cases b78 : Nat.ble 78 a.toNat with
            | true =>
              rw [b78] at h
              dsimp only [cond] at h
              cases b79 : Nat.ble 79 a.toNat with
              | true =>
                rw [b79] at h
                dsimp only [cond] at h
                cases c79 : Nat.beq a.toNat 79 with
                | false => rw [c79] at h; cases h
                | true =>
                  rw [c79] at h
                  dsimp only [cond] at h
                  have ea := u8_eq c79 (by decide)
                  subst ea
                  cases h
                  exact dec_79 h0
              | false =>
                rw [b79] at h
                dsimp only [cond] at h
                cases c78 : Nat.beq a.toNat 78 with
                | false => rw [c78] at h; cases h
                | true =>
                  rw [c78] at h
                  dsimp only [cond] at h
                  have ea := u8_eq c78 (by decide)
                  subst ea
                  cases h
                  exact dec_78 h0
            | false =>
              rw [b78] at h
              dsimp only [cond] at h
              cases b77 : Nat.ble 77 a.toNat with
              | true =>
                rw [b77] at h
                dsimp only [cond] at h
                cases c77 : Nat.beq a.toNat 77 with
                | false => rw [c77] at h; cases h
                | true =>
                  rw [c77] at h
                  dsimp only [cond] at h
                  have ea := u8_eq c77 (by decide)
                  subst ea
                  cases h
                  exact dec_77 h0
              | false =>
                rw [b77] at h
                dsimp only [cond] at h
                cases c76 : Nat.beq a.toNat 76 with
                | false => rw [c76] at h; cases h
                | true =>
                  rw [c76] at h
                  dsimp only [cond] at h
                  have ea := u8_eq c76 (by decide)
                  subst ea
                  cases h
                  exact dec_76 h0
          | false =>
            rw [b76] at h
            dsimp only [cond] at h
            cases b74 : Nat.ble 74 a.toNat with
            | true =>
              rw [b74] at h
              dsimp only [cond] at h
              cases b75 : Nat.ble 75 a.toNat with
              | true =>
                rw [b75] at h
                dsimp only [cond] at h
                cases c75 : Nat.beq a.toNat 75 with
                | false => rw [c75] at h; cases h
                | true =>
                  rw [c75] at h
                  dsimp only [cond] at h
                  have ea := u8_eq c75 (by decide)
                  subst ea
                  cases h
                  exact dec_75 h0
              | false =>
                rw [b75] at h
                dsimp only [cond] at h
                cases c74 : Nat.beq a.toNat 74 with
                | false => rw [c74] at h; cases h
                | true =>
                  rw [c74] at h
                  dsimp only [cond] at h
                  have ea := u8_eq c74 (by decide)
                  subst ea
                  cases h
                  exact dec_74 h0
            | false =>
              rw [b74] at h
              dsimp only [cond] at h
              cases b73 : Nat.ble 73 a.toNat with
              | true =>
                rw [b73] at h
                dsimp only [cond] at h
                cases c73 : Nat.beq a.toNat 73 with
                | false => rw [c73] at h; cases h
                | true =>
                  rw [c73] at h
                  dsimp only [cond] at h
                  have ea := u8_eq c73 (by decide)
                  subst ea
                  cases h
                  exact dec_73 h0
              | false =>
                rw [b73] at h
                dsimp only [cond] at h
                cases c72 : Nat.beq a.toNat 72 with
                | false => rw [c72] at h; cases h
                | true =>
                  rw [c72] at h
                  dsimp only [cond] at h
                  have ea := u8_eq c72 (by decide)
                  subst ea
                  cases h
                  exact dec_72 h0
        | false =>
          rw [b72] at h
          dsimp only [cond] at h
          cases b64 : Nat.ble 64 a.toNat with
          | true =>
            rw [b64] at h
            dsimp only [cond] at h
            cases b66 : Nat.ble 66 a.toNat with
            | true =>
              rw [b66] at h
              dsimp only [cond] at h
              cases b71 : Nat.ble 71 a.toNat with
              | true =>
                rw [b71] at h
                dsimp only [cond] at h
                cases c71 : Nat.beq a.toNat 71 with
                | false => rw [c71] at h; cases h
                | true =>
                  rw [c71] at h
                  dsimp only [cond] at h
                  have ea := u8_eq c71 (by decide)
                  subst ea
                  cases h
                  exact dec_71 h0
              | false =>
                rw [b71] at h
                dsimp only [cond] at h
                cases c66 : Nat.beq a.toNat 66 with
                | false => rw [c66] at h; cases h
                | true =>
                  rw [c66] at h
                  dsimp only [cond] at h
                  have ea := u8_eq c66 (by decide)
                  subst ea
                  cases h
                  exact dec_66 h0
            | false =>
              rw [b66] at h
              dsimp only [cond] at h
              cases b65 : Nat.ble 65 a.toNat with
              | true =>
                rw [b65] at h
                dsimp only [cond] at h
                cases c65 : Nat.beq a.toNat 65 with
                | false => rw [c65] at h; cases h
                | true =>
                  rw [c65] at h
                  dsimp only [cond] at h
                  have ea := u8_eq c65 (by decide)
                  subst ea
                  cases h
                  exact dec_65 h0
              | false =>
                rw [b65] at h
                dsimp only [cond] at h
                cases c64 : Nat.beq a.toNat 64 with
                | false => rw [c64] at h; cases h
                | true =>
                  rw [c64] at h
                  dsimp only [cond] at h
                  have ea := u8_eq c64 (by decide)
                  subst ea
                  cases h
                  exact dec_64 h0
          | false =>
            rw [b64] at h
            dsimp only [cond] at h
            cases b62 : Nat.ble 62 a.toNat with
            | true =>
              rw [b62] at h
              dsimp only [cond] at h
              cases b63 : Nat.ble 63 a.toNat with
              | true =>
                rw [b63] at h
                dsimp only [cond] at h
                cases c63 : Nat.beq a.toNat 63 with
                | false => rw [c63] at h; cases h
                | true =>
                  rw [c63] at h
                  dsimp only [cond] at h
                  have ea := u8_eq c63 (by decide)
                  subst ea
                  cases h
                  exact dec_63 h0
              | false =>
                rw [b63] at h
                dsimp only [cond] at h
                cases c62 : Nat.beq a.toNat 62 with
                | false => rw [c62] at h; cases h
                | true =>
                  rw [c62] at h
                  dsimp only [cond] at h
                  have ea := u8_eq c62 (by decide)
                  subst ea
                  cases h
                  exact dec_62 h0
            | false =>
              rw [b62] at h
              dsimp only [cond] at h
              cases b61 : Nat.ble 61 a.toNat with
              | true =>
                rw [b61] at h
                dsimp only [cond] at h
                cases c61 : Nat.beq a.toNat 61 with
                | false => rw [c61] at h; cases h
                | true =>
                  rw [c61] at h
                  dsimp only [cond] at h
                  have ea := u8_eq c61 (by decide)
                  subst ea
                  cases h
                  exact dec_61 h0
              | false =>
                rw [b61] at h
                dsimp only [cond] at h
                cases c60 : Nat.beq a.toNat 60 with
                | false => rw [c60] at h; cases h
                | true =>
                  rw [c60] at h
                  dsimp only [cond] at h
                  have ea := u8_eq c60 (by decide)
                  subst ea
                  cases h
                  exact dec_60 h0
      | false =>
        rw [b60] at h
        dsimp only [cond] at h
        cases b47 : Nat.ble 47 a.toNat with
        | true =>
          rw [b47] at h
          dsimp only [cond] at h
          cases b55 : Nat.ble 55 a.toNat with
          | true =>
            rw [b55] at h
            dsimp only [cond] at h
            cases b58 : Nat.ble 58 a.toNat with
            | true =>
              rw [b58] at h
              dsimp only [cond] at h
              cases b59 : Nat.ble 59 a.toNat with
              | true =>
                rw [b59] at h
                dsimp only [cond] at h
                cases c59 : Nat.beq a.toNat 59 with
                | false => rw [c59] at h; cases h
                | true =>
                  rw [c59] at h
                  dsimp only [cond] at h
                  have ea := u8_eq c59 (by decide)
                  subst ea
                  cases h
                  exact dec_59 h0
              | false =>
                rw [b59] at h
                dsimp only [cond] at h
                cases c58 : Nat.beq a.toNat 58 with
                | false => rw [c58] at h; cases h
                | true =>
                  rw [c58] at h
                  dsimp only [cond] at h
                  have ea := u8_eq c58 (by decide)
                  subst ea
                  match r, h1, h with
                  | x :: _, h1, h => cases h; exact dec_58 h0 h1.1
            | false =>
              rw [b58] at h
              dsimp only [cond] at h
              cases b57 : Nat.ble 57 a.toNat with
              | true =>
                rw [b57] at h
                dsimp only [cond] at h
                cases c57 : Nat.beq a.toNat 57 with
                | false => rw [c57] at h; cases h
                | true =>
                  rw [c57] at h
                  dsimp only [cond] at h
                  have ea := u8_eq c57 (by decide)
                  subst ea
                  match r, h1, h with
                  | x :: _, h1, h => cases h; exact dec_57 h0 h1.1
              | false =>
                rw [b57] at h
                dsimp only [cond] at h
                cases c55 : Nat.beq a.toNat 55 with
                | false => rw [c55] at h; cases h
                | true =>
                  rw [c55] at h
                  dsimp only [cond] at h
                  have ea := u8_eq c55 (by decide)
                  subst ea
                  match r, h1, h with
                  | x :: _, h1, h => cases h; exact dec_55 h0 h1.1
          | false =>
            rw [b55] at h
            dsimp only [cond] at h
            cases b51 : Nat.ble 51 a.toNat with
            | true =>
              rw [b51] at h
              dsimp only [cond] at h
              cases b54 : Nat.ble 54 a.toNat with
              | true =>
                rw [b54] at h
                dsimp only [cond] at h
                cases c54 : Nat.beq a.toNat 54 with
                | false => rw [c54] at h; cases h
                | true =>
                  rw [c54] at h
                  dsimp only [cond] at h
                  have ea := u8_eq c54 (by decide)
                  subst ea
                  match r, h1, h with
                  | x :: _, h1, h => cases h; exact dec_54 h0 h1.1
              | false =>
                rw [b54] at h
                dsimp only [cond] at h
                cases c51 : Nat.beq a.toNat 51 with
                | false => rw [c51] at h; cases h
                | true =>
                  rw [c51] at h
                  dsimp only [cond] at h
                  have ea := u8_eq c51 (by decide)
                  subst ea
                  cases h
                  exact dec_51 h0
            | false =>
              rw [b51] at h
              dsimp only [cond] at h
              cases b50 : Nat.ble 50 a.toNat with
              | true =>
                rw [b50] at h
                dsimp only [cond] at h
                cases c50 : Nat.beq a.toNat 50 with
                | false => rw [c50] at h; cases h
                | true =>
                  rw [c50] at h
                  dsimp only [cond] at h
                  have ea := u8_eq c50 (by decide)
                  subst ea
                  cases h
                  exact dec_50 h0
              | false =>
                rw [b50] at h
                dsimp only [cond] at h
                cases c47 : Nat.beq a.toNat 47 with
                | false => rw [c47] at h; cases h
                | true =>
                  rw [c47] at h
                  dsimp only [cond] at h
                  have ea := u8_eq c47 (by decide)
                  subst ea
                  cases h
                  exact dec_47 h0
        | false =>
          rw [b47] at h
          dsimp only [cond] at h
          cases b43 : Nat.ble 43 a.toNat with
          | true =>
            rw [b43] at h
            dsimp only [cond] at h
            cases b45 : Nat.ble 45 a.toNat with
            | true =>
              rw [b45] at h
              dsimp only [cond] at h
              cases b46 : Nat.ble 46 a.toNat with
              | true =>
                rw [b46] at h
                dsimp only [cond] at h
                cases c46 : Nat.beq a.toNat 46 with
                | false => rw [c46] at h; cases h
                | true =>
                  rw [c46] at h
                  dsimp only [cond] at h
                  have ea := u8_eq c46 (by decide)
                  subst ea
                  cases h
                  exact dec_46 h0
              | false =>
                rw [b46] at h
                dsimp only [cond] at h
                cases c45 : Nat.beq a.toNat 45 with
                | false => rw [c45] at h; cases h
                | true =>
                  rw [c45] at h
                  dsimp only [cond] at h
                  have ea := u8_eq c45 (by decide)
                  subst ea
                  cases h
                  exact dec_45 h0
            | false =>
              rw [b45] at h
              dsimp only [cond] at h
              cases b44 : Nat.ble 44 a.toNat with
              | true =>
                rw [b44] at h
                dsimp only [cond] at h
                cases c44 : Nat.beq a.toNat 44 with
                | false => rw [c44] at h; cases h
                | true =>
                  rw [c44] at h
                  dsimp only [cond] at h
                  have ea := u8_eq c44 (by decide)
                  subst ea
                  cases h
                  exact dec_44 h0
              | false =>
                rw [b44] at h
                dsimp only [cond] at h
                cases c43 : Nat.beq a.toNat 43 with
                | false => rw [c43] at h; cases h
                | true =>
                  rw [c43] at h
                  dsimp only [cond] at h
                  have ea := u8_eq c43 (by decide)
                  subst ea
                  cases h
                  exact dec_43 h0
          | false =>
            rw [b43] at h
            dsimp only [cond] at h
            cases b41 : Nat.ble 41 a.toNat with
            | true =>
              rw [b41] at h
              dsimp only [cond] at h
              cases b42 : Nat.ble 42 a.toNat with
              | true =>
                rw [b42] at h
                dsimp only [cond] at h
                cases c42 : Nat.beq a.toNat 42 with
                | false => rw [c42] at h; cases h
                | true =>
                  rw [c42] at h
                  dsimp only [cond] at h
                  have ea := u8_eq c42 (by decide)
                  subst ea
                  cases h
                  exact dec_42 h0
              | false =>
                rw [b42] at h
                dsimp only [cond] at h
                cases c41 : Nat.beq a.toNat 41 with
                | false => rw [c41] at h; cases h
                | true =>
                  rw [c41] at h
                  dsimp only [cond] at h
                  have ea := u8_eq c41 (by decide)
                  subst ea
                  cases h
                  exact dec_41 h0
            | false =>
              rw [b41] at h
              dsimp only [cond] at h
              cases c40 : Nat.beq a.toNat 40 with
              | false => rw [c40] at h; cases h
              | true =>
                rw [c40] at h
                dsimp only [cond] at h
                have ea := u8_eq c40 (by decide)
                subst ea
                cases h
                exact dec_40 h0
    | false =>
      rw [b40] at h
      dsimp only [cond] at h
      cases b20 : Nat.ble 20 a.toNat with
      | true =>
        rw [b20] at h
        dsimp only [cond] at h
        cases b28 : Nat.ble 28 a.toNat with
        | true =>
          rw [b28] at h
          dsimp only [cond] at h
          cases b32 : Nat.ble 32 a.toNat with
          | true =>
            rw [b32] at h
            dsimp only [cond] at h
            cases b38 : Nat.ble 38 a.toNat with
            | true =>
              rw [b38] at h
              dsimp only [cond] at h
              cases b39 : Nat.ble 39 a.toNat with
              | true =>
                rw [b39] at h
                dsimp only [cond] at h
                cases c39 : Nat.beq a.toNat 39 with
                | false => rw [c39] at h; cases h
                | true =>
                  rw [c39] at h
                  dsimp only [cond] at h
                  have ea := u8_eq c39 (by decide)
                  subst ea
                  cases h
                  exact dec_39 h0
              | false =>
                rw [b39] at h
                dsimp only [cond] at h
                cases c38 : Nat.beq a.toNat 38 with
                | false => rw [c38] at h; cases h
                | true =>
                  rw [c38] at h
                  dsimp only [cond] at h
                  have ea := u8_eq c38 (by decide)
                  subst ea
                  cases h
                  exact dec_38 h0
            | false =>
              rw [b38] at h
              dsimp only [cond] at h
              cases b33 : Nat.ble 33 a.toNat with
              | true =>
                rw [b33] at h
                dsimp only [cond] at h
                cases c33 : Nat.beq a.toNat 33 with
                | false => rw [c33] at h; cases h
                | true =>
                  rw [c33] at h
                  dsimp only [cond] at h
                  have ea := u8_eq c33 (by decide)
                  subst ea
                  cases h
                  exact dec_33 h0
              | false =>
                rw [b33] at h
                dsimp only [cond] at h
                cases c32 : Nat.beq a.toNat 32 with
                | false => rw [c32] at h; cases h
                | true =>
                  rw [c32] at h
                  dsimp only [cond] at h
                  have ea := u8_eq c32 (by decide)
                  subst ea
                  cases h
                  exact dec_32 h0
          | false =>
            rw [b32] at h
            dsimp only [cond] at h
            cases b30 : Nat.ble 30 a.toNat with
            | true =>
              rw [b30] at h
              dsimp only [cond] at h
              cases b31 : Nat.ble 31 a.toNat with
              | true =>
                rw [b31] at h
                dsimp only [cond] at h
                cases c31 : Nat.beq a.toNat 31 with
                | false => rw [c31] at h; cases h
                | true =>
                  rw [c31] at h
                  dsimp only [cond] at h
                  have ea := u8_eq c31 (by decide)
                  subst ea
                  cases h
                  exact dec_31 h0
              | false =>
                rw [b31] at h
                dsimp only [cond] at h
                cases c30 : Nat.beq a.toNat 30 with
                | false => rw [c30] at h; cases h
                | true =>
                  rw [c30] at h
                  dsimp only [cond] at h
                  have ea := u8_eq c30 (by decide)
                  subst ea
                  cases h
                  exact dec_30 h0
            | false =>
              rw [b30] at h
              dsimp only [cond] at h
              cases b29 : Nat.ble 29 a.toNat with
              | true =>
                rw [b29] at h
                dsimp only [cond] at h
                cases c29 : Nat.beq a.toNat 29 with
                | false => rw [c29] at h; cases h
                | true =>
                  rw [c29] at h
                  dsimp only [cond] at h
                  have ea := u8_eq c29 (by decide)
                  subst ea
                  cases h
                  exact dec_29 h0
              | false =>
                rw [b29] at h
                dsimp only [cond] at h
                cases c28 : Nat.beq a.toNat 28 with
                | false => rw [c28] at h; cases h
                | true =>
                  rw [c28] at h
                  dsimp only [cond] at h
                  have ea := u8_eq c28 (by decide)
                  subst ea
                  cases h
                  exact dec_28 h0
        | false =>
          rw [b28] at h
          dsimp only [cond] at h
          cases b24 : Nat.ble 24 a.toNat with
          | true =>
            rw [b24] at h
            dsimp only [cond] at h
            cases b26 : Nat.ble 26 a.toNat with
            | true =>
              rw [b26] at h
              dsimp only [cond] at h
              cases b27 : Nat.ble 27 a.toNat with
              | true =>
                rw [b27] at h
                dsimp only [cond] at h
                cases c27 : Nat.beq a.toNat 27 with
                | false => rw [c27] at h; cases h
                | true =>
                  rw [c27] at h
                  dsimp only [cond] at h
                  have ea := u8_eq c27 (by decide)
                  subst ea
                  cases h
                  exact dec_27 h0
              | false =>
                rw [b27] at h
                dsimp only [cond] at h
                cases c26 : Nat.beq a.toNat 26 with
                | false => rw [c26] at h; cases h
                | true =>
                  rw [c26] at h
                  dsimp only [cond] at h
                  have ea := u8_eq c26 (by decide)
                  subst ea
                  cases h
                  exact dec_26 h0
            | false =>
              rw [b26] at h
              dsimp only [cond] at h
              cases b25 : Nat.ble 25 a.toNat with
              | true =>
                rw [b25] at h
                dsimp only [cond] at h
                cases c25 : Nat.beq a.toNat 25 with
                | false => rw [c25] at h; cases h
                | true =>
                  rw [c25] at h
                  dsimp only [cond] at h
                  have ea := u8_eq c25 (by decide)
                  subst ea
                  match r, h1, h with
                  | x :: _, h1, h => cases h; exact dec_25 h0 h1.1
              | false =>
                rw [b25] at h
                dsimp only [cond] at h
                cases c24 : Nat.beq a.toNat 24 with
                | false => rw [c24] at h; cases h
                | true =>
                  rw [c24] at h
                  dsimp only [cond] at h
                  have ea := u8_eq c24 (by decide)
                  subst ea
                  match r, h1, h with
                  | x :: _, h1, h => cases h; exact dec_24 h0 h1.1
          | false =>
            rw [b24] at h
            dsimp only [cond] at h
            cases b21 : Nat.ble 21 a.toNat with
            | true =>
              rw [b21] at h
              dsimp only [cond] at h
              cases b22 : Nat.ble 22 a.toNat with
              | true =>
                rw [b22] at h
                dsimp only [cond] at h
                cases c22 : Nat.beq a.toNat 22 with
                | false => rw [c22] at h; cases h
                | true =>
                  rw [c22] at h
                  dsimp only [cond] at h
                  have ea := u8_eq c22 (by decide)
                  subst ea
                  match r, h1, h with
                  | x :: _, h1, h => cases h; exact dec_22 h0 h1.1
              | false =>
                rw [b22] at h
                dsimp only [cond] at h
                cases c21 : Nat.beq a.toNat 21 with
                | false => rw [c21] at h; cases h
                | true =>
                  rw [c21] at h
                  dsimp only [cond] at h
                  have ea := u8_eq c21 (by decide)
                  subst ea
                  match r, h1, h with
                  | x :: _, h1, h => cases h; exact dec_21 h0 h1.1
            | false =>
              rw [b21] at h
              dsimp only [cond] at h
              cases c20 : Nat.beq a.toNat 20 with
              | false => rw [c20] at h; cases h
              | true =>
                rw [c20] at h
                dsimp only [cond] at h
                have ea := u8_eq c20 (by decide)
                subst ea
                match r, h1, h with
                | x :: y :: _, h1, h => cases h; exact dec_20 h0 h1.1 h1.2.1
      | false =>
        rw [b20] at h
        dsimp only [cond] at h
        cases b9 : Nat.ble 9 a.toNat with
        | true =>
          rw [b9] at h
          dsimp only [cond] at h
          cases b16 : Nat.ble 16 a.toNat with
          | true =>
            rw [b16] at h
            dsimp only [cond] at h
            cases b18 : Nat.ble 18 a.toNat with
            | true =>
              rw [b18] at h
              dsimp only [cond] at h
              cases b19 : Nat.ble 19 a.toNat with
              | true =>
                rw [b19] at h
                dsimp only [cond] at h
                cases c19 : Nat.beq a.toNat 19 with
                | false => rw [c19] at h; cases h
                | true =>
                  rw [c19] at h
                  dsimp only [cond] at h
                  have ea := u8_eq c19 (by decide)
                  subst ea
                  match r, h1, h with
                  | x :: y :: _, h1, h => cases h; exact dec_19 h0 h1.1 h1.2.1
              | false =>
                rw [b19] at h
                dsimp only [cond] at h
                cases c18 : Nat.beq a.toNat 18 with
                | false => rw [c18] at h; cases h
                | true =>
                  rw [c18] at h
                  dsimp only [cond] at h
                  have ea := u8_eq c18 (by decide)
                  subst ea
                  match r, h1, h with
                  | x :: _, h1, h => cases h; exact dec_18 h0 h1.1
            | false =>
              rw [b18] at h
              dsimp only [cond] at h
              cases b17 : Nat.ble 17 a.toNat with
              | true =>
                rw [b17] at h
                dsimp only [cond] at h
                cases c17 : Nat.beq a.toNat 17 with
                | false => rw [c17] at h; cases h
                | true =>
                  rw [c17] at h
                  dsimp only [cond] at h
                  have ea := u8_eq c17 (by decide)
                  subst ea
                  match r, h1, h with
                  | x :: y :: _, h1, h => cases h; exact dec_17 h0 h1.1 h1.2.1
              | false =>
                rw [b17] at h
                dsimp only [cond] at h
                cases c16 : Nat.beq a.toNat 16 with
                | false => rw [c16] at h; cases h
                | true =>
                  rw [c16] at h
                  dsimp only [cond] at h
                  have ea := u8_eq c16 (by decide)
                  subst ea
                  match r, h1, h with
                  | x :: _, h1, h => cases h; exact dec_16 h0 h1.1
          | false =>
            rw [b16] at h
            dsimp only [cond] at h
            cases b14 : Nat.ble 14 a.toNat with
            | true =>
              rw [b14] at h
              dsimp only [cond] at h
              cases b15 : Nat.ble 15 a.toNat with
              | true =>
                rw [b15] at h
                dsimp only [cond] at h
                cases c15 : Nat.beq a.toNat 15 with
                | false => rw [c15] at h; cases h
                | true =>
                  rw [c15] at h
                  dsimp only [cond] at h
                  have ea := u8_eq c15 (by decide)
                  subst ea
                  cases h
                  exact dec_15 h0
              | false =>
                rw [b15] at h
                dsimp only [cond] at h
                cases c14 : Nat.beq a.toNat 14 with
                | false => rw [c14] at h; cases h
                | true =>
                  rw [c14] at h
                  dsimp only [cond] at h
                  have ea := u8_eq c14 (by decide)
                  subst ea
                  cases h
                  exact dec_14 h0
            | false =>
              rw [b14] at h
              dsimp only [cond] at h
              cases b10 : Nat.ble 10 a.toNat with
              | true =>
                rw [b10] at h
                dsimp only [cond] at h
                cases c10 : Nat.beq a.toNat 10 with
                | false => rw [c10] at h; cases h
                | true =>
                  rw [c10] at h
                  dsimp only [cond] at h
                  have ea := u8_eq c10 (by decide)
                  subst ea
                  cases h
                  exact dec_10 h0
              | false =>
                rw [b10] at h
                dsimp only [cond] at h
                cases c9 : Nat.beq a.toNat 9 with
                | false => rw [c9] at h; cases h
                | true =>
                  rw [c9] at h
                  dsimp only [cond] at h
                  have ea := u8_eq c9 (by decide)
                  subst ea
                  cases h
                  exact dec_9 h0
        | false =>
          rw [b9] at h
          dsimp only [cond] at h
          cases b5 : Nat.ble 5 a.toNat with
          | true =>
            rw [b5] at h
            dsimp only [cond] at h
            cases b7 : Nat.ble 7 a.toNat with
            | true =>
              rw [b7] at h
              dsimp only [cond] at h
              cases b8 : Nat.ble 8 a.toNat with
              | true =>
                rw [b8] at h
                dsimp only [cond] at h
                cases c8 : Nat.beq a.toNat 8 with
                | false => rw [c8] at h; cases h
                | true =>
                  rw [c8] at h
                  dsimp only [cond] at h
                  have ea := u8_eq c8 (by decide)
                  subst ea
                  cases h
                  exact dec_8 h0
              | false =>
                rw [b8] at h
                dsimp only [cond] at h
                cases c7 : Nat.beq a.toNat 7 with
                | false => rw [c7] at h; cases h
                | true =>
                  rw [c7] at h
                  dsimp only [cond] at h
                  have ea := u8_eq c7 (by decide)
                  subst ea
                  cases h
                  exact dec_7 h0
            | false =>
              rw [b7] at h
              dsimp only [cond] at h
              cases b6 : Nat.ble 6 a.toNat with
              | true =>
                rw [b6] at h
                dsimp only [cond] at h
                cases c6 : Nat.beq a.toNat 6 with
                | false => rw [c6] at h; cases h
                | true =>
                  rw [c6] at h
                  dsimp only [cond] at h
                  have ea := u8_eq c6 (by decide)
                  subst ea
                  cases h
                  exact dec_6 h0
              | false =>
                rw [b6] at h
                dsimp only [cond] at h
                cases c5 : Nat.beq a.toNat 5 with
                | false => rw [c5] at h; cases h
                | true =>
                  rw [c5] at h
                  dsimp only [cond] at h
                  have ea := u8_eq c5 (by decide)
                  subst ea
                  cases h
                  exact dec_5 h0
          | false =>
            rw [b5] at h
            dsimp only [cond] at h
            cases b3 : Nat.ble 3 a.toNat with
            | true =>
              rw [b3] at h
              dsimp only [cond] at h
              cases b4 : Nat.ble 4 a.toNat with
              | true =>
                rw [b4] at h
                dsimp only [cond] at h
                cases c4 : Nat.beq a.toNat 4 with
                | false => rw [c4] at h; cases h
                | true =>
                  rw [c4] at h
                  dsimp only [cond] at h
                  have ea := u8_eq c4 (by decide)
                  subst ea
                  cases h
                  exact dec_4 h0
              | false =>
                rw [b4] at h
                dsimp only [cond] at h
                cases c3 : Nat.beq a.toNat 3 with
                | false => rw [c3] at h; cases h
                | true =>
                  rw [c3] at h
                  dsimp only [cond] at h
                  have ea := u8_eq c3 (by decide)
                  subst ea
                  cases h
                  exact dec_3 h0
            | false =>
              rw [b3] at h
              dsimp only [cond] at h
              cases c2 : Nat.beq a.toNat 2 with
              | false => rw [c2] at h; cases h
              | true =>
                rw [c2] at h
                dsimp only [cond] at h
                have ea := u8_eq c2 (by decide)
                subst ea
                cases h
                exact dec_2 h0
