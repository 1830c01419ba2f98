/-! how bytes decode: an opcode a row -/
section DF
variable {b : ByteArray} {p : Nat} {o x y : UInt8} {r : List UInt8}
theorem df_drop (h : b.data.toList.drop p = o :: r) : ∃ hp : p < b.size, b[p] = o ∧ b.data.toList.drop (p + 1) = r := by
  have hl : p < b.data.toList.length := by
    apply Decidable.byContradiction
    intro z
    rw [List.drop_eq_nil_of_le (by omega)] at h
    cases h
  rw [List.drop_eq_getElem_cons hl] at h
  have h1 := (List.cons.inj h).1
  have h2 := (List.cons.inj h).2
  have hs : p < b.size := by
    rw [Array.length_toList] at hl
    exact hl
  refine ⟨hs, ?_, h2⟩
  rw [← h1]
  rfl
theorem df_u1 (h : b.data.toList.drop p = o :: r) : (Reader.u1 : Reader DecodeError Nat) b p = Except.ok (o.toNat, p + 1) := by
  obtain ⟨hp, e, -⟩ := df_drop h
  subst e
  show (dite (p < b.size) (fun h => ((set (p + 1) >>= fun _ => pure (b[p].toNat)) : Reader DecodeError Nat)) (fun _ => (throw (HasTruncated.truncated p) : Reader DecodeError Nat))) b p = _
  rw [dif_pos hp]
  rfl
theorem df_bind {α β : Type} {m : Reader DecodeError α} {f : α → Reader DecodeError β} {a : α} {p' : Nat} (h : m b p = Except.ok (a, p')) : (m >>= f) b p = f a b p' := by
  show Except.bind (m b p) (fun q => f q.1 b q.2) = _
  rw [h]
  rfl
theorem df_u2 (h : b.data.toList.drop p = x :: y :: r) : (Reader.u2 : Reader DecodeError Nat) b p = Except.ok (x.toNat * 256 + y.toNat, p + 2) := by
  obtain ⟨-, -, h2⟩ := df_drop h
  unfold Reader.u2
  rw [df_bind (df_u1 h), df_bind (df_u1 h2)]
  rfl
theorem df_s1 (h : b.data.toList.drop p = x :: r) : (Reader.s1 : Reader DecodeError Int) b p = Except.ok (Reader.signed 8 x.toNat, p + 1) := by
  unfold Reader.s1
  show ((Reader.u1 : Reader DecodeError Nat) >>= fun k => pure (Reader.signed 8 k)) b p = _
  rw [df_bind (df_u1 h)]
  rfl
theorem df_s2 (h : b.data.toList.drop p = x :: y :: r) : (Reader.s2 : Reader DecodeError Int) b p = Except.ok (Reader.signed 16 (x.toNat * 256 + y.toNat), p + 2) := by
  unfold Reader.s2
  show ((Reader.u2 : Reader DecodeError Nat) >>= fun k => pure (Reader.signed 16 k)) b p = _
  rw [df_bind (df_u2 h)]
  rfl
theorem df_of {i : Instr} {k : Nat} (h : Decoder.instr p b p = Except.ok (i, p + k)) : decode b p = .ok (i, k) := by
  unfold decode
  show Except.bind (Decoder.instr p b p) (fun q => Except.ok (q.1, q.2 - p)) = _
  rw [h]
  show Except.ok (i, p + k - p) = _
  rw [Nat.add_sub_cancel_left]
set_option maxRecDepth 20000 in
theorem dk_2 (h : b.data.toList.drop p = o :: r) (ho : o.toNat = 2) : decode b p = .ok (.iconst (-1), 1) := by
  refine df_of ?_
  unfold Decoder.instr
  rw [df_bind (df_u1 h), ho]
  rfl
set_option maxRecDepth 20000 in
theorem dk_3 (h : b.data.toList.drop p = o :: r) (ho : o.toNat = 3) : decode b p = .ok (.iconst 0, 1) := by
  refine df_of ?_
  unfold Decoder.instr
  rw [df_bind (df_u1 h), ho]
  rfl
set_option maxRecDepth 20000 in
theorem dk_4 (h : b.data.toList.drop p = o :: r) (ho : o.toNat = 4) : decode b p = .ok (.iconst 1, 1) := by
  refine df_of ?_
  unfold Decoder.instr
  rw [df_bind (df_u1 h), ho]
  rfl
set_option maxRecDepth 20000 in
theorem dk_5 (h : b.data.toList.drop p = o :: r) (ho : o.toNat = 5) : decode b p = .ok (.iconst 2, 1) := by
  refine df_of ?_
  unfold Decoder.instr
  rw [df_bind (df_u1 h), ho]
  rfl
set_option maxRecDepth 20000 in
theorem dk_6 (h : b.data.toList.drop p = o :: r) (ho : o.toNat = 6) : decode b p = .ok (.iconst 3, 1) := by
  refine df_of ?_
  unfold Decoder.instr
  rw [df_bind (df_u1 h), ho]
  rfl
set_option maxRecDepth 20000 in
theorem dk_7 (h : b.data.toList.drop p = o :: r) (ho : o.toNat = 7) : decode b p = .ok (.iconst 4, 1) := by
  refine df_of ?_
  unfold Decoder.instr
  rw [df_bind (df_u1 h), ho]
  rfl
set_option maxRecDepth 20000 in
theorem dk_8 (h : b.data.toList.drop p = o :: r) (ho : o.toNat = 8) : decode b p = .ok (.iconst 5, 1) := by
  refine df_of ?_
  unfold Decoder.instr
  rw [df_bind (df_u1 h), ho]
  rfl
set_option maxRecDepth 20000 in
theorem dk_9 (h : b.data.toList.drop p = o :: r) (ho : o.toNat = 9) : decode b p = .ok (.lconst 0, 1) := by
  refine df_of ?_
  unfold Decoder.instr
  rw [df_bind (df_u1 h), ho]
  rfl
set_option maxRecDepth 20000 in
theorem dk_10 (h : b.data.toList.drop p = o :: r) (ho : o.toNat = 10) : decode b p = .ok (.lconst 1, 1) := by
  refine df_of ?_
  unfold Decoder.instr
  rw [df_bind (df_u1 h), ho]
  rfl
set_option maxRecDepth 20000 in
theorem dk_26 (h : b.data.toList.drop p = o :: r) (ho : o.toNat = 26) : decode b p = .ok (.iload_n 0, 1) := by
  refine df_of ?_
  unfold Decoder.instr
  rw [df_bind (df_u1 h), ho]
  rfl
set_option maxRecDepth 20000 in
theorem dk_27 (h : b.data.toList.drop p = o :: r) (ho : o.toNat = 27) : decode b p = .ok (.iload_n 1, 1) := by
  refine df_of ?_
  unfold Decoder.instr
  rw [df_bind (df_u1 h), ho]
  rfl
set_option maxRecDepth 20000 in
theorem dk_28 (h : b.data.toList.drop p = o :: r) (ho : o.toNat = 28) : decode b p = .ok (.iload_n 2, 1) := by
  refine df_of ?_
  unfold Decoder.instr
  rw [df_bind (df_u1 h), ho]
  rfl
set_option maxRecDepth 20000 in
theorem dk_29 (h : b.data.toList.drop p = o :: r) (ho : o.toNat = 29) : decode b p = .ok (.iload_n 3, 1) := by
  refine df_of ?_
  unfold Decoder.instr
  rw [df_bind (df_u1 h), ho]
  rfl
set_option maxRecDepth 20000 in
theorem dk_30 (h : b.data.toList.drop p = o :: r) (ho : o.toNat = 30) : decode b p = .ok (.lload_n 0, 1) := by
  refine df_of ?_
  unfold Decoder.instr
  rw [df_bind (df_u1 h), ho]
  rfl
set_option maxRecDepth 20000 in
theorem dk_31 (h : b.data.toList.drop p = o :: r) (ho : o.toNat = 31) : decode b p = .ok (.lload_n 1, 1) := by
  refine df_of ?_
  unfold Decoder.instr
  rw [df_bind (df_u1 h), ho]
  rfl
set_option maxRecDepth 20000 in
theorem dk_32 (h : b.data.toList.drop p = o :: r) (ho : o.toNat = 32) : decode b p = .ok (.lload_n 2, 1) := by
  refine df_of ?_
  unfold Decoder.instr
  rw [df_bind (df_u1 h), ho]
  rfl
set_option maxRecDepth 20000 in
theorem dk_33 (h : b.data.toList.drop p = o :: r) (ho : o.toNat = 33) : decode b p = .ok (.lload_n 3, 1) := by
  refine df_of ?_
  unfold Decoder.instr
  rw [df_bind (df_u1 h), ho]
  rfl
set_option maxRecDepth 20000 in
theorem dk_42 (h : b.data.toList.drop p = o :: r) (ho : o.toNat = 42) : decode b p = .ok (.aload_n 0, 1) := by
  refine df_of ?_
  unfold Decoder.instr
  rw [df_bind (df_u1 h), ho]
  rfl
set_option maxRecDepth 20000 in
theorem dk_43 (h : b.data.toList.drop p = o :: r) (ho : o.toNat = 43) : decode b p = .ok (.aload_n 1, 1) := by
  refine df_of ?_
  unfold Decoder.instr
  rw [df_bind (df_u1 h), ho]
  rfl
set_option maxRecDepth 20000 in
theorem dk_44 (h : b.data.toList.drop p = o :: r) (ho : o.toNat = 44) : decode b p = .ok (.aload_n 2, 1) := by
  refine df_of ?_
  unfold Decoder.instr
  rw [df_bind (df_u1 h), ho]
  rfl
set_option maxRecDepth 20000 in
theorem dk_45 (h : b.data.toList.drop p = o :: r) (ho : o.toNat = 45) : decode b p = .ok (.aload_n 3, 1) := by
  refine df_of ?_
  unfold Decoder.instr
  rw [df_bind (df_u1 h), ho]
  rfl
set_option maxRecDepth 20000 in
theorem dk_59 (h : b.data.toList.drop p = o :: r) (ho : o.toNat = 59) : decode b p = .ok (.istore_n 0, 1) := by
  refine df_of ?_
  unfold Decoder.instr
  rw [df_bind (df_u1 h), ho]
  rfl
set_option maxRecDepth 20000 in
theorem dk_60 (h : b.data.toList.drop p = o :: r) (ho : o.toNat = 60) : decode b p = .ok (.istore_n 1, 1) := by
  refine df_of ?_
  unfold Decoder.instr
  rw [df_bind (df_u1 h), ho]
  rfl
set_option maxRecDepth 20000 in
theorem dk_61 (h : b.data.toList.drop p = o :: r) (ho : o.toNat = 61) : decode b p = .ok (.istore_n 2, 1) := by
  refine df_of ?_
  unfold Decoder.instr
  rw [df_bind (df_u1 h), ho]
  rfl
set_option maxRecDepth 20000 in
theorem dk_62 (h : b.data.toList.drop p = o :: r) (ho : o.toNat = 62) : decode b p = .ok (.istore_n 3, 1) := by
  refine df_of ?_
  unfold Decoder.instr
  rw [df_bind (df_u1 h), ho]
  rfl
set_option maxRecDepth 20000 in
theorem dk_75 (h : b.data.toList.drop p = o :: r) (ho : o.toNat = 75) : decode b p = .ok (.astore_n 0, 1) := by
  refine df_of ?_
  unfold Decoder.instr
  rw [df_bind (df_u1 h), ho]
  rfl
set_option maxRecDepth 20000 in
theorem dk_76 (h : b.data.toList.drop p = o :: r) (ho : o.toNat = 76) : decode b p = .ok (.astore_n 1, 1) := by
  refine df_of ?_
  unfold Decoder.instr
  rw [df_bind (df_u1 h), ho]
  rfl
set_option maxRecDepth 20000 in
theorem dk_77 (h : b.data.toList.drop p = o :: r) (ho : o.toNat = 77) : decode b p = .ok (.astore_n 2, 1) := by
  refine df_of ?_
  unfold Decoder.instr
  rw [df_bind (df_u1 h), ho]
  rfl
set_option maxRecDepth 20000 in
theorem dk_78 (h : b.data.toList.drop p = o :: r) (ho : o.toNat = 78) : decode b p = .ok (.astore_n 3, 1) := by
  refine df_of ?_
  unfold Decoder.instr
  rw [df_bind (df_u1 h), ho]
  rfl
set_option maxRecDepth 20000 in
theorem dk_46 (h : b.data.toList.drop p = o :: r) (ho : o.toNat = 46) : decode b p = .ok (.iaload, 1) := by
  refine df_of ?_
  unfold Decoder.instr
  rw [df_bind (df_u1 h), ho]
  rfl
set_option maxRecDepth 20000 in
theorem dk_47 (h : b.data.toList.drop p = o :: r) (ho : o.toNat = 47) : decode b p = .ok (.laload, 1) := by
  refine df_of ?_
  unfold Decoder.instr
  rw [df_bind (df_u1 h), ho]
  rfl
set_option maxRecDepth 20000 in
theorem dk_50 (h : b.data.toList.drop p = o :: r) (ho : o.toNat = 50) : decode b p = .ok (.aaload, 1) := by
  refine df_of ?_
  unfold Decoder.instr
  rw [df_bind (df_u1 h), ho]
  rfl
set_option maxRecDepth 20000 in
theorem dk_79 (h : b.data.toList.drop p = o :: r) (ho : o.toNat = 79) : decode b p = .ok (.iastore, 1) := by
  refine df_of ?_
  unfold Decoder.instr
  rw [df_bind (df_u1 h), ho]
  rfl
set_option maxRecDepth 20000 in
theorem dk_80 (h : b.data.toList.drop p = o :: r) (ho : o.toNat = 80) : decode b p = .ok (.lastore, 1) := by
  refine df_of ?_
  unfold Decoder.instr
  rw [df_bind (df_u1 h), ho]
  rfl
set_option maxRecDepth 20000 in
theorem dk_87 (h : b.data.toList.drop p = o :: r) (ho : o.toNat = 87) : decode b p = .ok (.pop, 1) := by
  refine df_of ?_
  unfold Decoder.instr
  rw [df_bind (df_u1 h), ho]
  rfl
set_option maxRecDepth 20000 in
theorem dk_88 (h : b.data.toList.drop p = o :: r) (ho : o.toNat = 88) : decode b p = .ok (.pop2, 1) := by
  refine df_of ?_
  unfold Decoder.instr
  rw [df_bind (df_u1 h), ho]
  rfl
set_option maxRecDepth 20000 in
theorem dk_89 (h : b.data.toList.drop p = o :: r) (ho : o.toNat = 89) : decode b p = .ok (.dup, 1) := by
  refine df_of ?_
  unfold Decoder.instr
  rw [df_bind (df_u1 h), ho]
  rfl
set_option maxRecDepth 20000 in
theorem dk_92 (h : b.data.toList.drop p = o :: r) (ho : o.toNat = 92) : decode b p = .ok (.dup2, 1) := by
  refine df_of ?_
  unfold Decoder.instr
  rw [df_bind (df_u1 h), ho]
  rfl
set_option maxRecDepth 20000 in
theorem dk_96 (h : b.data.toList.drop p = o :: r) (ho : o.toNat = 96) : decode b p = .ok (.iadd, 1) := by
  refine df_of ?_
  unfold Decoder.instr
  rw [df_bind (df_u1 h), ho]
  rfl
set_option maxRecDepth 20000 in
theorem dk_97 (h : b.data.toList.drop p = o :: r) (ho : o.toNat = 97) : decode b p = .ok (.ladd, 1) := by
  refine df_of ?_
  unfold Decoder.instr
  rw [df_bind (df_u1 h), ho]
  rfl
set_option maxRecDepth 20000 in
theorem dk_100 (h : b.data.toList.drop p = o :: r) (ho : o.toNat = 100) : decode b p = .ok (.isub, 1) := by
  refine df_of ?_
  unfold Decoder.instr
  rw [df_bind (df_u1 h), ho]
  rfl
set_option maxRecDepth 20000 in
theorem dk_104 (h : b.data.toList.drop p = o :: r) (ho : o.toNat = 104) : decode b p = .ok (.imul, 1) := by
  refine df_of ?_
  unfold Decoder.instr
  rw [df_bind (df_u1 h), ho]
  rfl
set_option maxRecDepth 20000 in
theorem dk_105 (h : b.data.toList.drop p = o :: r) (ho : o.toNat = 105) : decode b p = .ok (.lmul, 1) := by
  refine df_of ?_
  unfold Decoder.instr
  rw [df_bind (df_u1 h), ho]
  rfl
set_option maxRecDepth 20000 in
theorem dk_108 (h : b.data.toList.drop p = o :: r) (ho : o.toNat = 108) : decode b p = .ok (.idiv, 1) := by
  refine df_of ?_
  unfold Decoder.instr
  rw [df_bind (df_u1 h), ho]
  rfl
set_option maxRecDepth 20000 in
theorem dk_109 (h : b.data.toList.drop p = o :: r) (ho : o.toNat = 109) : decode b p = .ok (.ldiv, 1) := by
  refine df_of ?_
  unfold Decoder.instr
  rw [df_bind (df_u1 h), ho]
  rfl
set_option maxRecDepth 20000 in
theorem dk_112 (h : b.data.toList.drop p = o :: r) (ho : o.toNat = 112) : decode b p = .ok (.irem, 1) := by
  refine df_of ?_
  unfold Decoder.instr
  rw [df_bind (df_u1 h), ho]
  rfl
set_option maxRecDepth 20000 in
theorem dk_113 (h : b.data.toList.drop p = o :: r) (ho : o.toNat = 113) : decode b p = .ok (.lrem, 1) := by
  refine df_of ?_
  unfold Decoder.instr
  rw [df_bind (df_u1 h), ho]
  rfl
set_option maxRecDepth 20000 in
theorem dk_116 (h : b.data.toList.drop p = o :: r) (ho : o.toNat = 116) : decode b p = .ok (.ineg, 1) := by
  refine df_of ?_
  unfold Decoder.instr
  rw [df_bind (df_u1 h), ho]
  rfl
set_option maxRecDepth 20000 in
theorem dk_117 (h : b.data.toList.drop p = o :: r) (ho : o.toNat = 117) : decode b p = .ok (.lneg, 1) := by
  refine df_of ?_
  unfold Decoder.instr
  rw [df_bind (df_u1 h), ho]
  rfl
set_option maxRecDepth 20000 in
theorem dk_120 (h : b.data.toList.drop p = o :: r) (ho : o.toNat = 120) : decode b p = .ok (.ishl, 1) := by
  refine df_of ?_
  unfold Decoder.instr
  rw [df_bind (df_u1 h), ho]
  rfl
set_option maxRecDepth 20000 in
theorem dk_122 (h : b.data.toList.drop p = o :: r) (ho : o.toNat = 122) : decode b p = .ok (.ishr, 1) := by
  refine df_of ?_
  unfold Decoder.instr
  rw [df_bind (df_u1 h), ho]
  rfl
set_option maxRecDepth 20000 in
theorem dk_124 (h : b.data.toList.drop p = o :: r) (ho : o.toNat = 124) : decode b p = .ok (.iushr, 1) := by
  refine df_of ?_
  unfold Decoder.instr
  rw [df_bind (df_u1 h), ho]
  rfl
set_option maxRecDepth 20000 in
theorem dk_126 (h : b.data.toList.drop p = o :: r) (ho : o.toNat = 126) : decode b p = .ok (.iand, 1) := by
  refine df_of ?_
  unfold Decoder.instr
  rw [df_bind (df_u1 h), ho]
  rfl
set_option maxRecDepth 20000 in
theorem dk_128 (h : b.data.toList.drop p = o :: r) (ho : o.toNat = 128) : decode b p = .ok (.ior, 1) := by
  refine df_of ?_
  unfold Decoder.instr
  rw [df_bind (df_u1 h), ho]
  rfl
set_option maxRecDepth 20000 in
theorem dk_130 (h : b.data.toList.drop p = o :: r) (ho : o.toNat = 130) : decode b p = .ok (.ixor, 1) := by
  refine df_of ?_
  unfold Decoder.instr
  rw [df_bind (df_u1 h), ho]
  rfl
set_option maxRecDepth 20000 in
theorem dk_133 (h : b.data.toList.drop p = o :: r) (ho : o.toNat = 133) : decode b p = .ok (.i2l, 1) := by
  refine df_of ?_
  unfold Decoder.instr
  rw [df_bind (df_u1 h), ho]
  rfl
set_option maxRecDepth 20000 in
theorem dk_136 (h : b.data.toList.drop p = o :: r) (ho : o.toNat = 136) : decode b p = .ok (.l2i, 1) := by
  refine df_of ?_
  unfold Decoder.instr
  rw [df_bind (df_u1 h), ho]
  rfl
set_option maxRecDepth 20000 in
theorem dk_145 (h : b.data.toList.drop p = o :: r) (ho : o.toNat = 145) : decode b p = .ok (.i2b, 1) := by
  refine df_of ?_
  unfold Decoder.instr
  rw [df_bind (df_u1 h), ho]
  rfl
set_option maxRecDepth 20000 in
theorem dk_147 (h : b.data.toList.drop p = o :: r) (ho : o.toNat = 147) : decode b p = .ok (.i2s, 1) := by
  refine df_of ?_
  unfold Decoder.instr
  rw [df_bind (df_u1 h), ho]
  rfl
set_option maxRecDepth 20000 in
theorem dk_148 (h : b.data.toList.drop p = o :: r) (ho : o.toNat = 148) : decode b p = .ok (.lcmp, 1) := by
  refine df_of ?_
  unfold Decoder.instr
  rw [df_bind (df_u1 h), ho]
  rfl
set_option maxRecDepth 20000 in
theorem dk_172 (h : b.data.toList.drop p = o :: r) (ho : o.toNat = 172) : decode b p = .ok (.ireturn, 1) := by
  refine df_of ?_
  unfold Decoder.instr
  rw [df_bind (df_u1 h), ho]
  rfl
set_option maxRecDepth 20000 in
theorem dk_173 (h : b.data.toList.drop p = o :: r) (ho : o.toNat = 173) : decode b p = .ok (.lreturn, 1) := by
  refine df_of ?_
  unfold Decoder.instr
  rw [df_bind (df_u1 h), ho]
  rfl
set_option maxRecDepth 20000 in
theorem dk_177 (h : b.data.toList.drop p = o :: r) (ho : o.toNat = 177) : decode b p = .ok (.return_, 1) := by
  refine df_of ?_
  unfold Decoder.instr
  rw [df_bind (df_u1 h), ho]
  rfl
set_option maxRecDepth 20000 in
theorem dk_190 (h : b.data.toList.drop p = o :: r) (ho : o.toNat = 190) : decode b p = .ok (.arraylength, 1) := by
  refine df_of ?_
  unfold Decoder.instr
  rw [df_bind (df_u1 h), ho]
  rfl
set_option maxRecDepth 20000 in
theorem dk_18 (h : b.data.toList.drop p = o :: x :: r) (ho : o.toNat = 18) : decode b p = .ok (.ldc (x.toNat), 2) := by
  obtain ⟨-, -, h2⟩ := df_drop h
  refine df_of ?_
  unfold Decoder.instr
  rw [df_bind (df_u1 h), ho]
  show ((Reader.u1 >>= fun k => pure (Instr.ldc k)) : Decoder Instr) b (p + 1) = _
  rw [df_bind (df_u1 h2)]
  rfl
set_option maxRecDepth 20000 in
theorem dk_21 (h : b.data.toList.drop p = o :: x :: r) (ho : o.toNat = 21) : decode b p = .ok (.iload (x.toNat), 2) := by
  obtain ⟨-, -, h2⟩ := df_drop h
  refine df_of ?_
  unfold Decoder.instr
  rw [df_bind (df_u1 h), ho]
  show ((Reader.u1 >>= fun k => pure (Instr.iload k)) : Decoder Instr) b (p + 1) = _
  rw [df_bind (df_u1 h2)]
  rfl
set_option maxRecDepth 20000 in
theorem dk_22 (h : b.data.toList.drop p = o :: x :: r) (ho : o.toNat = 22) : decode b p = .ok (.lload (x.toNat), 2) := by
  obtain ⟨-, -, h2⟩ := df_drop h
  refine df_of ?_
  unfold Decoder.instr
  rw [df_bind (df_u1 h), ho]
  show ((Reader.u1 >>= fun k => pure (Instr.lload k)) : Decoder Instr) b (p + 1) = _
  rw [df_bind (df_u1 h2)]
  rfl
set_option maxRecDepth 20000 in
theorem dk_25 (h : b.data.toList.drop p = o :: x :: r) (ho : o.toNat = 25) : decode b p = .ok (.aload (x.toNat), 2) := by
  obtain ⟨-, -, h2⟩ := df_drop h
  refine df_of ?_
  unfold Decoder.instr
  rw [df_bind (df_u1 h), ho]
  show ((Reader.u1 >>= fun k => pure (Instr.aload k)) : Decoder Instr) b (p + 1) = _
  rw [df_bind (df_u1 h2)]
  rfl
set_option maxRecDepth 20000 in
theorem dk_54 (h : b.data.toList.drop p = o :: x :: r) (ho : o.toNat = 54) : decode b p = .ok (.istore (x.toNat), 2) := by
  obtain ⟨-, -, h2⟩ := df_drop h
  refine df_of ?_
  unfold Decoder.instr
  rw [df_bind (df_u1 h), ho]
  show ((Reader.u1 >>= fun k => pure (Instr.istore k)) : Decoder Instr) b (p + 1) = _
  rw [df_bind (df_u1 h2)]
  rfl
set_option maxRecDepth 20000 in
theorem dk_55 (h : b.data.toList.drop p = o :: x :: r) (ho : o.toNat = 55) : decode b p = .ok (.lstore (x.toNat), 2) := by
  obtain ⟨-, -, h2⟩ := df_drop h
  refine df_of ?_
  unfold Decoder.instr
  rw [df_bind (df_u1 h), ho]
  show ((Reader.u1 >>= fun k => pure (Instr.lstore k)) : Decoder Instr) b (p + 1) = _
  rw [df_bind (df_u1 h2)]
  rfl
set_option maxRecDepth 20000 in
theorem dk_58 (h : b.data.toList.drop p = o :: x :: r) (ho : o.toNat = 58) : decode b p = .ok (.astore (x.toNat), 2) := by
  obtain ⟨-, -, h2⟩ := df_drop h
  refine df_of ?_
  unfold Decoder.instr
  rw [df_bind (df_u1 h), ho]
  show ((Reader.u1 >>= fun k => pure (Instr.astore k)) : Decoder Instr) b (p + 1) = _
  rw [df_bind (df_u1 h2)]
  rfl
set_option maxRecDepth 20000 in
theorem dk_19 (h : b.data.toList.drop p = o :: x :: y :: r) (ho : o.toNat = 19) : decode b p = .ok (.ldc_w (x.toNat * 256 + y.toNat), 3) := by
  obtain ⟨-, -, h2⟩ := df_drop h
  refine df_of ?_
  unfold Decoder.instr
  rw [df_bind (df_u1 h), ho]
  show ((Reader.u2 >>= fun k => pure (Instr.ldc_w k)) : Decoder Instr) b (p + 1) = _
  rw [df_bind (df_u2 h2)]
  rfl
set_option maxRecDepth 20000 in
theorem dk_20 (h : b.data.toList.drop p = o :: x :: y :: r) (ho : o.toNat = 20) : decode b p = .ok (.ldc2_w (x.toNat * 256 + y.toNat), 3) := by
  obtain ⟨-, -, h2⟩ := df_drop h
  refine df_of ?_
  unfold Decoder.instr
  rw [df_bind (df_u1 h), ho]
  show ((Reader.u2 >>= fun k => pure (Instr.ldc2_w k)) : Decoder Instr) b (p + 1) = _
  rw [df_bind (df_u2 h2)]
  rfl
set_option maxRecDepth 20000 in
theorem dk_178 (h : b.data.toList.drop p = o :: x :: y :: r) (ho : o.toNat = 178) : decode b p = .ok (.getstatic (x.toNat * 256 + y.toNat), 3) := by
  obtain ⟨-, -, h2⟩ := df_drop h
  refine df_of ?_
  unfold Decoder.instr
  rw [df_bind (df_u1 h), ho]
  show ((Reader.u2 >>= fun k => pure (Instr.getstatic k)) : Decoder Instr) b (p + 1) = _
  rw [df_bind (df_u2 h2)]
  rfl
set_option maxRecDepth 20000 in
theorem dk_180 (h : b.data.toList.drop p = o :: x :: y :: r) (ho : o.toNat = 180) : decode b p = .ok (.getfield (x.toNat * 256 + y.toNat), 3) := by
  obtain ⟨-, -, h2⟩ := df_drop h
  refine df_of ?_
  unfold Decoder.instr
  rw [df_bind (df_u1 h), ho]
  show ((Reader.u2 >>= fun k => pure (Instr.getfield k)) : Decoder Instr) b (p + 1) = _
  rw [df_bind (df_u2 h2)]
  rfl
set_option maxRecDepth 20000 in
theorem dk_181 (h : b.data.toList.drop p = o :: x :: y :: r) (ho : o.toNat = 181) : decode b p = .ok (.putfield (x.toNat * 256 + y.toNat), 3) := by
  obtain ⟨-, -, h2⟩ := df_drop h
  refine df_of ?_
  unfold Decoder.instr
  rw [df_bind (df_u1 h), ho]
  show ((Reader.u2 >>= fun k => pure (Instr.putfield k)) : Decoder Instr) b (p + 1) = _
  rw [df_bind (df_u2 h2)]
  rfl
set_option maxRecDepth 20000 in
theorem dk_182 (h : b.data.toList.drop p = o :: x :: y :: r) (ho : o.toNat = 182) : decode b p = .ok (.invokevirtual (x.toNat * 256 + y.toNat), 3) := by
  obtain ⟨-, -, h2⟩ := df_drop h
  refine df_of ?_
  unfold Decoder.instr
  rw [df_bind (df_u1 h), ho]
  show ((Reader.u2 >>= fun k => pure (Instr.invokevirtual k)) : Decoder Instr) b (p + 1) = _
  rw [df_bind (df_u2 h2)]
  rfl
set_option maxRecDepth 20000 in
theorem dk_184 (h : b.data.toList.drop p = o :: x :: y :: r) (ho : o.toNat = 184) : decode b p = .ok (.invokestatic (x.toNat * 256 + y.toNat), 3) := by
  obtain ⟨-, -, h2⟩ := df_drop h
  refine df_of ?_
  unfold Decoder.instr
  rw [df_bind (df_u1 h), ho]
  show ((Reader.u2 >>= fun k => pure (Instr.invokestatic k)) : Decoder Instr) b (p + 1) = _
  rw [df_bind (df_u2 h2)]
  rfl
set_option maxRecDepth 20000 in
theorem dk_16 (h : b.data.toList.drop p = o :: x :: r) (ho : o.toNat = 16) : decode b p = .ok (.bipush (Reader.signed 8 x.toNat), 2) := by
  obtain ⟨-, -, h2⟩ := df_drop h
  refine df_of ?_
  unfold Decoder.instr
  rw [df_bind (df_u1 h), ho]
  show ((Reader.s1 >>= fun k => pure (Instr.bipush k)) : Decoder Instr) b (p + 1) = _
  rw [df_bind (df_s1 h2)]
  rfl
set_option maxRecDepth 20000 in
theorem dk_17 (h : b.data.toList.drop p = o :: x :: y :: r) (ho : o.toNat = 17) : decode b p = .ok (.sipush (Reader.signed 16 (x.toNat * 256 + y.toNat)), 3) := by
  obtain ⟨-, -, h2⟩ := df_drop h
  refine df_of ?_
  unfold Decoder.instr
  rw [df_bind (df_u1 h), ho]
  show ((Reader.s2 >>= fun k => pure (Instr.sipush k)) : Decoder Instr) b (p + 1) = _
  rw [df_bind (df_s2 h2)]
  rfl
set_option maxRecDepth 20000 in
theorem dk_167 (h : b.data.toList.drop p = o :: x :: y :: r) (ho : o.toNat = 167) : decode b p = .ok (.goto (Reader.signed 16 (x.toNat * 256 + y.toNat)), 3) := by
  obtain ⟨-, -, h2⟩ := df_drop h
  refine df_of ?_
  unfold Decoder.instr
  rw [df_bind (df_u1 h), ho]
  show ((Reader.s2 >>= fun k => pure (Instr.goto k)) : Decoder Instr) b (p + 1) = _
  rw [df_bind (df_s2 h2)]
  rfl
set_option maxRecDepth 20000 in
theorem dk_153 (h : b.data.toList.drop p = o :: x :: y :: r) (ho : o.toNat = 153) : decode b p = .ok (.ifCond .eq (Reader.signed 16 (x.toNat * 256 + y.toNat)), 3) := by
  obtain ⟨-, -, h2⟩ := df_drop h
  refine df_of ?_
  unfold Decoder.instr
  rw [df_bind (df_u1 h), ho]
  show ((Reader.s2 >>= fun k => pure (Instr.ifCond .eq k)) : Decoder Instr) b (p + 1) = _
  rw [df_bind (df_s2 h2)]
  rfl
set_option maxRecDepth 20000 in
theorem dk_154 (h : b.data.toList.drop p = o :: x :: y :: r) (ho : o.toNat = 154) : decode b p = .ok (.ifCond .ne (Reader.signed 16 (x.toNat * 256 + y.toNat)), 3) := by
  obtain ⟨-, -, h2⟩ := df_drop h
  refine df_of ?_
  unfold Decoder.instr
  rw [df_bind (df_u1 h), ho]
  show ((Reader.s2 >>= fun k => pure (Instr.ifCond .ne k)) : Decoder Instr) b (p + 1) = _
  rw [df_bind (df_s2 h2)]
  rfl
set_option maxRecDepth 20000 in
theorem dk_155 (h : b.data.toList.drop p = o :: x :: y :: r) (ho : o.toNat = 155) : decode b p = .ok (.ifCond .lt (Reader.signed 16 (x.toNat * 256 + y.toNat)), 3) := by
  obtain ⟨-, -, h2⟩ := df_drop h
  refine df_of ?_
  unfold Decoder.instr
  rw [df_bind (df_u1 h), ho]
  show ((Reader.s2 >>= fun k => pure (Instr.ifCond .lt k)) : Decoder Instr) b (p + 1) = _
  rw [df_bind (df_s2 h2)]
  rfl
set_option maxRecDepth 20000 in
theorem dk_156 (h : b.data.toList.drop p = o :: x :: y :: r) (ho : o.toNat = 156) : decode b p = .ok (.ifCond .ge (Reader.signed 16 (x.toNat * 256 + y.toNat)), 3) := by
  obtain ⟨-, -, h2⟩ := df_drop h
  refine df_of ?_
  unfold Decoder.instr
  rw [df_bind (df_u1 h), ho]
  show ((Reader.s2 >>= fun k => pure (Instr.ifCond .ge k)) : Decoder Instr) b (p + 1) = _
  rw [df_bind (df_s2 h2)]
  rfl
set_option maxRecDepth 20000 in
theorem dk_157 (h : b.data.toList.drop p = o :: x :: y :: r) (ho : o.toNat = 157) : decode b p = .ok (.ifCond .gt (Reader.signed 16 (x.toNat * 256 + y.toNat)), 3) := by
  obtain ⟨-, -, h2⟩ := df_drop h
  refine df_of ?_
  unfold Decoder.instr
  rw [df_bind (df_u1 h), ho]
  show ((Reader.s2 >>= fun k => pure (Instr.ifCond .gt k)) : Decoder Instr) b (p + 1) = _
  rw [df_bind (df_s2 h2)]
  rfl
set_option maxRecDepth 20000 in
theorem dk_158 (h : b.data.toList.drop p = o :: x :: y :: r) (ho : o.toNat = 158) : decode b p = .ok (.ifCond .le (Reader.signed 16 (x.toNat * 256 + y.toNat)), 3) := by
  obtain ⟨-, -, h2⟩ := df_drop h
  refine df_of ?_
  unfold Decoder.instr
  rw [df_bind (df_u1 h), ho]
  show ((Reader.s2 >>= fun k => pure (Instr.ifCond .le k)) : Decoder Instr) b (p + 1) = _
  rw [df_bind (df_s2 h2)]
  rfl
set_option maxRecDepth 20000 in
theorem dk_159 (h : b.data.toList.drop p = o :: x :: y :: r) (ho : o.toNat = 159) : decode b p = .ok (.if_icmp .eq (Reader.signed 16 (x.toNat * 256 + y.toNat)), 3) := by
  obtain ⟨-, -, h2⟩ := df_drop h
  refine df_of ?_
  unfold Decoder.instr
  rw [df_bind (df_u1 h), ho]
  show ((Reader.s2 >>= fun k => pure (Instr.if_icmp .eq k)) : Decoder Instr) b (p + 1) = _
  rw [df_bind (df_s2 h2)]
  rfl
set_option maxRecDepth 20000 in
theorem dk_160 (h : b.data.toList.drop p = o :: x :: y :: r) (ho : o.toNat = 160) : decode b p = .ok (.if_icmp .ne (Reader.signed 16 (x.toNat * 256 + y.toNat)), 3) := by
  obtain ⟨-, -, h2⟩ := df_drop h
  refine df_of ?_
  unfold Decoder.instr
  rw [df_bind (df_u1 h), ho]
  show ((Reader.s2 >>= fun k => pure (Instr.if_icmp .ne k)) : Decoder Instr) b (p + 1) = _
  rw [df_bind (df_s2 h2)]
  rfl
set_option maxRecDepth 20000 in
theorem dk_161 (h : b.data.toList.drop p = o :: x :: y :: r) (ho : o.toNat = 161) : decode b p = .ok (.if_icmp .lt (Reader.signed 16 (x.toNat * 256 + y.toNat)), 3) := by
  obtain ⟨-, -, h2⟩ := df_drop h
  refine df_of ?_
  unfold Decoder.instr
  rw [df_bind (df_u1 h), ho]
  show ((Reader.s2 >>= fun k => pure (Instr.if_icmp .lt k)) : Decoder Instr) b (p + 1) = _
  rw [df_bind (df_s2 h2)]
  rfl
set_option maxRecDepth 20000 in
theorem dk_162 (h : b.data.toList.drop p = o :: x :: y :: r) (ho : o.toNat = 162) : decode b p = .ok (.if_icmp .ge (Reader.signed 16 (x.toNat * 256 + y.toNat)), 3) := by
  obtain ⟨-, -, h2⟩ := df_drop h
  refine df_of ?_
  unfold Decoder.instr
  rw [df_bind (df_u1 h), ho]
  show ((Reader.s2 >>= fun k => pure (Instr.if_icmp .ge k)) : Decoder Instr) b (p + 1) = _
  rw [df_bind (df_s2 h2)]
  rfl
set_option maxRecDepth 20000 in
theorem dk_163 (h : b.data.toList.drop p = o :: x :: y :: r) (ho : o.toNat = 163) : decode b p = .ok (.if_icmp .gt (Reader.signed 16 (x.toNat * 256 + y.toNat)), 3) := by
  obtain ⟨-, -, h2⟩ := df_drop h
  refine df_of ?_
  unfold Decoder.instr
  rw [df_bind (df_u1 h), ho]
  show ((Reader.s2 >>= fun k => pure (Instr.if_icmp .gt k)) : Decoder Instr) b (p + 1) = _
  rw [df_bind (df_s2 h2)]
  rfl
set_option maxRecDepth 20000 in
theorem dk_164 (h : b.data.toList.drop p = o :: x :: y :: r) (ho : o.toNat = 164) : decode b p = .ok (.if_icmp .le (Reader.signed 16 (x.toNat * 256 + y.toNat)), 3) := by
  obtain ⟨-, -, h2⟩ := df_drop h
  refine df_of ?_
  unfold Decoder.instr
  rw [df_bind (df_u1 h), ho]
  show ((Reader.s2 >>= fun k => pure (Instr.if_icmp .le k)) : Decoder Instr) b (p + 1) = _
  rw [df_bind (df_s2 h2)]
  rfl
set_option maxRecDepth 20000 in
theorem dk_132 (h : b.data.toList.drop p = o :: x :: y :: r) (ho : o.toNat = 132) : decode b p = .ok (.iinc x.toNat (Reader.signed 8 y.toNat), 3) := by
  obtain ⟨-, -, h2⟩ := df_drop h
  obtain ⟨-, -, h3⟩ := df_drop h2
  refine df_of ?_
  unfold Decoder.instr
  rw [df_bind (df_u1 h), ho]
  show ((Reader.u1 >>= fun k => Reader.s1 >>= fun c => pure (Instr.iinc k c)) : Decoder Instr) b (p + 1) = _
  rw [df_bind (df_u1 h2), df_bind (df_s1 h3)]
  rfl
end DF
/-! a row of instructions against the bytes -/
def df_d0 (s : List UInt8) (n : Nat) : Bool := match s with
  | o :: _ => Nat.beq o.toNat n
  | [] => false
def df_d1 (s : List UInt8) (n k : Nat) : Bool := match s with
  | o :: x :: _ => Nat.beq o.toNat n && Nat.beq x.toNat k
  | _ => false
def df_d2 (s : List UInt8) (n k : Nat) : Bool := match s with
  | o :: x :: y :: _ => Nat.beq o.toNat n && Nat.beq (x.toNat * 256 + y.toNat) k
  | _ => false
def df_e1 (s : List UInt8) (n : Nat) (k : Int) : Bool := match s with
  | o :: x :: _ => Nat.beq o.toNat n && decide (Reader.signed 8 x.toNat = k)
  | _ => false
def df_e2 (s : List UInt8) (n : Nat) (k : Int) : Bool := match s with
  | o :: x :: y :: _ => Nat.beq o.toNat n && decide (Reader.signed 16 (x.toNat * 256 + y.toNat) = k)
  | _ => false
def df_d3 (s : List UInt8) (n k : Nat) (c : Int) : Bool := match s with
  | o :: x :: y :: _ => Nat.beq o.toNat n && Nat.beq x.toNat k && decide (Reader.signed 8 y.toNat = c)
  | _ => false
def cIx (c : Jvm.ClassFile.Cond) : Nat := match c with
  | .eq => 0
  | .ne => 1
  | .lt => 2
  | .ge => 3
  | .gt => 4
  | .le => 5
def zDk (s : List UInt8) : Instr → Bool
  | .iconst n => match n with
    | .ofNat k => Nat.ble k 5 && df_d0 s (3 + k)
    | .negSucc k => Nat.beq k 0 && df_d0 s 2
  | .lconst n => df_d0 s (9 + n.val)
  | .iload_n n => df_d0 s (26 + n.val)
  | .lload_n n => df_d0 s (30 + n.val)
  | .aload_n n => df_d0 s (42 + n.val)
  | .istore_n n => df_d0 s (59 + n.val)
  | .astore_n n => df_d0 s (75 + n.val)
  | .iaload => df_d0 s 46
  | .laload => df_d0 s 47
  | .aaload => df_d0 s 50
  | .iastore => df_d0 s 79
  | .lastore => df_d0 s 80
  | .pop => df_d0 s 87
  | .pop2 => df_d0 s 88
  | .dup => df_d0 s 89
  | .dup2 => df_d0 s 92
  | .iadd => df_d0 s 96
  | .ladd => df_d0 s 97
  | .isub => df_d0 s 100
  | .imul => df_d0 s 104
  | .lmul => df_d0 s 105
  | .idiv => df_d0 s 108
  | .ldiv => df_d0 s 109
  | .irem => df_d0 s 112
  | .lrem => df_d0 s 113
  | .ineg => df_d0 s 116
  | .lneg => df_d0 s 117
  | .ishl => df_d0 s 120
  | .ishr => df_d0 s 122
  | .iushr => df_d0 s 124
  | .iand => df_d0 s 126
  | .ior => df_d0 s 128
  | .ixor => df_d0 s 130
  | .i2l => df_d0 s 133
  | .l2i => df_d0 s 136
  | .i2b => df_d0 s 145
  | .i2s => df_d0 s 147
  | .lcmp => df_d0 s 148
  | .ireturn => df_d0 s 172
  | .lreturn => df_d0 s 173
  | .return_ => df_d0 s 177
  | .arraylength => df_d0 s 190
  | .ldc k => df_d1 s 18 k
  | .iload k => df_d1 s 21 k
  | .lload k => df_d1 s 22 k
  | .aload k => df_d1 s 25 k
  | .istore k => df_d1 s 54 k
  | .lstore k => df_d1 s 55 k
  | .astore k => df_d1 s 58 k
  | .ldc_w k => df_d2 s 19 k
  | .ldc2_w k => df_d2 s 20 k
  | .getstatic k => df_d2 s 178 k
  | .getfield k => df_d2 s 180 k
  | .putfield k => df_d2 s 181 k
  | .invokevirtual k => df_d2 s 182 k
  | .invokestatic k => df_d2 s 184 k
  | .bipush c => df_e1 s 16 c
  | .sipush c => df_e2 s 17 c
  | .goto c => df_e2 s 167 c
  | .ifCond c f => df_e2 s (153 + cIx c) f
  | .if_icmp c f => df_e2 s (159 + cIx c) f
  | .iinc k c => df_d3 s 132 k c
  | _ => false
theorem df_d0_ok {s : List UInt8} {n : Nat} (h : df_d0 s n = true) : ∃ o r, s = o :: r ∧ o.toNat = n := by
  unfold df_d0 at h
  split at h
  · exact ⟨_, _, rfl, Nat.eq_of_beq_eq_true h⟩
  · cases h
theorem df_d1_ok {s : List UInt8} {n k : Nat} (h : df_d1 s n k = true) : ∃ o x r, s = o :: x :: r ∧ o.toNat = n ∧ x.toNat = k := by
  unfold df_d1 at h
  split at h
  · rw [Bool.and_eq_true] at h
    exact ⟨_, _, _, rfl, Nat.eq_of_beq_eq_true h.1, Nat.eq_of_beq_eq_true h.2⟩
  · cases h
theorem df_d2_ok {s : List UInt8} {n k : Nat} (h : df_d2 s n k = true) : ∃ o x y r, s = o :: x :: y :: r ∧ o.toNat = n ∧ x.toNat * 256 + y.toNat = k := by
  unfold df_d2 at h
  split at h
  · rw [Bool.and_eq_true] at h
    exact ⟨_, _, _, _, rfl, Nat.eq_of_beq_eq_true h.1, Nat.eq_of_beq_eq_true h.2⟩
  · cases h
theorem df_e1_ok {s : List UInt8} {n : Nat} {k : Int} (h : df_e1 s n k = true) : ∃ o x r, s = o :: x :: r ∧ o.toNat = n ∧ Reader.signed 8 x.toNat = k := by
  unfold df_e1 at h
  split at h
  · rw [Bool.and_eq_true, decide_eq_true_eq] at h
    exact ⟨_, _, _, rfl, Nat.eq_of_beq_eq_true h.1, h.2⟩
  · cases h
theorem df_e2_ok {s : List UInt8} {n : Nat} {k : Int} (h : df_e2 s n k = true) : ∃ o x y r, s = o :: x :: y :: r ∧ o.toNat = n ∧ Reader.signed 16 (x.toNat * 256 + y.toNat) = k := by
  unfold df_e2 at h
  split at h
  · rw [Bool.and_eq_true, decide_eq_true_eq] at h
    exact ⟨_, _, _, _, rfl, Nat.eq_of_beq_eq_true h.1, h.2⟩
  · cases h
theorem df_d3_ok {s : List UInt8} {n k : Nat} {c : Int} (h : df_d3 s n k c = true) : ∃ o x y r, s = o :: x :: y :: r ∧ o.toNat = n ∧ x.toNat = k ∧ Reader.signed 8 y.toNat = c := by
  unfold df_d3 at h
  split at h
  · rw [Bool.and_eq_true, Bool.and_eq_true, decide_eq_true_eq] at h
    exact ⟨_, _, _, _, rfl, Nat.eq_of_beq_eq_true h.1.1, Nat.eq_of_beq_eq_true h.1.2, h.2⟩
  · cases h
theorem zDk_ok {b : ByteArray} {p : Nat} : ∀ (s : List UInt8) (i : Instr), b.data.toList.drop p = s → zDk s i = true → decode b p = .ok (i, zLen i)
  | s, i, hs, h => by
    unfold zDk at h
    split at h
    · split at h
      · rename_i k
        rw [Bool.and_eq_true] at h
        obtain ⟨o, r, rfl, ho⟩ := df_d0_ok h.2
        have hk := Nat.le_of_ble_eq_true h.1
        match k, hk, ho with
        | 0, _, ho => exact dk_3 hs ho
        | 1, _, ho => exact dk_4 hs ho
        | 2, _, ho => exact dk_5 hs ho
        | 3, _, ho => exact dk_6 hs ho
        | 4, _, ho => exact dk_7 hs ho
        | 5, _, ho => exact dk_8 hs ho
      · rename_i k
        rw [Bool.and_eq_true] at h
        obtain ⟨o, r, rfl, ho⟩ := df_d0_ok h.2
        have hk := Nat.eq_of_beq_eq_true h.1
        subst hk
        exact dk_2 hs ho
    · rename_i n
      obtain ⟨o, r, rfl, ho⟩ := df_d0_ok h
      match n, ho with
      | 0, ho => exact dk_9 hs ho
      | 1, ho => exact dk_10 hs ho
    · rename_i n
      obtain ⟨o, r, rfl, ho⟩ := df_d0_ok h
      match n, ho with
      | 0, ho => exact dk_26 hs ho
      | 1, ho => exact dk_27 hs ho
      | 2, ho => exact dk_28 hs ho
      | 3, ho => exact dk_29 hs ho
    · rename_i n
      obtain ⟨o, r, rfl, ho⟩ := df_d0_ok h
      match n, ho with
      | 0, ho => exact dk_30 hs ho
      | 1, ho => exact dk_31 hs ho
      | 2, ho => exact dk_32 hs ho
      | 3, ho => exact dk_33 hs ho
    · rename_i n
      obtain ⟨o, r, rfl, ho⟩ := df_d0_ok h
      match n, ho with
      | 0, ho => exact dk_42 hs ho
      | 1, ho => exact dk_43 hs ho
      | 2, ho => exact dk_44 hs ho
      | 3, ho => exact dk_45 hs ho
    · rename_i n
      obtain ⟨o, r, rfl, ho⟩ := df_d0_ok h
      match n, ho with
      | 0, ho => exact dk_59 hs ho
      | 1, ho => exact dk_60 hs ho
      | 2, ho => exact dk_61 hs ho
      | 3, ho => exact dk_62 hs ho
    · rename_i n
      obtain ⟨o, r, rfl, ho⟩ := df_d0_ok h
      match n, ho with
      | 0, ho => exact dk_75 hs ho
      | 1, ho => exact dk_76 hs ho
      | 2, ho => exact dk_77 hs ho
      | 3, ho => exact dk_78 hs ho
    · obtain ⟨o, r, rfl, ho⟩ := df_d0_ok h
      exact dk_46 hs ho
    · obtain ⟨o, r, rfl, ho⟩ := df_d0_ok h
      exact dk_47 hs ho
    · obtain ⟨o, r, rfl, ho⟩ := df_d0_ok h
      exact dk_50 hs ho
    · obtain ⟨o, r, rfl, ho⟩ := df_d0_ok h
      exact dk_79 hs ho
    · obtain ⟨o, r, rfl, ho⟩ := df_d0_ok h
      exact dk_80 hs ho
    · obtain ⟨o, r, rfl, ho⟩ := df_d0_ok h
      exact dk_87 hs ho
    · obtain ⟨o, r, rfl, ho⟩ := df_d0_ok h
      exact dk_88 hs ho
    · obtain ⟨o, r, rfl, ho⟩ := df_d0_ok h
      exact dk_89 hs ho
    · obtain ⟨o, r, rfl, ho⟩ := df_d0_ok h
      exact dk_92 hs ho
    · obtain ⟨o, r, rfl, ho⟩ := df_d0_ok h
      exact dk_96 hs ho
    · obtain ⟨o, r, rfl, ho⟩ := df_d0_ok h
      exact dk_97 hs ho
    · obtain ⟨o, r, rfl, ho⟩ := df_d0_ok h
      exact dk_100 hs ho
    · obtain ⟨o, r, rfl, ho⟩ := df_d0_ok h
      exact dk_104 hs ho
    · obtain ⟨o, r, rfl, ho⟩ := df_d0_ok h
      exact dk_105 hs ho
    · obtain ⟨o, r, rfl, ho⟩ := df_d0_ok h
      exact dk_108 hs ho
    · obtain ⟨o, r, rfl, ho⟩ := df_d0_ok h
      exact dk_109 hs ho
    · obtain ⟨o, r, rfl, ho⟩ := df_d0_ok h
      exact dk_112 hs ho
    · obtain ⟨o, r, rfl, ho⟩ := df_d0_ok h
      exact dk_113 hs ho
    · obtain ⟨o, r, rfl, ho⟩ := df_d0_ok h
      exact dk_116 hs ho
    · obtain ⟨o, r, rfl, ho⟩ := df_d0_ok h
      exact dk_117 hs ho
    · obtain ⟨o, r, rfl, ho⟩ := df_d0_ok h
      exact dk_120 hs ho
    · obtain ⟨o, r, rfl, ho⟩ := df_d0_ok h
      exact dk_122 hs ho
    · obtain ⟨o, r, rfl, ho⟩ := df_d0_ok h
      exact dk_124 hs ho
    · obtain ⟨o, r, rfl, ho⟩ := df_d0_ok h
      exact dk_126 hs ho
    · obtain ⟨o, r, rfl, ho⟩ := df_d0_ok h
      exact dk_128 hs ho
    · obtain ⟨o, r, rfl, ho⟩ := df_d0_ok h
      exact dk_130 hs ho
    · obtain ⟨o, r, rfl, ho⟩ := df_d0_ok h
      exact dk_133 hs ho
    · obtain ⟨o, r, rfl, ho⟩ := df_d0_ok h
      exact dk_136 hs ho
    · obtain ⟨o, r, rfl, ho⟩ := df_d0_ok h
      exact dk_145 hs ho
    · obtain ⟨o, r, rfl, ho⟩ := df_d0_ok h
      exact dk_147 hs ho
    · obtain ⟨o, r, rfl, ho⟩ := df_d0_ok h
      exact dk_148 hs ho
    · obtain ⟨o, r, rfl, ho⟩ := df_d0_ok h
      exact dk_172 hs ho
    · obtain ⟨o, r, rfl, ho⟩ := df_d0_ok h
      exact dk_173 hs ho
    · obtain ⟨o, r, rfl, ho⟩ := df_d0_ok h
      exact dk_177 hs ho
    · obtain ⟨o, r, rfl, ho⟩ := df_d0_ok h
      exact dk_190 hs ho
    · obtain ⟨o, x, r, rfl, ho, rfl⟩ := df_d1_ok h
      exact dk_18 hs ho
    · obtain ⟨o, x, r, rfl, ho, rfl⟩ := df_d1_ok h
      exact dk_21 hs ho
    · obtain ⟨o, x, r, rfl, ho, rfl⟩ := df_d1_ok h
      exact dk_22 hs ho
    · obtain ⟨o, x, r, rfl, ho, rfl⟩ := df_d1_ok h
      exact dk_25 hs ho
    · obtain ⟨o, x, r, rfl, ho, rfl⟩ := df_d1_ok h
      exact dk_54 hs ho
    · obtain ⟨o, x, r, rfl, ho, rfl⟩ := df_d1_ok h
      exact dk_55 hs ho
    · obtain ⟨o, x, r, rfl, ho, rfl⟩ := df_d1_ok h
      exact dk_58 hs ho
    · obtain ⟨o, x, y, r, rfl, ho, rfl⟩ := df_d2_ok h
      exact dk_19 hs ho
    · obtain ⟨o, x, y, r, rfl, ho, rfl⟩ := df_d2_ok h
      exact dk_20 hs ho
    · obtain ⟨o, x, y, r, rfl, ho, rfl⟩ := df_d2_ok h
      exact dk_178 hs ho
    · obtain ⟨o, x, y, r, rfl, ho, rfl⟩ := df_d2_ok h
      exact dk_180 hs ho
    · obtain ⟨o, x, y, r, rfl, ho, rfl⟩ := df_d2_ok h
      exact dk_181 hs ho
    · obtain ⟨o, x, y, r, rfl, ho, rfl⟩ := df_d2_ok h
      exact dk_182 hs ho
    · obtain ⟨o, x, y, r, rfl, ho, rfl⟩ := df_d2_ok h
      exact dk_184 hs ho
    · obtain ⟨o, x, r, rfl, ho, rfl⟩ := df_e1_ok h
      exact dk_16 hs ho
    · obtain ⟨o, x, y, r, rfl, ho, rfl⟩ := df_e2_ok h
      exact dk_17 hs ho
    · obtain ⟨o, x, y, r, rfl, ho, rfl⟩ := df_e2_ok h
      exact dk_167 hs ho
    · rename_i c f
      obtain ⟨o, x, y, r, rfl, ho, rfl⟩ := df_e2_ok h
      match c, ho with
      | .eq, ho => exact dk_153 hs ho
      | .ne, ho => exact dk_154 hs ho
      | .lt, ho => exact dk_155 hs ho
      | .ge, ho => exact dk_156 hs ho
      | .gt, ho => exact dk_157 hs ho
      | .le, ho => exact dk_158 hs ho
    · rename_i c f
      obtain ⟨o, x, y, r, rfl, ho, rfl⟩ := df_e2_ok h
      match c, ho with
      | .eq, ho => exact dk_159 hs ho
      | .ne, ho => exact dk_160 hs ho
      | .lt, ho => exact dk_161 hs ho
      | .ge, ho => exact dk_162 hs ho
      | .gt, ho => exact dk_163 hs ho
      | .le, ho => exact dk_164 hs ho
    · obtain ⟨o, x, y, r, rfl, ho, rfl, rfl⟩ := df_d3_ok h
      exact dk_132 hs ho
    · cases h
def zCk (b : ByteArray) : List UInt8 → Nat → List (Nat × Instr) → Bool
  | _, _, [] => true
  | s, pc, q :: r => Nat.ble pc q.1 && (bif zSw q.2 then (match decode b q.1 with
      | .ok (j, _) => decide (j = q.2)
      | _ => false) else zDk (s.drop (q.1 - pc)) q.2) && zCk b (s.drop (q.1 - pc)) q.1 r
theorem zCk_ok {b : ByteArray} : ∀ (l : List (Nat × Instr)) (s : List UInt8) (pc : Nat), zCk b s pc l = true → b.data.toList.drop pc = s → zChk b l = true
  | [], _, _, _, _ => rfl
  | q :: r, s, pc, h, hs => by
    unfold zCk at h
    rw [Bool.and_eq_true, Bool.and_eq_true] at h
    obtain ⟨⟨h1, h2⟩, h3⟩ := h
    have hle := Nat.le_of_ble_eq_true h1
    have hs2 : b.data.toList.drop q.1 = s.drop (q.1 - pc) := by
      rw [← hs, List.drop_drop]
      congr 1
      omega
    have ih := zCk_ok r _ q.1 h3 hs2
    unfold zChk at ih ⊢
    rw [List.all_cons, Bool.and_eq_true]
    refine ⟨?_, ih⟩
    cases hw : zSw q.2 with
    | true =>
      rw [hw] at h2
      dsimp only [cond] at h2
      split at h2
      · rename_i j n hd
        rw [hd]
        dsimp only
        have e := of_decide_eq_true h2
        rw [Bool.and_eq_true, decide_eq_true_eq]
        refine ⟨e, ?_⟩
        rw [e, hw]
        rfl
      · cases h2
    | false =>
      rw [hw] at h2
      dsimp only [cond] at h2
      rw [zDk_ok _ q.2 hs2 h2]
      dsimp only
      rw [Bool.and_eq_true, decide_eq_true_eq]
      refine ⟨rfl, ?_⟩
      rw [beq_self_eq_true, Bool.or_true]
