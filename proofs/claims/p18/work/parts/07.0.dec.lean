/-! INSTRUCTIONS READ OFF A LIST OF BYTES: decode says the same (the list is walked once, where decode finds each byte from the first one on) -/
section DEC
variable {code : ByteArray} {pc pos : Nat} {b c : UInt8} {r : List UInt8}
theorem dq_bind {α β : Type} (f : ClassFile.Decoder α) (K : α → ClassFile.Decoder β) : (bind f K) code pos = (match f code pos with | .error e => .error e | .ok p => K p.1 code p.2) := by
  show Except.bind (f code pos) (fun (p : α × Nat) => K p.1 code p.2) = _
  cases f code pos with
  | error e => rfl
  | ok p => rfl
theorem dq_map {α β : Type} (f : ClassFile.Decoder α) (g : α → β) : (g <$> f : ClassFile.Decoder β) code pos = (match f code pos with | .error e => .error e | .ok p => .ok (g p.1, p.2)) := by
  show Except.bind (f code pos) (fun (p : α × Nat) => Except.ok (g p.1, p.2)) = _
  cases f code pos with
  | error e => rfl
  | ok p => rfl
theorem dq_seq {α β : Type} {f : ClassFile.Decoder α} {K : α → ClassFile.Decoder β} {a : α} {p : Nat} {res : Except ClassFile.DecodeError (β × Nat)} (hf : f code pos = .ok (a, p)) (hK : K a code p = res) : (bind f K) code pos = res := by
  rw [dq_bind, hf]
  exact hK
theorem dq_u1 (h : code.data.toList.drop pos = b :: r) : (ClassFile.Reader.u1 : ClassFile.Decoder Nat) code pos = .ok (b.toNat, pos + 1) ∧ code.data.toList.drop (pos + 1) = r := by
  have hl : pos < code.data.toList.length := by
    apply Nat.lt_of_not_le
    intro hle
    rw [List.drop_eq_nil_of_le hle] at h
    cases h
  rw [List.drop_eq_getElem_cons hl] at h
  injection h with h1 h2
  refine ⟨?_, h2⟩
  have hs : pos < code.size := hl
  have e : (ClassFile.Reader.u1 : ClassFile.Decoder Nat) code pos = (dite (pos < code.size) (fun h => (do set (pos + 1); pure (code[pos]'h).toNat : ClassFile.Decoder Nat)) (fun _ => throw (ClassFile.HasTruncated.truncated pos))) code pos := rfl
  rw [e, dif_pos hs]
  show Except.ok ((code[pos]'hs).toNat, pos + 1) = _
  have hb : code[pos]'hs = b := h1
  rw [hb]
theorem dq_s1 {k p : Nat} (h : (ClassFile.Reader.u1 : ClassFile.Decoder Nat) code pos = .ok (k, p)) : (ClassFile.Reader.s1 : ClassFile.Decoder Int) code pos = .ok (ClassFile.Reader.signed 8 k, p) := by
  unfold ClassFile.Reader.s1
  rw [dq_map, h]
theorem dq_u2 {k k2 p p2 : Nat} (h : (ClassFile.Reader.u1 : ClassFile.Decoder Nat) code pos = .ok (k, p)) (h2 : (ClassFile.Reader.u1 : ClassFile.Decoder Nat) code p = .ok (k2, p2)) : (ClassFile.Reader.u2 : ClassFile.Decoder Nat) code pos = .ok (k * 256 + k2, p2) := by
  unfold ClassFile.Reader.u2
  rw [dq_bind, h]
  dsimp only
  rw [dq_bind, h2]
  rfl
theorem dq_s2 {k k2 p p2 : Nat} (h : (ClassFile.Reader.u1 : ClassFile.Decoder Nat) code pos = .ok (k, p)) (h2 : (ClassFile.Reader.u1 : ClassFile.Decoder Nat) code p = .ok (k2, p2)) : (ClassFile.Reader.s2 : ClassFile.Decoder Int) code pos = .ok (ClassFile.Reader.signed 16 (k * 256 + k2), p2) := by
  unfold ClassFile.Reader.s2
  rw [dq_map, dq_u2 h h2]
theorem dq_dec {i : Instr} {p : Nat} (h : (ClassFile.Decoder.instr pc) code pc = .ok (i, p)) : decode code pc = .ok (i, p - pc) := by
  unfold decode
  have e : (ClassFile.Decoder.instr pc).runAt code pc = .ok (i, p) := h
  rw [e]
  rfl
theorem dq_2 (hu : (ClassFile.Reader.u1 : ClassFile.Decoder Nat) code pc = .ok (2, pos)) : (ClassFile.Decoder.instr pc) code pc = .ok ((.iconst (-1)), pos) := by
  exact dq_seq hu rfl
theorem dq_3 (hu : (ClassFile.Reader.u1 : ClassFile.Decoder Nat) code pc = .ok (3, pos)) : (ClassFile.Decoder.instr pc) code pc = .ok ((.iconst 0), pos) := by
  exact dq_seq hu rfl
theorem dq_4 (hu : (ClassFile.Reader.u1 : ClassFile.Decoder Nat) code pc = .ok (4, pos)) : (ClassFile.Decoder.instr pc) code pc = .ok ((.iconst 1), pos) := by
  exact dq_seq hu rfl
theorem dq_5 (hu : (ClassFile.Reader.u1 : ClassFile.Decoder Nat) code pc = .ok (5, pos)) : (ClassFile.Decoder.instr pc) code pc = .ok ((.iconst 2), pos) := by
  exact dq_seq hu rfl
theorem dq_6 (hu : (ClassFile.Reader.u1 : ClassFile.Decoder Nat) code pc = .ok (6, pos)) : (ClassFile.Decoder.instr pc) code pc = .ok ((.iconst 3), pos) := by
  exact dq_seq hu rfl
theorem dq_7 (hu : (ClassFile.Reader.u1 : ClassFile.Decoder Nat) code pc = .ok (7, pos)) : (ClassFile.Decoder.instr pc) code pc = .ok ((.iconst 4), pos) := by
  exact dq_seq hu rfl
theorem dq_8 (hu : (ClassFile.Reader.u1 : ClassFile.Decoder Nat) code pc = .ok (8, pos)) : (ClassFile.Decoder.instr pc) code pc = .ok ((.iconst 5), pos) := by
  exact dq_seq hu rfl
theorem dq_9 (hu : (ClassFile.Reader.u1 : ClassFile.Decoder Nat) code pc = .ok (9, pos)) : (ClassFile.Decoder.instr pc) code pc = .ok ((.lconst 0), pos) := by
  exact dq_seq hu rfl
theorem dq_10 (hu : (ClassFile.Reader.u1 : ClassFile.Decoder Nat) code pc = .ok (10, pos)) : (ClassFile.Decoder.instr pc) code pc = .ok ((.lconst 1), pos) := by
  exact dq_seq hu rfl
theorem dq_26 (hu : (ClassFile.Reader.u1 : ClassFile.Decoder Nat) code pc = .ok (26, pos)) : (ClassFile.Decoder.instr pc) code pc = .ok ((.iload_n 0), pos) := by
  exact dq_seq hu rfl
theorem dq_27 (hu : (ClassFile.Reader.u1 : ClassFile.Decoder Nat) code pc = .ok (27, pos)) : (ClassFile.Decoder.instr pc) code pc = .ok ((.iload_n 1), pos) := by
  exact dq_seq hu rfl
theorem dq_28 (hu : (ClassFile.Reader.u1 : ClassFile.Decoder Nat) code pc = .ok (28, pos)) : (ClassFile.Decoder.instr pc) code pc = .ok ((.iload_n 2), pos) := by
  exact dq_seq hu rfl
theorem dq_29 (hu : (ClassFile.Reader.u1 : ClassFile.Decoder Nat) code pc = .ok (29, pos)) : (ClassFile.Decoder.instr pc) code pc = .ok ((.iload_n 3), pos) := by
  exact dq_seq hu rfl
theorem dq_30 (hu : (ClassFile.Reader.u1 : ClassFile.Decoder Nat) code pc = .ok (30, pos)) : (ClassFile.Decoder.instr pc) code pc = .ok ((.lload_n 0), pos) := by
  exact dq_seq hu rfl
theorem dq_31 (hu : (ClassFile.Reader.u1 : ClassFile.Decoder Nat) code pc = .ok (31, pos)) : (ClassFile.Decoder.instr pc) code pc = .ok ((.lload_n 1), pos) := by
  exact dq_seq hu rfl
theorem dq_32 (hu : (ClassFile.Reader.u1 : ClassFile.Decoder Nat) code pc = .ok (32, pos)) : (ClassFile.Decoder.instr pc) code pc = .ok ((.lload_n 2), pos) := by
  exact dq_seq hu rfl
theorem dq_33 (hu : (ClassFile.Reader.u1 : ClassFile.Decoder Nat) code pc = .ok (33, pos)) : (ClassFile.Decoder.instr pc) code pc = .ok ((.lload_n 3), pos) := by
  exact dq_seq hu rfl
theorem dq_42 (hu : (ClassFile.Reader.u1 : ClassFile.Decoder Nat) code pc = .ok (42, pos)) : (ClassFile.Decoder.instr pc) code pc = .ok ((.aload_n 0), pos) := by
  exact dq_seq hu rfl
theorem dq_43 (hu : (ClassFile.Reader.u1 : ClassFile.Decoder Nat) code pc = .ok (43, pos)) : (ClassFile.Decoder.instr pc) code pc = .ok ((.aload_n 1), pos) := by
  exact dq_seq hu rfl
theorem dq_44 (hu : (ClassFile.Reader.u1 : ClassFile.Decoder Nat) code pc = .ok (44, pos)) : (ClassFile.Decoder.instr pc) code pc = .ok ((.aload_n 2), pos) := by
  exact dq_seq hu rfl
theorem dq_45 (hu : (ClassFile.Reader.u1 : ClassFile.Decoder Nat) code pc = .ok (45, pos)) : (ClassFile.Decoder.instr pc) code pc = .ok ((.aload_n 3), pos) := by
  exact dq_seq hu rfl
theorem dq_46 (hu : (ClassFile.Reader.u1 : ClassFile.Decoder Nat) code pc = .ok (46, pos)) : (ClassFile.Decoder.instr pc) code pc = .ok (.iaload, pos) := by
  exact dq_seq hu rfl
theorem dq_47 (hu : (ClassFile.Reader.u1 : ClassFile.Decoder Nat) code pc = .ok (47, pos)) : (ClassFile.Decoder.instr pc) code pc = .ok (.laload, pos) := by
  exact dq_seq hu rfl
theorem dq_51 (hu : (ClassFile.Reader.u1 : ClassFile.Decoder Nat) code pc = .ok (51, pos)) : (ClassFile.Decoder.instr pc) code pc = .ok (.baload, pos) := by
  exact dq_seq hu rfl
theorem dq_59 (hu : (ClassFile.Reader.u1 : ClassFile.Decoder Nat) code pc = .ok (59, pos)) : (ClassFile.Decoder.instr pc) code pc = .ok ((.istore_n 0), pos) := by
  exact dq_seq hu rfl
theorem dq_60 (hu : (ClassFile.Reader.u1 : ClassFile.Decoder Nat) code pc = .ok (60, pos)) : (ClassFile.Decoder.instr pc) code pc = .ok ((.istore_n 1), pos) := by
  exact dq_seq hu rfl
theorem dq_61 (hu : (ClassFile.Reader.u1 : ClassFile.Decoder Nat) code pc = .ok (61, pos)) : (ClassFile.Decoder.instr pc) code pc = .ok ((.istore_n 2), pos) := by
  exact dq_seq hu rfl
theorem dq_62 (hu : (ClassFile.Reader.u1 : ClassFile.Decoder Nat) code pc = .ok (62, pos)) : (ClassFile.Decoder.instr pc) code pc = .ok ((.istore_n 3), pos) := by
  exact dq_seq hu rfl
theorem dq_63 (hu : (ClassFile.Reader.u1 : ClassFile.Decoder Nat) code pc = .ok (63, pos)) : (ClassFile.Decoder.instr pc) code pc = .ok ((.lstore_n 0), pos) := by
  exact dq_seq hu rfl
theorem dq_64 (hu : (ClassFile.Reader.u1 : ClassFile.Decoder Nat) code pc = .ok (64, pos)) : (ClassFile.Decoder.instr pc) code pc = .ok ((.lstore_n 1), pos) := by
  exact dq_seq hu rfl
theorem dq_65 (hu : (ClassFile.Reader.u1 : ClassFile.Decoder Nat) code pc = .ok (65, pos)) : (ClassFile.Decoder.instr pc) code pc = .ok ((.lstore_n 2), pos) := by
  exact dq_seq hu rfl
theorem dq_66 (hu : (ClassFile.Reader.u1 : ClassFile.Decoder Nat) code pc = .ok (66, pos)) : (ClassFile.Decoder.instr pc) code pc = .ok ((.lstore_n 3), pos) := by
  exact dq_seq hu rfl
theorem dq_75 (hu : (ClassFile.Reader.u1 : ClassFile.Decoder Nat) code pc = .ok (75, pos)) : (ClassFile.Decoder.instr pc) code pc = .ok ((.astore_n 0), pos) := by
  exact dq_seq hu rfl
theorem dq_76 (hu : (ClassFile.Reader.u1 : ClassFile.Decoder Nat) code pc = .ok (76, pos)) : (ClassFile.Decoder.instr pc) code pc = .ok ((.astore_n 1), pos) := by
  exact dq_seq hu rfl
theorem dq_77 (hu : (ClassFile.Reader.u1 : ClassFile.Decoder Nat) code pc = .ok (77, pos)) : (ClassFile.Decoder.instr pc) code pc = .ok ((.astore_n 2), pos) := by
  exact dq_seq hu rfl
theorem dq_78 (hu : (ClassFile.Reader.u1 : ClassFile.Decoder Nat) code pc = .ok (78, pos)) : (ClassFile.Decoder.instr pc) code pc = .ok ((.astore_n 3), pos) := by
  exact dq_seq hu rfl
theorem dq_79 (hu : (ClassFile.Reader.u1 : ClassFile.Decoder Nat) code pc = .ok (79, pos)) : (ClassFile.Decoder.instr pc) code pc = .ok (.iastore, pos) := by
  exact dq_seq hu rfl
theorem dq_80 (hu : (ClassFile.Reader.u1 : ClassFile.Decoder Nat) code pc = .ok (80, pos)) : (ClassFile.Decoder.instr pc) code pc = .ok (.lastore, pos) := by
  exact dq_seq hu rfl
theorem dq_84 (hu : (ClassFile.Reader.u1 : ClassFile.Decoder Nat) code pc = .ok (84, pos)) : (ClassFile.Decoder.instr pc) code pc = .ok (.bastore, pos) := by
  exact dq_seq hu rfl
theorem dq_87 (hu : (ClassFile.Reader.u1 : ClassFile.Decoder Nat) code pc = .ok (87, pos)) : (ClassFile.Decoder.instr pc) code pc = .ok (.pop, pos) := by
  exact dq_seq hu rfl
theorem dq_89 (hu : (ClassFile.Reader.u1 : ClassFile.Decoder Nat) code pc = .ok (89, pos)) : (ClassFile.Decoder.instr pc) code pc = .ok (.dup, pos) := by
  exact dq_seq hu rfl
theorem dq_92 (hu : (ClassFile.Reader.u1 : ClassFile.Decoder Nat) code pc = .ok (92, pos)) : (ClassFile.Decoder.instr pc) code pc = .ok (.dup2, pos) := by
  exact dq_seq hu rfl
theorem dq_96 (hu : (ClassFile.Reader.u1 : ClassFile.Decoder Nat) code pc = .ok (96, pos)) : (ClassFile.Decoder.instr pc) code pc = .ok (.iadd, pos) := by
  exact dq_seq hu rfl
theorem dq_97 (hu : (ClassFile.Reader.u1 : ClassFile.Decoder Nat) code pc = .ok (97, pos)) : (ClassFile.Decoder.instr pc) code pc = .ok (.ladd, pos) := by
  exact dq_seq hu rfl
theorem dq_100 (hu : (ClassFile.Reader.u1 : ClassFile.Decoder Nat) code pc = .ok (100, pos)) : (ClassFile.Decoder.instr pc) code pc = .ok (.isub, pos) := by
  exact dq_seq hu rfl
theorem dq_104 (hu : (ClassFile.Reader.u1 : ClassFile.Decoder Nat) code pc = .ok (104, pos)) : (ClassFile.Decoder.instr pc) code pc = .ok (.imul, pos) := by
  exact dq_seq hu rfl
theorem dq_105 (hu : (ClassFile.Reader.u1 : ClassFile.Decoder Nat) code pc = .ok (105, pos)) : (ClassFile.Decoder.instr pc) code pc = .ok (.lmul, pos) := by
  exact dq_seq hu rfl
theorem dq_108 (hu : (ClassFile.Reader.u1 : ClassFile.Decoder Nat) code pc = .ok (108, pos)) : (ClassFile.Decoder.instr pc) code pc = .ok (.idiv, pos) := by
  exact dq_seq hu rfl
theorem dq_109 (hu : (ClassFile.Reader.u1 : ClassFile.Decoder Nat) code pc = .ok (109, pos)) : (ClassFile.Decoder.instr pc) code pc = .ok (.ldiv, pos) := by
  exact dq_seq hu rfl
theorem dq_112 (hu : (ClassFile.Reader.u1 : ClassFile.Decoder Nat) code pc = .ok (112, pos)) : (ClassFile.Decoder.instr pc) code pc = .ok (.irem, pos) := by
  exact dq_seq hu rfl
theorem dq_116 (hu : (ClassFile.Reader.u1 : ClassFile.Decoder Nat) code pc = .ok (116, pos)) : (ClassFile.Decoder.instr pc) code pc = .ok (.ineg, pos) := by
  exact dq_seq hu rfl
theorem dq_120 (hu : (ClassFile.Reader.u1 : ClassFile.Decoder Nat) code pc = .ok (120, pos)) : (ClassFile.Decoder.instr pc) code pc = .ok (.ishl, pos) := by
  exact dq_seq hu rfl
theorem dq_121 (hu : (ClassFile.Reader.u1 : ClassFile.Decoder Nat) code pc = .ok (121, pos)) : (ClassFile.Decoder.instr pc) code pc = .ok (.lshl, pos) := by
  exact dq_seq hu rfl
theorem dq_122 (hu : (ClassFile.Reader.u1 : ClassFile.Decoder Nat) code pc = .ok (122, pos)) : (ClassFile.Decoder.instr pc) code pc = .ok (.ishr, pos) := by
  exact dq_seq hu rfl
theorem dq_123 (hu : (ClassFile.Reader.u1 : ClassFile.Decoder Nat) code pc = .ok (123, pos)) : (ClassFile.Decoder.instr pc) code pc = .ok (.lshr, pos) := by
  exact dq_seq hu rfl
theorem dq_124 (hu : (ClassFile.Reader.u1 : ClassFile.Decoder Nat) code pc = .ok (124, pos)) : (ClassFile.Decoder.instr pc) code pc = .ok (.iushr, pos) := by
  exact dq_seq hu rfl
theorem dq_125 (hu : (ClassFile.Reader.u1 : ClassFile.Decoder Nat) code pc = .ok (125, pos)) : (ClassFile.Decoder.instr pc) code pc = .ok (.lushr, pos) := by
  exact dq_seq hu rfl
theorem dq_126 (hu : (ClassFile.Reader.u1 : ClassFile.Decoder Nat) code pc = .ok (126, pos)) : (ClassFile.Decoder.instr pc) code pc = .ok (.iand, pos) := by
  exact dq_seq hu rfl
theorem dq_127 (hu : (ClassFile.Reader.u1 : ClassFile.Decoder Nat) code pc = .ok (127, pos)) : (ClassFile.Decoder.instr pc) code pc = .ok (.land, pos) := by
  exact dq_seq hu rfl
theorem dq_128 (hu : (ClassFile.Reader.u1 : ClassFile.Decoder Nat) code pc = .ok (128, pos)) : (ClassFile.Decoder.instr pc) code pc = .ok (.ior, pos) := by
  exact dq_seq hu rfl
theorem dq_129 (hu : (ClassFile.Reader.u1 : ClassFile.Decoder Nat) code pc = .ok (129, pos)) : (ClassFile.Decoder.instr pc) code pc = .ok (.lor, pos) := by
  exact dq_seq hu rfl
theorem dq_130 (hu : (ClassFile.Reader.u1 : ClassFile.Decoder Nat) code pc = .ok (130, pos)) : (ClassFile.Decoder.instr pc) code pc = .ok (.ixor, pos) := by
  exact dq_seq hu rfl
theorem dq_133 (hu : (ClassFile.Reader.u1 : ClassFile.Decoder Nat) code pc = .ok (133, pos)) : (ClassFile.Decoder.instr pc) code pc = .ok (.i2l, pos) := by
  exact dq_seq hu rfl
theorem dq_136 (hu : (ClassFile.Reader.u1 : ClassFile.Decoder Nat) code pc = .ok (136, pos)) : (ClassFile.Decoder.instr pc) code pc = .ok (.l2i, pos) := by
  exact dq_seq hu rfl
theorem dq_145 (hu : (ClassFile.Reader.u1 : ClassFile.Decoder Nat) code pc = .ok (145, pos)) : (ClassFile.Decoder.instr pc) code pc = .ok (.i2b, pos) := by
  exact dq_seq hu rfl
theorem dq_146 (hu : (ClassFile.Reader.u1 : ClassFile.Decoder Nat) code pc = .ok (146, pos)) : (ClassFile.Decoder.instr pc) code pc = .ok (.i2c, pos) := by
  exact dq_seq hu rfl
theorem dq_147 (hu : (ClassFile.Reader.u1 : ClassFile.Decoder Nat) code pc = .ok (147, pos)) : (ClassFile.Decoder.instr pc) code pc = .ok (.i2s, pos) := by
  exact dq_seq hu rfl
theorem dq_148 (hu : (ClassFile.Reader.u1 : ClassFile.Decoder Nat) code pc = .ok (148, pos)) : (ClassFile.Decoder.instr pc) code pc = .ok (.lcmp, pos) := by
  exact dq_seq hu rfl
theorem dq_172 (hu : (ClassFile.Reader.u1 : ClassFile.Decoder Nat) code pc = .ok (172, pos)) : (ClassFile.Decoder.instr pc) code pc = .ok (.ireturn, pos) := by
  exact dq_seq hu rfl
theorem dq_173 (hu : (ClassFile.Reader.u1 : ClassFile.Decoder Nat) code pc = .ok (173, pos)) : (ClassFile.Decoder.instr pc) code pc = .ok (.lreturn, pos) := by
  exact dq_seq hu rfl
theorem dq_177 (hu : (ClassFile.Reader.u1 : ClassFile.Decoder Nat) code pc = .ok (177, pos)) : (ClassFile.Decoder.instr pc) code pc = .ok (.return_, pos) := by
  exact dq_seq hu rfl
theorem dq_190 (hu : (ClassFile.Reader.u1 : ClassFile.Decoder Nat) code pc = .ok (190, pos)) : (ClassFile.Decoder.instr pc) code pc = .ok (.arraylength, pos) := by
  exact dq_seq hu rfl
theorem dq_191 (hu : (ClassFile.Reader.u1 : ClassFile.Decoder Nat) code pc = .ok (191, pos)) : (ClassFile.Decoder.instr pc) code pc = .ok (.athrow, pos) := by
  exact dq_seq hu rfl
theorem dq_18 {p : Nat} {x : Nat} (hu : (ClassFile.Reader.u1 : ClassFile.Decoder Nat) code pc = .ok (18, pos)) (h2 : (ClassFile.Reader.u1 : ClassFile.Decoder Nat) code pos = .ok (x, p)) : (ClassFile.Decoder.instr pc) code pc = .ok ((.ldc x), p) := by
  exact dq_seq hu (dq_seq h2 rfl)
theorem dq_21 {p : Nat} {x : Nat} (hu : (ClassFile.Reader.u1 : ClassFile.Decoder Nat) code pc = .ok (21, pos)) (h2 : (ClassFile.Reader.u1 : ClassFile.Decoder Nat) code pos = .ok (x, p)) : (ClassFile.Decoder.instr pc) code pc = .ok ((.iload x), p) := by
  exact dq_seq hu (dq_seq h2 rfl)
theorem dq_22 {p : Nat} {x : Nat} (hu : (ClassFile.Reader.u1 : ClassFile.Decoder Nat) code pc = .ok (22, pos)) (h2 : (ClassFile.Reader.u1 : ClassFile.Decoder Nat) code pos = .ok (x, p)) : (ClassFile.Decoder.instr pc) code pc = .ok ((.lload x), p) := by
  exact dq_seq hu (dq_seq h2 rfl)
theorem dq_25 {p : Nat} {x : Nat} (hu : (ClassFile.Reader.u1 : ClassFile.Decoder Nat) code pc = .ok (25, pos)) (h2 : (ClassFile.Reader.u1 : ClassFile.Decoder Nat) code pos = .ok (x, p)) : (ClassFile.Decoder.instr pc) code pc = .ok ((.aload x), p) := by
  exact dq_seq hu (dq_seq h2 rfl)
theorem dq_54 {p : Nat} {x : Nat} (hu : (ClassFile.Reader.u1 : ClassFile.Decoder Nat) code pc = .ok (54, pos)) (h2 : (ClassFile.Reader.u1 : ClassFile.Decoder Nat) code pos = .ok (x, p)) : (ClassFile.Decoder.instr pc) code pc = .ok ((.istore x), p) := by
  exact dq_seq hu (dq_seq h2 rfl)
theorem dq_55 {p : Nat} {x : Nat} (hu : (ClassFile.Reader.u1 : ClassFile.Decoder Nat) code pc = .ok (55, pos)) (h2 : (ClassFile.Reader.u1 : ClassFile.Decoder Nat) code pos = .ok (x, p)) : (ClassFile.Decoder.instr pc) code pc = .ok ((.lstore x), p) := by
  exact dq_seq hu (dq_seq h2 rfl)
theorem dq_58 {p : Nat} {x : Nat} (hu : (ClassFile.Reader.u1 : ClassFile.Decoder Nat) code pc = .ok (58, pos)) (h2 : (ClassFile.Reader.u1 : ClassFile.Decoder Nat) code pos = .ok (x, p)) : (ClassFile.Decoder.instr pc) code pc = .ok ((.astore x), p) := by
  exact dq_seq hu (dq_seq h2 rfl)
theorem dq_16 {p : Nat} {x : Int} (hu : (ClassFile.Reader.u1 : ClassFile.Decoder Nat) code pc = .ok (16, pos)) (h2 : (ClassFile.Reader.s1 : ClassFile.Decoder Int) code pos = .ok (x, p)) : (ClassFile.Decoder.instr pc) code pc = .ok ((.bipush x), p) := by
  exact dq_seq hu (dq_seq h2 rfl)
theorem dq_19 {p : Nat} {x : Nat} (hu : (ClassFile.Reader.u1 : ClassFile.Decoder Nat) code pc = .ok (19, pos)) (h2 : (ClassFile.Reader.u2 : ClassFile.Decoder Nat) code pos = .ok (x, p)) : (ClassFile.Decoder.instr pc) code pc = .ok ((.ldc_w x), p) := by
  exact dq_seq hu (dq_seq h2 rfl)
theorem dq_20 {p : Nat} {x : Nat} (hu : (ClassFile.Reader.u1 : ClassFile.Decoder Nat) code pc = .ok (20, pos)) (h2 : (ClassFile.Reader.u2 : ClassFile.Decoder Nat) code pos = .ok (x, p)) : (ClassFile.Decoder.instr pc) code pc = .ok ((.ldc2_w x), p) := by
  exact dq_seq hu (dq_seq h2 rfl)
theorem dq_178 {p : Nat} {x : Nat} (hu : (ClassFile.Reader.u1 : ClassFile.Decoder Nat) code pc = .ok (178, pos)) (h2 : (ClassFile.Reader.u2 : ClassFile.Decoder Nat) code pos = .ok (x, p)) : (ClassFile.Decoder.instr pc) code pc = .ok ((.getstatic x), p) := by
  exact dq_seq hu (dq_seq h2 rfl)
theorem dq_180 {p : Nat} {x : Nat} (hu : (ClassFile.Reader.u1 : ClassFile.Decoder Nat) code pc = .ok (180, pos)) (h2 : (ClassFile.Reader.u2 : ClassFile.Decoder Nat) code pos = .ok (x, p)) : (ClassFile.Decoder.instr pc) code pc = .ok ((.getfield x), p) := by
  exact dq_seq hu (dq_seq h2 rfl)
theorem dq_181 {p : Nat} {x : Nat} (hu : (ClassFile.Reader.u1 : ClassFile.Decoder Nat) code pc = .ok (181, pos)) (h2 : (ClassFile.Reader.u2 : ClassFile.Decoder Nat) code pos = .ok (x, p)) : (ClassFile.Decoder.instr pc) code pc = .ok ((.putfield x), p) := by
  exact dq_seq hu (dq_seq h2 rfl)
theorem dq_182 {p : Nat} {x : Nat} (hu : (ClassFile.Reader.u1 : ClassFile.Decoder Nat) code pc = .ok (182, pos)) (h2 : (ClassFile.Reader.u2 : ClassFile.Decoder Nat) code pos = .ok (x, p)) : (ClassFile.Decoder.instr pc) code pc = .ok ((.invokevirtual x), p) := by
  exact dq_seq hu (dq_seq h2 rfl)
theorem dq_183 {p : Nat} {x : Nat} (hu : (ClassFile.Reader.u1 : ClassFile.Decoder Nat) code pc = .ok (183, pos)) (h2 : (ClassFile.Reader.u2 : ClassFile.Decoder Nat) code pos = .ok (x, p)) : (ClassFile.Decoder.instr pc) code pc = .ok ((.invokespecial x), p) := by
  exact dq_seq hu (dq_seq h2 rfl)
theorem dq_184 {p : Nat} {x : Nat} (hu : (ClassFile.Reader.u1 : ClassFile.Decoder Nat) code pc = .ok (184, pos)) (h2 : (ClassFile.Reader.u2 : ClassFile.Decoder Nat) code pos = .ok (x, p)) : (ClassFile.Decoder.instr pc) code pc = .ok ((.invokestatic x), p) := by
  exact dq_seq hu (dq_seq h2 rfl)
theorem dq_187 {p : Nat} {x : Nat} (hu : (ClassFile.Reader.u1 : ClassFile.Decoder Nat) code pc = .ok (187, pos)) (h2 : (ClassFile.Reader.u2 : ClassFile.Decoder Nat) code pos = .ok (x, p)) : (ClassFile.Decoder.instr pc) code pc = .ok ((.new x), p) := by
  exact dq_seq hu (dq_seq h2 rfl)
theorem dq_17 {p : Nat} {x : Int} (hu : (ClassFile.Reader.u1 : ClassFile.Decoder Nat) code pc = .ok (17, pos)) (h2 : (ClassFile.Reader.s2 : ClassFile.Decoder Int) code pos = .ok (x, p)) : (ClassFile.Decoder.instr pc) code pc = .ok ((.sipush x), p) := by
  exact dq_seq hu (dq_seq h2 rfl)
theorem dq_153 {p : Nat} {x : Int} (hu : (ClassFile.Reader.u1 : ClassFile.Decoder Nat) code pc = .ok (153, pos)) (h2 : (ClassFile.Reader.s2 : ClassFile.Decoder Int) code pos = .ok (x, p)) : (ClassFile.Decoder.instr pc) code pc = .ok ((.ifCond .eq x), p) := by
  exact dq_seq hu (dq_seq h2 rfl)
theorem dq_154 {p : Nat} {x : Int} (hu : (ClassFile.Reader.u1 : ClassFile.Decoder Nat) code pc = .ok (154, pos)) (h2 : (ClassFile.Reader.s2 : ClassFile.Decoder Int) code pos = .ok (x, p)) : (ClassFile.Decoder.instr pc) code pc = .ok ((.ifCond .ne x), p) := by
  exact dq_seq hu (dq_seq h2 rfl)
theorem dq_155 {p : Nat} {x : Int} (hu : (ClassFile.Reader.u1 : ClassFile.Decoder Nat) code pc = .ok (155, pos)) (h2 : (ClassFile.Reader.s2 : ClassFile.Decoder Int) code pos = .ok (x, p)) : (ClassFile.Decoder.instr pc) code pc = .ok ((.ifCond .lt x), p) := by
  exact dq_seq hu (dq_seq h2 rfl)
theorem dq_156 {p : Nat} {x : Int} (hu : (ClassFile.Reader.u1 : ClassFile.Decoder Nat) code pc = .ok (156, pos)) (h2 : (ClassFile.Reader.s2 : ClassFile.Decoder Int) code pos = .ok (x, p)) : (ClassFile.Decoder.instr pc) code pc = .ok ((.ifCond .ge x), p) := by
  exact dq_seq hu (dq_seq h2 rfl)
theorem dq_157 {p : Nat} {x : Int} (hu : (ClassFile.Reader.u1 : ClassFile.Decoder Nat) code pc = .ok (157, pos)) (h2 : (ClassFile.Reader.s2 : ClassFile.Decoder Int) code pos = .ok (x, p)) : (ClassFile.Decoder.instr pc) code pc = .ok ((.ifCond .gt x), p) := by
  exact dq_seq hu (dq_seq h2 rfl)
theorem dq_158 {p : Nat} {x : Int} (hu : (ClassFile.Reader.u1 : ClassFile.Decoder Nat) code pc = .ok (158, pos)) (h2 : (ClassFile.Reader.s2 : ClassFile.Decoder Int) code pos = .ok (x, p)) : (ClassFile.Decoder.instr pc) code pc = .ok ((.ifCond .le x), p) := by
  exact dq_seq hu (dq_seq h2 rfl)
theorem dq_159 {p : Nat} {x : Int} (hu : (ClassFile.Reader.u1 : ClassFile.Decoder Nat) code pc = .ok (159, pos)) (h2 : (ClassFile.Reader.s2 : ClassFile.Decoder Int) code pos = .ok (x, p)) : (ClassFile.Decoder.instr pc) code pc = .ok ((.if_icmp .eq x), p) := by
  exact dq_seq hu (dq_seq h2 rfl)
theorem dq_160 {p : Nat} {x : Int} (hu : (ClassFile.Reader.u1 : ClassFile.Decoder Nat) code pc = .ok (160, pos)) (h2 : (ClassFile.Reader.s2 : ClassFile.Decoder Int) code pos = .ok (x, p)) : (ClassFile.Decoder.instr pc) code pc = .ok ((.if_icmp .ne x), p) := by
  exact dq_seq hu (dq_seq h2 rfl)
theorem dq_161 {p : Nat} {x : Int} (hu : (ClassFile.Reader.u1 : ClassFile.Decoder Nat) code pc = .ok (161, pos)) (h2 : (ClassFile.Reader.s2 : ClassFile.Decoder Int) code pos = .ok (x, p)) : (ClassFile.Decoder.instr pc) code pc = .ok ((.if_icmp .lt x), p) := by
  exact dq_seq hu (dq_seq h2 rfl)
theorem dq_162 {p : Nat} {x : Int} (hu : (ClassFile.Reader.u1 : ClassFile.Decoder Nat) code pc = .ok (162, pos)) (h2 : (ClassFile.Reader.s2 : ClassFile.Decoder Int) code pos = .ok (x, p)) : (ClassFile.Decoder.instr pc) code pc = .ok ((.if_icmp .ge x), p) := by
  exact dq_seq hu (dq_seq h2 rfl)
theorem dq_163 {p : Nat} {x : Int} (hu : (ClassFile.Reader.u1 : ClassFile.Decoder Nat) code pc = .ok (163, pos)) (h2 : (ClassFile.Reader.s2 : ClassFile.Decoder Int) code pos = .ok (x, p)) : (ClassFile.Decoder.instr pc) code pc = .ok ((.if_icmp .gt x), p) := by
  exact dq_seq hu (dq_seq h2 rfl)
theorem dq_164 {p : Nat} {x : Int} (hu : (ClassFile.Reader.u1 : ClassFile.Decoder Nat) code pc = .ok (164, pos)) (h2 : (ClassFile.Reader.s2 : ClassFile.Decoder Int) code pos = .ok (x, p)) : (ClassFile.Decoder.instr pc) code pc = .ok ((.if_icmp .le x), p) := by
  exact dq_seq hu (dq_seq h2 rfl)
theorem dq_167 {p : Nat} {x : Int} (hu : (ClassFile.Reader.u1 : ClassFile.Decoder Nat) code pc = .ok (167, pos)) (h2 : (ClassFile.Reader.s2 : ClassFile.Decoder Int) code pos = .ok (x, p)) : (ClassFile.Decoder.instr pc) code pc = .ok ((.goto x), p) := by
  exact dq_seq hu (dq_seq h2 rfl)
theorem dq_132 {p p2 x : Nat} {y : Int} (hu : (ClassFile.Reader.u1 : ClassFile.Decoder Nat) code pc = .ok (132, pos)) (h2 : (ClassFile.Reader.u1 : ClassFile.Decoder Nat) code pos = .ok (x, p)) (h3 : (ClassFile.Reader.s1 : ClassFile.Decoder Int) code p = .ok (y, p2)) : (ClassFile.Decoder.instr pc) code pc = .ok (.iinc x y, p2) := by
  exact dq_seq hu (dq_seq h2 (dq_seq h3 rfl))
def dK_0 : Nat → Option Instr
  | 2 => some (.iconst (-1))
  | 3 => some (.iconst 0)
  | 4 => some (.iconst 1)
  | 5 => some (.iconst 2)
  | 6 => some (.iconst 3)
  | 7 => some (.iconst 4)
  | 8 => some (.iconst 5)
  | 9 => some (.lconst 0)
  | 10 => some (.lconst 1)
  | 26 => some (.iload_n 0)
  | 27 => some (.iload_n 1)
  | 28 => some (.iload_n 2)
  | 29 => some (.iload_n 3)
  | 30 => some (.lload_n 0)
  | 31 => some (.lload_n 1)
  | 32 => some (.lload_n 2)
  | 33 => some (.lload_n 3)
  | 42 => some (.aload_n 0)
  | 43 => some (.aload_n 1)
  | 44 => some (.aload_n 2)
  | 45 => some (.aload_n 3)
  | 46 => some (.iaload)
  | 47 => some (.laload)
  | 51 => some (.baload)
  | 59 => some (.istore_n 0)
  | 60 => some (.istore_n 1)
  | 61 => some (.istore_n 2)
  | 62 => some (.istore_n 3)
  | 63 => some (.lstore_n 0)
  | 64 => some (.lstore_n 1)
  | 65 => some (.lstore_n 2)
  | 66 => some (.lstore_n 3)
  | 75 => some (.astore_n 0)
  | 76 => some (.astore_n 1)
  | 77 => some (.astore_n 2)
  | 78 => some (.astore_n 3)
  | 79 => some (.iastore)
  | 80 => some (.lastore)
  | 84 => some (.bastore)
  | 87 => some (.pop)
  | 89 => some (.dup)
  | 92 => some (.dup2)
  | 96 => some (.iadd)
  | 97 => some (.ladd)
  | 100 => some (.isub)
  | 104 => some (.imul)
  | 105 => some (.lmul)
  | 108 => some (.idiv)
  | 109 => some (.ldiv)
  | 112 => some (.irem)
  | 116 => some (.ineg)
  | 120 => some (.ishl)
  | 121 => some (.lshl)
  | 122 => some (.ishr)
  | 123 => some (.lshr)
  | 124 => some (.iushr)
  | 125 => some (.lushr)
  | 126 => some (.iand)
  | 127 => some (.land)
  | 128 => some (.ior)
  | 129 => some (.lor)
  | 130 => some (.ixor)
  | 133 => some (.i2l)
  | 136 => some (.l2i)
  | 145 => some (.i2b)
  | 146 => some (.i2c)
  | 147 => some (.i2s)
  | 148 => some (.lcmp)
  | 172 => some (.ireturn)
  | 173 => some (.lreturn)
  | 177 => some (.return_)
  | 190 => some (.arraylength)
  | 191 => some (.athrow)
  | _ => none
def dK_u1 : Nat → Option (Nat → Instr)
  | 18 => some (fun x => (.ldc x))
  | 21 => some (fun x => (.iload x))
  | 22 => some (fun x => (.lload x))
  | 25 => some (fun x => (.aload x))
  | 54 => some (fun x => (.istore x))
  | 55 => some (fun x => (.lstore x))
  | 58 => some (fun x => (.astore x))
  | _ => none
def dK_s1 : Nat → Option (Int → Instr)
  | 16 => some (fun x => (.bipush x))
  | _ => none
def dK_u2 : Nat → Option (Nat → Instr)
  | 19 => some (fun x => (.ldc_w x))
  | 20 => some (fun x => (.ldc2_w x))
  | 178 => some (fun x => (.getstatic x))
  | 180 => some (fun x => (.getfield x))
  | 181 => some (fun x => (.putfield x))
  | 182 => some (fun x => (.invokevirtual x))
  | 183 => some (fun x => (.invokespecial x))
  | 184 => some (fun x => (.invokestatic x))
  | 187 => some (fun x => (.new x))
  | _ => none
def dK_s2 : Nat → Option (Int → Instr)
  | 17 => some (fun x => (.sipush x))
  | 153 => some (fun x => (.ifCond .eq x))
  | 154 => some (fun x => (.ifCond .ne x))
  | 155 => some (fun x => (.ifCond .lt x))
  | 156 => some (fun x => (.ifCond .ge x))
  | 157 => some (fun x => (.ifCond .gt x))
  | 158 => some (fun x => (.ifCond .le x))
  | 159 => some (fun x => (.if_icmp .eq x))
  | 160 => some (fun x => (.if_icmp .ne x))
  | 161 => some (fun x => (.if_icmp .lt x))
  | 162 => some (fun x => (.if_icmp .ge x))
  | 163 => some (fun x => (.if_icmp .gt x))
  | 164 => some (fun x => (.if_icmp .le x))
  | 167 => some (fun x => (.goto x))
  | _ => none
theorem dK_0_ok {op : Nat} {i : Instr} (h : dK_0 op = some i) (hu : (ClassFile.Reader.u1 : ClassFile.Decoder Nat) code pc = .ok (op, pos)) : (ClassFile.Decoder.instr pc) code pc = .ok (i, pos) := by
  unfold dK_0 at h
  split at h
  · cases h; exact dq_2 hu
  · cases h; exact dq_3 hu
  · cases h; exact dq_4 hu
  · cases h; exact dq_5 hu
  · cases h; exact dq_6 hu
  · cases h; exact dq_7 hu
  · cases h; exact dq_8 hu
  · cases h; exact dq_9 hu
  · cases h; exact dq_10 hu
  · cases h; exact dq_26 hu
  · cases h; exact dq_27 hu
  · cases h; exact dq_28 hu
  · cases h; exact dq_29 hu
  · cases h; exact dq_30 hu
  · cases h; exact dq_31 hu
  · cases h; exact dq_32 hu
  · cases h; exact dq_33 hu
  · cases h; exact dq_42 hu
  · cases h; exact dq_43 hu
  · cases h; exact dq_44 hu
  · cases h; exact dq_45 hu
  · cases h; exact dq_46 hu
  · cases h; exact dq_47 hu
  · cases h; exact dq_51 hu
  · cases h; exact dq_59 hu
  · cases h; exact dq_60 hu
  · cases h; exact dq_61 hu
  · cases h; exact dq_62 hu
  · cases h; exact dq_63 hu
  · cases h; exact dq_64 hu
  · cases h; exact dq_65 hu
  · cases h; exact dq_66 hu
  · cases h; exact dq_75 hu
  · cases h; exact dq_76 hu
  · cases h; exact dq_77 hu
  · cases h; exact dq_78 hu
  · cases h; exact dq_79 hu
  · cases h; exact dq_80 hu
  · cases h; exact dq_84 hu
  · cases h; exact dq_87 hu
  · cases h; exact dq_89 hu
  · cases h; exact dq_92 hu
  · cases h; exact dq_96 hu
  · cases h; exact dq_97 hu
  · cases h; exact dq_100 hu
  · cases h; exact dq_104 hu
  · cases h; exact dq_105 hu
  · cases h; exact dq_108 hu
  · cases h; exact dq_109 hu
  · cases h; exact dq_112 hu
  · cases h; exact dq_116 hu
  · cases h; exact dq_120 hu
  · cases h; exact dq_121 hu
  · cases h; exact dq_122 hu
  · cases h; exact dq_123 hu
  · cases h; exact dq_124 hu
  · cases h; exact dq_125 hu
  · cases h; exact dq_126 hu
  · cases h; exact dq_127 hu
  · cases h; exact dq_128 hu
  · cases h; exact dq_129 hu
  · cases h; exact dq_130 hu
  · cases h; exact dq_133 hu
  · cases h; exact dq_136 hu
  · cases h; exact dq_145 hu
  · cases h; exact dq_146 hu
  · cases h; exact dq_147 hu
  · cases h; exact dq_148 hu
  · cases h; exact dq_172 hu
  · cases h; exact dq_173 hu
  · cases h; exact dq_177 hu
  · cases h; exact dq_190 hu
  · cases h; exact dq_191 hu
  · cases h
theorem dK_u1_ok {op p : Nat} {f : Nat → Instr} {x : Nat} (h : dK_u1 op = some f) (hu : (ClassFile.Reader.u1 : ClassFile.Decoder Nat) code pc = .ok (op, pos)) (h2 : (ClassFile.Reader.u1 : ClassFile.Decoder Nat) code pos = .ok (x, p)) : (ClassFile.Decoder.instr pc) code pc = .ok (f x, p) := by
  unfold dK_u1 at h
  split at h
  · cases h; exact dq_18 hu h2
  · cases h; exact dq_21 hu h2
  · cases h; exact dq_22 hu h2
  · cases h; exact dq_25 hu h2
  · cases h; exact dq_54 hu h2
  · cases h; exact dq_55 hu h2
  · cases h; exact dq_58 hu h2
  · cases h
theorem dK_s1_ok {op p : Nat} {f : Int → Instr} {x : Int} (h : dK_s1 op = some f) (hu : (ClassFile.Reader.u1 : ClassFile.Decoder Nat) code pc = .ok (op, pos)) (h2 : (ClassFile.Reader.s1 : ClassFile.Decoder Int) code pos = .ok (x, p)) : (ClassFile.Decoder.instr pc) code pc = .ok (f x, p) := by
  unfold dK_s1 at h
  split at h
  · cases h; exact dq_16 hu h2
  · cases h
theorem dK_u2_ok {op p : Nat} {f : Nat → Instr} {x : Nat} (h : dK_u2 op = some f) (hu : (ClassFile.Reader.u1 : ClassFile.Decoder Nat) code pc = .ok (op, pos)) (h2 : (ClassFile.Reader.u2 : ClassFile.Decoder Nat) code pos = .ok (x, p)) : (ClassFile.Decoder.instr pc) code pc = .ok (f x, p) := by
  unfold dK_u2 at h
  split at h
  · cases h; exact dq_19 hu h2
  · cases h; exact dq_20 hu h2
  · cases h; exact dq_178 hu h2
  · cases h; exact dq_180 hu h2
  · cases h; exact dq_181 hu h2
  · cases h; exact dq_182 hu h2
  · cases h; exact dq_183 hu h2
  · cases h; exact dq_184 hu h2
  · cases h; exact dq_187 hu h2
  · cases h
theorem dK_s2_ok {op p : Nat} {f : Int → Instr} {x : Int} (h : dK_s2 op = some f) (hu : (ClassFile.Reader.u1 : ClassFile.Decoder Nat) code pc = .ok (op, pos)) (h2 : (ClassFile.Reader.s2 : ClassFile.Decoder Int) code pos = .ok (x, p)) : (ClassFile.Decoder.instr pc) code pc = .ok (f x, p) := by
  unfold dK_s2 at h
  split at h
  · cases h; exact dq_17 hu h2
  · cases h; exact dq_153 hu h2
  · cases h; exact dq_154 hu h2
  · cases h; exact dq_155 hu h2
  · cases h; exact dq_156 hu h2
  · cases h; exact dq_157 hu h2
  · cases h; exact dq_158 hu h2
  · cases h; exact dq_159 hu h2
  · cases h; exact dq_160 hu h2
  · cases h; exact dq_161 hu h2
  · cases h; exact dq_162 hu h2
  · cases h; exact dq_163 hu h2
  · cases h; exact dq_164 hu h2
  · cases h; exact dq_167 hu h2
  · cases h
/-- the instruction that a list of bytes begins with (no switch) -/
def dqL : List UInt8 → Option (Instr × Nat)
  | [] => none
  | b :: r => match dK_0 b.toNat with
    | some i => some (i, 1)
    | none => match r with
      | [] => none
      | c :: r2 => match dK_u1 b.toNat with
        | some f => some (f c.toNat, 2)
        | none => match dK_s1 b.toNat with
          | some f => some (f (ClassFile.Reader.signed 8 c.toNat), 2)
          | none => match r2 with
            | [] => none
            | d :: _ => match dK_u2 b.toNat with
              | some f => some (f (c.toNat * 256 + d.toNat), 3)
              | none => match dK_s2 b.toNat with
                | some f => some (f (ClassFile.Reader.signed 16 (c.toNat * 256 + d.toNat)), 3)
                | none => if b.toNat = 132 then some (.iinc c.toNat (ClassFile.Reader.signed 8 d.toNat), 3) else none
theorem dqL_ok {l : List UInt8} {i : Instr} {n : Nat} (h : code.data.toList.drop pc = l) (hd : dqL l = some (i, n)) : decode code pc = .ok (i, n) := by
  unfold dqL at hd
  split at hd
  · cases hd
  · rename_i b r
    obtain ⟨u1, g1⟩ := dq_u1 h
    split at hd
    · rename_i j hj
      cases hd
      have := dq_dec (dK_0_ok hj u1)
      rwa [Nat.add_sub_cancel_left] at this
    · split at hd
      · cases hd
      · rename_i c r2
        obtain ⟨u2, g2⟩ := dq_u1 g1
        split at hd
        · rename_i f hf
          cases hd
          have := dq_dec (dK_u1_ok hf u1 u2)
          rwa [show pc + 1 + 1 - pc = 2 by omega] at this
        · split at hd
          · rename_i f hf
            cases hd
            have := dq_dec (dK_s1_ok hf u1 (dq_s1 u2))
            rwa [show pc + 1 + 1 - pc = 2 by omega] at this
          · split at hd
            · cases hd
            · rename_i d r3
              obtain ⟨u3, g3⟩ := dq_u1 g2
              split at hd
              · rename_i f hf
                cases hd
                have := dq_dec (dK_u2_ok hf u1 (dq_u2 u2 u3))
                rwa [show pc + 1 + 1 + 1 - pc = 3 by omega] at this
              · split at hd
                · rename_i f hf
                  cases hd
                  have := dq_dec (dK_s2_ok hf u1 (dq_s2 u2 u3))
                  rwa [show pc + 1 + 1 + 1 - pc = 3 by omega] at this
                · split at hd
                  · rename_i he
                    cases hd
                    rw [he] at u1
                    have := dq_dec (dq_132 u1 u2 (dq_s1 u3))
                    rwa [show pc + 1 + 1 + 1 - pc = 3 by omega] at this
                  · cases hd
/-- a method's instructions, walked -/
def dqW (code : ByteArray) : Nat → List UInt8 → List (Nat × Instr × Nat) → Bool
  | _, _, [] => true
  | pc, l, q :: t => decide (q.1 = pc) && (decide (dqL l = some (q.2.1, q.2.2)) || decide (decode code q.1 = .ok (q.2.1, q.2.2))) && dqW code (pc + q.2.2) (l.drop q.2.2) t
theorem dqW_ok : ∀ {pc : Nat} {l : List UInt8} {qs : List (Nat × Instr × Nat)}, code.data.toList.drop pc = l → dqW code pc l qs = true → qs.all (fun q => decide (decode code q.1 = .ok (q.2.1, q.2.2))) = true
  | _, _, [], _, _ => rfl
  | pc, l, q :: t, hl, h => by
    unfold dqW at h
    rw [Bool.and_eq_true, Bool.and_eq_true, Bool.or_eq_true, decide_eq_true_eq, decide_eq_true_eq, decide_eq_true_eq] at h
    obtain ⟨⟨h1, h2⟩, h3⟩ := h
    have h0 : decode code q.1 = .ok (q.2.1, q.2.2) := by
      rcases h2 with h2 | h2
      · rw [h1]
        exact dqL_ok hl h2
      · exact h2
    rw [List.all_cons, Bool.and_eq_true, decide_eq_true_eq]
    exact ⟨h0, dqW_ok (by rw [← hl, List.drop_drop]) h3⟩
theorem dq_all {qs : List (Nat × Instr × Nat)} (h : dqW code 0 code.data.toList qs = true) : qs.all (fun q => decide (decode code q.1 = .ok (q.2.1, q.2.2))) = true := dqW_ok List.drop_zero h
end DEC
