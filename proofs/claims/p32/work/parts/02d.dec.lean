/-! READING A BYTE: at a place of the list; each instruction by its bytes -/
theorem dk_u1 {l r : List UInt8} {p : Nat} {b : UInt8} (h : l.drop p = b :: r) : (Reader.u1 : Decoder Nat) ⟨⟨l⟩⟩ p = .ok (b.toNat, p + 1) := by
  have hp : p < l.length := by
    rcases Nat.lt_or_ge p l.length with z | z
    · exact z
    · rw [List.drop_eq_nil_of_le z] at h; cases h
  have hb : l[p] = b := by
    rw [List.drop_eq_getElem_cons hp] at h
    injection h
  have hp2 : p < (⟨⟨l⟩⟩ : ByteArray).size := hp
  show (dite (p < (⟨⟨l⟩⟩ : ByteArray).size) (fun h => (do set (p + 1); pure ((⟨⟨l⟩⟩ : ByteArray)[p]'h).toNat : Decoder Nat)) (fun _ => (throw (HasTruncated.truncated p) : Decoder Nat))) ⟨⟨l⟩⟩ p = _
  rw [dif_pos hp2]
  show Except.ok ((l[p]'hp).toNat, p + 1) = _
  rw [hb]
theorem dk_s {l r : List UInt8} {p : Nat} {b : UInt8} (h : l.drop p = b :: r) : l.drop (p + 1) = r := by
  rw [← List.drop_drop, h]
  rfl
section DkForms
variable {bs : ByteArray} {p v hi lo : Nat}
theorem dk_s1 (h : (Reader.u1 : Decoder Nat) bs p = .ok (v, p + 1)) : (Reader.s1 : Decoder Int) bs p = .ok (Reader.signed 8 v, p + 1) := by
  show Except.bind ((Reader.u1 : Decoder Nat) bs p) _ = _
  rw [h]
  rfl
theorem dk_u2 (h : (Reader.u1 : Decoder Nat) bs p = .ok (hi, p + 1)) (h1 : (Reader.u1 : Decoder Nat) bs (p + 1) = .ok (lo, p + 1 + 1)) : (Reader.u2 : Decoder Nat) bs p = .ok (hi * 256 + lo, p + 1 + 1) := by
  show Except.bind ((Reader.u1 : Decoder Nat) bs p) _ = _
  rw [h]
  show Except.bind ((Reader.u1 : Decoder Nat) bs (p + 1)) _ = _
  rw [h1]
  rfl
theorem dk_s2 (h : (Reader.u2 : Decoder Nat) bs p = .ok (v, p + 1 + 1)) : (Reader.s2 : Decoder Int) bs p = .ok (Reader.signed 16 v, p + 1 + 1) := by
  show Except.bind ((Reader.u2 : Decoder Nat) bs p) _ = _
  rw [h]
  rfl
theorem dk_46 {pc : Nat} (h : (Reader.u1 : Decoder Nat) bs p = .ok (46, p + 1)) : (Decoder.instr pc) bs p = .ok (.iaload, p + 1) := by
  show Except.bind ((Reader.u1 : Decoder Nat) bs p) _ = _
  rw [h]
  rfl
theorem dk_47 {pc : Nat} (h : (Reader.u1 : Decoder Nat) bs p = .ok (47, p + 1)) : (Decoder.instr pc) bs p = .ok (.laload, p + 1) := by
  show Except.bind ((Reader.u1 : Decoder Nat) bs p) _ = _
  rw [h]
  rfl
theorem dk_51 {pc : Nat} (h : (Reader.u1 : Decoder Nat) bs p = .ok (51, p + 1)) : (Decoder.instr pc) bs p = .ok (.baload, p + 1) := by
  show Except.bind ((Reader.u1 : Decoder Nat) bs p) _ = _
  rw [h]
  rfl
theorem dk_79 {pc : Nat} (h : (Reader.u1 : Decoder Nat) bs p = .ok (79, p + 1)) : (Decoder.instr pc) bs p = .ok (.iastore, p + 1) := by
  show Except.bind ((Reader.u1 : Decoder Nat) bs p) _ = _
  rw [h]
  rfl
theorem dk_80 {pc : Nat} (h : (Reader.u1 : Decoder Nat) bs p = .ok (80, p + 1)) : (Decoder.instr pc) bs p = .ok (.lastore, p + 1) := by
  show Except.bind ((Reader.u1 : Decoder Nat) bs p) _ = _
  rw [h]
  rfl
theorem dk_84 {pc : Nat} (h : (Reader.u1 : Decoder Nat) bs p = .ok (84, p + 1)) : (Decoder.instr pc) bs p = .ok (.bastore, p + 1) := by
  show Except.bind ((Reader.u1 : Decoder Nat) bs p) _ = _
  rw [h]
  rfl
theorem dk_87 {pc : Nat} (h : (Reader.u1 : Decoder Nat) bs p = .ok (87, p + 1)) : (Decoder.instr pc) bs p = .ok (.pop, p + 1) := by
  show Except.bind ((Reader.u1 : Decoder Nat) bs p) _ = _
  rw [h]
  rfl
theorem dk_89 {pc : Nat} (h : (Reader.u1 : Decoder Nat) bs p = .ok (89, p + 1)) : (Decoder.instr pc) bs p = .ok (.dup, p + 1) := by
  show Except.bind ((Reader.u1 : Decoder Nat) bs p) _ = _
  rw [h]
  rfl
theorem dk_92 {pc : Nat} (h : (Reader.u1 : Decoder Nat) bs p = .ok (92, p + 1)) : (Decoder.instr pc) bs p = .ok (.dup2, p + 1) := by
  show Except.bind ((Reader.u1 : Decoder Nat) bs p) _ = _
  rw [h]
  rfl
theorem dk_96 {pc : Nat} (h : (Reader.u1 : Decoder Nat) bs p = .ok (96, p + 1)) : (Decoder.instr pc) bs p = .ok (.iadd, p + 1) := by
  show Except.bind ((Reader.u1 : Decoder Nat) bs p) _ = _
  rw [h]
  rfl
theorem dk_100 {pc : Nat} (h : (Reader.u1 : Decoder Nat) bs p = .ok (100, p + 1)) : (Decoder.instr pc) bs p = .ok (.isub, p + 1) := by
  show Except.bind ((Reader.u1 : Decoder Nat) bs p) _ = _
  rw [h]
  rfl
theorem dk_104 {pc : Nat} (h : (Reader.u1 : Decoder Nat) bs p = .ok (104, p + 1)) : (Decoder.instr pc) bs p = .ok (.imul, p + 1) := by
  show Except.bind ((Reader.u1 : Decoder Nat) bs p) _ = _
  rw [h]
  rfl
theorem dk_108 {pc : Nat} (h : (Reader.u1 : Decoder Nat) bs p = .ok (108, p + 1)) : (Decoder.instr pc) bs p = .ok (.idiv, p + 1) := by
  show Except.bind ((Reader.u1 : Decoder Nat) bs p) _ = _
  rw [h]
  rfl
theorem dk_112 {pc : Nat} (h : (Reader.u1 : Decoder Nat) bs p = .ok (112, p + 1)) : (Decoder.instr pc) bs p = .ok (.irem, p + 1) := by
  show Except.bind ((Reader.u1 : Decoder Nat) bs p) _ = _
  rw [h]
  rfl
theorem dk_116 {pc : Nat} (h : (Reader.u1 : Decoder Nat) bs p = .ok (116, p + 1)) : (Decoder.instr pc) bs p = .ok (.ineg, p + 1) := by
  show Except.bind ((Reader.u1 : Decoder Nat) bs p) _ = _
  rw [h]
  rfl
theorem dk_122 {pc : Nat} (h : (Reader.u1 : Decoder Nat) bs p = .ok (122, p + 1)) : (Decoder.instr pc) bs p = .ok (.ishr, p + 1) := by
  show Except.bind ((Reader.u1 : Decoder Nat) bs p) _ = _
  rw [h]
  rfl
theorem dk_124 {pc : Nat} (h : (Reader.u1 : Decoder Nat) bs p = .ok (124, p + 1)) : (Decoder.instr pc) bs p = .ok (.iushr, p + 1) := by
  show Except.bind ((Reader.u1 : Decoder Nat) bs p) _ = _
  rw [h]
  rfl
theorem dk_126 {pc : Nat} (h : (Reader.u1 : Decoder Nat) bs p = .ok (126, p + 1)) : (Decoder.instr pc) bs p = .ok (.iand, p + 1) := by
  show Except.bind ((Reader.u1 : Decoder Nat) bs p) _ = _
  rw [h]
  rfl
theorem dk_133 {pc : Nat} (h : (Reader.u1 : Decoder Nat) bs p = .ok (133, p + 1)) : (Decoder.instr pc) bs p = .ok (.i2l, p + 1) := by
  show Except.bind ((Reader.u1 : Decoder Nat) bs p) _ = _
  rw [h]
  rfl
theorem dk_148 {pc : Nat} (h : (Reader.u1 : Decoder Nat) bs p = .ok (148, p + 1)) : (Decoder.instr pc) bs p = .ok (.lcmp, p + 1) := by
  show Except.bind ((Reader.u1 : Decoder Nat) bs p) _ = _
  rw [h]
  rfl
theorem dk_172 {pc : Nat} (h : (Reader.u1 : Decoder Nat) bs p = .ok (172, p + 1)) : (Decoder.instr pc) bs p = .ok (.ireturn, p + 1) := by
  show Except.bind ((Reader.u1 : Decoder Nat) bs p) _ = _
  rw [h]
  rfl
theorem dk_176 {pc : Nat} (h : (Reader.u1 : Decoder Nat) bs p = .ok (176, p + 1)) : (Decoder.instr pc) bs p = .ok (.areturn, p + 1) := by
  show Except.bind ((Reader.u1 : Decoder Nat) bs p) _ = _
  rw [h]
  rfl
theorem dk_177 {pc : Nat} (h : (Reader.u1 : Decoder Nat) bs p = .ok (177, p + 1)) : (Decoder.instr pc) bs p = .ok (.return_, p + 1) := by
  show Except.bind ((Reader.u1 : Decoder Nat) bs p) _ = _
  rw [h]
  rfl
theorem dk_190 {pc : Nat} (h : (Reader.u1 : Decoder Nat) bs p = .ok (190, p + 1)) : (Decoder.instr pc) bs p = .ok (.arraylength, p + 1) := by
  show Except.bind ((Reader.u1 : Decoder Nat) bs p) _ = _
  rw [h]
  rfl
theorem dk_191 {pc : Nat} (h : (Reader.u1 : Decoder Nat) bs p = .ok (191, p + 1)) : (Decoder.instr pc) bs p = .ok (.athrow, p + 1) := by
  show Except.bind ((Reader.u1 : Decoder Nat) bs p) _ = _
  rw [h]
  rfl
theorem dk_42 {pc : Nat} (h : (Reader.u1 : Decoder Nat) bs p = .ok (42, p + 1)) : (Decoder.instr pc) bs p = .ok (.aload_n 0, p + 1) := by
  show Except.bind ((Reader.u1 : Decoder Nat) bs p) _ = _
  rw [h]
  rfl
theorem dk_43 {pc : Nat} (h : (Reader.u1 : Decoder Nat) bs p = .ok (43, p + 1)) : (Decoder.instr pc) bs p = .ok (.aload_n 1, p + 1) := by
  show Except.bind ((Reader.u1 : Decoder Nat) bs p) _ = _
  rw [h]
  rfl
theorem dk_44 {pc : Nat} (h : (Reader.u1 : Decoder Nat) bs p = .ok (44, p + 1)) : (Decoder.instr pc) bs p = .ok (.aload_n 2, p + 1) := by
  show Except.bind ((Reader.u1 : Decoder Nat) bs p) _ = _
  rw [h]
  rfl
theorem dk_45 {pc : Nat} (h : (Reader.u1 : Decoder Nat) bs p = .ok (45, p + 1)) : (Decoder.instr pc) bs p = .ok (.aload_n 3, p + 1) := by
  show Except.bind ((Reader.u1 : Decoder Nat) bs p) _ = _
  rw [h]
  rfl
theorem dk_26 {pc : Nat} (h : (Reader.u1 : Decoder Nat) bs p = .ok (26, p + 1)) : (Decoder.instr pc) bs p = .ok (.iload_n 0, p + 1) := by
  show Except.bind ((Reader.u1 : Decoder Nat) bs p) _ = _
  rw [h]
  rfl
theorem dk_27 {pc : Nat} (h : (Reader.u1 : Decoder Nat) bs p = .ok (27, p + 1)) : (Decoder.instr pc) bs p = .ok (.iload_n 1, p + 1) := by
  show Except.bind ((Reader.u1 : Decoder Nat) bs p) _ = _
  rw [h]
  rfl
theorem dk_28 {pc : Nat} (h : (Reader.u1 : Decoder Nat) bs p = .ok (28, p + 1)) : (Decoder.instr pc) bs p = .ok (.iload_n 2, p + 1) := by
  show Except.bind ((Reader.u1 : Decoder Nat) bs p) _ = _
  rw [h]
  rfl
theorem dk_29 {pc : Nat} (h : (Reader.u1 : Decoder Nat) bs p = .ok (29, p + 1)) : (Decoder.instr pc) bs p = .ok (.iload_n 3, p + 1) := by
  show Except.bind ((Reader.u1 : Decoder Nat) bs p) _ = _
  rw [h]
  rfl
theorem dk_59 {pc : Nat} (h : (Reader.u1 : Decoder Nat) bs p = .ok (59, p + 1)) : (Decoder.instr pc) bs p = .ok (.istore_n 0, p + 1) := by
  show Except.bind ((Reader.u1 : Decoder Nat) bs p) _ = _
  rw [h]
  rfl
theorem dk_60 {pc : Nat} (h : (Reader.u1 : Decoder Nat) bs p = .ok (60, p + 1)) : (Decoder.instr pc) bs p = .ok (.istore_n 1, p + 1) := by
  show Except.bind ((Reader.u1 : Decoder Nat) bs p) _ = _
  rw [h]
  rfl
theorem dk_61 {pc : Nat} (h : (Reader.u1 : Decoder Nat) bs p = .ok (61, p + 1)) : (Decoder.instr pc) bs p = .ok (.istore_n 2, p + 1) := by
  show Except.bind ((Reader.u1 : Decoder Nat) bs p) _ = _
  rw [h]
  rfl
theorem dk_62 {pc : Nat} (h : (Reader.u1 : Decoder Nat) bs p = .ok (62, p + 1)) : (Decoder.instr pc) bs p = .ok (.istore_n 3, p + 1) := by
  show Except.bind ((Reader.u1 : Decoder Nat) bs p) _ = _
  rw [h]
  rfl
theorem dk_75 {pc : Nat} (h : (Reader.u1 : Decoder Nat) bs p = .ok (75, p + 1)) : (Decoder.instr pc) bs p = .ok (.astore_n 0, p + 1) := by
  show Except.bind ((Reader.u1 : Decoder Nat) bs p) _ = _
  rw [h]
  rfl
theorem dk_76 {pc : Nat} (h : (Reader.u1 : Decoder Nat) bs p = .ok (76, p + 1)) : (Decoder.instr pc) bs p = .ok (.astore_n 1, p + 1) := by
  show Except.bind ((Reader.u1 : Decoder Nat) bs p) _ = _
  rw [h]
  rfl
theorem dk_77 {pc : Nat} (h : (Reader.u1 : Decoder Nat) bs p = .ok (77, p + 1)) : (Decoder.instr pc) bs p = .ok (.astore_n 2, p + 1) := by
  show Except.bind ((Reader.u1 : Decoder Nat) bs p) _ = _
  rw [h]
  rfl
theorem dk_78 {pc : Nat} (h : (Reader.u1 : Decoder Nat) bs p = .ok (78, p + 1)) : (Decoder.instr pc) bs p = .ok (.astore_n 3, p + 1) := by
  show Except.bind ((Reader.u1 : Decoder Nat) bs p) _ = _
  rw [h]
  rfl
theorem dk_2 {pc : Nat} (h : (Reader.u1 : Decoder Nat) bs p = .ok (2, p + 1)) : (Decoder.instr pc) bs p = .ok (.iconst (-1), p + 1) := by
  show Except.bind ((Reader.u1 : Decoder Nat) bs p) _ = _
  rw [h]
  rfl
theorem dk_3 {pc : Nat} (h : (Reader.u1 : Decoder Nat) bs p = .ok (3, p + 1)) : (Decoder.instr pc) bs p = .ok (.iconst (0), p + 1) := by
  show Except.bind ((Reader.u1 : Decoder Nat) bs p) _ = _
  rw [h]
  rfl
theorem dk_4 {pc : Nat} (h : (Reader.u1 : Decoder Nat) bs p = .ok (4, p + 1)) : (Decoder.instr pc) bs p = .ok (.iconst (1), p + 1) := by
  show Except.bind ((Reader.u1 : Decoder Nat) bs p) _ = _
  rw [h]
  rfl
theorem dk_5 {pc : Nat} (h : (Reader.u1 : Decoder Nat) bs p = .ok (5, p + 1)) : (Decoder.instr pc) bs p = .ok (.iconst (2), p + 1) := by
  show Except.bind ((Reader.u1 : Decoder Nat) bs p) _ = _
  rw [h]
  rfl
theorem dk_6 {pc : Nat} (h : (Reader.u1 : Decoder Nat) bs p = .ok (6, p + 1)) : (Decoder.instr pc) bs p = .ok (.iconst (3), p + 1) := by
  show Except.bind ((Reader.u1 : Decoder Nat) bs p) _ = _
  rw [h]
  rfl
theorem dk_7 {pc : Nat} (h : (Reader.u1 : Decoder Nat) bs p = .ok (7, p + 1)) : (Decoder.instr pc) bs p = .ok (.iconst (4), p + 1) := by
  show Except.bind ((Reader.u1 : Decoder Nat) bs p) _ = _
  rw [h]
  rfl
theorem dk_8 {pc : Nat} (h : (Reader.u1 : Decoder Nat) bs p = .ok (8, p + 1)) : (Decoder.instr pc) bs p = .ok (.iconst (5), p + 1) := by
  show Except.bind ((Reader.u1 : Decoder Nat) bs p) _ = _
  rw [h]
  rfl
theorem dk_21 {pc : Nat} {x : Nat} (h : (Reader.u1 : Decoder Nat) bs p = .ok (21, p + 1)) (h1 : (Reader.u1 : Decoder Nat) bs (p + 1) = .ok (x, p + 1 + 1)) : (Decoder.instr pc) bs p = .ok (.iload x, p + 1 + 1) := by
  show Except.bind ((Reader.u1 : Decoder Nat) bs p) _ = _
  rw [h]
  show Except.bind ((Reader.u1 : Decoder Nat) bs (p + 1)) _ = _
  rw [h1]
  rfl
theorem dk_54 {pc : Nat} {x : Nat} (h : (Reader.u1 : Decoder Nat) bs p = .ok (54, p + 1)) (h1 : (Reader.u1 : Decoder Nat) bs (p + 1) = .ok (x, p + 1 + 1)) : (Decoder.instr pc) bs p = .ok (.istore x, p + 1 + 1) := by
  show Except.bind ((Reader.u1 : Decoder Nat) bs p) _ = _
  rw [h]
  show Except.bind ((Reader.u1 : Decoder Nat) bs (p + 1)) _ = _
  rw [h1]
  rfl
theorem dk_25 {pc : Nat} {x : Nat} (h : (Reader.u1 : Decoder Nat) bs p = .ok (25, p + 1)) (h1 : (Reader.u1 : Decoder Nat) bs (p + 1) = .ok (x, p + 1 + 1)) : (Decoder.instr pc) bs p = .ok (.aload x, p + 1 + 1) := by
  show Except.bind ((Reader.u1 : Decoder Nat) bs p) _ = _
  rw [h]
  show Except.bind ((Reader.u1 : Decoder Nat) bs (p + 1)) _ = _
  rw [h1]
  rfl
theorem dk_58 {pc : Nat} {x : Nat} (h : (Reader.u1 : Decoder Nat) bs p = .ok (58, p + 1)) (h1 : (Reader.u1 : Decoder Nat) bs (p + 1) = .ok (x, p + 1 + 1)) : (Decoder.instr pc) bs p = .ok (.astore x, p + 1 + 1) := by
  show Except.bind ((Reader.u1 : Decoder Nat) bs p) _ = _
  rw [h]
  show Except.bind ((Reader.u1 : Decoder Nat) bs (p + 1)) _ = _
  rw [h1]
  rfl
theorem dk_18 {pc : Nat} {x : Nat} (h : (Reader.u1 : Decoder Nat) bs p = .ok (18, p + 1)) (h1 : (Reader.u1 : Decoder Nat) bs (p + 1) = .ok (x, p + 1 + 1)) : (Decoder.instr pc) bs p = .ok (.ldc x, p + 1 + 1) := by
  show Except.bind ((Reader.u1 : Decoder Nat) bs p) _ = _
  rw [h]
  show Except.bind ((Reader.u1 : Decoder Nat) bs (p + 1)) _ = _
  rw [h1]
  rfl
theorem dk_16 {pc : Nat} {x : Int} (h : (Reader.u1 : Decoder Nat) bs p = .ok (16, p + 1)) (h1 : (Reader.s1 : Decoder Int) bs (p + 1) = .ok (x, p + 1 + 1)) : (Decoder.instr pc) bs p = .ok (.bipush x, p + 1 + 1) := by
  show Except.bind ((Reader.u1 : Decoder Nat) bs p) _ = _
  rw [h]
  show Except.bind ((Reader.s1 : Decoder Int) bs (p + 1)) _ = _
  rw [h1]
  rfl
theorem dk_178 {pc : Nat} {x : Nat} (h : (Reader.u1 : Decoder Nat) bs p = .ok (178, p + 1)) (h1 : (Reader.u2 : Decoder Nat) bs (p + 1) = .ok (x, p + 1 + 1 + 1)) : (Decoder.instr pc) bs p = .ok (.getstatic x, p + 1 + 1 + 1) := by
  show Except.bind ((Reader.u1 : Decoder Nat) bs p) _ = _
  rw [h]
  show Except.bind ((Reader.u2 : Decoder Nat) bs (p + 1)) _ = _
  rw [h1]
  rfl
theorem dk_180 {pc : Nat} {x : Nat} (h : (Reader.u1 : Decoder Nat) bs p = .ok (180, p + 1)) (h1 : (Reader.u2 : Decoder Nat) bs (p + 1) = .ok (x, p + 1 + 1 + 1)) : (Decoder.instr pc) bs p = .ok (.getfield x, p + 1 + 1 + 1) := by
  show Except.bind ((Reader.u1 : Decoder Nat) bs p) _ = _
  rw [h]
  show Except.bind ((Reader.u2 : Decoder Nat) bs (p + 1)) _ = _
  rw [h1]
  rfl
theorem dk_181 {pc : Nat} {x : Nat} (h : (Reader.u1 : Decoder Nat) bs p = .ok (181, p + 1)) (h1 : (Reader.u2 : Decoder Nat) bs (p + 1) = .ok (x, p + 1 + 1 + 1)) : (Decoder.instr pc) bs p = .ok (.putfield x, p + 1 + 1 + 1) := by
  show Except.bind ((Reader.u1 : Decoder Nat) bs p) _ = _
  rw [h]
  show Except.bind ((Reader.u2 : Decoder Nat) bs (p + 1)) _ = _
  rw [h1]
  rfl
theorem dk_182 {pc : Nat} {x : Nat} (h : (Reader.u1 : Decoder Nat) bs p = .ok (182, p + 1)) (h1 : (Reader.u2 : Decoder Nat) bs (p + 1) = .ok (x, p + 1 + 1 + 1)) : (Decoder.instr pc) bs p = .ok (.invokevirtual x, p + 1 + 1 + 1) := by
  show Except.bind ((Reader.u1 : Decoder Nat) bs p) _ = _
  rw [h]
  show Except.bind ((Reader.u2 : Decoder Nat) bs (p + 1)) _ = _
  rw [h1]
  rfl
theorem dk_183 {pc : Nat} {x : Nat} (h : (Reader.u1 : Decoder Nat) bs p = .ok (183, p + 1)) (h1 : (Reader.u2 : Decoder Nat) bs (p + 1) = .ok (x, p + 1 + 1 + 1)) : (Decoder.instr pc) bs p = .ok (.invokespecial x, p + 1 + 1 + 1) := by
  show Except.bind ((Reader.u1 : Decoder Nat) bs p) _ = _
  rw [h]
  show Except.bind ((Reader.u2 : Decoder Nat) bs (p + 1)) _ = _
  rw [h1]
  rfl
theorem dk_184 {pc : Nat} {x : Nat} (h : (Reader.u1 : Decoder Nat) bs p = .ok (184, p + 1)) (h1 : (Reader.u2 : Decoder Nat) bs (p + 1) = .ok (x, p + 1 + 1 + 1)) : (Decoder.instr pc) bs p = .ok (.invokestatic x, p + 1 + 1 + 1) := by
  show Except.bind ((Reader.u1 : Decoder Nat) bs p) _ = _
  rw [h]
  show Except.bind ((Reader.u2 : Decoder Nat) bs (p + 1)) _ = _
  rw [h1]
  rfl
theorem dk_187 {pc : Nat} {x : Nat} (h : (Reader.u1 : Decoder Nat) bs p = .ok (187, p + 1)) (h1 : (Reader.u2 : Decoder Nat) bs (p + 1) = .ok (x, p + 1 + 1 + 1)) : (Decoder.instr pc) bs p = .ok (.new x, p + 1 + 1 + 1) := by
  show Except.bind ((Reader.u1 : Decoder Nat) bs p) _ = _
  rw [h]
  show Except.bind ((Reader.u2 : Decoder Nat) bs (p + 1)) _ = _
  rw [h1]
  rfl
theorem dk_17 {pc : Nat} {x : Int} (h : (Reader.u1 : Decoder Nat) bs p = .ok (17, p + 1)) (h1 : (Reader.s2 : Decoder Int) bs (p + 1) = .ok (x, p + 1 + 1 + 1)) : (Decoder.instr pc) bs p = .ok (.sipush x, p + 1 + 1 + 1) := by
  show Except.bind ((Reader.u1 : Decoder Nat) bs p) _ = _
  rw [h]
  show Except.bind ((Reader.s2 : Decoder Int) bs (p + 1)) _ = _
  rw [h1]
  rfl
theorem dk_167 {pc : Nat} {x : Int} (h : (Reader.u1 : Decoder Nat) bs p = .ok (167, p + 1)) (h1 : (Reader.s2 : Decoder Int) bs (p + 1) = .ok (x, p + 1 + 1 + 1)) : (Decoder.instr pc) bs p = .ok (.goto x, p + 1 + 1 + 1) := by
  show Except.bind ((Reader.u1 : Decoder Nat) bs p) _ = _
  rw [h]
  show Except.bind ((Reader.s2 : Decoder Int) bs (p + 1)) _ = _
  rw [h1]
  rfl
theorem dk_153 {pc : Nat} {x : Int} (h : (Reader.u1 : Decoder Nat) bs p = .ok (153, p + 1)) (h1 : (Reader.s2 : Decoder Int) bs (p + 1) = .ok (x, p + 1 + 1 + 1)) : (Decoder.instr pc) bs p = .ok (.ifCond .eq x, p + 1 + 1 + 1) := by
  show Except.bind ((Reader.u1 : Decoder Nat) bs p) _ = _
  rw [h]
  show Except.bind ((Reader.s2 : Decoder Int) bs (p + 1)) _ = _
  rw [h1]
  rfl
theorem dk_159 {pc : Nat} {x : Int} (h : (Reader.u1 : Decoder Nat) bs p = .ok (159, p + 1)) (h1 : (Reader.s2 : Decoder Int) bs (p + 1) = .ok (x, p + 1 + 1 + 1)) : (Decoder.instr pc) bs p = .ok (.if_icmp .eq x, p + 1 + 1 + 1) := by
  show Except.bind ((Reader.u1 : Decoder Nat) bs p) _ = _
  rw [h]
  show Except.bind ((Reader.s2 : Decoder Int) bs (p + 1)) _ = _
  rw [h1]
  rfl
theorem dk_154 {pc : Nat} {x : Int} (h : (Reader.u1 : Decoder Nat) bs p = .ok (154, p + 1)) (h1 : (Reader.s2 : Decoder Int) bs (p + 1) = .ok (x, p + 1 + 1 + 1)) : (Decoder.instr pc) bs p = .ok (.ifCond .ne x, p + 1 + 1 + 1) := by
  show Except.bind ((Reader.u1 : Decoder Nat) bs p) _ = _
  rw [h]
  show Except.bind ((Reader.s2 : Decoder Int) bs (p + 1)) _ = _
  rw [h1]
  rfl
theorem dk_160 {pc : Nat} {x : Int} (h : (Reader.u1 : Decoder Nat) bs p = .ok (160, p + 1)) (h1 : (Reader.s2 : Decoder Int) bs (p + 1) = .ok (x, p + 1 + 1 + 1)) : (Decoder.instr pc) bs p = .ok (.if_icmp .ne x, p + 1 + 1 + 1) := by
  show Except.bind ((Reader.u1 : Decoder Nat) bs p) _ = _
  rw [h]
  show Except.bind ((Reader.s2 : Decoder Int) bs (p + 1)) _ = _
  rw [h1]
  rfl
theorem dk_155 {pc : Nat} {x : Int} (h : (Reader.u1 : Decoder Nat) bs p = .ok (155, p + 1)) (h1 : (Reader.s2 : Decoder Int) bs (p + 1) = .ok (x, p + 1 + 1 + 1)) : (Decoder.instr pc) bs p = .ok (.ifCond .lt x, p + 1 + 1 + 1) := by
  show Except.bind ((Reader.u1 : Decoder Nat) bs p) _ = _
  rw [h]
  show Except.bind ((Reader.s2 : Decoder Int) bs (p + 1)) _ = _
  rw [h1]
  rfl
theorem dk_161 {pc : Nat} {x : Int} (h : (Reader.u1 : Decoder Nat) bs p = .ok (161, p + 1)) (h1 : (Reader.s2 : Decoder Int) bs (p + 1) = .ok (x, p + 1 + 1 + 1)) : (Decoder.instr pc) bs p = .ok (.if_icmp .lt x, p + 1 + 1 + 1) := by
  show Except.bind ((Reader.u1 : Decoder Nat) bs p) _ = _
  rw [h]
  show Except.bind ((Reader.s2 : Decoder Int) bs (p + 1)) _ = _
  rw [h1]
  rfl
theorem dk_156 {pc : Nat} {x : Int} (h : (Reader.u1 : Decoder Nat) bs p = .ok (156, p + 1)) (h1 : (Reader.s2 : Decoder Int) bs (p + 1) = .ok (x, p + 1 + 1 + 1)) : (Decoder.instr pc) bs p = .ok (.ifCond .ge x, p + 1 + 1 + 1) := by
  show Except.bind ((Reader.u1 : Decoder Nat) bs p) _ = _
  rw [h]
  show Except.bind ((Reader.s2 : Decoder Int) bs (p + 1)) _ = _
  rw [h1]
  rfl
theorem dk_162 {pc : Nat} {x : Int} (h : (Reader.u1 : Decoder Nat) bs p = .ok (162, p + 1)) (h1 : (Reader.s2 : Decoder Int) bs (p + 1) = .ok (x, p + 1 + 1 + 1)) : (Decoder.instr pc) bs p = .ok (.if_icmp .ge x, p + 1 + 1 + 1) := by
  show Except.bind ((Reader.u1 : Decoder Nat) bs p) _ = _
  rw [h]
  show Except.bind ((Reader.s2 : Decoder Int) bs (p + 1)) _ = _
  rw [h1]
  rfl
theorem dk_157 {pc : Nat} {x : Int} (h : (Reader.u1 : Decoder Nat) bs p = .ok (157, p + 1)) (h1 : (Reader.s2 : Decoder Int) bs (p + 1) = .ok (x, p + 1 + 1 + 1)) : (Decoder.instr pc) bs p = .ok (.ifCond .gt x, p + 1 + 1 + 1) := by
  show Except.bind ((Reader.u1 : Decoder Nat) bs p) _ = _
  rw [h]
  show Except.bind ((Reader.s2 : Decoder Int) bs (p + 1)) _ = _
  rw [h1]
  rfl
theorem dk_163 {pc : Nat} {x : Int} (h : (Reader.u1 : Decoder Nat) bs p = .ok (163, p + 1)) (h1 : (Reader.s2 : Decoder Int) bs (p + 1) = .ok (x, p + 1 + 1 + 1)) : (Decoder.instr pc) bs p = .ok (.if_icmp .gt x, p + 1 + 1 + 1) := by
  show Except.bind ((Reader.u1 : Decoder Nat) bs p) _ = _
  rw [h]
  show Except.bind ((Reader.s2 : Decoder Int) bs (p + 1)) _ = _
  rw [h1]
  rfl
theorem dk_158 {pc : Nat} {x : Int} (h : (Reader.u1 : Decoder Nat) bs p = .ok (158, p + 1)) (h1 : (Reader.s2 : Decoder Int) bs (p + 1) = .ok (x, p + 1 + 1 + 1)) : (Decoder.instr pc) bs p = .ok (.ifCond .le x, p + 1 + 1 + 1) := by
  show Except.bind ((Reader.u1 : Decoder Nat) bs p) _ = _
  rw [h]
  show Except.bind ((Reader.s2 : Decoder Int) bs (p + 1)) _ = _
  rw [h1]
  rfl
theorem dk_164 {pc : Nat} {x : Int} (h : (Reader.u1 : Decoder Nat) bs p = .ok (164, p + 1)) (h1 : (Reader.s2 : Decoder Int) bs (p + 1) = .ok (x, p + 1 + 1 + 1)) : (Decoder.instr pc) bs p = .ok (.if_icmp .le x, p + 1 + 1 + 1) := by
  show Except.bind ((Reader.u1 : Decoder Nat) bs p) _ = _
  rw [h]
  show Except.bind ((Reader.s2 : Decoder Int) bs (p + 1)) _ = _
  rw [h1]
  rfl
theorem dk_132 {pc : Nat} {x : Int} (h : (Reader.u1 : Decoder Nat) bs p = .ok (132, p + 1)) (h1 : (Reader.u1 : Decoder Nat) bs (p + 1) = .ok (v, p + 1 + 1)) (h2 : (Reader.s1 : Decoder Int) bs (p + 1 + 1) = .ok (x, p + 1 + 1 + 1)) : (Decoder.instr pc) bs p = .ok (.iinc v x, p + 1 + 1 + 1) := by
  show Except.bind ((Reader.u1 : Decoder Nat) bs p) _ = _
  rw [h]
  show Except.bind ((Reader.u1 : Decoder Nat) bs (p + 1)) _ = _
  rw [h1]
  show Except.bind ((Reader.s1 : Decoder Int) bs (p + 1 + 1)) _ = _
  rw [h2]
  rfl
theorem dk_188_4 {pc : Nat} (h : (Reader.u1 : Decoder Nat) bs p = .ok (188, p + 1)) (h1 : (Reader.u1 : Decoder Nat) bs (p + 1) = .ok (4, p + 1 + 1)) : (Decoder.instr pc) bs p = .ok (.newarray .boolean, p + 1 + 1) := by
  show Except.bind ((Reader.u1 : Decoder Nat) bs p) _ = _
  rw [h]
  show Except.bind ((Reader.u1 : Decoder Nat) bs (p + 1)) _ = _
  rw [h1]
  rfl
theorem dk_188_10 {pc : Nat} (h : (Reader.u1 : Decoder Nat) bs p = .ok (188, p + 1)) (h1 : (Reader.u1 : Decoder Nat) bs (p + 1) = .ok (10, p + 1 + 1)) : (Decoder.instr pc) bs p = .ok (.newarray .int, p + 1 + 1) := by
  show Except.bind ((Reader.u1 : Decoder Nat) bs p) _ = _
  rw [h]
  show Except.bind ((Reader.u1 : Decoder Nat) bs (p + 1)) _ = _
  rw [h1]
  rfl
theorem dk_188_11 {pc : Nat} (h : (Reader.u1 : Decoder Nat) bs p = .ok (188, p + 1)) (h1 : (Reader.u1 : Decoder Nat) bs (p + 1) = .ok (11, p + 1 + 1)) : (Decoder.instr pc) bs p = .ok (.newarray .long, p + 1 + 1) := by
  show Except.bind ((Reader.u1 : Decoder Nat) bs p) _ = _
  rw [h]
  show Except.bind ((Reader.u1 : Decoder Nat) bs (p + 1)) _ = _
  rw [h1]
  rfl
theorem dk_dec {i : Instr} {pc n : Nat} (h : (Decoder.instr pc) bs pc = .ok (i, pc + n)) : decode bs pc = .ok (i, n) := by
  show Except.bind ((Decoder.instr pc) bs pc) _ = _
  rw [h]
  show Except.ok (i, pc + n - pc) = _
  rw [Nat.add_sub_cancel_left]
end DkForms
/-- does the list begin with this instruction? -/
def dk_ok (s : List UInt8) (i : Instr) (n : Nat) : Bool := match s with
  | [] => false
  | b0 :: r => (match i with
    | .iaload => Nat.beq b0.toNat 46 && Nat.beq n 1
    | .laload => Nat.beq b0.toNat 47 && Nat.beq n 1
    | .baload => Nat.beq b0.toNat 51 && Nat.beq n 1
    | .iastore => Nat.beq b0.toNat 79 && Nat.beq n 1
    | .lastore => Nat.beq b0.toNat 80 && Nat.beq n 1
    | .bastore => Nat.beq b0.toNat 84 && Nat.beq n 1
    | .pop => Nat.beq b0.toNat 87 && Nat.beq n 1
    | .dup => Nat.beq b0.toNat 89 && Nat.beq n 1
    | .dup2 => Nat.beq b0.toNat 92 && Nat.beq n 1
    | .iadd => Nat.beq b0.toNat 96 && Nat.beq n 1
    | .isub => Nat.beq b0.toNat 100 && Nat.beq n 1
    | .imul => Nat.beq b0.toNat 104 && Nat.beq n 1
    | .idiv => Nat.beq b0.toNat 108 && Nat.beq n 1
    | .irem => Nat.beq b0.toNat 112 && Nat.beq n 1
    | .ineg => Nat.beq b0.toNat 116 && Nat.beq n 1
    | .ishr => Nat.beq b0.toNat 122 && Nat.beq n 1
    | .iushr => Nat.beq b0.toNat 124 && Nat.beq n 1
    | .iand => Nat.beq b0.toNat 126 && Nat.beq n 1
    | .i2l => Nat.beq b0.toNat 133 && Nat.beq n 1
    | .lcmp => Nat.beq b0.toNat 148 && Nat.beq n 1
    | .ireturn => Nat.beq b0.toNat 172 && Nat.beq n 1
    | .areturn => Nat.beq b0.toNat 176 && Nat.beq n 1
    | .return_ => Nat.beq b0.toNat 177 && Nat.beq n 1
    | .arraylength => Nat.beq b0.toNat 190 && Nat.beq n 1
    | .athrow => Nat.beq b0.toNat 191 && Nat.beq n 1
    | .aload_n m => Nat.beq b0.toNat (42 + m.val) && Nat.beq n 1
    | .iload_n m => Nat.beq b0.toNat (26 + m.val) && Nat.beq n 1
    | .istore_n m => Nat.beq b0.toNat (59 + m.val) && Nat.beq n 1
    | .astore_n m => Nat.beq b0.toNat (75 + m.val) && Nat.beq n 1
    | .iconst x => Nat.ble 2 b0.toNat && (Nat.ble b0.toNat 8 && (decide (((b0.toNat : Nat) : Int) = x + 3) && Nat.beq n 1))
    | _ => (match r with
      | [] => false
      | b1 :: r2 => (match i with
        | .iload x => Nat.beq b0.toNat 21 && (Nat.beq b1.toNat x && Nat.beq n 2)
        | .istore x => Nat.beq b0.toNat 54 && (Nat.beq b1.toNat x && Nat.beq n 2)
        | .aload x => Nat.beq b0.toNat 25 && (Nat.beq b1.toNat x && Nat.beq n 2)
        | .astore x => Nat.beq b0.toNat 58 && (Nat.beq b1.toNat x && Nat.beq n 2)
        | .ldc x => Nat.beq b0.toNat 18 && (Nat.beq b1.toNat x && Nat.beq n 2)
        | .bipush x => Nat.beq b0.toNat 16 && (decide (Reader.signed 8 b1.toNat = x) && Nat.beq n 2)
        | .newarray t => Nat.beq b0.toNat 188 && (Nat.beq n 2 && (match t with
          | .boolean => Nat.beq b1.toNat 4
          | .int => Nat.beq b1.toNat 10
          | .long => Nat.beq b1.toNat 11
          | _ => false))
        | _ => (match r2 with
          | [] => false
          | b2 :: _ => (match i with
            | .getstatic x => Nat.beq b0.toNat 178 && (Nat.beq (b1.toNat * 256 + b2.toNat) x && Nat.beq n 3)
            | .getfield x => Nat.beq b0.toNat 180 && (Nat.beq (b1.toNat * 256 + b2.toNat) x && Nat.beq n 3)
            | .putfield x => Nat.beq b0.toNat 181 && (Nat.beq (b1.toNat * 256 + b2.toNat) x && Nat.beq n 3)
            | .invokevirtual x => Nat.beq b0.toNat 182 && (Nat.beq (b1.toNat * 256 + b2.toNat) x && Nat.beq n 3)
            | .invokespecial x => Nat.beq b0.toNat 183 && (Nat.beq (b1.toNat * 256 + b2.toNat) x && Nat.beq n 3)
            | .invokestatic x => Nat.beq b0.toNat 184 && (Nat.beq (b1.toNat * 256 + b2.toNat) x && Nat.beq n 3)
            | .new x => Nat.beq b0.toNat 187 && (Nat.beq (b1.toNat * 256 + b2.toNat) x && Nat.beq n 3)
            | .sipush x => Nat.beq b0.toNat 17 && (decide (Reader.signed 16 (b1.toNat * 256 + b2.toNat) = x) && Nat.beq n 3)
            | .goto x => Nat.beq b0.toNat 167 && (decide (Reader.signed 16 (b1.toNat * 256 + b2.toNat) = x) && Nat.beq n 3)
            | .iinc v x => Nat.beq b0.toNat 132 && (Nat.beq b1.toNat v && (decide (Reader.signed 8 b2.toNat = x) && Nat.beq n 3))
            | .ifCond c x => decide (Reader.signed 16 (b1.toNat * 256 + b2.toNat) = x) && (Nat.beq n 3 && (match c with
              | .eq => Nat.beq b0.toNat 153
              | .ne => Nat.beq b0.toNat 154
              | .lt => Nat.beq b0.toNat 155
              | .ge => Nat.beq b0.toNat 156
              | .gt => Nat.beq b0.toNat 157
              | .le => Nat.beq b0.toNat 158))
            | .if_icmp c x => decide (Reader.signed 16 (b1.toNat * 256 + b2.toNat) = x) && (Nat.beq n 3 && (match c with
              | .eq => Nat.beq b0.toNat 159
              | .ne => Nat.beq b0.toNat 160
              | .lt => Nat.beq b0.toNat 161
              | .ge => Nat.beq b0.toNat 162
              | .gt => Nat.beq b0.toNat 163
              | .le => Nat.beq b0.toNat 164))
            | _ => false)))))
section DkOk
variable {l : List UInt8} {pc n : Nat}
theorem dk_and {a b : Bool} (h : (a && b) = true) : a = true ∧ b = true := by
  rw [Bool.and_eq_true] at h
  exact h
theorem dk_ok_dec {s : List UInt8} {i : Instr} (hs : l.drop pc = s) (h : dk_ok s i n = true) : decode ⟨⟨l⟩⟩ pc = .ok (i, n) := by
  cases s with
  | nil => cases h
  | cons b0 r =>
    have u0 := dk_u1 hs
    have hr := dk_s hs
    have e0 : ∀ {k : Nat}, Nat.beq b0.toNat k = true → (Reader.u1 : Decoder Nat) ⟨⟨l⟩⟩ pc = .ok (k, pc + 1) := fun z => by
      rw [← Nat.eq_of_beq_eq_true z]; exact u0
    have f1 : ∀ {i : Instr} {k : Nat}, Nat.beq n k = true → (Decoder.instr pc) ⟨⟨l⟩⟩ pc = .ok (i, pc + k) → decode ⟨⟨l⟩⟩ pc = .ok (i, n) := fun z y => by
      rw [Nat.eq_of_beq_eq_true z]; exact dk_dec y
    have z1 : ∀ {b1 : UInt8} {r2 : List UInt8} {k : Nat}, r = b1 :: r2 → Nat.beq b1.toNat k = true → (Reader.u1 : Decoder Nat) ⟨⟨l⟩⟩ (pc + 1) = .ok (k, pc + 1 + 1) := fun hb z => by
      rw [← Nat.eq_of_beq_eq_true z]; exact dk_u1 (hr.trans hb)
    have z2 : ∀ {b1 b2 : UInt8} {r3 : List UInt8}, r = b1 :: b2 :: r3 → (Reader.u2 : Decoder Nat) ⟨⟨l⟩⟩ (pc + 1) = .ok (b1.toNat * 256 + b2.toNat, pc + 1 + 1 + 1) := fun hb => dk_u2 (dk_u1 (hr.trans hb)) (dk_u1 (dk_s (hr.trans hb)))
    cases i
    case iaload => exact f1 (dk_and h).2 (dk_46 (e0 (dk_and h).1))
    case laload => exact f1 (dk_and h).2 (dk_47 (e0 (dk_and h).1))
    case baload => exact f1 (dk_and h).2 (dk_51 (e0 (dk_and h).1))
    case iastore => exact f1 (dk_and h).2 (dk_79 (e0 (dk_and h).1))
    case lastore => exact f1 (dk_and h).2 (dk_80 (e0 (dk_and h).1))
    case bastore => exact f1 (dk_and h).2 (dk_84 (e0 (dk_and h).1))
    case pop => exact f1 (dk_and h).2 (dk_87 (e0 (dk_and h).1))
    case dup => exact f1 (dk_and h).2 (dk_89 (e0 (dk_and h).1))
    case dup2 => exact f1 (dk_and h).2 (dk_92 (e0 (dk_and h).1))
    case iadd => exact f1 (dk_and h).2 (dk_96 (e0 (dk_and h).1))
    case isub => exact f1 (dk_and h).2 (dk_100 (e0 (dk_and h).1))
    case imul => exact f1 (dk_and h).2 (dk_104 (e0 (dk_and h).1))
    case idiv => exact f1 (dk_and h).2 (dk_108 (e0 (dk_and h).1))
    case irem => exact f1 (dk_and h).2 (dk_112 (e0 (dk_and h).1))
    case ineg => exact f1 (dk_and h).2 (dk_116 (e0 (dk_and h).1))
    case ishr => exact f1 (dk_and h).2 (dk_122 (e0 (dk_and h).1))
    case iushr => exact f1 (dk_and h).2 (dk_124 (e0 (dk_and h).1))
    case iand => exact f1 (dk_and h).2 (dk_126 (e0 (dk_and h).1))
    case i2l => exact f1 (dk_and h).2 (dk_133 (e0 (dk_and h).1))
    case lcmp => exact f1 (dk_and h).2 (dk_148 (e0 (dk_and h).1))
    case ireturn => exact f1 (dk_and h).2 (dk_172 (e0 (dk_and h).1))
    case areturn => exact f1 (dk_and h).2 (dk_176 (e0 (dk_and h).1))
    case return_ => exact f1 (dk_and h).2 (dk_177 (e0 (dk_and h).1))
    case arraylength => exact f1 (dk_and h).2 (dk_190 (e0 (dk_and h).1))
    case athrow => exact f1 (dk_and h).2 (dk_191 (e0 (dk_and h).1))
    case aload_n m =>
      obtain ⟨h1, h2⟩ := dk_and h
      have e1 := e0 h1
      refine f1 h2 ?_
      rcases m with ⟨m, hm⟩
      rcases (show m = 0 ∨ m = 1 ∨ m = 2 ∨ m = 3 by omega) with rfl | rfl | rfl | rfl
      · exact dk_42 e1
      · exact dk_43 e1
      · exact dk_44 e1
      · exact dk_45 e1
    case iload_n m =>
      obtain ⟨h1, h2⟩ := dk_and h
      have e1 := e0 h1
      refine f1 h2 ?_
      rcases m with ⟨m, hm⟩
      rcases (show m = 0 ∨ m = 1 ∨ m = 2 ∨ m = 3 by omega) with rfl | rfl | rfl | rfl
      · exact dk_26 e1
      · exact dk_27 e1
      · exact dk_28 e1
      · exact dk_29 e1
    case istore_n m =>
      obtain ⟨h1, h2⟩ := dk_and h
      have e1 := e0 h1
      refine f1 h2 ?_
      rcases m with ⟨m, hm⟩
      rcases (show m = 0 ∨ m = 1 ∨ m = 2 ∨ m = 3 by omega) with rfl | rfl | rfl | rfl
      · exact dk_59 e1
      · exact dk_60 e1
      · exact dk_61 e1
      · exact dk_62 e1
    case astore_n m =>
      obtain ⟨h1, h2⟩ := dk_and h
      have e1 := e0 h1
      refine f1 h2 ?_
      rcases m with ⟨m, hm⟩
      rcases (show m = 0 ∨ m = 1 ∨ m = 2 ∨ m = 3 by omega) with rfl | rfl | rfl | rfl
      · exact dk_75 e1
      · exact dk_76 e1
      · exact dk_77 e1
      · exact dk_78 e1
    case iconst x =>
      obtain ⟨h1, h2⟩ := dk_and h
      obtain ⟨h2, h3⟩ := dk_and h2
      obtain ⟨h3, h4⟩ := dk_and h3
      have g1 := Nat.le_of_ble_eq_true h1
      have g2 := Nat.le_of_ble_eq_true h2
      have g3 := of_decide_eq_true h3
      refine f1 h4 ?_
      generalize b0.toNat = w at *
      rcases (show w = 2 ∨ w = 3 ∨ w = 4 ∨ w = 5 ∨ w = 6 ∨ w = 7 ∨ w = 8 by omega) with rfl | rfl | rfl | rfl | rfl | rfl | rfl
      · rw [show x = -1 by omega]; exact dk_2 u0
      · rw [show x = 0 by omega]; exact dk_3 u0
      · rw [show x = 1 by omega]; exact dk_4 u0
      · rw [show x = 2 by omega]; exact dk_5 u0
      · rw [show x = 3 by omega]; exact dk_6 u0
      · rw [show x = 4 by omega]; exact dk_7 u0
      · rw [show x = 5 by omega]; exact dk_8 u0
    case iload x =>
      cases r with
      | nil => cases h
      | cons b1 r2 => exact f1 (dk_and (dk_and h).2).2 (dk_21 (e0 (dk_and h).1) (z1 rfl (dk_and (dk_and h).2).1))
    case istore x =>
      cases r with
      | nil => cases h
      | cons b1 r2 => exact f1 (dk_and (dk_and h).2).2 (dk_54 (e0 (dk_and h).1) (z1 rfl (dk_and (dk_and h).2).1))
    case aload x =>
      cases r with
      | nil => cases h
      | cons b1 r2 => exact f1 (dk_and (dk_and h).2).2 (dk_25 (e0 (dk_and h).1) (z1 rfl (dk_and (dk_and h).2).1))
    case astore x =>
      cases r with
      | nil => cases h
      | cons b1 r2 => exact f1 (dk_and (dk_and h).2).2 (dk_58 (e0 (dk_and h).1) (z1 rfl (dk_and (dk_and h).2).1))
    case ldc x =>
      cases r with
      | nil => cases h
      | cons b1 r2 => exact f1 (dk_and (dk_and h).2).2 (dk_18 (e0 (dk_and h).1) (z1 rfl (dk_and (dk_and h).2).1))
    case bipush x =>
      cases r with
      | nil => cases h
      | cons b1 r2 =>
        have g := of_decide_eq_true (dk_and (dk_and h).2).1
        rw [← g]
        exact f1 (dk_and (dk_and h).2).2 (dk_16 (e0 (dk_and h).1) (dk_s1 (dk_u1 hr)))
    case newarray t =>
      cases r with
      | nil => cases h
      | cons b1 r2 =>
        have g := (dk_and (dk_and h).2).2
        refine f1 (dk_and (dk_and h).2).1 ?_
        have e1 := e0 (dk_and h).1
        cases t
        case boolean => exact dk_188_4 e1 (z1 rfl g)
        case int => exact dk_188_10 e1 (z1 rfl g)
        case long => exact dk_188_11 e1 (z1 rfl g)
        all_goals cases g
    case getstatic x =>
      cases r with
      | nil => cases h
      | cons b1 r2 =>
        cases r2 with
        | nil => cases h
        | cons b2 r3 =>
          rw [← Nat.eq_of_beq_eq_true (dk_and (dk_and h).2).1]
          exact f1 (dk_and (dk_and h).2).2 (dk_178 (e0 (dk_and h).1) (z2 rfl))
    case getfield x =>
      cases r with
      | nil => cases h
      | cons b1 r2 =>
        cases r2 with
        | nil => cases h
        | cons b2 r3 =>
          rw [← Nat.eq_of_beq_eq_true (dk_and (dk_and h).2).1]
          exact f1 (dk_and (dk_and h).2).2 (dk_180 (e0 (dk_and h).1) (z2 rfl))
    case putfield x =>
      cases r with
      | nil => cases h
      | cons b1 r2 =>
        cases r2 with
        | nil => cases h
        | cons b2 r3 =>
          rw [← Nat.eq_of_beq_eq_true (dk_and (dk_and h).2).1]
          exact f1 (dk_and (dk_and h).2).2 (dk_181 (e0 (dk_and h).1) (z2 rfl))
    case invokevirtual x =>
      cases r with
      | nil => cases h
      | cons b1 r2 =>
        cases r2 with
        | nil => cases h
        | cons b2 r3 =>
          rw [← Nat.eq_of_beq_eq_true (dk_and (dk_and h).2).1]
          exact f1 (dk_and (dk_and h).2).2 (dk_182 (e0 (dk_and h).1) (z2 rfl))
    case invokespecial x =>
      cases r with
      | nil => cases h
      | cons b1 r2 =>
        cases r2 with
        | nil => cases h
        | cons b2 r3 =>
          rw [← Nat.eq_of_beq_eq_true (dk_and (dk_and h).2).1]
          exact f1 (dk_and (dk_and h).2).2 (dk_183 (e0 (dk_and h).1) (z2 rfl))
    case invokestatic x =>
      cases r with
      | nil => cases h
      | cons b1 r2 =>
        cases r2 with
        | nil => cases h
        | cons b2 r3 =>
          rw [← Nat.eq_of_beq_eq_true (dk_and (dk_and h).2).1]
          exact f1 (dk_and (dk_and h).2).2 (dk_184 (e0 (dk_and h).1) (z2 rfl))
    case new x =>
      cases r with
      | nil => cases h
      | cons b1 r2 =>
        cases r2 with
        | nil => cases h
        | cons b2 r3 =>
          rw [← Nat.eq_of_beq_eq_true (dk_and (dk_and h).2).1]
          exact f1 (dk_and (dk_and h).2).2 (dk_187 (e0 (dk_and h).1) (z2 rfl))
    case sipush x =>
      cases r with
      | nil => cases h
      | cons b1 r2 =>
        cases r2 with
        | nil => cases h
        | cons b2 r3 =>
          rw [← of_decide_eq_true (dk_and (dk_and h).2).1]
          exact f1 (dk_and (dk_and h).2).2 (dk_17 (e0 (dk_and h).1) (dk_s2 (z2 rfl)))
    case goto x =>
      cases r with
      | nil => cases h
      | cons b1 r2 =>
        cases r2 with
        | nil => cases h
        | cons b2 r3 =>
          rw [← of_decide_eq_true (dk_and (dk_and h).2).1]
          exact f1 (dk_and (dk_and h).2).2 (dk_167 (e0 (dk_and h).1) (dk_s2 (z2 rfl)))
    case iinc v x =>
      cases r with
      | nil => cases h
      | cons b1 r2 =>
        cases r2 with
        | nil => cases h
        | cons b2 r3 =>
          obtain ⟨h1, h2⟩ := dk_and h
          obtain ⟨h2, h3⟩ := dk_and h2
          obtain ⟨h3, h4⟩ := dk_and h3
          rw [← of_decide_eq_true h3]
          exact f1 h4 (dk_132 (e0 h1) (z1 rfl h2) (dk_s1 (dk_u1 (dk_s hr))))
    case ifCond c x =>
      cases r with
      | nil => cases h
      | cons b1 r2 =>
        cases r2 with
        | nil => cases h
        | cons b2 r3 =>
          obtain ⟨h1, h2⟩ := dk_and h
          obtain ⟨h2, h3⟩ := dk_and h2
          rw [← of_decide_eq_true h1]
          refine f1 h2 ?_
          have y := dk_s2 (z2 (b1 := b1) (b2 := b2) rfl)
          cases c
          case eq => exact dk_153 (e0 h3) y
          case ne => exact dk_154 (e0 h3) y
          case lt => exact dk_155 (e0 h3) y
          case ge => exact dk_156 (e0 h3) y
          case gt => exact dk_157 (e0 h3) y
          case le => exact dk_158 (e0 h3) y
    case if_icmp c x =>
      cases r with
      | nil => cases h
      | cons b1 r2 =>
        cases r2 with
        | nil => cases h
        | cons b2 r3 =>
          obtain ⟨h1, h2⟩ := dk_and h
          obtain ⟨h2, h3⟩ := dk_and h2
          rw [← of_decide_eq_true h1]
          refine f1 h2 ?_
          have y := dk_s2 (z2 (b1 := b1) (b2 := b2) rfl)
          cases c
          case eq => exact dk_159 (e0 h3) y
          case ne => exact dk_160 (e0 h3) y
          case lt => exact dk_161 (e0 h3) y
          case ge => exact dk_162 (e0 h3) y
          case gt => exact dk_163 (e0 h3) y
          case le => exact dk_164 (e0 h3) y
    all_goals (cases r with
      | nil => cases h
      | cons b1 r2 => cases r2 with
        | nil => cases h
        | cons b2 r3 => cases h)
end DkOk
