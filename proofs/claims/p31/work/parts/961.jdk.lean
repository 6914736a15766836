/-! the JDK's methods that constant texts need: rows, words (printed by wip/p30/jdk.py) -/
def zJr0 : List (List (Nat × Instr × Nat)) := [[(0, .aload_n 0, 1), (1, .getfield 9, 3), (4, .arraylength, 1), (5, .aload_n 0, 1), (6, .invokevirtual 335, 3), (9, .ishr, 1), (10, .ireturn, 1)]]
def zJm0 : sx_Me := ((⟨"java/lang/String", "length", "()I"⟩, prog_18_method_54_code, 1, (Option.some Jvm.ClassFile.FieldType.int)), zJr0, (99, false, 0, 0, 99), [], [])
set_option maxRecDepth 100000 in
theorem zJd0 : zkDe prog_18_method_54_code zJr0 = true := by decide +kernel
set_option maxRecDepth 100000 in
theorem zJk0 : sx_meok zCl zCDs zJm0 := zkMe_ok zJd0 (by decide +kernel)
set_option maxRecDepth 100000 in
theorem zJc0 : Cond.code zJm0.1.1 zJm0.1.2.1 zJm0.1.2.2.1 zJm0.1.2.2.2 ∈ zTB := zcode_mem (q := (4, 7)) rfl (by decide +kernel)
def zJr1 : List (List (Nat × Instr × Nat)) := [[(0, .getstatic 38, 3), (3, .ifCond .eq 10, 3), (6, .aload_n 0, 1), (7, .getfield 15, 3), (10, .goto 4, 3), (13, .iconst 1, 1), (14, .ireturn, 1)]]
def zJm1 : sx_Me := ((⟨"java/lang/String", "coder", "()B"⟩, prog_18_method_152_code, 1, (Option.some Jvm.ClassFile.FieldType.byte)), zJr1, (99, false, 0, 0, 99), [], [])
set_option maxRecDepth 100000 in
theorem zJd1 : zkDe prog_18_method_152_code zJr1 = true := by decide +kernel
set_option maxRecDepth 100000 in
theorem zJk1 : sx_meok zCl zCDs zJm1 := zkMe_ok zJd1 (by decide +kernel)
set_option maxRecDepth 100000 in
theorem zJc1 : Cond.code zJm1.1.1 zJm1.1.2.1 zJm1.1.2.2.1 zJm1.1.2.2.2 ∈ zTB := zcode_mem (q := (4, 11)) rfl (by decide +kernel)
def zJr2 : List (List (Nat × Instr × Nat)) := [[(0, .getstatic 38, 3), (3, .ifCond .eq 14, 3), (6, .aload_n 0, 1), (7, .getfield 15, 3), (10, .ifCond .ne 7, 3), (13, .iconst 1, 1), (14, .goto 4, 3), (17, .iconst 0, 1), (18, .ireturn, 1)]]
def zJm2 : sx_Me := ((⟨"java/lang/String", "isLatin1", "()Z"⟩, prog_18_method_154_code, 1, (Option.some Jvm.ClassFile.FieldType.boolean)), zJr2, (99, false, 0, 0, 99), [], [])
set_option maxRecDepth 100000 in
theorem zJd2 : zkDe prog_18_method_154_code zJr2 = true := by decide +kernel
set_option maxRecDepth 100000 in
theorem zJk2 : sx_meok zCl zCDs zJm2 := zkMe_ok zJd2 (by decide +kernel)
set_option maxRecDepth 100000 in
theorem zJc2 : Cond.code zJm2.1.1 zJm2.1.2.1 zJm2.1.2.2.1 zJm2.1.2.2.2 ∈ zTB := zcode_mem (q := (4, 21)) rfl (by decide +kernel)
def zJr3 : List (List (Nat × Instr × Nat)) := [[(0, .aload_n 0, 1), (1, .invokevirtual 492, 3), (4, .ifCond .eq 12, 3), (7, .aload_n 0, 1), (8, .getfield 9, 3), (11, .iload_n 1, 1), (12, .invokestatic 495, 3), (15, .ireturn, 1)]]
def zJm3 : sx_Me := ((⟨"java/lang/String", "charAt", "(I)C"⟩, prog_18_method_56_code, 2, (Option.some Jvm.ClassFile.FieldType.char)), zJr3, (99, false, 0, 0, 99), [], [])
set_option maxRecDepth 100000 in
theorem zJd3 : zkDe prog_18_method_56_code zJr3 = true := by decide +kernel
set_option maxRecDepth 100000 in
theorem zJk3 : sx_meok zCl zCDs zJm3 := zkMe_ok zJd3 (by decide +kernel)
set_option maxRecDepth 100000 in
theorem zJc3 : Cond.code zJm3.1.1 zJm3.1.2.1 zJm3.1.2.2.1 zJm3.1.2.2.2 ∈ zTB := zcode_mem (q := (4, 17)) rfl (by decide +kernel)
def zJr4 : List (List (Nat × Instr × Nat)) := [[(0, .iload_n 1, 1), (1, .aload_n 0, 1), (2, .arraylength, 1), (3, .invokestatic 9, 3), (6, .aload_n 0, 1), (7, .iload_n 1, 1), (8, .baload, 1), (9, .sipush 255, 3), (12, .iand, 1), (13, .i2c, 1), (14, .ireturn, 1)]]
def zJm4 : sx_Me := ((⟨"java/lang/StringLatin1", "charAt", "([BI)C"⟩, prog_19_method_2_code, 2, (Option.some Jvm.ClassFile.FieldType.char)), zJr4, (99, false, 0, 0, 99), [], [])
set_option maxRecDepth 100000 in
theorem zJd4 : zkDe prog_19_method_2_code zJr4 = true := by decide +kernel
set_option maxRecDepth 100000 in
theorem zJk4 : sx_meok zCl zCDs zJm4 := zkMe_ok zJd4 (by decide +kernel)
set_option maxRecDepth 100000 in
theorem zJc4 : Cond.code zJm4.1.1 zJm4.1.2.1 zJm4.1.2.2.1 zJm4.1.2.2.2 ∈ zTB := zcode_mem (q := (4, 24)) rfl (by decide +kernel)
def zJr5 : List (List (Nat × Instr × Nat)) := [[(0, .iload_n 0, 1), (1, .iload_n 1, 1), (2, .getstatic 1053, 3), (5, .invokestatic 1059, 3), (8, .pop, 1), (9, .return_, 1)]]
def zJm5 : sx_Me := ((⟨"java/lang/String", "checkIndex", "(II)V"⟩, prog_18_method_155_code, 2, (Option.none : Option Jvm.ClassFile.FieldType)), zJr5, (99, false, 0, 0, 99), [], [])
set_option maxRecDepth 100000 in
theorem zJd5 : zkDe prog_18_method_155_code zJr5 = true := by decide +kernel
set_option maxRecDepth 100000 in
theorem zJk5 : sx_meok zCl zCDs zJm5 := zkMe_ok zJd5 (by decide +kernel)
set_option maxRecDepth 100000 in
theorem zJc5 : Cond.code zJm5.1.1 zJm5.1.2.1 zJm5.1.2.2.1 zJm5.1.2.2.2 ∈ zTB := zcode_mem (q := (4, 27)) rfl (by decide +kernel)
def zJr6 : List (List (Nat × Instr × Nat)) := [[(0, .iload_n 0, 1), (1, .ifCond .lt 8, 3), (4, .iload_n 0, 1), (5, .iload_n 1, 1), (6, .if_icmp .lt 10, 3), (16, .iload_n 0, 1), (17, .ireturn, 1)]]
def zJm6 : sx_Me := ((⟨"jdk/internal/util/Preconditions", "checkIndex", "(IILjava/util/function/BiFunction;)I"⟩, prog_23_method_11_code, 3, (Option.some Jvm.ClassFile.FieldType.int)), zJr6, (99, false, 0, 0, 99), [], [])
set_option maxRecDepth 100000 in
theorem zJd6 : zkDe prog_23_method_11_code zJr6 = true := by decide +kernel
set_option maxRecDepth 100000 in
theorem zJk6 : sx_meok zCl zCDs zJm6 := zkMe_ok zJd6 (by decide +kernel)
set_option maxRecDepth 100000 in
theorem zJc6 : Cond.code zJm6.1.1 zJm6.1.2.1 zJm6.1.2.2.1 zJm6.1.2.2.2 ∈ zTB := zcode_mem (q := (4, 32)) rfl (by decide +kernel)
def zJr7 : List (List (Nat × Instr × Nat)) := [[(0, .aload_n 0, 1), (1, .iload_n 1, 1), (2, .iconst 0, 1), (3, .invokevirtual 633, 3), (6, .ireturn, 1)]]
def zJm7 : sx_Me := ((⟨"java/lang/String", "indexOf", "(I)I"⟩, prog_18_method_79_code, 2, (Option.some Jvm.ClassFile.FieldType.int)), zJr7, (99, false, 0, 0, 99), [], [])
set_option maxRecDepth 100000 in
theorem zJd7 : zkDe prog_18_method_79_code zJr7 = true := by decide +kernel
set_option maxRecDepth 100000 in
theorem zJk7 : sx_meok zCl zCDs zJm7 := zkMe_ok zJd7 (by decide +kernel)
set_option maxRecDepth 100000 in
theorem zJc7 : Cond.code zJm7.1.1 zJm7.1.2.1 zJm7.1.2.2.1 zJm7.1.2.2.2 ∈ zTB := zcode_mem (q := (4, 68)) rfl (by decide +kernel)
def zJr8 : List (List (Nat × Instr × Nat)) := [[(0, .aload_n 0, 1), (1, .invokevirtual 492, 3), (4, .ifCond .eq 19, 3), (7, .aload_n 0, 1), (8, .getfield 9, 3), (11, .iload_n 1, 1), (12, .iload_n 2, 1), (13, .aload_n 0, 1), (14, .invokevirtual 505, 3), (17, .invokestatic 637, 3), (20, .goto 16, 3)], [(36, .ireturn, 1)]]
def zJm8 : sx_Me := ((⟨"java/lang/String", "indexOf", "(II)I"⟩, prog_18_method_80_code, 3, (Option.some Jvm.ClassFile.FieldType.int)), zJr8, (99, false, 0, 0, 99), [], [])
set_option maxRecDepth 100000 in
theorem zJd8 : zkDe prog_18_method_80_code zJr8 = true := by decide +kernel
set_option maxRecDepth 100000 in
theorem zJk8 : sx_meok zCl zCDs zJm8 := zkMe_ok zJd8 (by decide +kernel)
set_option maxRecDepth 100000 in
theorem zJc8 : Cond.code zJm8.1.1 zJm8.1.2.1 zJm8.1.2.2.1 zJm8.1.2.2.2 ∈ zTB := zcode_mem (q := (4, 72)) rfl (by decide +kernel)
def zJr9 : List (List (Nat × Instr × Nat)) := [[(0, .iload_n 1, 1), (1, .invokestatic 88, 3), (4, .ifCond .ne 5, 3), (7, .iconst (-1), 1), (8, .ireturn, 1), (9, .iload_n 2, 1), (10, .iconst 0, 1), (11, .invokestatic 92, 3), (14, .istore_n 2, 1), (15, .iload_n 3, 1), (16, .aload_n 0, 1), (17, .arraylength, 1), (18, .invokestatic 38, 3), (21, .istore_n 3, 1), (22, .iload_n 2, 1), (23, .iload_n 3, 1), (24, .if_icmp .lt 5, 3), (27, .iconst (-1), 1), (28, .ireturn, 1), (29, .aload_n 0, 1), (30, .iload_n 1, 1), (31, .iload_n 2, 1)], [(32, .iload_n 3, 1), (33, .invokestatic 95, 3), (36, .ireturn, 1)]]
def zJm9 : sx_Me := ((⟨"java/lang/StringLatin1", "indexOf", "([BIII)I"⟩, prog_19_method_22_code, 4, (Option.some Jvm.ClassFile.FieldType.int)), zJr9, (99, false, 0, 0, 99), [], [])
set_option maxRecDepth 100000 in
theorem zJd9 : zkDe prog_19_method_22_code zJr9 = true := by decide +kernel
set_option maxRecDepth 100000 in
theorem zJk9 : sx_meok zCl zCDs zJm9 := zkMe_ok zJd9 (by decide +kernel)
set_option maxRecDepth 100000 in
theorem zJc9 : Cond.code zJm9.1.1 zJm9.1.2.1 zJm9.1.2.2.1 zJm9.1.2.2.2 ∈ zTB := zcode_mem (q := (4, 76)) rfl (by decide +kernel)
def zJr10 : List (List (Nat × Instr × Nat)) := [[(0, .iload_n 0, 1), (1, .ifCond .lt 14, 3), (4, .iload_n 0, 1), (5, .sipush 255, 3), (8, .if_icmp .gt 7, 3), (11, .iconst 1, 1), (12, .goto 4, 3), (15, .iconst 0, 1), (16, .ireturn, 1)]]
def zJm10 : sx_Me := ((⟨"java/lang/StringLatin1", "canEncode", "(I)Z"⟩, prog_19_method_4_code, 1, (Option.some Jvm.ClassFile.FieldType.boolean)), zJr10, (99, false, 0, 0, 99), [], [])
set_option maxRecDepth 100000 in
theorem zJd10 : zkDe prog_19_method_4_code zJr10 = true := by decide +kernel
set_option maxRecDepth 100000 in
theorem zJk10 : sx_meok zCl zCDs zJm10 := zkMe_ok zJd10 (by decide +kernel)
set_option maxRecDepth 100000 in
theorem zJc10 : Cond.code zJm10.1.1 zJm10.1.2.1 zJm10.1.2.2.1 zJm10.1.2.2.2 ∈ zTB := zcode_mem (q := (4, 79)) rfl (by decide +kernel)
def zJr11 : List (List (Nat × Instr × Nat)) := [[(0, .iload_n 1, 1), (1, .i2b, 1), (2, .istore 4, 2), (4, .iload_n 2, 1), (5, .istore 5, 2), (7, .iload 5, 2), (9, .iload_n 3, 1), (10, .if_icmp .ge 21, 3), (13, .aload_n 0, 1), (14, .iload 5, 2), (16, .baload, 1), (17, .iload 4, 2), (19, .if_icmp .ne 6, 3), (22, .iload 5, 2), (24, .ireturn, 1), (25, .iinc 5 1, 3), (28, .goto (-21), 3), (31, .iconst (-1), 1)], [(32, .ireturn, 1)]]
def zJm11 : sx_Me := ((⟨"java/lang/StringLatin1", "indexOfChar", "([BIII)I"⟩, prog_19_method_23_code, 6, (Option.some Jvm.ClassFile.FieldType.int)), zJr11, (99, false, 0, 0, 99), [], [])
set_option maxRecDepth 100000 in
theorem zJd11 : zkDe prog_19_method_23_code zJr11 = true := by decide +kernel
set_option maxRecDepth 100000 in
theorem zJk11 : sx_meok zCl zCDs zJm11 := zkMe_ok zJd11 (by decide +kernel)
set_option maxRecDepth 100000 in
theorem zJc11 : Cond.code zJm11.1.1 zJm11.1.2.1 zJm11.1.2.2.1 zJm11.1.2.2.2 ∈ zTB := zcode_mem (q := (4, 84)) rfl (by decide +kernel)
def zJr12 : List (List (Nat × Instr × Nat)) := [[(0, .iload_n 0, 1), (1, .iload_n 1, 1), (2, .if_icmp .lt 7, 3), (5, .iload_n 0, 1), (6, .goto 4, 3), (9, .iload_n 1, 1), (10, .ireturn, 1)]]
def zJm12 : sx_Me := ((⟨"java/lang/Math", "max", "(II)I"⟩, prog_17_method_65_code, 2, (Option.some Jvm.ClassFile.FieldType.int)), zJr12, (99, false, 0, 0, 99), [], [])
set_option maxRecDepth 100000 in
theorem zJd12 : zkDe prog_17_method_65_code zJr12 = true := by decide +kernel
set_option maxRecDepth 100000 in
theorem zJk12 : sx_meok zCl zCDs zJm12 := zkMe_ok zJd12 (by decide +kernel)
set_option maxRecDepth 100000 in
theorem zJc12 : Cond.code zJm12.1.1 zJm12.1.2.1 zJm12.1.2.2.1 zJm12.1.2.2.2 ∈ zTB := zcode_mem (q := (3, 95)) rfl (by decide +kernel)
def zJr13 : List (List (Nat × Instr × Nat)) := [[(0, .iload_n 0, 1), (1, .iload_n 1, 1), (2, .if_icmp .gt 7, 3), (5, .iload_n 0, 1), (6, .goto 4, 3), (9, .iload_n 1, 1), (10, .ireturn, 1)]]
def zJm13 : sx_Me := ((⟨"java/lang/Math", "min", "(II)I"⟩, prog_17_method_69_code, 2, (Option.some Jvm.ClassFile.FieldType.int)), zJr13, (99, false, 0, 0, 99), [], [])
set_option maxRecDepth 100000 in
theorem zJd13 : zkDe prog_17_method_69_code zJr13 = true := by decide +kernel
set_option maxRecDepth 100000 in
theorem zJk13 : sx_meok zCl zCDs zJm13 := zkMe_ok zJd13 (by decide +kernel)
set_option maxRecDepth 100000 in
theorem zJc13 : Cond.code zJm13.1.1 zJm13.1.2.1 zJm13.1.2.2.1 zJm13.1.2.2.2 ∈ zTB := zcode_mem (q := (3, 38)) rfl (by decide +kernel)
def zJT : List (List sx_Me) := [[zJm0, zJm1, zJm2, zJm3, zJm4, zJm5, zJm6, zJm7, zJm8, zJm9, zJm10, zJm11, zJm12, zJm13]]
theorem zJcd : ∀ M ∈ zJT.flatten, M.2.2.1.1 = 13 ∨ Cond.code M.1.1 M.1.2.1 M.1.2.2.1 M.1.2.2.2 ∈ zTB := show ∀ M ∈ ([zJm0, zJm1, zJm2, zJm3, zJm4, zJm5, zJm6, zJm7, zJm8, zJm9, zJm10, zJm11, zJm12, zJm13] : List sx_Me), _ from zfc (Or.inr zJc0) (zfc (Or.inr zJc1) (zfc (Or.inr zJc2) (zfc (Or.inr zJc3) (zfc (Or.inr zJc4) (zfc (Or.inr zJc5) (zfc (Or.inr zJc6) (zfc (Or.inr zJc7) (zfc (Or.inr zJc8) (zfc (Or.inr zJc9) (zfc (Or.inr zJc10) (zfc (Or.inr zJc11) (zfc (Or.inr zJc12) (zfc (Or.inr zJc13) (zfn))))))))))))))
set_option maxRecDepth 100000 in
theorem zJls_335 : zkM zJT "java/lang/String" "" (335, 0, 1, 0) ((1, 17), (4, 8), (4, 9), (4, 10), (4, 11)) = true := by decide +kernel
set_option maxRecDepth 100000 in
theorem zJls_492 : zkM zJT "java/lang/String" "" (492, 0, 2, 0) ((1, 17), (4, 18), (4, 19), (4, 20), (4, 21)) = true := by decide +kernel
set_option maxRecDepth 100000 in
theorem zJls_495 : zkM zJT "java/lang/String" "" (495, 1, 4, 2) ((1, 18), (4, 22), (4, 23), (99, 0), (4, 24)) = true := by decide +kernel
set_option maxRecDepth 100000 in
theorem zJll_9 : zkM zJT "java/lang/StringLatin1" "" (9, 1, 5, 2) ((1, 17), (4, 25), (4, 26), (99, 0), (4, 27)) = true := by decide +kernel
set_option maxRecDepth 100000 in
theorem zJls_1059 : zkM zJT "java/lang/String" "" (1059, 1, 6, 3) ((1, 19), (4, 30), (4, 31), (99, 0), (4, 32)) = true := by decide +kernel
set_option maxRecDepth 100000 in
theorem zJls_633 : zkM zJT "java/lang/String" "" (633, 0, 8, 2) ((1, 17), (4, 69), (4, 70), (4, 71), (4, 72)) = true := by decide +kernel
set_option maxRecDepth 100000 in
theorem zJls_505 : zkM zJT "java/lang/String" "" (505, 0, 0, 0) ((1, 17), (4, 73), (4, 5), (4, 6), (4, 7)) = true := by decide +kernel
set_option maxRecDepth 100000 in
theorem zJls_637 : zkM zJT "java/lang/String" "" (637, 1, 9, 4) ((1, 18), (4, 74), (4, 75), (99, 0), (4, 76)) = true := by decide +kernel
set_option maxRecDepth 100000 in
theorem zJll_88 : zkM zJT "java/lang/StringLatin1" "" (88, 1, 10, 1) ((1, 18), (4, 77), (4, 78), (99, 0), (4, 79)) = true := by decide +kernel
set_option maxRecDepth 100000 in
theorem zJll_92 : zkM zJT "java/lang/StringLatin1" "" (92, 1, 12, 2) ((1, 14), (4, 80), (3, 94), (99, 0), (3, 95)) = true := by decide +kernel
set_option maxRecDepth 100000 in
theorem zJll_38 : zkM zJT "java/lang/StringLatin1" "" (38, 1, 13, 2) ((1, 14), (4, 81), (3, 37), (99, 0), (3, 38)) = true := by decide +kernel
set_option maxRecDepth 100000 in
theorem zJll_95 : zkM zJT "java/lang/StringLatin1" "" (95, 1, 11, 4) ((1, 18), (4, 82), (4, 83), (99, 0), (4, 84)) = true := by decide +kernel
set_option maxRecDepth 100000 in
theorem zJlr_128 : zkM zJT "ArcadePoles$Reader" "" (128, 0, 0, 0) ((1, 17), (4, 4), (4, 5), (4, 6), (4, 7)) = true := by decide +kernel
set_option maxRecDepth 100000 in
theorem zJlr_130 : zkM zJT "ArcadePoles$Reader" "" (130, 0, 3, 1) ((1, 17), (4, 14), (4, 15), (4, 16), (4, 17)) = true := by decide +kernel
set_option maxRecDepth 100000 in
theorem zJlr_121 : zkM zJT "ArcadePoles$Reader" "" (121, 0, 7, 1) ((1, 17), (4, 65), (4, 66), (4, 67), (4, 68)) = true := by decide +kernel
set_option maxRecDepth 100000 in
theorem zJf_9 : Cond.fieldLink "java/lang/String" 9 "java/lang/String" "value" "[B" ∈ zTB := zw_ok (q := (9, 146)) (by decide +kernel)
set_option maxRecDepth 100000 in
theorem zJf_15 : Cond.fieldLink "java/lang/String" 15 "java/lang/String" "coder" "B" ∈ zTB := zw_ok (q := (9, 147)) (by decide +kernel)
set_option maxRecDepth 100000 in
theorem zJf_38 : Cond.fieldLink "java/lang/String" 38 "java/lang/String" "COMPACT_STRINGS" "Z" ∈ zTB := zw_ok (q := (4, 12)) (by decide +kernel)
set_option maxRecDepth 100000 in
theorem zJf_1053 : Cond.fieldLink "java/lang/String" 1053 "jdk/internal/util/Preconditions" "SIOOBE_FORMATTER" "Ljava/util/function/BiFunction;" ∈ zTB := zw_ok (q := (4, 28)) (by decide +kernel)
