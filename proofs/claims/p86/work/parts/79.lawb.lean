theorem kw_2_132 : Jvm.Cond.methodLink "BondWarehouseLaw" (384 : Nat) ({ cls := "BondWarehouse", name := "entriesMade", desc := "()I" } : Jvm.MethodName) ∈ TG := tg_2 132 rfl rfl
theorem kw_2_133 : Jvm.Cond.instanceMethod ({ cls := "BondWarehouse", name := "entriesMade", desc := "()I" } : Jvm.MethodName) ∈ TG := tg_2 133 rfl rfl
theorem kw_2_134 : Jvm.Cond.selects "BondWarehouse" ({ cls := "BondWarehouse", name := "entriesMade", desc := "()I" } : Jvm.MethodName) ({ cls := "BondWarehouse", name := "entriesMade", desc := "()I" } : Jvm.MethodName) ∈ TG := tg_2 134 rfl rfl
theorem kw_2_135 : Jvm.Cond.code ({ cls := "BondWarehouse", name := "entriesMade", desc := "()I" } : Jvm.MethodName) prog_1_method_20_code (1 : Nat) (Option.some Jvm.ClassFile.FieldType.int) ∈ TG := tg_2 135 rfl rfl
theorem kw_2_136 : Jvm.Cond.methodLink "BondWarehouseLaw" (387 : Nat) ({ cls := "BondWarehouse", name := "receipts", desc := "()I" } : Jvm.MethodName) ∈ TG := tg_2 136 rfl rfl
theorem kw_2_137 : Jvm.Cond.instanceMethod ({ cls := "BondWarehouse", name := "receipts", desc := "()I" } : Jvm.MethodName) ∈ TG := tg_2 137 rfl rfl
theorem kw_2_138 : Jvm.Cond.selects "BondWarehouse" ({ cls := "BondWarehouse", name := "receipts", desc := "()I" } : Jvm.MethodName) ({ cls := "BondWarehouse", name := "receipts", desc := "()I" } : Jvm.MethodName) ∈ TG := tg_2 138 rfl rfl
theorem kw_2_139 : Jvm.Cond.code ({ cls := "BondWarehouse", name := "receipts", desc := "()I" } : Jvm.MethodName) prog_1_method_39_code (1 : Nat) (Option.some Jvm.ClassFile.FieldType.int) ∈ TG := tg_2 139 rfl rfl
theorem kw_6_134 : Jvm.Cond.methodLink "BondWarehouseLaw" (400 : Nat) ({ cls := "BondWarehouseLaw", name := "isProved", desc := "(LBondWarehouse;I)I" } : Jvm.MethodName) ∈ TG := tg_6 134 rfl rfl
theorem kw_6_135 : Jvm.Cond.static ({ cls := "BondWarehouseLaw", name := "isProved", desc := "(LBondWarehouse;I)I" } : Jvm.MethodName) ∈ TG := tg_6 135 rfl rfl
theorem kw_6_136 : Jvm.Cond.codeWith ({ cls := "BondWarehouseLaw", name := "isProved", desc := "(LBondWarehouse;I)I" } : Jvm.MethodName) method_4_code (3 : Nat) (Option.some Jvm.ClassFile.FieldType.int) [((0 : Nat), (13 : Nat), (14 : Nat), (26 : Nat))] ∈ TG := tg_6 136 rfl rfl
theorem kw_6_141 : Jvm.Cond.methodLink "BondWarehouseLaw" (402 : Nat) ({ cls := "BondWarehouseLaw", name := "isLocked", desc := "(LBondWarehouse;I)I" } : Jvm.MethodName) ∈ TG := tg_6 141 rfl rfl
theorem kw_6_142 : Jvm.Cond.static ({ cls := "BondWarehouseLaw", name := "isLocked", desc := "(LBondWarehouse;I)I" } : Jvm.MethodName) ∈ TG := tg_6 142 rfl rfl
theorem kw_6_143 : Jvm.Cond.codeWith ({ cls := "BondWarehouseLaw", name := "isLocked", desc := "(LBondWarehouse;I)I" } : Jvm.MethodName) method_6_code (3 : Nat) (Option.some Jvm.ClassFile.FieldType.int) [((0 : Nat), (13 : Nat), (14 : Nat), (26 : Nat))] ∈ TG := tg_6 143 rfl rfl
theorem kw_6_149 : Jvm.Cond.methodLink "BondWarehouseLaw" (404 : Nat) ({ cls := "BondWarehouseLaw", name := "whyNot", desc := "(LBondWarehouse;IIII)I" } : Jvm.MethodName) ∈ TG := tg_6 149 rfl rfl
theorem kw_6_150 : Jvm.Cond.static ({ cls := "BondWarehouseLaw", name := "whyNot", desc := "(LBondWarehouse;IIII)I" } : Jvm.MethodName) ∈ TG := tg_6 150 rfl rfl
theorem kw_6_151 : Jvm.Cond.codeWith ({ cls := "BondWarehouseLaw", name := "whyNot", desc := "(LBondWarehouse;IIII)I" } : Jvm.MethodName) method_3_code (6 : Nat) (Option.some Jvm.ClassFile.FieldType.int) [((0 : Nat), (9 : Nat), (10 : Nat), (13 : Nat))] ∈ TG := tg_6 151 rfl rfl
theorem kw_6_158 : Jvm.Cond.methodLink "BondWarehouseLaw" (407 : Nat) ({ cls := "BondWarehouseLaw", name := "isBroken", desc := "(LBondWarehouse;I)I" } : Jvm.MethodName) ∈ TG := tg_6 158 rfl rfl
theorem kw_6_159 : Jvm.Cond.static ({ cls := "BondWarehouseLaw", name := "isBroken", desc := "(LBondWarehouse;I)I" } : Jvm.MethodName) ∈ TG := tg_6 159 rfl rfl
theorem kw_6_160 : Jvm.Cond.codeWith ({ cls := "BondWarehouseLaw", name := "isBroken", desc := "(LBondWarehouse;I)I" } : Jvm.MethodName) method_7_code (3 : Nat) (Option.some Jvm.ClassFile.FieldType.int) [((0 : Nat), (13 : Nat), (14 : Nat), (26 : Nat))] ∈ TG := tg_6 160 rfl rfl
theorem kw_6_165 : Jvm.Cond.methodLink "BondWarehouseLaw" (410 : Nat) ({ cls := "BondWarehouse", name := "dutyAtStake", desc := "()I" } : Jvm.MethodName) ∈ TG := tg_6 165 rfl rfl
theorem kw_6_166 : Jvm.Cond.instanceMethod ({ cls := "BondWarehouse", name := "dutyAtStake", desc := "()I" } : Jvm.MethodName) ∈ TG := tg_6 166 rfl rfl
theorem kw_6_167 : Jvm.Cond.selects "BondWarehouse" ({ cls := "BondWarehouse", name := "dutyAtStake", desc := "()I" } : Jvm.MethodName) ({ cls := "BondWarehouse", name := "dutyAtStake", desc := "()I" } : Jvm.MethodName) ∈ TG := tg_6 167 rfl rfl
theorem kw_6_168 : Jvm.Cond.code ({ cls := "BondWarehouse", name := "dutyAtStake", desc := "()I" } : Jvm.MethodName) prog_1_method_47_code (1 : Nat) (Option.some Jvm.ClassFile.FieldType.int) ∈ TG := tg_6 168 rfl rfl
theorem kw_6_170 : Jvm.Cond.constant "BondWarehouseLaw" (413 : Nat) (50000 : Int32) ∈ TG := tg_6 170 rfl rfl
theorem dL_refuses_0 : decode cL_refuses 0 = .ok (.iload_n 1, 1) := by decide +kernel
theorem dL_refuses_1 : decode cL_refuses 1 = .ok (.iconst 2, 1) := by decide +kernel
theorem dL_refuses_2 : decode cL_refuses 2 = .ok (.irem, 1) := by decide +kernel
theorem dL_refuses_3 : decode cL_refuses 3 = .ok (.ifCond .ne 12, 3) := by decide +kernel
theorem dL_refuses_6 : decode cL_refuses 6 = .ok (.iconst (-1), 1) := by decide +kernel
theorem dL_refuses_7 : decode cL_refuses 7 = .ok (.iload_n 1, 1) := by decide +kernel
theorem dL_refuses_8 : decode cL_refuses 8 = .ok (.bipush 99, 2) := by decide +kernel
theorem dL_refuses_10 : decode cL_refuses 10 = .ok (.irem, 1) := by decide +kernel
theorem dL_refuses_11 : decode cL_refuses 11 = .ok (.isub, 1) := by decide +kernel
theorem dL_refuses_12 : decode cL_refuses 12 = .ok (.goto 12, 3) := by decide +kernel
theorem dL_refuses_15 : decode cL_refuses 15 = .ok (.aload_n 0, 1) := by decide +kernel
theorem dL_refuses_16 : decode cL_refuses 16 = .ok (.invokevirtual 384, 3) := by decide +kernel
theorem dL_refuses_19 : decode cL_refuses 19 = .ok (.iload_n 1, 1) := by decide +kernel
theorem dL_refuses_20 : decode cL_refuses 20 = .ok (.bipush 9, 2) := by decide +kernel
theorem dL_refuses_22 : decode cL_refuses 22 = .ok (.irem, 1) := by decide +kernel
theorem dL_refuses_23 : decode cL_refuses 23 = .ok (.iadd, 1) := by decide +kernel
theorem dL_refuses_24 : decode cL_refuses 24 = .ok (.istore_n 2, 1) := by decide +kernel
theorem dL_refuses_25 : decode cL_refuses 25 = .ok (.iload_n 1, 1) := by decide +kernel
theorem dL_refuses_26 : decode cL_refuses 26 = .ok (.iconst 2, 1) := by decide +kernel
theorem dL_refuses_27 : decode cL_refuses 27 = .ok (.irem, 1) := by decide +kernel
theorem dL_refuses_28 : decode cL_refuses 28 = .ok (.ifCond .ne 12, 3) := by decide +kernel
theorem dL_refuses_31 : decode cL_refuses 31 = .ok (.iconst (-1), 1) := by decide +kernel
theorem dL_refuses_32 : decode cL_refuses 32 = .ok (.iload_n 1, 1) := by decide +kernel
theorem dL_refuses_33 : decode cL_refuses 33 = .ok (.bipush 99, 2) := by decide +kernel
theorem dL_refuses_35 : decode cL_refuses 35 = .ok (.irem, 1) := by decide +kernel
theorem dL_refuses_36 : decode cL_refuses 36 = .ok (.isub, 1) := by decide +kernel
theorem dL_refuses_37 : decode cL_refuses 37 = .ok (.goto 10, 3) := by decide +kernel
theorem dL_refuses_40 : decode cL_refuses 40 = .ok (.bipush 6, 2) := by decide +kernel
theorem dL_refuses_42 : decode cL_refuses 42 = .ok (.iload_n 1, 1) := by decide +kernel
theorem dL_refuses_43 : decode cL_refuses 43 = .ok (.bipush 99, 2) := by decide +kernel
theorem dL_refuses_45 : decode cL_refuses 45 = .ok (.irem, 1) := by decide +kernel
theorem dL_refuses_46 : decode cL_refuses 46 = .ok (.iadd, 1) := by decide +kernel
theorem dL_refuses_47 : decode cL_refuses 47 = .ok (.istore_n 3, 1) := by decide +kernel
theorem dL_refuses_48 : decode cL_refuses 48 = .ok (.iload_n 1, 1) := by decide +kernel
theorem dL_refuses_49 : decode cL_refuses 49 = .ok (.iconst 2, 1) := by decide +kernel
theorem dL_refuses_50 : decode cL_refuses 50 = .ok (.irem, 1) := by decide +kernel
theorem dL_refuses_51 : decode cL_refuses 51 = .ok (.ifCond .ne 12, 3) := by decide +kernel
theorem dL_refuses_54 : decode cL_refuses 54 = .ok (.iconst (-1), 1) := by decide +kernel
theorem dL_refuses_55 : decode cL_refuses 55 = .ok (.iload_n 1, 1) := by decide +kernel
theorem dL_refuses_56 : decode cL_refuses 56 = .ok (.bipush 99, 2) := by decide +kernel
theorem dL_refuses_58 : decode cL_refuses 58 = .ok (.irem, 1) := by decide +kernel
theorem dL_refuses_59 : decode cL_refuses 59 = .ok (.isub, 1) := by decide +kernel
theorem dL_refuses_60 : decode cL_refuses 60 = .ok (.goto 9, 3) := by decide +kernel
theorem dL_refuses_63 : decode cL_refuses 63 = .ok (.iconst 5, 1) := by decide +kernel
theorem dL_refuses_64 : decode cL_refuses 64 = .ok (.iload_n 1, 1) := by decide +kernel
theorem dL_refuses_65 : decode cL_refuses 65 = .ok (.bipush 99, 2) := by decide +kernel
theorem dL_refuses_67 : decode cL_refuses 67 = .ok (.irem, 1) := by decide +kernel
theorem dL_refuses_68 : decode cL_refuses 68 = .ok (.iadd, 1) := by decide +kernel
theorem dL_refuses_69 : decode cL_refuses 69 = .ok (.istore 4, 2) := by decide +kernel
theorem dL_refuses_71 : decode cL_refuses 71 = .ok (.iload_n 1, 1) := by decide +kernel
theorem dL_refuses_72 : decode cL_refuses 72 = .ok (.iconst 2, 1) := by decide +kernel
theorem dL_refuses_73 : decode cL_refuses 73 = .ok (.irem, 1) := by decide +kernel
theorem dL_refuses_74 : decode cL_refuses 74 = .ok (.ifCond .ne 12, 3) := by decide +kernel
theorem dL_refuses_77 : decode cL_refuses 77 = .ok (.iconst 0, 1) := by decide +kernel
theorem dL_refuses_78 : decode cL_refuses 78 = .ok (.iload_n 1, 1) := by decide +kernel
theorem dL_refuses_79 : decode cL_refuses 79 = .ok (.bipush 99, 2) := by decide +kernel
theorem dL_refuses_81 : decode cL_refuses 81 = .ok (.irem, 1) := by decide +kernel
theorem dL_refuses_82 : decode cL_refuses 82 = .ok (.isub, 1) := by decide +kernel
theorem dL_refuses_83 : decode cL_refuses 83 = .ok (.goto 11, 3) := by decide +kernel
theorem dL_refuses_86 : decode cL_refuses 86 = .ok (.sipush 1000, 3) := by decide +kernel
theorem dL_refuses_89 : decode cL_refuses 89 = .ok (.iload_n 1, 1) := by decide +kernel
theorem dL_refuses_90 : decode cL_refuses 90 = .ok (.bipush 99, 2) := by decide +kernel
theorem dL_refuses_92 : decode cL_refuses 92 = .ok (.irem, 1) := by decide +kernel
theorem dL_refuses_93 : decode cL_refuses 93 = .ok (.iadd, 1) := by decide +kernel
theorem dL_refuses_94 : decode cL_refuses 94 = .ok (.istore 5, 2) := by decide +kernel
theorem dL_refuses_96 : decode cL_refuses 96 = .ok (.iload_n 1, 1) := by decide +kernel
theorem dL_refuses_97 : decode cL_refuses 97 = .ok (.iconst 2, 1) := by decide +kernel
theorem dL_refuses_98 : decode cL_refuses 98 = .ok (.irem, 1) := by decide +kernel
theorem dL_refuses_99 : decode cL_refuses 99 = .ok (.ifCond .ne 12, 3) := by decide +kernel
theorem dL_refuses_102 : decode cL_refuses 102 = .ok (.iconst (-1), 1) := by decide +kernel
theorem dL_refuses_103 : decode cL_refuses 103 = .ok (.iload_n 1, 1) := by decide +kernel
theorem dL_refuses_104 : decode cL_refuses 104 = .ok (.bipush 9, 2) := by decide +kernel
theorem dL_refuses_106 : decode cL_refuses 106 = .ok (.irem, 1) := by decide +kernel
theorem dL_refuses_107 : decode cL_refuses 107 = .ok (.isub, 1) := by decide +kernel
theorem dL_refuses_108 : decode cL_refuses 108 = .ok (.goto 12, 3) := by decide +kernel
theorem dL_refuses_111 : decode cL_refuses 111 = .ok (.aload_n 0, 1) := by decide +kernel
theorem dL_refuses_112 : decode cL_refuses 112 = .ok (.invokevirtual 387, 3) := by decide +kernel
theorem dL_refuses_115 : decode cL_refuses 115 = .ok (.iload_n 1, 1) := by decide +kernel
theorem dL_refuses_116 : decode cL_refuses 116 = .ok (.bipush 9, 2) := by decide +kernel
theorem dL_refuses_118 : decode cL_refuses 118 = .ok (.irem, 1) := by decide +kernel
theorem dL_refuses_119 : decode cL_refuses 119 = .ok (.iadd, 1) := by decide +kernel
theorem dL_refuses_120 : decode cL_refuses 120 = .ok (.istore 6, 2) := by decide +kernel
theorem dL_refuses_122 : decode cL_refuses 122 = .ok (.iload_n 1, 1) := by decide +kernel
theorem dL_refuses_123 : decode cL_refuses 123 = .ok (.iconst 5, 1) := by decide +kernel
theorem dL_refuses_124 : decode cL_refuses 124 = .ok (.irem, 1) := by decide +kernel
theorem dL_refuses_125 : decode cL_refuses 125 = .ok (.istore 7, 2) := by decide +kernel
theorem dL_refuses_127 : decode cL_refuses 127 = .ok (.aload_n 0, 1) := by decide +kernel
theorem dL_refuses_128 : decode cL_refuses 128 = .ok (.iload_n 3, 1) := by decide +kernel
theorem dL_refuses_129 : decode cL_refuses 129 = .ok (.iconst 5, 1) := by decide +kernel
theorem dL_refuses_130 : decode cL_refuses 130 = .ok (.iconst 5, 1) := by decide +kernel
theorem dL_refuses_131 : decode cL_refuses 131 = .ok (.iload 7, 2) := by decide +kernel
theorem dL_refuses_133 : decode cL_refuses 133 = .ok (.invokestatic 390, 3) := by decide +kernel
theorem dL_refuses_136 : decode cL_refuses 136 = .ok (.ldc 15, 2) := by decide +kernel
theorem dL_refuses_138 : decode cL_refuses 138 = .ok (.if_icmp .ne 422, 3) := by decide +kernel
theorem dL_refuses_141 : decode cL_refuses 141 = .ok (.aload_n 0, 1) := by decide +kernel
theorem dL_refuses_142 : decode cL_refuses 142 = .ok (.iconst 1, 1) := by decide +kernel
theorem dL_refuses_143 : decode cL_refuses 143 = .ok (.iload 5, 2) := by decide +kernel
theorem dL_refuses_145 : decode cL_refuses 145 = .ok (.iconst 5, 1) := by decide +kernel
theorem dL_refuses_146 : decode cL_refuses 146 = .ok (.iload 7, 2) := by decide +kernel
theorem dL_refuses_148 : decode cL_refuses 148 = .ok (.invokestatic 390, 3) := by decide +kernel
theorem dL_refuses_151 : decode cL_refuses 151 = .ok (.ldc 15, 2) := by decide +kernel
theorem dL_refuses_153 : decode cL_refuses 153 = .ok (.if_icmp .ne 407, 3) := by decide +kernel
theorem dL_refuses_156 : decode cL_refuses 156 = .ok (.aload_n 0, 1) := by decide +kernel
theorem dL_refuses_157 : decode cL_refuses 157 = .ok (.iconst 1, 1) := by decide +kernel
theorem dL_refuses_158 : decode cL_refuses 158 = .ok (.iconst 5, 1) := by decide +kernel
theorem dL_refuses_159 : decode cL_refuses 159 = .ok (.iload_n 1, 1) := by decide +kernel
theorem dL_refuses_160 : decode cL_refuses 160 = .ok (.iconst 2, 1) := by decide +kernel
theorem dL_refuses_161 : decode cL_refuses 161 = .ok (.irem, 1) := by decide +kernel
theorem dL_refuses_162 : decode cL_refuses 162 = .ok (.ifCond .ne 7, 3) := by decide +kernel
theorem dL_refuses_165 : decode cL_refuses 165 = .ok (.iconst 0, 1) := by decide +kernel
theorem dL_refuses_166 : decode cL_refuses 166 = .ok (.goto 6, 3) := by decide +kernel
theorem dL_refuses_169 : decode cL_refuses 169 = .ok (.sipush 10000, 3) := by decide +kernel
theorem dL_refuses_172 : decode cL_refuses 172 = .ok (.iload 7, 2) := by decide +kernel
theorem dL_refuses_174 : decode cL_refuses 174 = .ok (.invokestatic 390, 3) := by decide +kernel
theorem dL_refuses_177 : decode cL_refuses 177 = .ok (.ldc 15, 2) := by decide +kernel
theorem dL_refuses_179 : decode cL_refuses 179 = .ok (.if_icmp .ne 381, 3) := by decide +kernel
theorem dL_refuses_182 : decode cL_refuses 182 = .ok (.aload_n 0, 1) := by decide +kernel
theorem dL_refuses_183 : decode cL_refuses 183 = .ok (.iconst 1, 1) := by decide +kernel
theorem dL_refuses_184 : decode cL_refuses 184 = .ok (.iconst 5, 1) := by decide +kernel
theorem dL_refuses_185 : decode cL_refuses 185 = .ok (.iconst 5, 1) := by decide +kernel
theorem dL_refuses_186 : decode cL_refuses 186 = .ok (.iload 4, 2) := by decide +kernel
theorem dL_refuses_188 : decode cL_refuses 188 = .ok (.invokestatic 390, 3) := by decide +kernel
theorem dL_refuses_191 : decode cL_refuses 191 = .ok (.ldc 15, 2) := by decide +kernel
theorem dL_refuses_193 : decode cL_refuses 193 = .ok (.if_icmp .ne 367, 3) := by decide +kernel
theorem dL_refuses_196 : decode cL_refuses 196 = .ok (.aload_n 0, 1) := by decide +kernel
theorem dL_refuses_197 : decode cL_refuses 197 = .ok (.iconst 0, 1) := by decide +kernel
theorem dL_refuses_198 : decode cL_refuses 198 = .ok (.iload_n 2, 1) := by decide +kernel
theorem dL_refuses_199 : decode cL_refuses 199 = .ok (.iload 5, 2) := by decide +kernel
theorem dL_refuses_201 : decode cL_refuses 201 = .ok (.iconst 0, 1) := by decide +kernel
theorem dL_refuses_202 : decode cL_refuses 202 = .ok (.invokestatic 393, 3) := by decide +kernel
theorem dL_refuses_205 : decode cL_refuses 205 = .ok (.ldc 28, 2) := by decide +kernel
theorem dL_refuses_207 : decode cL_refuses 207 = .ok (.if_icmp .ne 353, 3) := by decide +kernel
theorem dL_refuses_210 : decode cL_refuses 210 = .ok (.aload_n 0, 1) := by decide +kernel
theorem dL_refuses_211 : decode cL_refuses 211 = .ok (.iconst 1, 1) := by decide +kernel
theorem dL_refuses_212 : decode cL_refuses 212 = .ok (.iload_n 2, 1) := by decide +kernel
theorem dL_refuses_213 : decode cL_refuses 213 = .ok (.iconst 1, 1) := by decide +kernel
theorem dL_refuses_214 : decode cL_refuses 214 = .ok (.iconst 0, 1) := by decide +kernel
theorem dL_refuses_215 : decode cL_refuses 215 = .ok (.invokestatic 393, 3) := by decide +kernel
theorem dL_refuses_218 : decode cL_refuses 218 = .ok (.ldc 28, 2) := by decide +kernel
theorem dL_refuses_220 : decode cL_refuses 220 = .ok (.if_icmp .ne 340, 3) := by decide +kernel
theorem dL_refuses_223 : decode cL_refuses 223 = .ok (.aload_n 0, 1) := by decide +kernel
theorem dL_refuses_224 : decode cL_refuses 224 = .ok (.iconst 2, 1) := by decide +kernel
theorem dL_refuses_225 : decode cL_refuses 225 = .ok (.iload 6, 2) := by decide +kernel
theorem dL_refuses_227 : decode cL_refuses 227 = .ok (.iload 5, 2) := by decide +kernel
theorem dL_refuses_229 : decode cL_refuses 229 = .ok (.iconst 0, 1) := by decide +kernel
theorem dL_refuses_230 : decode cL_refuses 230 = .ok (.invokestatic 393, 3) := by decide +kernel
theorem dL_refuses_233 : decode cL_refuses 233 = .ok (.ldc 28, 2) := by decide +kernel
theorem dL_refuses_235 : decode cL_refuses 235 = .ok (.if_icmp .ne 325, 3) := by decide +kernel
theorem dL_refuses_238 : decode cL_refuses 238 = .ok (.aload_n 0, 1) := by decide +kernel
theorem dL_refuses_239 : decode cL_refuses 239 = .ok (.iconst 3, 1) := by decide +kernel
theorem dL_refuses_240 : decode cL_refuses 240 = .ok (.iload_n 2, 1) := by decide +kernel
theorem dL_refuses_241 : decode cL_refuses 241 = .ok (.iload 7, 2) := by decide +kernel
theorem dL_refuses_243 : decode cL_refuses 243 = .ok (.iconst 0, 1) := by decide +kernel
theorem dL_refuses_244 : decode cL_refuses 244 = .ok (.invokestatic 393, 3) := by decide +kernel
theorem dL_refuses_247 : decode cL_refuses 247 = .ok (.ldc 28, 2) := by decide +kernel
theorem dL_refuses_249 : decode cL_refuses 249 = .ok (.if_icmp .ne 311, 3) := by decide +kernel
theorem dL_refuses_252 : decode cL_refuses 252 = .ok (.aload_n 0, 1) := by decide +kernel
theorem dL_refuses_253 : decode cL_refuses 253 = .ok (.iconst 4, 1) := by decide +kernel
theorem dL_refuses_254 : decode cL_refuses 254 = .ok (.iload_n 2, 1) := by decide +kernel
theorem dL_refuses_255 : decode cL_refuses 255 = .ok (.iconst 0, 1) := by decide +kernel
theorem dL_refuses_256 : decode cL_refuses 256 = .ok (.iconst 0, 1) := by decide +kernel
theorem dL_refuses_257 : decode cL_refuses 257 = .ok (.invokestatic 393, 3) := by decide +kernel
theorem dL_refuses_260 : decode cL_refuses 260 = .ok (.ldc 28, 2) := by decide +kernel
theorem dL_refuses_262 : decode cL_refuses 262 = .ok (.if_icmp .ne 298, 3) := by decide +kernel
theorem dL_refuses_265 : decode cL_refuses 265 = .ok (.aload_n 0, 1) := by decide +kernel
theorem dL_refuses_266 : decode cL_refuses 266 = .ok (.iconst 5, 1) := by decide +kernel
theorem dL_refuses_267 : decode cL_refuses 267 = .ok (.iload_n 2, 1) := by decide +kernel
theorem dL_refuses_268 : decode cL_refuses 268 = .ok (.iload_n 2, 1) := by decide +kernel
theorem dL_refuses_269 : decode cL_refuses 269 = .ok (.iconst 0, 1) := by decide +kernel
theorem dL_refuses_270 : decode cL_refuses 270 = .ok (.invokestatic 393, 3) := by decide +kernel
theorem dL_refuses_273 : decode cL_refuses 273 = .ok (.ldc 28, 2) := by decide +kernel
theorem dL_refuses_275 : decode cL_refuses 275 = .ok (.if_icmp .ne 285, 3) := by decide +kernel
theorem dL_refuses_278 : decode cL_refuses 278 = .ok (.aload_n 0, 1) := by decide +kernel
theorem dL_refuses_279 : decode cL_refuses 279 = .ok (.bipush 6, 2) := by decide +kernel
theorem dL_refuses_281 : decode cL_refuses 281 = .ok (.iload_n 2, 1) := by decide +kernel
theorem dL_refuses_282 : decode cL_refuses 282 = .ok (.iconst (-1), 1) := by decide +kernel
theorem dL_refuses_283 : decode cL_refuses 283 = .ok (.iconst 0, 1) := by decide +kernel
theorem dL_refuses_284 : decode cL_refuses 284 = .ok (.invokestatic 393, 3) := by decide +kernel
theorem dL_refuses_287 : decode cL_refuses 287 = .ok (.ldc 28, 2) := by decide +kernel
theorem dL_refuses_289 : decode cL_refuses 289 = .ok (.if_icmp .ne 271, 3) := by decide +kernel
theorem dL_refuses_292 : decode cL_refuses 292 = .ok (.aload_n 0, 1) := by decide +kernel
theorem dL_refuses_293 : decode cL_refuses 293 = .ok (.bipush 7, 2) := by decide +kernel
theorem dL_refuses_295 : decode cL_refuses 295 = .ok (.iload 4, 2) := by decide +kernel
theorem dL_refuses_297 : decode cL_refuses 297 = .ok (.iconst 0, 1) := by decide +kernel
theorem dL_refuses_298 : decode cL_refuses 298 = .ok (.iconst 0, 1) := by decide +kernel
theorem dL_refuses_299 : decode cL_refuses 299 = .ok (.invokestatic 393, 3) := by decide +kernel
theorem dL_refuses_302 : decode cL_refuses 302 = .ok (.ldc 28, 2) := by decide +kernel
theorem dL_refuses_304 : decode cL_refuses 304 = .ok (.if_icmp .ne 256, 3) := by decide +kernel
theorem dL_refuses_307 : decode cL_refuses 307 = .ok (.aload_n 0, 1) := by decide +kernel
theorem dL_refuses_308 : decode cL_refuses 308 = .ok (.bipush 8, 2) := by decide +kernel
theorem dL_refuses_310 : decode cL_refuses 310 = .ok (.iload 4, 2) := by decide +kernel
theorem dL_refuses_312 : decode cL_refuses 312 = .ok (.iconst 0, 1) := by decide +kernel
theorem dL_refuses_313 : decode cL_refuses 313 = .ok (.iconst 0, 1) := by decide +kernel
theorem dL_refuses_314 : decode cL_refuses 314 = .ok (.invokestatic 393, 3) := by decide +kernel
theorem dL_refuses_317 : decode cL_refuses 317 = .ok (.ldc 28, 2) := by decide +kernel
theorem dL_refuses_319 : decode cL_refuses 319 = .ok (.if_icmp .ne 241, 3) := by decide +kernel
theorem dL_refuses_322 : decode cL_refuses 322 = .ok (.aload_n 0, 1) := by decide +kernel
theorem dL_refuses_323 : decode cL_refuses 323 = .ok (.bipush 9, 2) := by decide +kernel
theorem dL_refuses_325 : decode cL_refuses 325 = .ok (.iload 4, 2) := by decide +kernel
theorem dL_refuses_327 : decode cL_refuses 327 = .ok (.iconst 0, 1) := by decide +kernel
theorem dL_refuses_328 : decode cL_refuses 328 = .ok (.iconst 0, 1) := by decide +kernel
theorem dL_refuses_329 : decode cL_refuses 329 = .ok (.invokestatic 393, 3) := by decide +kernel
theorem dL_refuses_332 : decode cL_refuses 332 = .ok (.ldc 28, 2) := by decide +kernel
theorem dL_refuses_334 : decode cL_refuses 334 = .ok (.if_icmp .ne 226, 3) := by decide +kernel
theorem dL_refuses_337 : decode cL_refuses 337 = .ok (.aload_n 0, 1) := by decide +kernel
theorem dL_refuses_338 : decode cL_refuses 338 = .ok (.bipush 10, 2) := by decide +kernel
theorem dL_refuses_340 : decode cL_refuses 340 = .ok (.iload_n 1, 1) := by decide +kernel
theorem dL_refuses_341 : decode cL_refuses 341 = .ok (.iconst 2, 1) := by decide +kernel
theorem dL_refuses_342 : decode cL_refuses 342 = .ok (.irem, 1) := by decide +kernel
theorem dL_refuses_343 : decode cL_refuses 343 = .ok (.ifCond .ne 7, 3) := by decide +kernel
theorem dL_refuses_346 : decode cL_refuses 346 = .ok (.iconst 0, 1) := by decide +kernel
theorem dL_refuses_347 : decode cL_refuses 347 = .ok (.goto 6, 3) := by decide +kernel
theorem dL_refuses_350 : decode cL_refuses 350 = .ok (.sipush 10000, 3) := by decide +kernel
theorem dL_refuses_353 : decode cL_refuses 353 = .ok (.iconst 0, 1) := by decide +kernel
theorem dL_refuses_354 : decode cL_refuses 354 = .ok (.iconst 0, 1) := by decide +kernel
theorem dL_refuses_355 : decode cL_refuses 355 = .ok (.invokestatic 393, 3) := by decide +kernel
theorem dL_refuses_358 : decode cL_refuses 358 = .ok (.ldc 15, 2) := by decide +kernel
theorem dL_refuses_360 : decode cL_refuses 360 = .ok (.if_icmp .ne 200, 3) := by decide +kernel
theorem dL_refuses_363 : decode cL_refuses 363 = .ok (.aload_n 0, 1) := by decide +kernel
theorem dL_refuses_364 : decode cL_refuses 364 = .ok (.bipush 11, 2) := by decide +kernel
theorem dL_refuses_366 : decode cL_refuses 366 = .ok (.iload_n 1, 1) := by decide +kernel
theorem dL_refuses_367 : decode cL_refuses 367 = .ok (.iconst 2, 1) := by decide +kernel
theorem dL_refuses_368 : decode cL_refuses 368 = .ok (.irem, 1) := by decide +kernel
theorem dL_refuses_369 : decode cL_refuses 369 = .ok (.ifCond .ne 7, 3) := by decide +kernel
theorem dL_refuses_372 : decode cL_refuses 372 = .ok (.iconst (-1), 1) := by decide +kernel
theorem dL_refuses_373 : decode cL_refuses 373 = .ok (.goto 6, 3) := by decide +kernel
theorem dL_refuses_376 : decode cL_refuses 376 = .ok (.ldc_w 396, 3) := by decide +kernel
theorem dL_refuses_379 : decode cL_refuses 379 = .ok (.iconst 0, 1) := by decide +kernel
theorem dL_refuses_380 : decode cL_refuses 380 = .ok (.iconst 0, 1) := by decide +kernel
theorem dL_refuses_381 : decode cL_refuses 381 = .ok (.invokestatic 393, 3) := by decide +kernel
theorem dL_refuses_384 : decode cL_refuses 384 = .ok (.ldc 15, 2) := by decide +kernel
theorem dL_refuses_386 : decode cL_refuses 386 = .ok (.if_icmp .ne 174, 3) := by decide +kernel
theorem dL_refuses_389 : decode cL_refuses 389 = .ok (.aload_n 0, 1) := by decide +kernel
theorem dL_refuses_390 : decode cL_refuses 390 = .ok (.bipush 12, 2) := by decide +kernel
theorem dL_refuses_392 : decode cL_refuses 392 = .ok (.iload_n 3, 1) := by decide +kernel
theorem dL_refuses_393 : decode cL_refuses 393 = .ok (.iconst 5, 1) := by decide +kernel
theorem dL_refuses_394 : decode cL_refuses 394 = .ok (.iconst 0, 1) := by decide +kernel
theorem dL_refuses_395 : decode cL_refuses 395 = .ok (.invokestatic 393, 3) := by decide +kernel
theorem dL_refuses_398 : decode cL_refuses 398 = .ok (.ldc 15, 2) := by decide +kernel
theorem dL_refuses_400 : decode cL_refuses 400 = .ok (.if_icmp .ne 160, 3) := by decide +kernel
theorem dL_refuses_403 : decode cL_refuses 403 = .ok (.aload_n 0, 1) := by decide +kernel
theorem dL_refuses_404 : decode cL_refuses 404 = .ok (.bipush 12, 2) := by decide +kernel
theorem dL_refuses_406 : decode cL_refuses 406 = .ok (.iconst 1, 1) := by decide +kernel
theorem dL_refuses_407 : decode cL_refuses 407 = .ok (.iload_n 1, 1) := by decide +kernel
theorem dL_refuses_408 : decode cL_refuses 408 = .ok (.iconst 2, 1) := by decide +kernel
theorem dL_refuses_409 : decode cL_refuses 409 = .ok (.irem, 1) := by decide +kernel
theorem dL_refuses_410 : decode cL_refuses 410 = .ok (.ifCond .ne 7, 3) := by decide +kernel
theorem dL_refuses_413 : decode cL_refuses 413 = .ok (.iconst (-1), 1) := by decide +kernel
theorem dL_refuses_414 : decode cL_refuses 414 = .ok (.goto 5, 3) := by decide +kernel
theorem dL_refuses_417 : decode cL_refuses 417 = .ok (.bipush 61, 2) := by decide +kernel
theorem dL_refuses_419 : decode cL_refuses 419 = .ok (.iconst 0, 1) := by decide +kernel
theorem dL_refuses_420 : decode cL_refuses 420 = .ok (.invokestatic 393, 3) := by decide +kernel
theorem dL_refuses_423 : decode cL_refuses 423 = .ok (.ldc 15, 2) := by decide +kernel
theorem dL_refuses_425 : decode cL_refuses 425 = .ok (.if_icmp .ne 135, 3) := by decide +kernel
theorem dL_refuses_428 : decode cL_refuses 428 = .ok (.aload_n 0, 1) := by decide +kernel
theorem dL_refuses_429 : decode cL_refuses 429 = .ok (.bipush 13, 2) := by decide +kernel
theorem dL_refuses_431 : decode cL_refuses 431 = .ok (.iconst 1, 1) := by decide +kernel
theorem dL_refuses_432 : decode cL_refuses 432 = .ok (.iload_n 1, 1) := by decide +kernel
theorem dL_refuses_433 : decode cL_refuses 433 = .ok (.iconst 2, 1) := by decide +kernel
theorem dL_refuses_434 : decode cL_refuses 434 = .ok (.irem, 1) := by decide +kernel
theorem dL_refuses_435 : decode cL_refuses 435 = .ok (.ifCond .ne 7, 3) := by decide +kernel
theorem dL_refuses_438 : decode cL_refuses 438 = .ok (.iconst (-1), 1) := by decide +kernel
theorem dL_refuses_439 : decode cL_refuses 439 = .ok (.goto 5, 3) := by decide +kernel
theorem dL_refuses_442 : decode cL_refuses 442 = .ok (.bipush 81, 2) := by decide +kernel
theorem dL_refuses_444 : decode cL_refuses 444 = .ok (.iconst 0, 1) := by decide +kernel
theorem dL_refuses_445 : decode cL_refuses 445 = .ok (.invokestatic 393, 3) := by decide +kernel
theorem dL_refuses_448 : decode cL_refuses 448 = .ok (.ldc 15, 2) := by decide +kernel
theorem dL_refuses_450 : decode cL_refuses 450 = .ok (.if_icmp .ne 110, 3) := by decide +kernel
theorem dL_refuses_453 : decode cL_refuses 453 = .ok (.aload_n 0, 1) := by decide +kernel
theorem dL_refuses_454 : decode cL_refuses 454 = .ok (.bipush 14, 2) := by decide +kernel
theorem dL_refuses_456 : decode cL_refuses 456 = .ok (.iload_n 1, 1) := by decide +kernel
theorem dL_refuses_457 : decode cL_refuses 457 = .ok (.iconst 2, 1) := by decide +kernel
theorem dL_refuses_458 : decode cL_refuses 458 = .ok (.irem, 1) := by decide +kernel
theorem dL_refuses_459 : decode cL_refuses 459 = .ok (.ifCond .ne 7, 3) := by decide +kernel
theorem dL_refuses_462 : decode cL_refuses 462 = .ok (.iconst 0, 1) := by decide +kernel
theorem dL_refuses_463 : decode cL_refuses 463 = .ok (.goto 5, 3) := by decide +kernel
theorem dL_refuses_466 : decode cL_refuses 466 = .ok (.bipush 101, 2) := by decide +kernel
theorem dL_refuses_468 : decode cL_refuses 468 = .ok (.iconst 0, 1) := by decide +kernel
theorem dL_refuses_469 : decode cL_refuses 469 = .ok (.iconst 0, 1) := by decide +kernel
theorem dL_refuses_470 : decode cL_refuses 470 = .ok (.invokestatic 393, 3) := by decide +kernel
theorem dL_refuses_473 : decode cL_refuses 473 = .ok (.ldc 15, 2) := by decide +kernel
theorem dL_refuses_475 : decode cL_refuses 475 = .ok (.if_icmp .ne 85, 3) := by decide +kernel
theorem dL_refuses_478 : decode cL_refuses 478 = .ok (.aload_n 0, 1) := by decide +kernel
theorem dL_refuses_479 : decode cL_refuses 479 = .ok (.bipush 52, 2) := by decide +kernel
theorem dL_refuses_481 : decode cL_refuses 481 = .ok (.iconst 0, 1) := by decide +kernel
theorem dL_refuses_482 : decode cL_refuses 482 = .ok (.iconst 0, 1) := by decide +kernel
theorem dL_refuses_483 : decode cL_refuses 483 = .ok (.iconst 0, 1) := by decide +kernel
theorem dL_refuses_484 : decode cL_refuses 484 = .ok (.invokestatic 393, 3) := by decide +kernel
theorem dL_refuses_487 : decode cL_refuses 487 = .ok (.ldc 15, 2) := by decide +kernel
theorem dL_refuses_489 : decode cL_refuses 489 = .ok (.if_icmp .ne 71, 3) := by decide +kernel
theorem dL_refuses_492 : decode cL_refuses 492 = .ok (.aload_n 0, 1) := by decide +kernel
theorem dL_refuses_493 : decode cL_refuses 493 = .ok (.bipush 51, 2) := by decide +kernel
theorem dL_refuses_495 : decode cL_refuses 495 = .ok (.iload_n 1, 1) := by decide +kernel
theorem dL_refuses_496 : decode cL_refuses 496 = .ok (.iconst 2, 1) := by decide +kernel
theorem dL_refuses_497 : decode cL_refuses 497 = .ok (.irem, 1) := by decide +kernel
theorem dL_refuses_498 : decode cL_refuses 498 = .ok (.ifCond .ne 8, 3) := by decide +kernel
theorem dL_refuses_501 : decode cL_refuses 501 = .ok (.bipush 32, 2) := by decide +kernel
theorem dL_refuses_503 : decode cL_refuses 503 = .ok (.goto 5, 3) := by decide +kernel
theorem dL_refuses_506 : decode cL_refuses 506 = .ok (.bipush 127, 2) := by decide +kernel
theorem dL_refuses_508 : decode cL_refuses 508 = .ok (.iconst 0, 1) := by decide +kernel
theorem dL_refuses_509 : decode cL_refuses 509 = .ok (.iconst 0, 1) := by decide +kernel
theorem dL_refuses_510 : decode cL_refuses 510 = .ok (.invokestatic 393, 3) := by decide +kernel
theorem dL_refuses_513 : decode cL_refuses 513 = .ok (.ldc 15, 2) := by decide +kernel
theorem dL_refuses_515 : decode cL_refuses 515 = .ok (.if_icmp .ne 45, 3) := by decide +kernel
theorem dL_refuses_518 : decode cL_refuses 518 = .ok (.aload_n 0, 1) := by decide +kernel
theorem dL_refuses_519 : decode cL_refuses 519 = .ok (.bipush 54, 2) := by decide +kernel
theorem dL_refuses_521 : decode cL_refuses 521 = .ok (.iconst 2, 1) := by decide +kernel
theorem dL_refuses_522 : decode cL_refuses 522 = .ok (.iload_n 1, 1) := by decide +kernel
theorem dL_refuses_523 : decode cL_refuses 523 = .ok (.bipush 9, 2) := by decide +kernel
theorem dL_refuses_525 : decode cL_refuses 525 = .ok (.irem, 1) := by decide +kernel
theorem dL_refuses_526 : decode cL_refuses 526 = .ok (.iadd, 1) := by decide +kernel
theorem dL_refuses_527 : decode cL_refuses 527 = .ok (.iconst 0, 1) := by decide +kernel
theorem dL_refuses_528 : decode cL_refuses 528 = .ok (.iconst 0, 1) := by decide +kernel
theorem dL_refuses_529 : decode cL_refuses 529 = .ok (.invokestatic 393, 3) := by decide +kernel
theorem dL_refuses_532 : decode cL_refuses 532 = .ok (.ldc 28, 2) := by decide +kernel
theorem dL_refuses_534 : decode cL_refuses 534 = .ok (.if_icmp .ne 26, 3) := by decide +kernel
theorem dL_refuses_537 : decode cL_refuses 537 = .ok (.aload_n 0, 1) := by decide +kernel
theorem dL_refuses_538 : decode cL_refuses 538 = .ok (.bipush 55, 2) := by decide +kernel
theorem dL_refuses_540 : decode cL_refuses 540 = .ok (.iconst (-1), 1) := by decide +kernel
theorem dL_refuses_541 : decode cL_refuses 541 = .ok (.iload_n 1, 1) := by decide +kernel
theorem dL_refuses_542 : decode cL_refuses 542 = .ok (.bipush 9, 2) := by decide +kernel
theorem dL_refuses_544 : decode cL_refuses 544 = .ok (.irem, 1) := by decide +kernel
theorem dL_refuses_545 : decode cL_refuses 545 = .ok (.isub, 1) := by decide +kernel
theorem dL_refuses_546 : decode cL_refuses 546 = .ok (.iconst 0, 1) := by decide +kernel
theorem dL_refuses_547 : decode cL_refuses 547 = .ok (.iconst 0, 1) := by decide +kernel
theorem dL_refuses_548 : decode cL_refuses 548 = .ok (.invokestatic 393, 3) := by decide +kernel
theorem dL_refuses_551 : decode cL_refuses 551 = .ok (.ldc 28, 2) := by decide +kernel
theorem dL_refuses_553 : decode cL_refuses 553 = .ok (.if_icmp .ne 7, 3) := by decide +kernel
theorem dL_refuses_556 : decode cL_refuses 556 = .ok (.iconst 1, 1) := by decide +kernel
theorem dL_refuses_557 : decode cL_refuses 557 = .ok (.goto 4, 3) := by decide +kernel
theorem dL_refuses_560 : decode cL_refuses 560 = .ok (.iconst 0, 1) := by decide +kernel
theorem dL_refuses_561 : decode cL_refuses 561 = .ok (.istore 8, 2) := by decide +kernel
theorem dL_refuses_563 : decode cL_refuses 563 = .ok (.iload 8, 2) := by decide +kernel
theorem dL_refuses_565 : decode cL_refuses 565 = .ok (.ifCond .eq 289, 3) := by decide +kernel
theorem dL_refuses_568 : decode cL_refuses 568 = .ok (.aload_n 0, 1) := by decide +kernel
theorem dL_refuses_569 : decode cL_refuses 569 = .ok (.bipush 15, 2) := by decide +kernel
theorem dL_refuses_571 : decode cL_refuses 571 = .ok (.iload_n 1, 1) := by decide +kernel
theorem dL_refuses_572 : decode cL_refuses 572 = .ok (.iconst 2, 1) := by decide +kernel
theorem dL_refuses_573 : decode cL_refuses 573 = .ok (.irem, 1) := by decide +kernel
theorem dL_refuses_574 : decode cL_refuses 574 = .ok (.ifCond .ne 7, 3) := by decide +kernel
theorem dL_refuses_577 : decode cL_refuses 577 = .ok (.iconst (-1), 1) := by decide +kernel
theorem dL_refuses_578 : decode cL_refuses 578 = .ok (.goto 7, 3) := by decide +kernel
theorem dL_refuses_581 : decode cL_refuses 581 = .ok (.aload_n 0, 1) := by decide +kernel
theorem dL_refuses_582 : decode cL_refuses 582 = .ok (.invokevirtual 397, 3) := by decide +kernel
theorem dL_refuses_585 : decode cL_refuses 585 = .ok (.iconst 0, 1) := by decide +kernel
theorem dL_refuses_586 : decode cL_refuses 586 = .ok (.iconst 0, 1) := by decide +kernel
theorem dL_refuses_587 : decode cL_refuses 587 = .ok (.invokestatic 393, 3) := by decide +kernel
theorem dL_refuses_590 : decode cL_refuses 590 = .ok (.ldc 28, 2) := by decide +kernel
theorem dL_refuses_592 : decode cL_refuses 592 = .ok (.if_icmp .ne 262, 3) := by decide +kernel
theorem dL_refuses_595 : decode cL_refuses 595 = .ok (.aload_n 0, 1) := by decide +kernel
theorem dL_refuses_596 : decode cL_refuses 596 = .ok (.bipush 22, 2) := by decide +kernel
theorem dL_refuses_598 : decode cL_refuses 598 = .ok (.iload_n 2, 1) := by decide +kernel
theorem dL_refuses_599 : decode cL_refuses 599 = .ok (.iconst 0, 1) := by decide +kernel
theorem dL_refuses_600 : decode cL_refuses 600 = .ok (.iconst 0, 1) := by decide +kernel
theorem dL_refuses_601 : decode cL_refuses 601 = .ok (.invokestatic 393, 3) := by decide +kernel
theorem dL_refuses_604 : decode cL_refuses 604 = .ok (.ldc 28, 2) := by decide +kernel
theorem dL_refuses_606 : decode cL_refuses 606 = .ok (.if_icmp .ne 248, 3) := by decide +kernel
theorem dL_refuses_609 : decode cL_refuses 609 = .ok (.aload_n 0, 1) := by decide +kernel
theorem dL_refuses_610 : decode cL_refuses 610 = .ok (.iload_n 2, 1) := by decide +kernel
theorem dL_refuses_611 : decode cL_refuses 611 = .ok (.invokestatic 400, 3) := by decide +kernel
theorem dL_refuses_614 : decode cL_refuses 614 = .ok (.ldc 28, 2) := by decide +kernel
theorem dL_refuses_616 : decode cL_refuses 616 = .ok (.if_icmp .ne 238, 3) := by decide +kernel
theorem dL_refuses_619 : decode cL_refuses 619 = .ok (.aload_n 0, 1) := by decide +kernel
theorem dL_refuses_620 : decode cL_refuses 620 = .ok (.bipush 21, 2) := by decide +kernel
theorem dL_refuses_622 : decode cL_refuses 622 = .ok (.iload_n 2, 1) := by decide +kernel
theorem dL_refuses_623 : decode cL_refuses 623 = .ok (.iconst 0, 1) := by decide +kernel
theorem dL_refuses_624 : decode cL_refuses 624 = .ok (.iconst 0, 1) := by decide +kernel
theorem dL_refuses_625 : decode cL_refuses 625 = .ok (.invokestatic 393, 3) := by decide +kernel
theorem dL_refuses_628 : decode cL_refuses 628 = .ok (.ldc 28, 2) := by decide +kernel
theorem dL_refuses_630 : decode cL_refuses 630 = .ok (.if_icmp .ne 224, 3) := by decide +kernel
theorem dL_refuses_633 : decode cL_refuses 633 = .ok (.aload_n 0, 1) := by decide +kernel
theorem dL_refuses_634 : decode cL_refuses 634 = .ok (.iload 4, 2) := by decide +kernel
theorem dL_refuses_636 : decode cL_refuses 636 = .ok (.invokestatic 402, 3) := by decide +kernel
theorem dL_refuses_639 : decode cL_refuses 639 = .ok (.ldc 28, 2) := by decide +kernel
theorem dL_refuses_641 : decode cL_refuses 641 = .ok (.if_icmp .ne 213, 3) := by decide +kernel
theorem dL_refuses_644 : decode cL_refuses 644 = .ok (.aload_n 0, 1) := by decide +kernel
theorem dL_refuses_645 : decode cL_refuses 645 = .ok (.bipush 24, 2) := by decide +kernel
theorem dL_refuses_647 : decode cL_refuses 647 = .ok (.iload 4, 2) := by decide +kernel
theorem dL_refuses_649 : decode cL_refuses 649 = .ok (.iconst 0, 1) := by decide +kernel
theorem dL_refuses_650 : decode cL_refuses 650 = .ok (.iconst 0, 1) := by decide +kernel
theorem dL_refuses_651 : decode cL_refuses 651 = .ok (.invokestatic 393, 3) := by decide +kernel
theorem dL_refuses_654 : decode cL_refuses 654 = .ok (.ldc 28, 2) := by decide +kernel
theorem dL_refuses_656 : decode cL_refuses 656 = .ok (.if_icmp .ne 198, 3) := by decide +kernel
theorem dL_refuses_659 : decode cL_refuses 659 = .ok (.aload_n 0, 1) := by decide +kernel
theorem dL_refuses_660 : decode cL_refuses 660 = .ok (.bipush 26, 2) := by decide +kernel
theorem dL_refuses_662 : decode cL_refuses 662 = .ok (.iload 4, 2) := by decide +kernel
theorem dL_refuses_664 : decode cL_refuses 664 = .ok (.iconst 0, 1) := by decide +kernel
theorem dL_refuses_665 : decode cL_refuses 665 = .ok (.iconst 0, 1) := by decide +kernel
theorem dL_refuses_666 : decode cL_refuses 666 = .ok (.invokestatic 393, 3) := by decide +kernel
theorem dL_refuses_669 : decode cL_refuses 669 = .ok (.ldc 28, 2) := by decide +kernel
theorem dL_refuses_671 : decode cL_refuses 671 = .ok (.if_icmp .ne 183, 3) := by decide +kernel
theorem dL_refuses_674 : decode cL_refuses 674 = .ok (.aload_n 0, 1) := by decide +kernel
theorem dL_refuses_675 : decode cL_refuses 675 = .ok (.bipush 28, 2) := by decide +kernel
theorem dL_refuses_677 : decode cL_refuses 677 = .ok (.iload 6, 2) := by decide +kernel
theorem dL_refuses_679 : decode cL_refuses 679 = .ok (.iconst 0, 1) := by decide +kernel
theorem dL_refuses_680 : decode cL_refuses 680 = .ok (.iconst 0, 1) := by decide +kernel
theorem dL_refuses_681 : decode cL_refuses 681 = .ok (.invokestatic 393, 3) := by decide +kernel
theorem dL_refuses_684 : decode cL_refuses 684 = .ok (.ldc 28, 2) := by decide +kernel
theorem dL_refuses_686 : decode cL_refuses 686 = .ok (.if_icmp .ne 168, 3) := by decide +kernel
theorem dL_refuses_689 : decode cL_refuses 689 = .ok (.aload_n 0, 1) := by decide +kernel
theorem dL_refuses_690 : decode cL_refuses 690 = .ok (.bipush 30, 2) := by decide +kernel
theorem dL_refuses_692 : decode cL_refuses 692 = .ok (.iload 6, 2) := by decide +kernel
theorem dL_refuses_694 : decode cL_refuses 694 = .ok (.iconst 0, 1) := by decide +kernel
theorem dL_refuses_695 : decode cL_refuses 695 = .ok (.iconst 0, 1) := by decide +kernel
theorem dL_refuses_696 : decode cL_refuses 696 = .ok (.invokestatic 393, 3) := by decide +kernel
theorem dL_refuses_699 : decode cL_refuses 699 = .ok (.ldc 28, 2) := by decide +kernel
theorem dL_refuses_701 : decode cL_refuses 701 = .ok (.if_icmp .ne 153, 3) := by decide +kernel
theorem dL_refuses_704 : decode cL_refuses 704 = .ok (.aload_n 0, 1) := by decide +kernel
theorem dL_refuses_705 : decode cL_refuses 705 = .ok (.bipush 31, 2) := by decide +kernel
theorem dL_refuses_707 : decode cL_refuses 707 = .ok (.iload_n 3, 1) := by decide +kernel
theorem dL_refuses_708 : decode cL_refuses 708 = .ok (.iconst 0, 1) := by decide +kernel
theorem dL_refuses_709 : decode cL_refuses 709 = .ok (.iconst 0, 1) := by decide +kernel
theorem dL_refuses_710 : decode cL_refuses 710 = .ok (.invokestatic 393, 3) := by decide +kernel
theorem dL_refuses_713 : decode cL_refuses 713 = .ok (.ldc 15, 2) := by decide +kernel
theorem dL_refuses_715 : decode cL_refuses 715 = .ok (.if_icmp .ne 139, 3) := by decide +kernel
theorem dL_refuses_718 : decode cL_refuses 718 = .ok (.aload_n 0, 1) := by decide +kernel
theorem dL_refuses_719 : decode cL_refuses 719 = .ok (.bipush 39, 2) := by decide +kernel
theorem dL_refuses_721 : decode cL_refuses 721 = .ok (.iload_n 3, 1) := by decide +kernel
theorem dL_refuses_722 : decode cL_refuses 722 = .ok (.iconst 0, 1) := by decide +kernel
theorem dL_refuses_723 : decode cL_refuses 723 = .ok (.iconst 0, 1) := by decide +kernel
theorem dL_refuses_724 : decode cL_refuses 724 = .ok (.invokestatic 393, 3) := by decide +kernel
theorem dL_refuses_727 : decode cL_refuses 727 = .ok (.ldc 15, 2) := by decide +kernel
theorem dL_refuses_729 : decode cL_refuses 729 = .ok (.if_icmp .ne 125, 3) := by decide +kernel
theorem dL_refuses_732 : decode cL_refuses 732 = .ok (.aload_n 0, 1) := by decide +kernel
theorem dL_refuses_733 : decode cL_refuses 733 = .ok (.bipush 41, 2) := by decide +kernel
theorem dL_refuses_735 : decode cL_refuses 735 = .ok (.iload_n 2, 1) := by decide +kernel
theorem dL_refuses_736 : decode cL_refuses 736 = .ok (.iload 5, 2) := by decide +kernel
theorem dL_refuses_738 : decode cL_refuses 738 = .ok (.iconst 0, 1) := by decide +kernel
theorem dL_refuses_739 : decode cL_refuses 739 = .ok (.invokestatic 393, 3) := by decide +kernel
theorem dL_refuses_742 : decode cL_refuses 742 = .ok (.ldc 28, 2) := by decide +kernel
theorem dL_refuses_744 : decode cL_refuses 744 = .ok (.if_icmp .ne 110, 3) := by decide +kernel
theorem dL_refuses_747 : decode cL_refuses 747 = .ok (.aload_n 0, 1) := by decide +kernel
theorem dL_refuses_748 : decode cL_refuses 748 = .ok (.bipush 43, 2) := by decide +kernel
theorem dL_refuses_750 : decode cL_refuses 750 = .ok (.iload_n 2, 1) := by decide +kernel
theorem dL_refuses_751 : decode cL_refuses 751 = .ok (.iload 4, 2) := by decide +kernel
theorem dL_refuses_753 : decode cL_refuses 753 = .ok (.iconst 0, 1) := by decide +kernel
theorem dL_refuses_754 : decode cL_refuses 754 = .ok (.invokestatic 393, 3) := by decide +kernel
theorem dL_refuses_757 : decode cL_refuses 757 = .ok (.ldc 28, 2) := by decide +kernel
theorem dL_refuses_759 : decode cL_refuses 759 = .ok (.if_icmp .ne 95, 3) := by decide +kernel
theorem dL_refuses_762 : decode cL_refuses 762 = .ok (.aload_n 0, 1) := by decide +kernel
theorem dL_refuses_763 : decode cL_refuses 763 = .ok (.bipush 44, 2) := by decide +kernel
theorem dL_refuses_765 : decode cL_refuses 765 = .ok (.iload 6, 2) := by decide +kernel
theorem dL_refuses_767 : decode cL_refuses 767 = .ok (.iload 5, 2) := by decide +kernel
theorem dL_refuses_769 : decode cL_refuses 769 = .ok (.iconst 0, 1) := by decide +kernel
theorem dL_refuses_770 : decode cL_refuses 770 = .ok (.invokestatic 393, 3) := by decide +kernel
theorem dL_refuses_773 : decode cL_refuses 773 = .ok (.ldc 28, 2) := by decide +kernel
theorem dL_refuses_775 : decode cL_refuses 775 = .ok (.if_icmp .ne 79, 3) := by decide +kernel
theorem dL_refuses_778 : decode cL_refuses 778 = .ok (.aload_n 0, 1) := by decide +kernel
theorem dL_refuses_779 : decode cL_refuses 779 = .ok (.bipush 45, 2) := by decide +kernel
theorem dL_refuses_781 : decode cL_refuses 781 = .ok (.iload_n 2, 1) := by decide +kernel
theorem dL_refuses_782 : decode cL_refuses 782 = .ok (.iconst 0, 1) := by decide +kernel
theorem dL_refuses_783 : decode cL_refuses 783 = .ok (.iconst 0, 1) := by decide +kernel
theorem dL_refuses_784 : decode cL_refuses 784 = .ok (.invokestatic 393, 3) := by decide +kernel
theorem dL_refuses_787 : decode cL_refuses 787 = .ok (.ldc 28, 2) := by decide +kernel
theorem dL_refuses_789 : decode cL_refuses 789 = .ok (.if_icmp .ne 65, 3) := by decide +kernel
theorem dL_refuses_792 : decode cL_refuses 792 = .ok (.aload_n 0, 1) := by decide +kernel
theorem dL_refuses_793 : decode cL_refuses 793 = .ok (.bipush 47, 2) := by decide +kernel
theorem dL_refuses_795 : decode cL_refuses 795 = .ok (.iload_n 2, 1) := by decide +kernel
theorem dL_refuses_796 : decode cL_refuses 796 = .ok (.sipush 999, 3) := by decide +kernel
theorem dL_refuses_799 : decode cL_refuses 799 = .ok (.iconst 0, 1) := by decide +kernel
theorem dL_refuses_800 : decode cL_refuses 800 = .ok (.invokestatic 393, 3) := by decide +kernel
theorem dL_refuses_803 : decode cL_refuses 803 = .ok (.ldc 28, 2) := by decide +kernel
theorem dL_refuses_805 : decode cL_refuses 805 = .ok (.if_icmp .ne 49, 3) := by decide +kernel
theorem dL_refuses_808 : decode cL_refuses 808 = .ok (.aload_n 0, 1) := by decide +kernel
theorem dL_refuses_809 : decode cL_refuses 809 = .ok (.bipush 49, 2) := by decide +kernel
theorem dL_refuses_811 : decode cL_refuses 811 = .ok (.iload_n 3, 1) := by decide +kernel
theorem dL_refuses_812 : decode cL_refuses 812 = .ok (.iconst 0, 1) := by decide +kernel
theorem dL_refuses_813 : decode cL_refuses 813 = .ok (.iconst 0, 1) := by decide +kernel
theorem dL_refuses_814 : decode cL_refuses 814 = .ok (.invokestatic 393, 3) := by decide +kernel
theorem dL_refuses_817 : decode cL_refuses 817 = .ok (.ldc 15, 2) := by decide +kernel
theorem dL_refuses_819 : decode cL_refuses 819 = .ok (.if_icmp .ne 35, 3) := by decide +kernel
theorem dL_refuses_822 : decode cL_refuses 822 = .ok (.aload_n 0, 1) := by decide +kernel
theorem dL_refuses_823 : decode cL_refuses 823 = .ok (.bipush 50, 2) := by decide +kernel
theorem dL_refuses_825 : decode cL_refuses 825 = .ok (.iconst 1, 1) := by decide +kernel
theorem dL_refuses_826 : decode cL_refuses 826 = .ok (.iconst 0, 1) := by decide +kernel
theorem dL_refuses_827 : decode cL_refuses 827 = .ok (.iconst 0, 1) := by decide +kernel
theorem dL_refuses_828 : decode cL_refuses 828 = .ok (.invokestatic 393, 3) := by decide +kernel
theorem dL_refuses_831 : decode cL_refuses 831 = .ok (.ldc 15, 2) := by decide +kernel
theorem dL_refuses_833 : decode cL_refuses 833 = .ok (.if_icmp .ne 21, 3) := by decide +kernel
theorem dL_refuses_836 : decode cL_refuses 836 = .ok (.aload_n 0, 1) := by decide +kernel
theorem dL_refuses_837 : decode cL_refuses 837 = .ok (.iload_n 3, 1) := by decide +kernel
theorem dL_refuses_838 : decode cL_refuses 838 = .ok (.iconst 5, 1) := by decide +kernel
theorem dL_refuses_839 : decode cL_refuses 839 = .ok (.iconst 5, 1) := by decide +kernel
theorem dL_refuses_840 : decode cL_refuses 840 = .ok (.iload 7, 2) := by decide +kernel
theorem dL_refuses_842 : decode cL_refuses 842 = .ok (.invokestatic 404, 3) := by decide +kernel
theorem dL_refuses_845 : decode cL_refuses 845 = .ok (.ldc 15, 2) := by decide +kernel
theorem dL_refuses_847 : decode cL_refuses 847 = .ok (.if_icmp .ne 7, 3) := by decide +kernel
theorem dL_refuses_850 : decode cL_refuses 850 = .ok (.iconst 1, 1) := by decide +kernel
theorem dL_refuses_851 : decode cL_refuses 851 = .ok (.goto 4, 3) := by decide +kernel
theorem dL_refuses_854 : decode cL_refuses 854 = .ok (.iconst 0, 1) := by decide +kernel
theorem dL_refuses_855 : decode cL_refuses 855 = .ok (.istore 8, 2) := by decide +kernel
theorem dL_refuses_857 : decode cL_refuses 857 = .ok (.aload_n 0, 1) := by decide +kernel
theorem dL_refuses_858 : decode cL_refuses 858 = .ok (.iload 7, 2) := by decide +kernel
theorem dL_refuses_860 : decode cL_refuses 860 = .ok (.invokestatic 402, 3) := by decide +kernel
theorem dL_refuses_863 : decode cL_refuses 863 = .ok (.iconst 1, 1) := by decide +kernel
theorem dL_refuses_864 : decode cL_refuses 864 = .ok (.if_icmp .ne 7, 3) := by decide +kernel
theorem dL_refuses_867 : decode cL_refuses 867 = .ok (.iconst 1, 1) := by decide +kernel
theorem dL_refuses_868 : decode cL_refuses 868 = .ok (.goto 4, 3) := by decide +kernel
theorem dL_refuses_871 : decode cL_refuses 871 = .ok (.iconst 0, 1) := by decide +kernel
theorem dL_refuses_872 : decode cL_refuses 872 = .ok (.istore 9, 2) := by decide +kernel
theorem dL_refuses_874 : decode cL_refuses 874 = .ok (.iload 8, 2) := by decide +kernel
theorem dL_refuses_876 : decode cL_refuses 876 = .ok (.ifCond .eq 150, 3) := by decide +kernel
theorem dL_refuses_879 : decode cL_refuses 879 = .ok (.iload 9, 2) := by decide +kernel
theorem dL_refuses_881 : decode cL_refuses 881 = .ok (.ifCond .eq 21, 3) := by decide +kernel
theorem dL_refuses_884 : decode cL_refuses 884 = .ok (.aload_n 0, 1) := by decide +kernel
theorem dL_refuses_885 : decode cL_refuses 885 = .ok (.bipush 7, 2) := by decide +kernel
theorem dL_refuses_887 : decode cL_refuses 887 = .ok (.iload 7, 2) := by decide +kernel
theorem dL_refuses_889 : decode cL_refuses 889 = .ok (.iconst 0, 1) := by decide +kernel
theorem dL_refuses_890 : decode cL_refuses 890 = .ok (.iconst 0, 1) := by decide +kernel
theorem dL_refuses_891 : decode cL_refuses 891 = .ok (.invokestatic 393, 3) := by decide +kernel
theorem dL_refuses_894 : decode cL_refuses 894 = .ok (.ldc 18, 2) := by decide +kernel
theorem dL_refuses_896 : decode cL_refuses 896 = .ok (.if_icmp .ne 130, 3) := by decide +kernel
theorem dL_refuses_899 : decode cL_refuses 899 = .ok (.goto 33, 3) := by decide +kernel
theorem dL_refuses_902 : decode cL_refuses 902 = .ok (.aload_n 0, 1) := by decide +kernel
theorem dL_refuses_903 : decode cL_refuses 903 = .ok (.bipush 8, 2) := by decide +kernel
theorem dL_refuses_905 : decode cL_refuses 905 = .ok (.iload 7, 2) := by decide +kernel
theorem dL_refuses_907 : decode cL_refuses 907 = .ok (.iconst 0, 1) := by decide +kernel
theorem dL_refuses_908 : decode cL_refuses 908 = .ok (.iconst 0, 1) := by decide +kernel
theorem dL_refuses_909 : decode cL_refuses 909 = .ok (.invokestatic 393, 3) := by decide +kernel
theorem dL_refuses_912 : decode cL_refuses 912 = .ok (.ldc 18, 2) := by decide +kernel
theorem dL_refuses_914 : decode cL_refuses 914 = .ok (.if_icmp .ne 112, 3) := by decide +kernel
theorem dL_refuses_917 : decode cL_refuses 917 = .ok (.aload_n 0, 1) := by decide +kernel
theorem dL_refuses_918 : decode cL_refuses 918 = .ok (.bipush 9, 2) := by decide +kernel
theorem dL_refuses_920 : decode cL_refuses 920 = .ok (.iload 7, 2) := by decide +kernel
theorem dL_refuses_922 : decode cL_refuses 922 = .ok (.iconst 0, 1) := by decide +kernel
theorem dL_refuses_923 : decode cL_refuses 923 = .ok (.iconst 0, 1) := by decide +kernel
theorem dL_refuses_924 : decode cL_refuses 924 = .ok (.invokestatic 393, 3) := by decide +kernel
theorem dL_refuses_927 : decode cL_refuses 927 = .ok (.ldc 18, 2) := by decide +kernel
theorem dL_refuses_929 : decode cL_refuses 929 = .ok (.if_icmp .ne 97, 3) := by decide +kernel
theorem dL_refuses_932 : decode cL_refuses 932 = .ok (.aload_n 0, 1) := by decide +kernel
theorem dL_refuses_933 : decode cL_refuses 933 = .ok (.iload 7, 2) := by decide +kernel
theorem dL_refuses_935 : decode cL_refuses 935 = .ok (.invokestatic 407, 3) := by decide +kernel
theorem dL_refuses_938 : decode cL_refuses 938 = .ok (.ifCond .eq 18, 3) := by decide +kernel
theorem dL_refuses_941 : decode cL_refuses 941 = .ok (.aload_n 0, 1) := by decide +kernel
theorem dL_refuses_942 : decode cL_refuses 942 = .ok (.bipush 9, 2) := by decide +kernel
theorem dL_refuses_944 : decode cL_refuses 944 = .ok (.iload 7, 2) := by decide +kernel
theorem dL_refuses_946 : decode cL_refuses 946 = .ok (.iconst 0, 1) := by decide +kernel
theorem dL_refuses_947 : decode cL_refuses 947 = .ok (.iconst 0, 1) := by decide +kernel
theorem dL_refuses_948 : decode cL_refuses 948 = .ok (.invokestatic 393, 3) := by decide +kernel
theorem dL_refuses_951 : decode cL_refuses 951 = .ok (.ldc 18, 2) := by decide +kernel
theorem dL_refuses_953 : decode cL_refuses 953 = .ok (.if_icmp .ne 73, 3) := by decide +kernel
theorem dL_refuses_956 : decode cL_refuses 956 = .ok (.aload_n 0, 1) := by decide +kernel
theorem dL_refuses_957 : decode cL_refuses 957 = .ok (.iconst 1, 1) := by decide +kernel
theorem dL_refuses_958 : decode cL_refuses 958 = .ok (.iconst 5, 1) := by decide +kernel
theorem dL_refuses_959 : decode cL_refuses 959 = .ok (.iconst 5, 1) := by decide +kernel
theorem dL_refuses_960 : decode cL_refuses 960 = .ok (.iload 7, 2) := by decide +kernel
theorem dL_refuses_962 : decode cL_refuses 962 = .ok (.invokestatic 404, 3) := by decide +kernel
theorem dL_refuses_965 : decode cL_refuses 965 = .ok (.ifCond .eq 17, 3) := by decide +kernel
theorem dL_refuses_968 : decode cL_refuses 968 = .ok (.aload_n 0, 1) := by decide +kernel
theorem dL_refuses_969 : decode cL_refuses 969 = .ok (.iconst 1, 1) := by decide +kernel
theorem dL_refuses_970 : decode cL_refuses 970 = .ok (.iconst 5, 1) := by decide +kernel
theorem dL_refuses_971 : decode cL_refuses 971 = .ok (.iconst 5, 1) := by decide +kernel
theorem dL_refuses_972 : decode cL_refuses 972 = .ok (.iload 7, 2) := by decide +kernel
theorem dL_refuses_974 : decode cL_refuses 974 = .ok (.invokestatic 390, 3) := by decide +kernel
theorem dL_refuses_977 : decode cL_refuses 977 = .ok (.ldc 18, 2) := by decide +kernel
theorem dL_refuses_979 : decode cL_refuses 979 = .ok (.if_icmp .ne 47, 3) := by decide +kernel
theorem dL_refuses_982 : decode cL_refuses 982 = .ok (.aload_n 0, 1) := by decide +kernel
theorem dL_refuses_983 : decode cL_refuses 983 = .ok (.invokevirtual 410, 3) := by decide +kernel
theorem dL_refuses_986 : decode cL_refuses 986 = .ok (.ifCond .eq 36, 3) := by decide +kernel
theorem dL_refuses_989 : decode cL_refuses 989 = .ok (.aload_n 0, 1) := by decide +kernel
theorem dL_refuses_990 : decode cL_refuses 990 = .ok (.bipush 11, 2) := by decide +kernel
theorem dL_refuses_992 : decode cL_refuses 992 = .ok (.aload_n 0, 1) := by decide +kernel
theorem dL_refuses_993 : decode cL_refuses 993 = .ok (.invokevirtual 410, 3) := by decide +kernel
theorem dL_refuses_996 : decode cL_refuses 996 = .ok (.ldc_w 413, 3) := by decide +kernel
theorem dL_refuses_999 : decode cL_refuses 999 = .ok (.if_icmp .le 7, 3) := by decide +kernel
theorem dL_refuses_1002 : decode cL_refuses 1002 = .ok (.iconst 0, 1) := by decide +kernel
theorem dL_refuses_1003 : decode cL_refuses 1003 = .ok (.goto 9, 3) := by decide +kernel
theorem dL_refuses_1006 : decode cL_refuses 1006 = .ok (.aload_n 0, 1) := by decide +kernel
theorem dL_refuses_1007 : decode cL_refuses 1007 = .ok (.invokevirtual 410, 3) := by decide +kernel
theorem dL_refuses_1010 : decode cL_refuses 1010 = .ok (.iconst 1, 1) := by decide +kernel
theorem dL_refuses_1011 : decode cL_refuses 1011 = .ok (.isub, 1) := by decide +kernel
theorem dL_refuses_1012 : decode cL_refuses 1012 = .ok (.iconst 0, 1) := by decide +kernel
theorem dL_refuses_1013 : decode cL_refuses 1013 = .ok (.iconst 0, 1) := by decide +kernel
theorem dL_refuses_1014 : decode cL_refuses 1014 = .ok (.invokestatic 393, 3) := by decide +kernel
theorem dL_refuses_1017 : decode cL_refuses 1017 = .ok (.ldc 18, 2) := by decide +kernel
theorem dL_refuses_1019 : decode cL_refuses 1019 = .ok (.if_icmp .ne 7, 3) := by decide +kernel
theorem dL_refuses_1022 : decode cL_refuses 1022 = .ok (.iconst 1, 1) := by decide +kernel
theorem dL_refuses_1023 : decode cL_refuses 1023 = .ok (.goto 4, 3) := by decide +kernel
theorem dL_refuses_1026 : decode cL_refuses 1026 = .ok (.iconst 0, 1) := by decide +kernel
theorem dL_refuses_1027 : decode cL_refuses 1027 = .ok (.istore 8, 2) := by decide +kernel
theorem dL_refuses_1029 : decode cL_refuses 1029 = .ok (.aload_n 0, 1) := by decide +kernel
theorem dL_refuses_1030 : decode cL_refuses 1030 = .ok (.invokevirtual 397, 3) := by decide +kernel
theorem dL_refuses_1033 : decode cL_refuses 1033 = .ok (.ifCond .eq 8, 3) := by decide +kernel
theorem dL_refuses_1036 : decode cL_refuses 1036 = .ok (.iload 8, 2) := by decide +kernel
theorem dL_refuses_1038 : decode cL_refuses 1038 = .ok (.ifCond .ne 6, 3) := by decide +kernel
theorem dL_refuses_1041 : decode cL_refuses 1041 = .ok (.iload 8, 2) := by decide +kernel
theorem dL_refuses_1043 : decode cL_refuses 1043 = .ok (.ireturn, 1) := by decide +kernel
theorem dL_refuses_1044 : decode cL_refuses 1044 = .ok (.aload_n 0, 1) := by decide +kernel
theorem dL_refuses_1045 : decode cL_refuses 1045 = .ok (.bipush 15, 2) := by decide +kernel
theorem dL_refuses_1047 : decode cL_refuses 1047 = .ok (.iload_n 1, 1) := by decide +kernel
theorem dL_refuses_1048 : decode cL_refuses 1048 = .ok (.bipush 8, 2) := by decide +kernel
theorem dL_refuses_1050 : decode cL_refuses 1050 = .ok (.idiv, 1) := by decide +kernel
theorem dL_refuses_1051 : decode cL_refuses 1051 = .ok (.aload_n 0, 1) := by decide +kernel
theorem dL_refuses_1052 : decode cL_refuses 1052 = .ok (.invokevirtual 397, 3) := by decide +kernel
theorem dL_refuses_1055 : decode cL_refuses 1055 = .ok (.irem, 1) := by decide +kernel
theorem dL_refuses_1056 : decode cL_refuses 1056 = .ok (.iconst 0, 1) := by decide +kernel
theorem dL_refuses_1057 : decode cL_refuses 1057 = .ok (.iconst 0, 1) := by decide +kernel
theorem dL_refuses_1058 : decode cL_refuses 1058 = .ok (.invokestatic 393, 3) := by decide +kernel
theorem dL_refuses_1061 : decode cL_refuses 1061 = .ok (.istore 10, 2) := by decide +kernel
theorem dL_refuses_1063 : decode cL_refuses 1063 = .ok (.iconst 1, 1) := by decide +kernel
theorem dL_refuses_1064 : decode cL_refuses 1064 = .ok (.iload_n 1, 1) := by decide +kernel
theorem dL_refuses_1065 : decode cL_refuses 1065 = .ok (.sipush 600, 3) := by decide +kernel
theorem dL_refuses_1068 : decode cL_refuses 1068 = .ok (.irem, 1) := by decide +kernel
theorem dL_refuses_1069 : decode cL_refuses 1069 = .ok (.iadd, 1) := by decide +kernel
theorem dL_refuses_1070 : decode cL_refuses 1070 = .ok (.istore 11, 2) := by decide +kernel
theorem dL_refuses_1072 : decode cL_refuses 1072 = .ok (.aload_n 0, 1) := by decide +kernel
theorem dL_refuses_1073 : decode cL_refuses 1073 = .ok (.bipush 19, 2) := by decide +kernel
theorem dL_refuses_1075 : decode cL_refuses 1075 = .ok (.iload 10, 2) := by decide +kernel
theorem dL_refuses_1077 : decode cL_refuses 1077 = .ok (.iconst 0, 1) := by decide +kernel
theorem dL_refuses_1078 : decode cL_refuses 1078 = .ok (.iconst 0, 1) := by decide +kernel
theorem dL_refuses_1079 : decode cL_refuses 1079 = .ok (.invokestatic 393, 3) := by decide +kernel
theorem dL_refuses_1082 : decode cL_refuses 1082 = .ok (.istore 12, 2) := by decide +kernel
theorem dL_refuses_1084 : decode cL_refuses 1084 = .ok (.aload_n 0, 1) := by decide +kernel
theorem dL_refuses_1085 : decode cL_refuses 1085 = .ok (.iconst 0, 1) := by decide +kernel
theorem dL_refuses_1086 : decode cL_refuses 1086 = .ok (.iload 10, 2) := by decide +kernel
theorem dL_refuses_1088 : decode cL_refuses 1088 = .ok (.iload 5, 2) := by decide +kernel
theorem dL_refuses_1090 : decode cL_refuses 1090 = .ok (.iconst 0, 1) := by decide +kernel
theorem dL_refuses_1091 : decode cL_refuses 1091 = .ok (.invokestatic 393, 3) := by decide +kernel
theorem dL_refuses_1094 : decode cL_refuses 1094 = .ok (.ldc 15, 2) := by decide +kernel
theorem dL_refuses_1096 : decode cL_refuses 1096 = .ok (.if_icmp .ne 259, 3) := by decide +kernel
theorem dL_refuses_1099 : decode cL_refuses 1099 = .ok (.aload_n 0, 1) := by decide +kernel
theorem dL_refuses_1100 : decode cL_refuses 1100 = .ok (.iconst 1, 1) := by decide +kernel
theorem dL_refuses_1101 : decode cL_refuses 1101 = .ok (.iload 10, 2) := by decide +kernel
theorem dL_refuses_1103 : decode cL_refuses 1103 = .ok (.iload 5, 2) := by decide +kernel
theorem dL_refuses_1105 : decode cL_refuses 1105 = .ok (.iconst 0, 1) := by decide +kernel
theorem dL_refuses_1106 : decode cL_refuses 1106 = .ok (.invokestatic 393, 3) := by decide +kernel
theorem dL_refuses_1109 : decode cL_refuses 1109 = .ok (.ldc 15, 2) := by decide +kernel
theorem dL_refuses_1111 : decode cL_refuses 1111 = .ok (.if_icmp .ne 244, 3) := by decide +kernel
theorem dL_refuses_1114 : decode cL_refuses 1114 = .ok (.aload_n 0, 1) := by decide +kernel
theorem dL_refuses_1115 : decode cL_refuses 1115 = .ok (.iconst 3, 1) := by decide +kernel
theorem dL_refuses_1116 : decode cL_refuses 1116 = .ok (.iload 10, 2) := by decide +kernel
theorem dL_refuses_1118 : decode cL_refuses 1118 = .ok (.iload 4, 2) := by decide +kernel
theorem dL_refuses_1120 : decode cL_refuses 1120 = .ok (.iconst 0, 1) := by decide +kernel
theorem dL_refuses_1121 : decode cL_refuses 1121 = .ok (.invokestatic 393, 3) := by decide +kernel
theorem dL_refuses_1124 : decode cL_refuses 1124 = .ok (.ldc 28, 2) := by decide +kernel
theorem dL_refuses_1126 : decode cL_refuses 1126 = .ok (.if_icmp .ne 229, 3) := by decide +kernel
theorem dL_refuses_1129 : decode cL_refuses 1129 = .ok (.aload_n 0, 1) := by decide +kernel
theorem dL_refuses_1130 : decode cL_refuses 1130 = .ok (.iconst 4, 1) := by decide +kernel
theorem dL_refuses_1131 : decode cL_refuses 1131 = .ok (.iload 10, 2) := by decide +kernel
theorem dL_refuses_1133 : decode cL_refuses 1133 = .ok (.aload_n 0, 1) := by decide +kernel
theorem dL_refuses_1134 : decode cL_refuses 1134 = .ok (.bipush 17, 2) := by decide +kernel
theorem dL_refuses_1136 : decode cL_refuses 1136 = .ok (.iload 10, 2) := by decide +kernel
theorem dL_refuses_1138 : decode cL_refuses 1138 = .ok (.iconst 0, 1) := by decide +kernel
theorem dL_refuses_1139 : decode cL_refuses 1139 = .ok (.iconst 0, 1) := by decide +kernel
theorem dL_refuses_1140 : decode cL_refuses 1140 = .ok (.invokestatic 393, 3) := by decide +kernel
theorem dL_refuses_1143 : decode cL_refuses 1143 = .ok (.iconst 0, 1) := by decide +kernel
theorem dL_refuses_1144 : decode cL_refuses 1144 = .ok (.invokestatic 393, 3) := by decide +kernel
theorem dL_refuses_1147 : decode cL_refuses 1147 = .ok (.ldc 15, 2) := by decide +kernel
theorem dL_refuses_1149 : decode cL_refuses 1149 = .ok (.if_icmp .ne 206, 3) := by decide +kernel
theorem dL_refuses_1152 : decode cL_refuses 1152 = .ok (.aload_n 0, 1) := by decide +kernel
theorem dL_refuses_1153 : decode cL_refuses 1153 = .ok (.iconst 5, 1) := by decide +kernel
theorem dL_refuses_1154 : decode cL_refuses 1154 = .ok (.iload 10, 2) := by decide +kernel
theorem dL_refuses_1156 : decode cL_refuses 1156 = .ok (.iload 10, 2) := by decide +kernel
theorem dL_refuses_1158 : decode cL_refuses 1158 = .ok (.iconst 0, 1) := by decide +kernel
theorem dL_refuses_1159 : decode cL_refuses 1159 = .ok (.invokestatic 393, 3) := by decide +kernel
theorem dL_refuses_1162 : decode cL_refuses 1162 = .ok (.ldc 15, 2) := by decide +kernel
theorem dL_refuses_1164 : decode cL_refuses 1164 = .ok (.if_icmp .ne 191, 3) := by decide +kernel
theorem dL_refuses_1167 : decode cL_refuses 1167 = .ok (.aload_n 0, 1) := by decide +kernel
theorem dL_refuses_1168 : decode cL_refuses 1168 = .ok (.bipush 6, 2) := by decide +kernel
theorem dL_refuses_1170 : decode cL_refuses 1170 = .ok (.iload 10, 2) := by decide +kernel
theorem dL_refuses_1172 : decode cL_refuses 1172 = .ok (.aload_n 0, 1) := by decide +kernel
theorem dL_refuses_1173 : decode cL_refuses 1173 = .ok (.bipush 17, 2) := by decide +kernel
theorem dL_refuses_1175 : decode cL_refuses 1175 = .ok (.iload 10, 2) := by decide +kernel
theorem dL_refuses_1177 : decode cL_refuses 1177 = .ok (.iconst 0, 1) := by decide +kernel
theorem dL_refuses_1178 : decode cL_refuses 1178 = .ok (.iconst 0, 1) := by decide +kernel
theorem dL_refuses_1179 : decode cL_refuses 1179 = .ok (.invokestatic 393, 3) := by decide +kernel
theorem dL_refuses_1182 : decode cL_refuses 1182 = .ok (.iconst 1, 1) := by decide +kernel
theorem dL_refuses_1183 : decode cL_refuses 1183 = .ok (.iadd, 1) := by decide +kernel
theorem dL_refuses_1184 : decode cL_refuses 1184 = .ok (.iconst 0, 1) := by decide +kernel
theorem dL_refuses_1185 : decode cL_refuses 1185 = .ok (.invokestatic 393, 3) := by decide +kernel
theorem dL_refuses_1188 : decode cL_refuses 1188 = .ok (.ldc 15, 2) := by decide +kernel
theorem dL_refuses_1190 : decode cL_refuses 1190 = .ok (.if_icmp .ne 165, 3) := by decide +kernel
theorem dL_refuses_1193 : decode cL_refuses 1193 = .ok (.aload_n 0, 1) := by decide +kernel
theorem dL_refuses_1194 : decode cL_refuses 1194 = .ok (.bipush 21, 2) := by decide +kernel
theorem dL_refuses_1196 : decode cL_refuses 1196 = .ok (.iload 10, 2) := by decide +kernel
theorem dL_refuses_1198 : decode cL_refuses 1198 = .ok (.iconst 0, 1) := by decide +kernel
theorem dL_refuses_1199 : decode cL_refuses 1199 = .ok (.iconst 0, 1) := by decide +kernel
theorem dL_refuses_1200 : decode cL_refuses 1200 = .ok (.invokestatic 393, 3) := by decide +kernel
theorem dL_refuses_1203 : decode cL_refuses 1203 = .ok (.ldc 15, 2) := by decide +kernel
theorem dL_refuses_1205 : decode cL_refuses 1205 = .ok (.if_icmp .ne 150, 3) := by decide +kernel
theorem dL_refuses_1208 : decode cL_refuses 1208 = .ok (.aload_n 0, 1) := by decide +kernel
theorem dL_refuses_1209 : decode cL_refuses 1209 = .ok (.bipush 47, 2) := by decide +kernel
theorem dL_refuses_1211 : decode cL_refuses 1211 = .ok (.iload 10, 2) := by decide +kernel
theorem dL_refuses_1213 : decode cL_refuses 1213 = .ok (.sipush 366, 3) := by decide +kernel
theorem dL_refuses_1216 : decode cL_refuses 1216 = .ok (.iconst 0, 1) := by decide +kernel
theorem dL_refuses_1217 : decode cL_refuses 1217 = .ok (.invokestatic 393, 3) := by decide +kernel
theorem dL_refuses_1220 : decode cL_refuses 1220 = .ok (.ldc 15, 2) := by decide +kernel
theorem dL_refuses_1222 : decode cL_refuses 1222 = .ok (.if_icmp .ne 133, 3) := by decide +kernel
theorem dL_refuses_1225 : decode cL_refuses 1225 = .ok (.aload_n 0, 1) := by decide +kernel
theorem dL_refuses_1226 : decode cL_refuses 1226 = .ok (.iconst 3, 1) := by decide +kernel
theorem dL_refuses_1227 : decode cL_refuses 1227 = .ok (.iload 10, 2) := by decide +kernel
theorem dL_refuses_1229 : decode cL_refuses 1229 = .ok (.iload 12, 2) := by decide +kernel
theorem dL_refuses_1231 : decode cL_refuses 1231 = .ok (.iconst 0, 1) := by decide +kernel
theorem dL_refuses_1232 : decode cL_refuses 1232 = .ok (.invokestatic 393, 3) := by decide +kernel
theorem dL_refuses_1235 : decode cL_refuses 1235 = .ok (.ldc 18, 2) := by decide +kernel
theorem dL_refuses_1237 : decode cL_refuses 1237 = .ok (.if_icmp .ne 118, 3) := by decide +kernel
theorem dL_refuses_1240 : decode cL_refuses 1240 = .ok (.aload_n 0, 1) := by decide +kernel
theorem dL_refuses_1241 : decode cL_refuses 1241 = .ok (.iload 12, 2) := by decide +kernel
theorem dL_refuses_1243 : decode cL_refuses 1243 = .ok (.invokestatic 402, 3) := by decide +kernel
theorem dL_refuses_1246 : decode cL_refuses 1246 = .ok (.ifCond .eq 18, 3) := by decide +kernel
theorem dL_refuses_1249 : decode cL_refuses 1249 = .ok (.aload_n 0, 1) := by decide +kernel
theorem dL_refuses_1250 : decode cL_refuses 1250 = .ok (.bipush 6, 2) := by decide +kernel
theorem dL_refuses_1252 : decode cL_refuses 1252 = .ok (.iload 10, 2) := by decide +kernel
theorem dL_refuses_1254 : decode cL_refuses 1254 = .ok (.iconst 0, 1) := by decide +kernel
theorem dL_refuses_1255 : decode cL_refuses 1255 = .ok (.iconst 0, 1) := by decide +kernel
theorem dL_refuses_1256 : decode cL_refuses 1256 = .ok (.invokestatic 393, 3) := by decide +kernel
theorem dL_refuses_1259 : decode cL_refuses 1259 = .ok (.ldc 18, 2) := by decide +kernel
theorem dL_refuses_1261 : decode cL_refuses 1261 = .ok (.if_icmp .ne 94, 3) := by decide +kernel
theorem dL_refuses_1264 : decode cL_refuses 1264 = .ok (.aload_n 0, 1) := by decide +kernel
theorem dL_refuses_1265 : decode cL_refuses 1265 = .ok (.bipush 41, 2) := by decide +kernel
theorem dL_refuses_1267 : decode cL_refuses 1267 = .ok (.iload 10, 2) := by decide +kernel
theorem dL_refuses_1269 : decode cL_refuses 1269 = .ok (.iload 11, 2) := by decide +kernel
theorem dL_refuses_1271 : decode cL_refuses 1271 = .ok (.iconst 0, 1) := by decide +kernel
theorem dL_refuses_1272 : decode cL_refuses 1272 = .ok (.invokestatic 393, 3) := by decide +kernel
theorem dL_refuses_1275 : decode cL_refuses 1275 = .ok (.ifCond .eq 18, 3) := by decide +kernel
theorem dL_refuses_1278 : decode cL_refuses 1278 = .ok (.aload_n 0, 1) := by decide +kernel
theorem dL_refuses_1279 : decode cL_refuses 1279 = .ok (.iconst 0, 1) := by decide +kernel
theorem dL_refuses_1280 : decode cL_refuses 1280 = .ok (.iload 10, 2) := by decide +kernel
theorem dL_refuses_1282 : decode cL_refuses 1282 = .ok (.iload 11, 2) := by decide +kernel
theorem dL_refuses_1284 : decode cL_refuses 1284 = .ok (.iconst 0, 1) := by decide +kernel
theorem dL_refuses_1285 : decode cL_refuses 1285 = .ok (.invokestatic 393, 3) := by decide +kernel
theorem dL_refuses_1288 : decode cL_refuses 1288 = .ok (.ldc 18, 2) := by decide +kernel
theorem dL_refuses_1290 : decode cL_refuses 1290 = .ok (.if_icmp .ne 65, 3) := by decide +kernel
theorem dL_refuses_1293 : decode cL_refuses 1293 = .ok (.aload_n 0, 1) := by decide +kernel
theorem dL_refuses_1294 : decode cL_refuses 1294 = .ok (.bipush 42, 2) := by decide +kernel
theorem dL_refuses_1296 : decode cL_refuses 1296 = .ok (.iload 10, 2) := by decide +kernel
theorem dL_refuses_1298 : decode cL_refuses 1298 = .ok (.iload 11, 2) := by decide +kernel
theorem dL_refuses_1300 : decode cL_refuses 1300 = .ok (.iconst 0, 1) := by decide +kernel
theorem dL_refuses_1301 : decode cL_refuses 1301 = .ok (.invokestatic 393, 3) := by decide +kernel
theorem dL_refuses_1304 : decode cL_refuses 1304 = .ok (.ifCond .eq 18, 3) := by decide +kernel
theorem dL_refuses_1307 : decode cL_refuses 1307 = .ok (.aload_n 0, 1) := by decide +kernel
theorem dL_refuses_1308 : decode cL_refuses 1308 = .ok (.iconst 1, 1) := by decide +kernel
theorem dL_refuses_1309 : decode cL_refuses 1309 = .ok (.iload 10, 2) := by decide +kernel
theorem dL_refuses_1311 : decode cL_refuses 1311 = .ok (.iload 11, 2) := by decide +kernel
theorem dL_refuses_1313 : decode cL_refuses 1313 = .ok (.iconst 0, 1) := by decide +kernel
theorem dL_refuses_1314 : decode cL_refuses 1314 = .ok (.invokestatic 393, 3) := by decide +kernel
theorem dL_refuses_1317 : decode cL_refuses 1317 = .ok (.ldc 18, 2) := by decide +kernel
theorem dL_refuses_1319 : decode cL_refuses 1319 = .ok (.if_icmp .ne 36, 3) := by decide +kernel
theorem dL_refuses_1322 : decode cL_refuses 1322 = .ok (.aload_n 0, 1) := by decide +kernel
theorem dL_refuses_1323 : decode cL_refuses 1323 = .ok (.bipush 43, 2) := by decide +kernel
theorem dL_refuses_1325 : decode cL_refuses 1325 = .ok (.iload 10, 2) := by decide +kernel
theorem dL_refuses_1327 : decode cL_refuses 1327 = .ok (.iload 7, 2) := by decide +kernel
theorem dL_refuses_1329 : decode cL_refuses 1329 = .ok (.iconst 0, 1) := by decide +kernel
theorem dL_refuses_1330 : decode cL_refuses 1330 = .ok (.invokestatic 393, 3) := by decide +kernel
theorem dL_refuses_1333 : decode cL_refuses 1333 = .ok (.ifCond .eq 18, 3) := by decide +kernel
theorem dL_refuses_1336 : decode cL_refuses 1336 = .ok (.aload_n 0, 1) := by decide +kernel
theorem dL_refuses_1337 : decode cL_refuses 1337 = .ok (.iconst 3, 1) := by decide +kernel
theorem dL_refuses_1338 : decode cL_refuses 1338 = .ok (.iload 10, 2) := by decide +kernel
theorem dL_refuses_1340 : decode cL_refuses 1340 = .ok (.iload 7, 2) := by decide +kernel
theorem dL_refuses_1342 : decode cL_refuses 1342 = .ok (.iconst 0, 1) := by decide +kernel
theorem dL_refuses_1343 : decode cL_refuses 1343 = .ok (.invokestatic 393, 3) := by decide +kernel
theorem dL_refuses_1346 : decode cL_refuses 1346 = .ok (.ldc 18, 2) := by decide +kernel
theorem dL_refuses_1348 : decode cL_refuses 1348 = .ok (.if_icmp .ne 7, 3) := by decide +kernel
theorem dL_refuses_1351 : decode cL_refuses 1351 = .ok (.iconst 1, 1) := by decide +kernel
theorem dL_refuses_1352 : decode cL_refuses 1352 = .ok (.goto 4, 3) := by decide +kernel
theorem dL_refuses_1355 : decode cL_refuses 1355 = .ok (.iconst 0, 1) := by decide +kernel
theorem dL_refuses_1356 : decode cL_refuses 1356 = .ok (.ireturn, 1) := by decide +kernel
def w_L_refuses_J1322 (o : Bool) (Q9 : Int32 → Gh → Prop) (x_6 : Int32) (r_26 : Int32) (m_77 : Gh) : Prop :=
  m_77.2 ≤ 2400 ∧ ∀ r_78 : Int32, r_78 = y_tryWhyMove r_26 x_6 (m_77.1 o) → (((r_78 = 0 → Q9 1 m_77) ∧
  (¬ r_78 = 0 → m_77.2 + 1 ≤ 2400 ∧ ∀ r_81 : Int32, r_81 = (z_tryMove r_26 x_6 (m_77.1 o)).1 → ∀ g_83 : Gh, g_83 = gz m_77 o (z_tryMove r_26 x_6 (m_77.1 o)).2 → GI g_83 → (((¬ r_81 = -9999003 → Q9 0 g_83) ∧
  (r_81 = -9999003 → Q9 1 g_83))))))
def w_L_refuses_J1293 (o : Bool) (Q9 : Int32 → Gh → Prop) (x_6 : Int32) (r_26 : Int32) (x_28 : Int32) (m_74 : Gh) : Prop :=
  m_74.2 ≤ 2400 ∧ ∀ r_75 : Int32, r_75 = y_tryWhySend r_26 x_28 (m_74.1 o) → (((r_75 = 0 → w_L_refuses_J1322 o Q9 x_6 r_26 m_74) ∧
  (¬ r_75 = 0 → m_74.2 + 1 ≤ 2400 ∧ ∀ r_86 : Int32, r_86 = (z_trySend r_26 x_28 (m_74.1 o)).1 → ∀ g_88 : Gh, g_88 = gz m_74 o (z_trySend r_26 x_28 (m_74.1 o)).2 → GI g_88 → (((¬ r_86 = -9999003 → Q9 0 g_88) ∧
  (r_86 = -9999003 → w_L_refuses_J1322 o Q9 x_6 r_26 g_88))))))
def w_L_refuses_J1264 (o : Bool) (Q9 : Int32 → Gh → Prop) (x_6 : Int32) (r_26 : Int32) (x_28 : Int32) (m_71 : Gh) : Prop :=
  m_71.2 ≤ 2400 ∧ ∀ r_72 : Int32, r_72 = y_tryWhyOut r_26 x_28 (m_71.1 o) → (((r_72 = 0 → w_L_refuses_J1293 o Q9 x_6 r_26 x_28 m_71) ∧
  (¬ r_72 = 0 → m_71.2 + 1 ≤ 2400 ∧ ∀ r_91 : Int32, r_91 = (z_tryWithdraw r_26 x_28 (m_71.1 o)).1 → ∀ g_93 : Gh, g_93 = gz m_71 o (z_tryWithdraw r_26 x_28 (m_71.1 o)).2 → GI g_93 → (((¬ r_91 = -9999003 → Q9 0 g_93) ∧
  (r_91 = -9999003 → w_L_refuses_J1293 o Q9 x_6 r_26 x_28 g_93))))))
def w_L_refuses_J1027 (o : Bool) (p1 : Int32) (Q9 : Int32 → Gh → Prop) (y_3 : Int32) (y_4 : Int32) (x_6 : Int32) (y_16 : Int32) (m_17 : Gh) : Prop :=
  m_17.2 ≤ 2400 ∧ ∀ r_18 : Int32, r_18 = (v_entries (m_17.1 o)) → (((r_18 = 0 → isB y_16 ∧ Q9 y_16 m_17) ∧
  (¬ r_18 = 0 → ((¬ y_16 = 0 → m_17.2 ≤ 2400 ∧ ∀ r_23 : Int32, r_23 = (v_entries (m_17.1 o)) → (¬ r_23 = 0 ∧ (m_17.2 ≤ 2400 ∧ ∀ r_26 : Int32, r_26 = y_tryAt ((p1 / 8) - (p1 / 8) / r_23 * r_23) (m_17.1 o) → (∀ x_28 : Int32, x_28 = (1 + (p1 - p1 / 600 * 600)) → (m_17.2 ≤ 2400 ∧ ∀ r_29 : Int32, r_29 = y_tryChamber r_26 (m_17.1 o) → (m_17.2 + 1 ≤ 2400 ∧ ∀ r_31 : Int32, r_31 = (z_tryWithdraw r_26 y_4 (m_17.1 o)).1 → ∀ g_33 : Gh, g_33 = gz m_17 o (z_tryWithdraw r_26 y_4 (m_17.1 o)).2 → GI g_33 → (((¬ r_31 = -9999002 → Q9 0 g_33) ∧
  (r_31 = -9999002 → g_33.2 + 1 ≤ 2400 ∧ ∀ r_35 : Int32, r_35 = (z_trySend r_26 y_4 (g_33.1 o)).1 → ∀ g_37 : Gh, g_37 = gz g_33 o (z_trySend r_26 y_4 (g_33.1 o)).2 → GI g_37 → (((¬ r_35 = -9999002 → Q9 0 g_37) ∧
  (r_35 = -9999002 → g_37.2 + 1 ≤ 2400 ∧ ∀ r_39 : Int32, r_39 = (z_tryMove r_26 y_3 (g_37.1 o)).1 → ∀ g_41 : Gh, g_41 = gz g_37 o (z_tryMove r_26 y_3 (g_37.1 o)).2 → GI g_41 → (((¬ r_39 = -9999001 → Q9 0 g_41) ∧
  (r_39 = -9999001 → g_41.2 ≤ 2400 ∧ ∀ r_43 : Int32, r_43 = y_tryWeight r_26 (g_41.1 o) → (g_41.2 + 1 ≤ 2400 ∧ ∀ r_45 : Int32, r_45 = (z_trySplit r_26 r_43 (g_41.1 o)).1 → ∀ g_47 : Gh, g_47 = gz g_41 o (z_trySplit r_26 r_43 (g_41.1 o)).2 → GI g_47 → (((¬ r_45 = -9999002 → Q9 0 g_47) ∧
  (r_45 = -9999002 → g_47.2 + 1 ≤ 2400 ∧ ∀ r_49 : Int32, r_49 = (z_tryMerge r_26 r_26 (g_47.1 o)).1 → ∀ g_51 : Gh, g_51 = gz g_47 o (z_tryMerge r_26 r_26 (g_47.1 o)).2 → GI g_51 → (((¬ r_49 = -9999002 → Q9 0 g_51) ∧
  (r_49 = -9999002 → g_51.2 ≤ 2400 ∧ ∀ r_53 : Int32, r_53 = y_tryWeight r_26 (g_51.1 o) → (g_51.2 + 1 ≤ 2400 ∧ ∀ r_55 : Int32, r_55 = (z_tryWeigh r_26 (r_53 + 1) (g_51.1 o)).1 → ∀ g_57 : Gh, g_57 = gz g_51 o (z_tryWeigh r_26 (r_53 + 1) (g_51.1 o)).2 → GI g_57 → (((¬ r_55 = -9999002 → Q9 0 g_57) ∧
  (r_55 = -9999002 → g_57.2 ≤ 2400 ∧ ∀ r_59 : Int32, r_59 = y_tryPart r_26 0 (g_57.1 o) → (((¬ r_59 = -9999002 → Q9 0 g_57) ∧
  (r_59 = -9999002 → g_57.2 ≤ 2400 ∧ ∀ r_62 : Int32, r_62 = y_tryLater r_26 366 (g_57.1 o) → (((¬ r_62 = -9999002 → Q9 0 g_57) ∧
  (r_62 = -9999002 → g_57.2 + 1 ≤ 2400 ∧ ∀ r_65 : Int32, r_65 = (z_tryMove r_26 r_29 (g_57.1 o)).1 → ∀ g_67 : Gh, g_67 = gz g_57 o (z_tryMove r_26 r_29 (g_57.1 o)).2 → GI g_67 → (((¬ r_65 = -9999003 → Q9 0 g_67) ∧
  (r_65 = -9999003 → g_67.2 ≤ 2400 ∧ ∀ r_69 : Int32, r_69 = y_isLocked r_29 (g_67.1 o) → (((r_69 = 0 → w_L_refuses_J1264 o Q9 x_6 r_26 x_28 g_67) ∧
  (¬ r_69 = 0 → g_67.2 + 1 ≤ 2400 ∧ ∀ r_96 : Int32, r_96 = (z_tryWeigh r_26 0 (g_67.1 o)).1 → ∀ g_98 : Gh, g_98 = gz g_67 o (z_tryWeigh r_26 0 (g_67.1 o)).2 → GI g_98 → (((¬ r_96 = -9999003 → Q9 0 g_98) ∧
  (r_96 = -9999003 → w_L_refuses_J1264 o Q9 x_6 r_26 x_28 g_98))))))))))))))))))))))))))))))))))))))))) ∧
  (y_16 = 0 → isB y_16 ∧ Q9 y_16 m_17)))))
def w_L_refuses_J1026 (o : Bool) (p1 : Int32) (Q9 : Int32 → Gh → Prop) (y_3 : Int32) (y_4 : Int32) (x_6 : Int32) (m_101 : Gh) : Prop :=
  w_L_refuses_J1027 o p1 Q9 y_3 y_4 x_6 0 m_101
def w_L_refuses_J1022 (o : Bool) (p1 : Int32) (Q9 : Int32 → Gh → Prop) (y_3 : Int32) (y_4 : Int32) (x_6 : Int32) (m_112 : Gh) : Prop :=
  w_L_refuses_J1027 o p1 Q9 y_3 y_4 x_6 1 m_112
def w_L_refuses_J1012 (o : Bool) (p1 : Int32) (Q9 : Int32 → Gh → Prop) (y_3 : Int32) (y_4 : Int32) (x_6 : Int32) (m_109 : Gh) (y_116 : Int32) : Prop :=
  m_109.2 + 1 ≤ 2400 ∧ ∀ r_117 : Int32, r_117 = (z_trySetBond y_116 (m_109.1 o)).1 → ∀ g_119 : Gh, g_119 = gz m_109 o (z_trySetBond y_116 (m_109.1 o)).2 → GI g_119 → (((¬ r_117 = -9999003 → w_L_refuses_J1026 o p1 Q9 y_3 y_4 x_6 g_119) ∧
  (r_117 = -9999003 → w_L_refuses_J1022 o p1 Q9 y_3 y_4 x_6 g_119)))
def w_L_refuses_J982 (o : Bool) (p1 : Int32) (Q9 : Int32 → Gh → Prop) (y_3 : Int32) (y_4 : Int32) (x_6 : Int32) (m_109 : Gh) : Prop :=
  m_109.2 ≤ 2400 ∧ ∀ r_110 : Int32, r_110 = (v_dutyAtStake (m_109.1 o)) → (((r_110 = 0 → w_L_refuses_J1022 o p1 Q9 y_3 y_4 x_6 m_109) ∧
  (¬ r_110 = 0 → m_109.2 ≤ 2400 ∧ ∀ r_114 : Int32, r_114 = (v_dutyAtStake (m_109.1 o)) → (((r_114 ≤ 50000 → m_109.2 ≤ 2400 ∧ ∀ r_122 : Int32, r_122 = (v_dutyAtStake (m_109.1 o)) → (w_L_refuses_J1012 o p1 Q9 y_3 y_4 x_6 m_109 (r_122 - 1))) ∧
  (¬ r_114 ≤ 50000 → w_L_refuses_J1012 o p1 Q9 y_3 y_4 x_6 m_109 0))))))
def w_L_refuses_J956 (o : Bool) (p1 : Int32) (Q9 : Int32 → Gh → Prop) (y_3 : Int32) (y_4 : Int32) (x_6 : Int32) (m_106 : Gh) : Prop :=
  m_106.2 ≤ 2400 ∧ ∀ r_107 : Int32, r_107 = y_whyNot 1 5 5 x_6 (m_106.1 o) → (((r_107 = 0 → w_L_refuses_J982 o p1 Q9 y_3 y_4 x_6 m_106) ∧
  (¬ r_107 = 0 → m_106.2 + 1 ≤ 2400 ∧ ∀ r_125 : Int32, r_125 = (z_enter 1 5 5 x_6 (m_106.1 o)).1 → ∀ g_127 : Gh, g_127 = gz m_106 o (z_enter 1 5 5 x_6 (m_106.1 o)).2 → GI g_127 → (((¬ r_125 = -9999003 → w_L_refuses_J1026 o p1 Q9 y_3 y_4 x_6 g_127) ∧
  (r_125 = -9999003 → w_L_refuses_J982 o p1 Q9 y_3 y_4 x_6 g_127))))))
def w_L_refuses_J932 (o : Bool) (p1 : Int32) (Q9 : Int32 → Gh → Prop) (y_3 : Int32) (y_4 : Int32) (x_6 : Int32) (m_103 : Gh) : Prop :=
  m_103.2 ≤ 2400 ∧ ∀ r_104 : Int32, r_104 = y_isBroken x_6 (m_103.1 o) → (((r_104 = 0 → w_L_refuses_J956 o p1 Q9 y_3 y_4 x_6 m_103) ∧
  (¬ r_104 = 0 → m_103.2 + 1 ≤ 2400 ∧ ∀ r_130 : Int32, r_130 = (z_tryBreak x_6 (m_103.1 o)).1 → ∀ g_132 : Gh, g_132 = gz m_103 o (z_tryBreak x_6 (m_103.1 o)).2 → GI g_132 → (((¬ r_130 = -9999003 → w_L_refuses_J1026 o p1 Q9 y_3 y_4 x_6 g_132) ∧
  (r_130 = -9999003 → w_L_refuses_J956 o p1 Q9 y_3 y_4 x_6 g_132))))))
def w_L_refuses_J872 (o : Bool) (p1 : Int32) (Q9 : Int32 → Gh → Prop) (y_3 : Int32) (y_4 : Int32) (x_6 : Int32) (m_11 : Gh) (y_12 : Int32) (y_15 : Int32) : Prop :=
  ((y_12 = 0 → w_L_refuses_J1026 o p1 Q9 y_3 y_4 x_6 m_11) ∧
  (¬ y_12 = 0 → ((y_15 = 0 → m_11.2 + 1 ≤ 2400 ∧ ∀ r_135 : Int32, r_135 = (z_tryOpen x_6 (m_11.1 o)).1 → ∀ g_137 : Gh, g_137 = gz m_11 o (z_tryOpen x_6 (m_11.1 o)).2 → GI g_137 → (((¬ r_135 = -9999003 → w_L_refuses_J1026 o p1 Q9 y_3 y_4 x_6 g_137) ∧
  (r_135 = -9999003 → g_137.2 + 1 ≤ 2400 ∧ ∀ r_139 : Int32, r_139 = (z_tryBreak x_6 (g_137.1 o)).1 → ∀ g_141 : Gh, g_141 = gz g_137 o (z_tryBreak x_6 (g_137.1 o)).2 → GI g_141 → (((¬ r_139 = -9999003 → w_L_refuses_J1026 o p1 Q9 y_3 y_4 x_6 g_141) ∧
  (r_139 = -9999003 → w_L_refuses_J932 o p1 Q9 y_3 y_4 x_6 g_141))))))) ∧
  (¬ y_15 = 0 → m_11.2 + 1 ≤ 2400 ∧ ∀ r_143 : Int32, r_143 = (z_tryLock x_6 (m_11.1 o)).1 → ∀ g_145 : Gh, g_145 = gz m_11 o (z_tryLock x_6 (m_11.1 o)).2 → GI g_145 → (((¬ r_143 = -9999003 → w_L_refuses_J1026 o p1 Q9 y_3 y_4 x_6 g_145) ∧
  (r_143 = -9999003 → w_L_refuses_J932 o p1 Q9 y_3 y_4 x_6 g_145)))))))
def w_L_refuses_J855 (o : Bool) (p1 : Int32) (Q9 : Int32 → Gh → Prop) (y_3 : Int32) (y_4 : Int32) (x_6 : Int32) (m_11 : Gh) (y_12 : Int32) : Prop :=
  m_11.2 ≤ 2400 ∧ ∀ r_13 : Int32, r_13 = y_isLocked x_6 (m_11.1 o) → (((¬ r_13 = 1 → w_L_refuses_J872 o p1 Q9 y_3 y_4 x_6 m_11 y_12 0) ∧
  (r_13 = 1 → w_L_refuses_J872 o p1 Q9 y_3 y_4 x_6 m_11 y_12 1)))
def w_L_refuses_J854 (o : Bool) (p1 : Int32) (Q9 : Int32 → Gh → Prop) (y_3 : Int32) (y_4 : Int32) (x_6 : Int32) (m_11 : Gh) : Prop :=
  w_L_refuses_J855 o p1 Q9 y_3 y_4 x_6 m_11 0
def w_L_refuses_J585 (o : Bool) (p1 : Int32) (Q9 : Int32 → Gh → Prop) (y_1 : Int32) (y_2 : Int32) (y_3 : Int32) (y_4 : Int32) (y_5 : Int32) (x_6 : Int32) (m_11 : Gh) (y_149 : Int32) : Prop :=
  m_11.2 ≤ 2400 ∧ ∀ r_150 : Int32, r_150 = y_tryAt y_149 (m_11.1 o) → (((¬ r_150 = -9999001 → w_L_refuses_J854 o p1 Q9 y_3 y_4 x_6 m_11) ∧
  (r_150 = -9999001 → m_11.2 ≤ 2400 ∧ ∀ r_153 : Int32, r_153 = y_tryDuty y_1 (m_11.1 o) → (((¬ r_153 = -9999001 → w_L_refuses_J854 o p1 Q9 y_3 y_4 x_6 m_11) ∧
  (r_153 = -9999001 → m_11.2 ≤ 2400 ∧ ∀ r_156 : Int32, r_156 = y_isProved y_1 (m_11.1 o) → (((¬ r_156 = -9999001 → w_L_refuses_J854 o p1 Q9 y_3 y_4 x_6 m_11) ∧
  (r_156 = -9999001 → m_11.2 ≤ 2400 ∧ ∀ r_159 : Int32, r_159 = y_tryPart y_1 0 (m_11.1 o) → (((¬ r_159 = -9999001 → w_L_refuses_J854 o p1 Q9 y_3 y_4 x_6 m_11) ∧
  (r_159 = -9999001 → m_11.2 ≤ 2400 ∧ ∀ r_162 : Int32, r_162 = y_isLocked y_3 (m_11.1 o) → (((¬ r_162 = -9999001 → w_L_refuses_J854 o p1 Q9 y_3 y_4 x_6 m_11) ∧
  (r_162 = -9999001 → m_11.2 ≤ 2400 ∧ ∀ r_165 : Int32, r_165 = y_trySeal y_3 (m_11.1 o) → (((¬ r_165 = -9999001 → w_L_refuses_J854 o p1 Q9 y_3 y_4 x_6 m_11) ∧
  (r_165 = -9999001 → m_11.2 ≤ 2400 ∧ ∀ r_168 : Int32, r_168 = y_tryRoom y_3 (m_11.1 o) → (((¬ r_168 = -9999001 → w_L_refuses_J854 o p1 Q9 y_3 y_4 x_6 m_11) ∧
  (r_168 = -9999001 → m_11.2 ≤ 2400 ∧ ∀ r_171 : Int32, r_171 = y_tryPaper y_5 (m_11.1 o) → (((¬ r_171 = -9999001 → w_L_refuses_J854 o p1 Q9 y_3 y_4 x_6 m_11) ∧
  (r_171 = -9999001 → m_11.2 ≤ 2400 ∧ ∀ r_174 : Int32, r_174 = y_tryPaperAge y_5 (m_11.1 o) → (((¬ r_174 = -9999001 → w_L_refuses_J854 o p1 Q9 y_3 y_4 x_6 m_11) ∧
  (r_174 = -9999001 → m_11.2 ≤ 2400 ∧ ∀ r_177 : Int32, r_177 = y_tryByValue y_2 (m_11.1 o) → (((¬ r_177 = -9999002 → w_L_refuses_J854 o p1 Q9 y_3 y_4 x_6 m_11) ∧
  (r_177 = -9999002 → m_11.2 ≤ 2400 ∧ ∀ r_180 : Int32, r_180 = y_tryStock y_2 (m_11.1 o) → (((¬ r_180 = -9999002 → w_L_refuses_J854 o p1 Q9 y_3 y_4 x_6 m_11) ∧
  (r_180 = -9999002 → m_11.2 ≤ 2400 ∧ ∀ r_183 : Int32, r_183 = y_tryWhyOut y_1 y_4 (m_11.1 o) → (((¬ r_183 = -9999001 → w_L_refuses_J854 o p1 Q9 y_3 y_4 x_6 m_11) ∧
  (r_183 = -9999001 → m_11.2 ≤ 2400 ∧ ∀ r_186 : Int32, r_186 = y_tryWhyMove y_1 y_3 (m_11.1 o) → (((¬ r_186 = -9999001 → w_L_refuses_J854 o p1 Q9 y_3 y_4 x_6 m_11) ∧
  (r_186 = -9999001 → m_11.2 ≤ 2400 ∧ ∀ r_189 : Int32, r_189 = y_tryWhyDraw y_5 y_4 (m_11.1 o) → (((¬ r_189 = -9999001 → w_L_refuses_J854 o p1 Q9 y_3 y_4 x_6 m_11) ∧
  (r_189 = -9999001 → m_11.2 ≤ 2400 ∧ ∀ r_192 : Int32, r_192 = y_tryCharge y_1 0 (m_11.1 o) → (((¬ r_192 = -9999001 → w_L_refuses_J854 o p1 Q9 y_3 y_4 x_6 m_11) ∧
  (r_192 = -9999001 → m_11.2 ≤ 2400 ∧ ∀ r_195 : Int32, r_195 = y_tryLater y_1 999 (m_11.1 o) → (((¬ r_195 = -9999001 → w_L_refuses_J854 o p1 Q9 y_3 y_4 x_6 m_11) ∧
  (r_195 = -9999001 → m_11.2 ≤ 2400 ∧ ∀ r_198 : Int32, r_198 = y_tryCheapest y_2 (m_11.1 o) → (((¬ r_198 = -9999002 → w_L_refuses_J854 o p1 Q9 y_3 y_4 x_6 m_11) ∧
  (r_198 = -9999002 → m_11.2 ≤ 2400 ∧ ∀ r_201 : Int32, r_201 = y_tryFrom 1 0 (m_11.1 o) → (((¬ r_201 = -9999002 → w_L_refuses_J854 o p1 Q9 y_3 y_4 x_6 m_11) ∧
  (r_201 = -9999002 → m_11.2 ≤ 2400 ∧ ∀ r_204 : Int32, r_204 = y_whyNot y_2 5 5 x_6 (m_11.1 o) → (((¬ r_204 = -9999002 → w_L_refuses_J854 o p1 Q9 y_3 y_4 x_6 m_11) ∧
  (r_204 = -9999002 → w_L_refuses_J855 o p1 Q9 y_3 y_4 x_6 m_11 1)))))))))))))))))))))))))))))))))))))))))))))))))))))))))
def w_L_refuses_J561 (o : Bool) (p1 : Int32) (Q9 : Int32 → Gh → Prop) (y_1 : Int32) (y_2 : Int32) (y_3 : Int32) (y_4 : Int32) (y_5 : Int32) (x_6 : Int32) (y_10 : Int32) (m_11 : Gh) : Prop :=
  ((y_10 = 0 → w_L_refuses_J854 o p1 Q9 y_3 y_4 x_6 m_11) ∧
  (¬ y_10 = 0 → ((¬ (p1 - p1 / 2 * 2) = 0 → m_11.2 ≤ 2400 ∧ ∀ r_208 : Int32, r_208 = (v_entries (m_11.1 o)) → (w_L_refuses_J585 o p1 Q9 y_1 y_2 y_3 y_4 y_5 x_6 m_11 r_208)) ∧
  ((p1 - p1 / 2 * 2) = 0 → w_L_refuses_J585 o p1 Q9 y_1 y_2 y_3 y_4 y_5 x_6 m_11 (-1)))))
def w_L_refuses_J560 (o : Bool) (p1 : Int32) (Q9 : Int32 → Gh → Prop) (y_1 : Int32) (y_2 : Int32) (y_3 : Int32) (y_4 : Int32) (y_5 : Int32) (x_6 : Int32) (m_210 : Gh) : Prop :=
  w_L_refuses_J561 o p1 Q9 y_1 y_2 y_3 y_4 y_5 x_6 0 m_210
def w_L_refuses_J508 (o : Bool) (p1 : Int32) (Q9 : Int32 → Gh → Prop) (y_1 : Int32) (y_2 : Int32) (y_3 : Int32) (y_4 : Int32) (y_5 : Int32) (x_6 : Int32) (g_292 : Gh) (y_298 : Int32) : Prop :=
  g_292.2 ≤ 2400 ∧ ¬ (33 ≤ y_298 ∧ y_298 ≤ 126) ∧ ∀ r_299 : Int32, r_299 = -9999002 → (((¬ r_299 = -9999002 → w_L_refuses_J560 o p1 Q9 y_1 y_2 y_3 y_4 y_5 x_6 g_292) ∧
  (r_299 = -9999002 → g_292.2 + 1 ≤ 2400 ∧ ∀ r_303 : Int32, r_303 = (z_tryKeep (2 + (p1 - p1 / 9 * 9)) (g_292.1 o)).1 → ∀ g_305 : Gh, g_305 = gz g_292 o (z_tryKeep (2 + (p1 - p1 / 9 * 9)) (g_292.1 o)).2 → GI g_305 → (((¬ r_303 = -9999001 → w_L_refuses_J560 o p1 Q9 y_1 y_2 y_3 y_4 y_5 x_6 g_305) ∧
  (r_303 = -9999001 → g_305.2 + 1 ≤ 2400 ∧ ∀ r_307 : Int32, r_307 = (z_tryBack ((-1) - (p1 - p1 / 9 * 9)) (g_305.1 o)).1 → ∀ g_309 : Gh, g_309 = gz g_305 o (z_tryBack ((-1) - (p1 - p1 / 9 * 9)) (g_305.1 o)).2 → GI g_309 → (((¬ r_307 = -9999001 → w_L_refuses_J560 o p1 Q9 y_1 y_2 y_3 y_4 y_5 x_6 g_309) ∧
  (r_307 = -9999001 → w_L_refuses_J561 o p1 Q9 y_1 y_2 y_3 y_4 y_5 x_6 1 g_309)))))))))
def w_L_refuses_J468 (o : Bool) (p1 : Int32) (Q9 : Int32 → Gh → Prop) (y_1 : Int32) (y_2 : Int32) (y_3 : Int32) (y_4 : Int32) (y_5 : Int32) (x_6 : Int32) (g_287 : Gh) (y_289 : Int32) : Prop :=
  g_287.2 + 1 ≤ 2400 ∧ ∀ r_290 : Int32, r_290 = (z_tryPass y_289 (g_287.1 o)).1 → ∀ g_292 : Gh, g_292 = gz g_287 o (z_tryPass y_289 (g_287.1 o)).2 → GI g_292 → (((¬ r_290 = -9999002 → w_L_refuses_J560 o p1 Q9 y_1 y_2 y_3 y_4 y_5 x_6 g_292) ∧
  (r_290 = -9999002 → g_292.2 ≤ 2400 ∧ ∀ r_294 : Int32, r_294 = -9999002 → (((¬ r_294 = -9999002 → w_L_refuses_J560 o p1 Q9 y_1 y_2 y_3 y_4 y_5 x_6 g_292) ∧
  (r_294 = -9999002 → ((¬ (p1 - p1 / 2 * 2) = 0 → w_L_refuses_J508 o p1 Q9 y_1 y_2 y_3 y_4 y_5 x_6 g_292 127) ∧
  ((p1 - p1 / 2 * 2) = 0 → w_L_refuses_J508 o p1 Q9 y_1 y_2 y_3 y_4 y_5 x_6 g_292 32))))))))
def w_L_refuses_J444 (o : Bool) (p1 : Int32) (Q9 : Int32 → Gh → Prop) (y_1 : Int32) (y_2 : Int32) (y_3 : Int32) (y_4 : Int32) (y_5 : Int32) (x_6 : Int32) (g_282 : Gh) (y_284 : Int32) : Prop :=
  g_282.2 + 1 ≤ 2400 ∧ ∀ r_285 : Int32, r_285 = (z_trySetWeight 1 y_284 (g_282.1 o)).1 → ∀ g_287 : Gh, g_287 = gz g_282 o (z_trySetWeight 1 y_284 (g_282.1 o)).2 → GI g_287 → (((¬ r_285 = -9999002 → w_L_refuses_J560 o p1 Q9 y_1 y_2 y_3 y_4 y_5 x_6 g_287) ∧
  (r_285 = -9999002 → ((¬ (p1 - p1 / 2 * 2) = 0 → w_L_refuses_J468 o p1 Q9 y_1 y_2 y_3 y_4 y_5 x_6 g_287 101) ∧
  ((p1 - p1 / 2 * 2) = 0 → w_L_refuses_J468 o p1 Q9 y_1 y_2 y_3 y_4 y_5 x_6 g_287 0)))))
def w_L_refuses_J419 (o : Bool) (p1 : Int32) (Q9 : Int32 → Gh → Prop) (y_1 : Int32) (y_2 : Int32) (y_3 : Int32) (y_4 : Int32) (y_5 : Int32) (x_6 : Int32) (g_277 : Gh) (y_279 : Int32) : Prop :=
  g_277.2 + 1 ≤ 2400 ∧ ∀ r_280 : Int32, r_280 = (z_trySetValue 1 y_279 (g_277.1 o)).1 → ∀ g_282 : Gh, g_282 = gz g_277 o (z_trySetValue 1 y_279 (g_277.1 o)).2 → GI g_282 → (((¬ r_280 = -9999002 → w_L_refuses_J560 o p1 Q9 y_1 y_2 y_3 y_4 y_5 x_6 g_282) ∧
  (r_280 = -9999002 → ((¬ (p1 - p1 / 2 * 2) = 0 → w_L_refuses_J444 o p1 Q9 y_1 y_2 y_3 y_4 y_5 x_6 g_282 81) ∧
  ((p1 - p1 / 2 * 2) = 0 → w_L_refuses_J444 o p1 Q9 y_1 y_2 y_3 y_4 y_5 x_6 g_282 (-1))))))
def w_L_refuses_J379 (o : Bool) (p1 : Int32) (Q9 : Int32 → Gh → Prop) (y_1 : Int32) (y_2 : Int32) (y_3 : Int32) (y_4 : Int32) (y_5 : Int32) (x_6 : Int32) (g_268 : Gh) (y_270 : Int32) : Prop :=
  g_268.2 + 1 ≤ 2400 ∧ ∀ r_271 : Int32, r_271 = (z_trySetBond y_270 (g_268.1 o)).1 → ∀ g_273 : Gh, g_273 = gz g_268 o (z_trySetBond y_270 (g_268.1 o)).2 → GI g_273 → (((¬ r_271 = -9999002 → w_L_refuses_J560 o p1 Q9 y_1 y_2 y_3 y_4 y_5 x_6 g_273) ∧
  (r_271 = -9999002 → g_273.2 + 1 ≤ 2400 ∧ ∀ r_275 : Int32, r_275 = (z_trySetValue y_2 5 (g_273.1 o)).1 → ∀ g_277 : Gh, g_277 = gz g_273 o (z_trySetValue y_2 5 (g_273.1 o)).2 → GI g_277 → (((¬ r_275 = -9999002 → w_L_refuses_J560 o p1 Q9 y_1 y_2 y_3 y_4 y_5 x_6 g_277) ∧
  (r_275 = -9999002 → ((¬ (p1 - p1 / 2 * 2) = 0 → w_L_refuses_J419 o p1 Q9 y_1 y_2 y_3 y_4 y_5 x_6 g_277 61) ∧
  ((p1 - p1 / 2 * 2) = 0 → w_L_refuses_J419 o p1 Q9 y_1 y_2 y_3 y_4 y_5 x_6 g_277 (-1)))))))))
def w_L_refuses_J353 (o : Bool) (p1 : Int32) (Q9 : Int32 → Gh → Prop) (y_1 : Int32) (y_2 : Int32) (y_3 : Int32) (y_4 : Int32) (y_5 : Int32) (x_6 : Int32) (g_263 : Gh) (y_265 : Int32) : Prop :=
  g_263.2 + 1 ≤ 2400 ∧ ∀ r_266 : Int32, r_266 = (z_tryPay y_265 (g_263.1 o)).1 → ∀ g_268 : Gh, g_268 = gz g_263 o (z_tryPay y_265 (g_263.1 o)).2 → GI g_268 → (((¬ r_266 = -9999002 → w_L_refuses_J560 o p1 Q9 y_1 y_2 y_3 y_4 y_5 x_6 g_268) ∧
  (r_266 = -9999002 → ((¬ (p1 - p1 / 2 * 2) = 0 → w_L_refuses_J379 o p1 Q9 y_1 y_2 y_3 y_4 y_5 x_6 g_268 50001) ∧
  ((p1 - p1 / 2 * 2) = 0 → w_L_refuses_J379 o p1 Q9 y_1 y_2 y_3 y_4 y_5 x_6 g_268 (-1))))))
def w_L_refuses_J172 (o : Bool) (p1 : Int32) (Q9 : Int32 → Gh → Prop) (y_1 : Int32) (y_2 : Int32) (y_3 : Int32) (y_4 : Int32) (y_5 : Int32) (x_6 : Int32) (g_214 : Gh) (y_216 : Int32) : Prop :=
  g_214.2 + 1 ≤ 2400 ∧ ∀ r_217 : Int32, r_217 = (z_enter 1 5 y_216 x_6 (g_214.1 o)).1 → ∀ g_219 : Gh, g_219 = gz g_214 o (z_enter 1 5 y_216 x_6 (g_214.1 o)).2 → GI g_219 → (((¬ r_217 = -9999002 → w_L_refuses_J560 o p1 Q9 y_1 y_2 y_3 y_4 y_5 x_6 g_219) ∧
  (r_217 = -9999002 → g_219.2 + 1 ≤ 2400 ∧ ∀ r_221 : Int32, r_221 = (z_enter 1 5 5 y_3 (g_219.1 o)).1 → ∀ g_223 : Gh, g_223 = gz g_219 o (z_enter 1 5 5 y_3 (g_219.1 o)).2 → GI g_223 → (((¬ r_221 = -9999002 → w_L_refuses_J560 o p1 Q9 y_1 y_2 y_3 y_4 y_5 x_6 g_223) ∧
  (r_221 = -9999002 → g_223.2 + 1 ≤ 2400 ∧ ∀ r_225 : Int32, r_225 = (z_tryWithdraw y_1 y_4 (g_223.1 o)).1 → ∀ g_227 : Gh, g_227 = gz g_223 o (z_tryWithdraw y_1 y_4 (g_223.1 o)).2 → GI g_227 → (((¬ r_225 = -9999001 → w_L_refuses_J560 o p1 Q9 y_1 y_2 y_3 y_4 y_5 x_6 g_227) ∧
  (r_225 = -9999001 → g_227.2 + 1 ≤ 2400 ∧ ∀ r_229 : Int32, r_229 = (z_trySend y_1 1 (g_227.1 o)).1 → ∀ g_231 : Gh, g_231 = gz g_227 o (z_trySend y_1 1 (g_227.1 o)).2 → GI g_231 → (((¬ r_229 = -9999001 → w_L_refuses_J560 o p1 Q9 y_1 y_2 y_3 y_4 y_5 x_6 g_231) ∧
  (r_229 = -9999001 → g_231.2 + 1 ≤ 2400 ∧ ∀ r_233 : Int32, r_233 = (z_tryDraw y_5 y_4 (g_231.1 o)).1 → ∀ g_235 : Gh, g_235 = gz g_231 o (z_tryDraw y_5 y_4 (g_231.1 o)).2 → GI g_235 → (((¬ r_233 = -9999001 → w_L_refuses_J560 o p1 Q9 y_1 y_2 y_3 y_4 y_5 x_6 g_235) ∧
  (r_233 = -9999001 → g_235.2 + 1 ≤ 2400 ∧ ∀ r_237 : Int32, r_237 = (z_tryMove y_1 x_6 (g_235.1 o)).1 → ∀ g_239 : Gh, g_239 = gz g_235 o (z_tryMove y_1 x_6 (g_235.1 o)).2 → GI g_239 → (((¬ r_237 = -9999001 → w_L_refuses_J560 o p1 Q9 y_1 y_2 y_3 y_4 y_5 x_6 g_239) ∧
  (r_237 = -9999001 → g_239.2 + 1 ≤ 2400 ∧ ∀ r_241 : Int32, r_241 = (z_trySplit y_1 0 (g_239.1 o)).1 → ∀ g_243 : Gh, g_243 = gz g_239 o (z_trySplit y_1 0 (g_239.1 o)).2 → GI g_243 → (((¬ r_241 = -9999001 → w_L_refuses_J560 o p1 Q9 y_1 y_2 y_3 y_4 y_5 x_6 g_243) ∧
  (r_241 = -9999001 → g_243.2 + 1 ≤ 2400 ∧ ∀ r_245 : Int32, r_245 = (z_tryMerge y_1 y_1 (g_243.1 o)).1 → ∀ g_247 : Gh, g_247 = gz g_243 o (z_tryMerge y_1 y_1 (g_243.1 o)).2 → GI g_247 → (((¬ r_245 = -9999001 → w_L_refuses_J560 o p1 Q9 y_1 y_2 y_3 y_4 y_5 x_6 g_247) ∧
  (r_245 = -9999001 → g_247.2 + 1 ≤ 2400 ∧ ∀ r_249 : Int32, r_249 = (z_tryWeigh y_1 (-1) (g_247.1 o)).1 → ∀ g_251 : Gh, g_251 = gz g_247 o (z_tryWeigh y_1 (-1) (g_247.1 o)).2 → GI g_251 → (((¬ r_249 = -9999001 → w_L_refuses_J560 o p1 Q9 y_1 y_2 y_3 y_4 y_5 x_6 g_251) ∧
  (r_249 = -9999001 → g_251.2 + 1 ≤ 2400 ∧ ∀ r_253 : Int32, r_253 = (z_tryLock y_3 (g_251.1 o)).1 → ∀ g_255 : Gh, g_255 = gz g_251 o (z_tryLock y_3 (g_251.1 o)).2 → GI g_255 → (((¬ r_253 = -9999001 → w_L_refuses_J560 o p1 Q9 y_1 y_2 y_3 y_4 y_5 x_6 g_255) ∧
  (r_253 = -9999001 → g_255.2 + 1 ≤ 2400 ∧ ∀ r_257 : Int32, r_257 = (z_tryOpen y_3 (g_255.1 o)).1 → ∀ g_259 : Gh, g_259 = gz g_255 o (z_tryOpen y_3 (g_255.1 o)).2 → GI g_259 → (((¬ r_257 = -9999001 → w_L_refuses_J560 o p1 Q9 y_1 y_2 y_3 y_4 y_5 x_6 g_259) ∧
  (r_257 = -9999001 → g_259.2 + 1 ≤ 2400 ∧ ∀ r_261 : Int32, r_261 = (z_tryBreak y_3 (g_259.1 o)).1 → ∀ g_263 : Gh, g_263 = gz g_259 o (z_tryBreak y_3 (g_259.1 o)).2 → GI g_263 → (((¬ r_261 = -9999001 → w_L_refuses_J560 o p1 Q9 y_1 y_2 y_3 y_4 y_5 x_6 g_263) ∧
  (r_261 = -9999001 → ((¬ (p1 - p1 / 2 * 2) = 0 → w_L_refuses_J353 o p1 Q9 y_1 y_2 y_3 y_4 y_5 x_6 g_263 10000) ∧
  ((p1 - p1 / 2 * 2) = 0 → w_L_refuses_J353 o p1 Q9 y_1 y_2 y_3 y_4 y_5 x_6 g_263 0))))))))))))))))))))))))))))))))))))))
def w_L_refuses_J120 (o : Bool) (p1 : Int32) (g : Gh) (Q9 : Int32 → Gh → Prop) (y_1 : Int32) (y_2 : Int32) (y_3 : Int32) (y_4 : Int32) (y_5 : Int32) : Prop :=
  ∀ x_6 : Int32, x_6 = (p1 - p1 / 5 * 5) → (g.2 + 1 ≤ 2400 ∧ ∀ r_7 : Int32, r_7 = (z_enter y_2 5 5 x_6 (g.1 o)).1 → ∀ g_9 : Gh, g_9 = gz g o (z_enter y_2 5 5 x_6 (g.1 o)).2 → GI g_9 → (((¬ r_7 = -9999002 → w_L_refuses_J560 o p1 Q9 y_1 y_2 y_3 y_4 y_5 x_6 g_9) ∧
  (r_7 = -9999002 → g_9.2 + 1 ≤ 2400 ∧ ∀ r_212 : Int32, r_212 = (z_enter 1 y_4 5 x_6 (g_9.1 o)).1 → ∀ g_214 : Gh, g_214 = gz g_9 o (z_enter 1 y_4 5 x_6 (g_9.1 o)).2 → GI g_214 → (((¬ r_212 = -9999002 → w_L_refuses_J560 o p1 Q9 y_1 y_2 y_3 y_4 y_5 x_6 g_214) ∧
  (r_212 = -9999002 → ((¬ (p1 - p1 / 2 * 2) = 0 → w_L_refuses_J172 o p1 Q9 y_1 y_2 y_3 y_4 y_5 x_6 g_214 10000) ∧
  ((p1 - p1 / 2 * 2) = 0 → w_L_refuses_J172 o p1 Q9 y_1 y_2 y_3 y_4 y_5 x_6 g_214 0)))))))))
def w_L_refuses_J94 (o : Bool) (p1 : Int32) (g : Gh) (Q9 : Int32 → Gh → Prop) (y_1 : Int32) (y_2 : Int32) (y_3 : Int32) (y_4 : Int32) : Prop :=
  ((¬ (p1 - p1 / 2 * 2) = 0 → g.2 ≤ 2400 ∧ ∀ r_319 : Int32, r_319 = (v_receipts (g.1 o)) → (w_L_refuses_J120 o p1 g Q9 y_1 y_2 y_3 y_4 (r_319 + (p1 - p1 / 9 * 9)))) ∧
  ((p1 - p1 / 2 * 2) = 0 → w_L_refuses_J120 o p1 g Q9 y_1 y_2 y_3 y_4 ((-1) - (p1 - p1 / 9 * 9))))
def w_L_refuses_J69 (o : Bool) (p1 : Int32) (g : Gh) (Q9 : Int32 → Gh → Prop) (y_1 : Int32) (y_2 : Int32) (y_3 : Int32) : Prop :=
  ((¬ (p1 - p1 / 2 * 2) = 0 → w_L_refuses_J94 o p1 g Q9 y_1 y_2 y_3 (1000 + (p1 - p1 / 99 * 99))) ∧
  ((p1 - p1 / 2 * 2) = 0 → w_L_refuses_J94 o p1 g Q9 y_1 y_2 y_3 (0 - (p1 - p1 / 99 * 99))))
def w_L_refuses_J47 (o : Bool) (p1 : Int32) (g : Gh) (Q9 : Int32 → Gh → Prop) (y_1 : Int32) (y_2 : Int32) : Prop :=
  ((¬ (p1 - p1 / 2 * 2) = 0 → w_L_refuses_J69 o p1 g Q9 y_1 y_2 (5 + (p1 - p1 / 99 * 99))) ∧
  ((p1 - p1 / 2 * 2) = 0 → w_L_refuses_J69 o p1 g Q9 y_1 y_2 ((-1) - (p1 - p1 / 99 * 99))))
def w_L_refuses_J24 (o : Bool) (p1 : Int32) (g : Gh) (Q9 : Int32 → Gh → Prop) (y_1 : Int32) : Prop :=
  ((¬ (p1 - p1 / 2 * 2) = 0 → w_L_refuses_J47 o p1 g Q9 y_1 (6 + (p1 - p1 / 99 * 99))) ∧
  ((p1 - p1 / 2 * 2) = 0 → w_L_refuses_J47 o p1 g Q9 y_1 ((-1) - (p1 - p1 / 99 * 99))))
def w_L_refuses (o : Bool) (p1 : Int32) (g : Gh) (Q9 : Int32 → Gh → Prop) : Prop :=
  ((¬ (p1 - p1 / 2 * 2) = 0 → g.2 ≤ 2400 ∧ ∀ r_325 : Int32, r_325 = (v_entriesMade (g.1 o)) → (w_L_refuses_J24 o p1 g Q9 (r_325 + (p1 - p1 / 9 * 9)))) ∧
  ((p1 - p1 / 2 * 2) = 0 → w_L_refuses_J24 o p1 g Q9 ((-1) - (p1 - p1 / 99 * 99))))
def rm_L_refuses : Room := { frames := 11, cells := 144, slots := 864, locals := 207 }
theorem hy_L_refuses : yL_refuses.cls = RL ∧ yL_refuses.cls ≠ "java/lang/invoke/MethodHandle" ∧ yL_refuses.cls ≠ "java/lang/invoke/VarHandle" ∧ (parseMethodDescriptor yL_refuses.desc).map (fun d => d.parameters.length) = some 2 := by decide +kernel
set_option maxRecDepth 100000 in
set_option maxHeartbeats 4000000 in
theorem c_L_refuses {l : Launch} {D : va_G} {cA : Nat → ClassId} {ad : Bool → Nat → Nat → Nat} {A : Bool → Nat → Prop} (ha : AG ad A) (hst : l.stackTraces = false) (o : Bool) (p1 : Int32) (g : Gh) (Q9 : Int32 → Gh → Prop) (h : w_L_refuses o p1 g Q9) : Met l yL_refuses (.code yL_refuses cL_refuses 13 (some .boolean) :: TG) rm_L_refuses (PcG D cA ad A [.ref (ad o 0 1), .int p1] g) (QcG D cA ad A Q9) 144 864 (AU A) := by
  unfold w_L_refuses at h
  refine enterGZ pl_L rfl (Nat.le_of_ble_eq_true rfl) ?_
  intro p e s m args below meth c QQ X hW hZ hE
  refine q_iload_n (j := 1) X dL_refuses_0 rfl rfl ?_
  refine q_iconst (v := 2) X dL_refuses_1 (by decide) ?_
  refine q_irem X dL_refuses_2 (by decide) ?_
  have J24 : ∀ (y_1 : Int32), w_L_refuses_J24 o p1 g Q9 y_1 → V p l e rm_L_refuses s m args below meth c QQ 13 (AU A) 0 (6 * 0) (WY D cA ad YT g) 24 [(0, .ref (ad o 0 1)), (1, .int p1)] [.int y_1] := by
    intro y_1 h
    unfold w_L_refuses_J24 at h
    refine q_istore_n (lv' := [(2, .int y_1), (0, .ref (ad o 0 1)), (1, .int p1)]) X dL_refuses_24 rfl (by decide) rfl ?_
    refine q_iload_n (j := 2) X dL_refuses_25 rfl rfl ?_
    refine q_iconst (v := 2) X dL_refuses_26 (by decide) ?_
    refine q_irem X dL_refuses_27 (by decide) ?_
    have J47 : ∀ (y_2 : Int32), w_L_refuses_J47 o p1 g Q9 y_1 y_2 → V p l e rm_L_refuses s m args below meth c QQ 13 (AU A) 0 (6 * 0) (WY D cA ad YT g) 47 [(0, .ref (ad o 0 1)), (1, .int p1), (2, .int y_1)] [.int y_2] := by
      intro y_2 h
      unfold w_L_refuses_J47 at h
      refine q_istore_n (lv' := [(3, .int y_2), (0, .ref (ad o 0 1)), (1, .int p1), (2, .int y_1)]) X dL_refuses_47 rfl (by decide) rfl ?_
      refine q_iload_n (j := 2) X dL_refuses_48 rfl rfl ?_
      refine q_iconst (v := 2) X dL_refuses_49 (by decide) ?_
      refine q_irem X dL_refuses_50 (by decide) ?_
      have J69 : ∀ (y_3 : Int32), w_L_refuses_J69 o p1 g Q9 y_1 y_2 y_3 → V p l e rm_L_refuses s m args below meth c QQ 13 (AU A) 0 (6 * 0) (WY D cA ad YT g) 69 [(0, .ref (ad o 0 1)), (1, .int p1), (2, .int y_1), (3, .int y_2)] [.int y_3] := by
        intro y_3 h
        unfold w_L_refuses_J69 at h
        refine q_istore (lv' := [(4, .int y_3), (0, .ref (ad o 0 1)), (1, .int p1), (2, .int y_1), (3, .int y_2)]) X dL_refuses_69 (by decide) rfl ?_
        refine q_iload_n (j := 2) X dL_refuses_71 rfl rfl ?_
        refine q_iconst (v := 2) X dL_refuses_72 (by decide) ?_
        refine q_irem X dL_refuses_73 (by decide) ?_
        have J94 : ∀ (y_4 : Int32), w_L_refuses_J94 o p1 g Q9 y_1 y_2 y_3 y_4 → V p l e rm_L_refuses s m args below meth c QQ 13 (AU A) 0 (6 * 0) (WY D cA ad YT g) 94 [(0, .ref (ad o 0 1)), (1, .int p1), (2, .int y_1), (3, .int y_2), (4, .int y_3)] [.int y_4] := by
          intro y_4 h
          unfold w_L_refuses_J94 at h
          refine q_istore (lv' := [(5, .int y_4), (0, .ref (ad o 0 1)), (1, .int p1), (2, .int y_1), (3, .int y_2), (4, .int y_3)]) X dL_refuses_94 (by decide) rfl ?_
          refine q_iload_n (j := 2) X dL_refuses_96 rfl rfl ?_
          refine q_iconst (v := 2) X dL_refuses_97 (by decide) ?_
          refine q_irem X dL_refuses_98 (by decide) ?_
          have J120 : ∀ (y_5 : Int32), w_L_refuses_J120 o p1 g Q9 y_1 y_2 y_3 y_4 y_5 → V p l e rm_L_refuses s m args below meth c QQ 13 (AU A) 0 (6 * 0) (WY D cA ad YT g) 120 [(0, .ref (ad o 0 1)), (1, .int p1), (2, .int y_1), (3, .int y_2), (4, .int y_3), (5, .int y_4)] [.int y_5] := by
            intro y_5 h
            unfold w_L_refuses_J120 at h
            refine q_istore (lv' := [(6, .int y_5), (0, .ref (ad o 0 1)), (1, .int p1), (2, .int y_1), (3, .int y_2), (4, .int y_3), (5, .int y_4)]) X dL_refuses_120 (by decide) rfl ?_
            refine q_iload_n (j := 2) X dL_refuses_122 rfl rfl ?_
            refine q_iconst (v := 5) X dL_refuses_123 (by decide) ?_
            refine q_irem X dL_refuses_124 (by decide) ?_
            refine q_topi (fun x_6 ex_6 => ?_)
            have h := h x_6 ex_6
            refine q_istore (lv' := [(7, .int x_6), (6, .int y_5), (0, .ref (ad o 0 1)), (1, .int p1), (2, .int y_1), (3, .int y_2), (4, .int y_3), (5, .int y_4)]) X dL_refuses_125 (by decide) rfl ?_
            refine q_aload_n (j := 2) X dL_refuses_127 rfl rfl ?_
            refine q_iload_n (j := 5) X dL_refuses_128 rfl rfl ?_
            refine q_iconst (v := 5) X dL_refuses_129 (by decide) ?_
            refine q_iconst (v := 5) X dL_refuses_130 (by decide) ?_
            refine q_iload (j := 0) X dL_refuses_131 rfl ?_
            obtain ⟨k_8, h⟩ := h
            refine qG_ownW X hW hZ (fun _ h => h) YT_ok [.ref (ad o 0 1), .int y_2, .int 5, .int 5, .int x_6] [] rfl rfl (Nat.le_of_ble_eq_true rfl) dL_refuses_133 ⟨(Nat.le_of_ble_eq_true rfl), (Nat.le_of_ble_eq_true rfl)⟩ (k_L_enter ha hst o y_2 5 5 x_6 g k_8) rfl rfl (gSW kw_2_140 kw_2_141 kw_1_0 kw_2_142) hy_L_enter.2 ⟨(Nat.le_of_ble_eq_true rfl), (Nat.le_of_ble_eq_true rfl)⟩ (fun r_7 g_9 hq => ?_)
            refine q_wi (fun hi => ?_)
            have h := h r_7 hq.1 g_9 hq.2 hi
            refine q_ldc (v := -9999002) X kw_3_86 dL_refuses_136 ?_
            have J561 : ∀ (y_10 : Int32) (m_11 : Gh), w_L_refuses_J561 o p1 Q9 y_1 y_2 y_3 y_4 y_5 x_6 y_10 m_11 → V p l e rm_L_refuses s m args below meth c QQ 13 (AU A) 48 (6 * 48) (WY D cA ad YT m_11) 561 [(0, .ref (ad o 0 1)), (1, .int p1), (2, .int y_1), (3, .int y_2), (4, .int y_3), (5, .int y_4), (6, .int y_5), (7, .int x_6)] [.int y_10] := by
              intro y_10 m_11 h
              unfold w_L_refuses_J561 at h
              refine q_istore (lv' := [(8, .int y_10), (0, .ref (ad o 0 1)), (1, .int p1), (2, .int y_1), (3, .int y_2), (4, .int y_3), (5, .int y_4), (6, .int y_5), (7, .int x_6)]) X dL_refuses_561 (by decide) rfl ?_
              refine q_iload (j := 0) X dL_refuses_563 rfl ?_
              have J855 : ∀ (y_12 : Int32), w_L_refuses_J855 o p1 Q9 y_3 y_4 x_6 m_11 y_12 → V p l e rm_L_refuses s m args below meth c QQ 13 (AU A) 86 (6 * 86) (WY D cA ad YT m_11) 855 [(0, .ref (ad o 0 1)), (1, .int p1), (4, .int y_3), (5, .int y_4), (7, .int x_6)] [.int y_12] := by
                intro y_12 h
                unfold w_L_refuses_J855 at h
                refine q_istore (lv' := [(8, .int y_12), (0, .ref (ad o 0 1)), (1, .int p1), (4, .int y_3), (5, .int y_4), (7, .int x_6)]) X dL_refuses_855 (by decide) rfl ?_
                refine q_aload_n (j := 1) X dL_refuses_857 rfl rfl ?_
                refine q_iload (j := 5) X dL_refuses_858 rfl ?_
                obtain ⟨k_14, h⟩ := h
                refine qG_ownW X hW hZ (fun _ h => h) YT_ok [.ref (ad o 0 1), .int x_6] [] rfl rfl (Nat.le_of_ble_eq_true rfl) dL_refuses_860 ⟨(Nat.le_of_ble_eq_true rfl), (Nat.le_of_ble_eq_true rfl)⟩ (k_L_isLocked ha hst o x_6 m_11 k_14) rfl rfl (gSW kw_6_141 kw_6_142 kw_1_0 kw_6_143) hy_L_isLocked.2 ⟨(Nat.le_of_ble_eq_true rfl), (Nat.le_of_ble_eq_true rfl)⟩ (fun r_13 g9 hq => ?_)
                obtain ⟨er_13, hq⟩ := hq
                rw [hq]
                have h := h r_13 er_13
                refine q_iconst (v := 1) X dL_refuses_863 (by decide) ?_
                have J872 : ∀ (y_15 : Int32), w_L_refuses_J872 o p1 Q9 y_3 y_4 x_6 m_11 y_12 y_15 → V p l e rm_L_refuses s m args below meth c QQ 13 (AU A) 88 (6 * 88) (WY D cA ad YT m_11) 872 [(0, .ref (ad o 0 1)), (1, .int p1), (4, .int y_3), (5, .int y_4), (7, .int x_6), (8, .int y_12)] [.int y_15] := by
                  intro y_15 h
                  unfold w_L_refuses_J872 at h
                  refine q_istore (lv' := [(9, .int y_15), (0, .ref (ad o 0 1)), (1, .int p1), (4, .int y_3), (5, .int y_4), (7, .int x_6), (8, .int y_12)]) X dL_refuses_872 (by decide) rfl ?_
                  refine q_iload (j := 6) X dL_refuses_874 rfl ?_
                  have J1027 : ∀ (y_16 : Int32) (m_17 : Gh), w_L_refuses_J1027 o p1 Q9 y_3 y_4 x_6 y_16 m_17 → V p l e rm_L_refuses s m args below meth c QQ 13 (AU A) 102 (6 * 102) (WY D cA ad YT m_17) 1027 [(0, .ref (ad o 0 1)), (1, .int p1), (4, .int y_3), (5, .int y_4), (7, .int x_6)] [.int y_16] := by
                    intro y_16 m_17 h
                    unfold w_L_refuses_J1027 at h
                    refine q_istore (lv' := [(8, .int y_16), (0, .ref (ad o 0 1)), (1, .int p1), (4, .int y_3), (5, .int y_4), (7, .int x_6)]) X dL_refuses_1027 (by decide) rfl ?_
                    refine q_aload_n (j := 1) X dL_refuses_1029 rfl rfl ?_
                    obtain ⟨k_19, h⟩ := h
                    refine qG_ask X hW hZ ha (fun _ h => h) YT_ok o (val := (v_entries (m_17.1 o))) (Qp := (fun mo r m1 => r = (v_entries (m_17.1 o)) ∧ mo = m1)) [] [] rfl rfl (Nat.le_of_ble_eq_true rfl) dL_refuses_1030 ⟨(Nat.le_of_ble_eq_true rfl), (Nat.le_of_ble_eq_true rfl)⟩ k_19 (fun mo hmo => c_X9_entries (ha.1 o)  mo _ (n_entries hmo.rs hmo.inv  _ rfl)) (fun mo r m1 hr h => ⟨h.1, by rw [← h.2]; exact hr⟩) rfl rfl (gV kw_6_130 kw_6_131 kw_6_132 kw_1_1 kw_6_133) hy_X9_entries ⟨(Nat.le_of_ble_eq_true rfl), (Nat.le_of_ble_eq_true rfl)⟩ ?_
                    refine q_topi (fun r_18 er_18 => ?_)
                    have h := h r_18 er_18
                    refine q_if_eq (tgt := 1041) X dL_refuses_1033 (by decide) (fun c_20 => ?_) (fun c_20 => ?_)
                    · have h := h.1 c_20
                      refine q_iload (j := 0) X dL_refuses_1041 rfl ?_
                      obtain ⟨b_21, h⟩ := h
                      exact hE _ _ _ _ _ _ dL_refuses_1043 (by omega) (by omega) b_21 h
                    · have h := h.2 c_20
                      refine q_iload (j := 0) X dL_refuses_1036 rfl ?_
                      refine q_if_ne (tgt := 1044) X dL_refuses_1038 (by decide) (fun c_22 => ?_) (fun c_22 => ?_)
                      · have h := h.1 c_22
                        refine q_aload_n (j := 1) X dL_refuses_1044 rfl rfl ?_
                        refine q_bipush (v := 15) X dL_refuses_1045 (by decide) ?_
                        refine q_iload_n (j := 2) X dL_refuses_1047 rfl rfl ?_
                        refine q_bipush (v := 8) X dL_refuses_1048 (by decide) ?_
                        refine q_idiv X dL_refuses_1050 (by decide) ?_
                        refine q_aload_n (j := 1) X dL_refuses_1051 rfl rfl ?_
                        obtain ⟨k_24, h⟩ := h
                        refine qG_ask X hW hZ ha (fun _ h => h) YT_ok o (val := (v_entries (m_17.1 o))) (Qp := (fun mo r m1 => r = (v_entries (m_17.1 o)) ∧ mo = m1)) [] [.int (p1 / 8), .int 15, .ref (ad o 0 1)] rfl rfl (Nat.le_of_ble_eq_true rfl) dL_refuses_1052 ⟨(Nat.le_of_ble_eq_true rfl), (Nat.le_of_ble_eq_true rfl)⟩ k_24 (fun mo hmo => c_X9_entries (ha.1 o)  mo _ (n_entries hmo.rs hmo.inv  _ rfl)) (fun mo r m1 hr h => ⟨h.1, by rw [← h.2]; exact hr⟩) rfl rfl (gV kw_6_130 kw_6_131 kw_6_132 kw_1_1 kw_6_133) hy_X9_entries ⟨(Nat.le_of_ble_eq_true rfl), (Nat.le_of_ble_eq_true rfl)⟩ ?_
                        refine q_topi (fun r_23 er_23 => ?_)
                        have h := h r_23 er_23
                        obtain ⟨c_25, h⟩ := h
                        refine q_irem X dL_refuses_1055 c_25 ?_
                        refine q_iconst (v := 0) X dL_refuses_1056 (by decide) ?_
                        refine q_iconst (v := 0) X dL_refuses_1057 (by decide) ?_
                        obtain ⟨k_27, h⟩ := h
                        refine qG_own X hW hZ (fun _ h => h) YT_ok [.ref (ad o 0 1), .int 15, .int ((p1 / 8) - (p1 / 8) / r_23 * r_23), .int 0, .int 0] [] rfl rfl (Nat.le_of_ble_eq_true rfl) dL_refuses_1058 ⟨(Nat.le_of_ble_eq_true rfl), (Nat.le_of_ble_eq_true rfl)⟩ (k_C_15 ha hst o ((p1 / 8) - (p1 / 8) / r_23 * r_23) 0 0 m_17 k_27) rfl rfl (gS kw_3_88 kw_3_89 kw_1_0 kw_3_90) hy_L_call.2 ⟨(Nat.le_of_ble_eq_true rfl), (Nat.le_of_ble_eq_true rfl)⟩ (fun r_26 g9 hq => ?_)
                        obtain ⟨er_26, hq⟩ := hq
                        rw [hq]
                        have h := h r_26 er_26
                        refine q_istore (lv' := [(10, .int r_26), (8, .int y_16), (0, .ref (ad o 0 1)), (1, .int p1), (4, .int y_3), (5, .int y_4), (7, .int x_6)]) X dL_refuses_1061 (by decide) rfl ?_
                        refine q_iconst (v := 1) X dL_refuses_1063 (by decide) ?_
                        refine q_iload_n (j := 3) X dL_refuses_1064 rfl rfl ?_
                        refine q_sipush (v := 600) X dL_refuses_1065 (by decide) ?_
                        refine q_irem X dL_refuses_1068 (by decide) ?_
                        refine q_iadd X dL_refuses_1069 ?_
                        refine q_topi (fun x_28 ex_28 => ?_)
                        have h := h x_28 ex_28
                        refine q_istore (lv' := [(11, .int x_28), (10, .int r_26), (8, .int y_16), (0, .ref (ad o 0 1)), (1, .int p1), (4, .int y_3), (5, .int y_4), (7, .int x_6)]) X dL_refuses_1070 (by decide) rfl ?_
                        refine q_aload_n (j := 3) X dL_refuses_1072 rfl rfl ?_
                        refine q_bipush (v := 19) X dL_refuses_1073 (by decide) ?_
                        refine q_iload (j := 1) X dL_refuses_1075 rfl ?_
                        refine q_iconst (v := 0) X dL_refuses_1077 (by decide) ?_
                        refine q_iconst (v := 0) X dL_refuses_1078 (by decide) ?_
                        obtain ⟨k_30, h⟩ := h
                        refine qG_own X hW hZ (fun _ h => h) YT_ok [.ref (ad o 0 1), .int 19, .int r_26, .int 0, .int 0] [] rfl rfl (Nat.le_of_ble_eq_true rfl) dL_refuses_1079 ⟨(Nat.le_of_ble_eq_true rfl), (Nat.le_of_ble_eq_true rfl)⟩ (k_C_19 ha hst o r_26 0 0 m_17 k_30) rfl rfl (gS kw_3_88 kw_3_89 kw_1_0 kw_3_90) hy_L_call.2 ⟨(Nat.le_of_ble_eq_true rfl), (Nat.le_of_ble_eq_true rfl)⟩ (fun r_29 g9 hq => ?_)
                        obtain ⟨er_29, hq⟩ := hq
                        rw [hq]
                        have h := h r_29 er_29
                        refine q_istore (lv' := [(12, .int r_29), (11, .int x_28), (10, .int r_26), (8, .int y_16), (0, .ref (ad o 0 1)), (1, .int p1), (4, .int y_3), (5, .int y_4), (7, .int x_6)]) X dL_refuses_1082 (by decide) rfl ?_
                        refine q_aload_n (j := 4) X dL_refuses_1084 rfl rfl ?_
                        refine q_iconst (v := 0) X dL_refuses_1085 (by decide) ?_
                        refine q_iload (j := 2) X dL_refuses_1086 rfl ?_
                        refine q_iload (j := 7) X dL_refuses_1088 rfl ?_
                        refine q_iconst (v := 0) X dL_refuses_1090 (by decide) ?_
                        obtain ⟨k_32, h⟩ := h
                        refine qG_own X hW hZ (fun _ h => h) YT_ok [.ref (ad o 0 1), .int 0, .int r_26, .int y_4, .int 0] [] rfl rfl (Nat.le_of_ble_eq_true rfl) dL_refuses_1091 ⟨(Nat.le_of_ble_eq_true rfl), (Nat.le_of_ble_eq_true rfl)⟩ (k_C_0 ha hst o r_26 y_4 0 m_17 k_32) rfl rfl (gS kw_3_88 kw_3_89 kw_1_0 kw_3_90) hy_L_call.2 ⟨(Nat.le_of_ble_eq_true rfl), (Nat.le_of_ble_eq_true rfl)⟩ (fun r_31 g_33 hq => ?_)
                        refine q_wi (fun hi => ?_)
                        have h := h r_31 hq.1 g_33 hq.2 hi
                        refine q_ldc (v := -9999002) X kw_3_86 dL_refuses_1094 ?_
                        refine q_icmp_ne (tgt := 1355) X dL_refuses_1096 (by decide) (fun c_34 => ?_) (fun c_34 => ?_)
                        · have h := h.1 c_34
                          refine q_iconst (v := 0) X dL_refuses_1355 (by decide) ?_
                          exact hE _ _ _ _ _ _ dL_refuses_1356 (by omega) (by omega) (Or.inl rfl) h
                        · have h := h.2 c_34
                          refine q_aload_n (j := 4) X dL_refuses_1099 rfl rfl ?_
                          refine q_iconst (v := 1) X dL_refuses_1100 (by decide) ?_
                          refine q_iload (j := 2) X dL_refuses_1101 rfl ?_
                          refine q_iload (j := 7) X dL_refuses_1103 rfl ?_
                          refine q_iconst (v := 0) X dL_refuses_1105 (by decide) ?_
                          obtain ⟨k_36, h⟩ := h
                          refine qG_own X hW hZ (fun _ h => h) YT_ok [.ref (ad o 0 1), .int 1, .int r_26, .int y_4, .int 0] [] rfl rfl (Nat.le_of_ble_eq_true rfl) dL_refuses_1106 ⟨(Nat.le_of_ble_eq_true rfl), (Nat.le_of_ble_eq_true rfl)⟩ (k_C_1 ha hst o r_26 y_4 0 g_33 k_36) rfl rfl (gS kw_3_88 kw_3_89 kw_1_0 kw_3_90) hy_L_call.2 ⟨(Nat.le_of_ble_eq_true rfl), (Nat.le_of_ble_eq_true rfl)⟩ (fun r_35 g_37 hq => ?_)
                          refine q_wi (fun hi => ?_)
                          have h := h r_35 hq.1 g_37 hq.2 hi
                          refine q_ldc (v := -9999002) X kw_3_86 dL_refuses_1109 ?_
                          refine q_icmp_ne (tgt := 1355) X dL_refuses_1111 (by decide) (fun c_38 => ?_) (fun c_38 => ?_)
                          · have h := h.1 c_38
                            refine q_iconst (v := 0) X dL_refuses_1355 (by decide) ?_
                            exact hE _ _ _ _ _ _ dL_refuses_1356 (by omega) (by omega) (Or.inl rfl) h
                          · have h := h.2 c_38
                            refine q_aload_n (j := 4) X dL_refuses_1114 rfl rfl ?_
                            refine q_iconst (v := 3) X dL_refuses_1115 (by decide) ?_
                            refine q_iload (j := 2) X dL_refuses_1116 rfl ?_
                            refine q_iload (j := 6) X dL_refuses_1118 rfl ?_
                            refine q_iconst (v := 0) X dL_refuses_1120 (by decide) ?_
                            obtain ⟨k_40, h⟩ := h
                            refine qG_own X hW hZ (fun _ h => h) YT_ok [.ref (ad o 0 1), .int 3, .int r_26, .int y_3, .int 0] [] rfl rfl (Nat.le_of_ble_eq_true rfl) dL_refuses_1121 ⟨(Nat.le_of_ble_eq_true rfl), (Nat.le_of_ble_eq_true rfl)⟩ (k_C_3 ha hst o r_26 y_3 0 g_37 k_40) rfl rfl (gS kw_3_88 kw_3_89 kw_1_0 kw_3_90) hy_L_call.2 ⟨(Nat.le_of_ble_eq_true rfl), (Nat.le_of_ble_eq_true rfl)⟩ (fun r_39 g_41 hq => ?_)
                            refine q_wi (fun hi => ?_)
                            have h := h r_39 hq.1 g_41 hq.2 hi
                            refine q_ldc (v := -9999001) X kw_3_145 dL_refuses_1124 ?_
                            refine q_icmp_ne (tgt := 1355) X dL_refuses_1126 (by decide) (fun c_42 => ?_) (fun c_42 => ?_)
                            · have h := h.1 c_42
                              refine q_iconst (v := 0) X dL_refuses_1355 (by decide) ?_
                              exact hE _ _ _ _ _ _ dL_refuses_1356 (by omega) (by omega) (Or.inl rfl) h
                            · have h := h.2 c_42
                              refine q_aload_n (j := 4) X dL_refuses_1129 rfl rfl ?_
                              refine q_iconst (v := 4) X dL_refuses_1130 (by decide) ?_
                              refine q_iload (j := 2) X dL_refuses_1131 rfl ?_
                              refine q_aload_n (j := 4) X dL_refuses_1133 rfl rfl ?_
                              refine q_bipush (v := 17) X dL_refuses_1134 (by decide) ?_
                              refine q_iload (j := 2) X dL_refuses_1136 rfl ?_
                              refine q_iconst (v := 0) X dL_refuses_1138 (by decide) ?_
                              refine q_iconst (v := 0) X dL_refuses_1139 (by decide) ?_
                              obtain ⟨k_44, h⟩ := h
                              refine qG_own X hW hZ (fun _ h => h) YT_ok [.ref (ad o 0 1), .int 17, .int r_26, .int 0, .int 0] [.int r_26, .int 4, .ref (ad o 0 1)] rfl rfl (Nat.le_of_ble_eq_true rfl) dL_refuses_1140 ⟨(Nat.le_of_ble_eq_true rfl), (Nat.le_of_ble_eq_true rfl)⟩ (k_C_17 ha hst o r_26 0 0 g_41 k_44) rfl rfl (gS kw_3_88 kw_3_89 kw_1_0 kw_3_90) hy_L_call.2 ⟨(Nat.le_of_ble_eq_true rfl), (Nat.le_of_ble_eq_true rfl)⟩ (fun r_43 g9 hq => ?_)
                              obtain ⟨er_43, hq⟩ := hq
                              rw [hq]
                              have h := h r_43 er_43
                              refine q_iconst (v := 0) X dL_refuses_1143 (by decide) ?_
                              obtain ⟨k_46, h⟩ := h
                              refine qG_own X hW hZ (fun _ h => h) YT_ok [.ref (ad o 0 1), .int 4, .int r_26, .int r_43, .int 0] [] rfl rfl (Nat.le_of_ble_eq_true rfl) dL_refuses_1144 ⟨(Nat.le_of_ble_eq_true rfl), (Nat.le_of_ble_eq_true rfl)⟩ (k_C_4 ha hst o r_26 r_43 0 g_41 k_46) rfl rfl (gS kw_3_88 kw_3_89 kw_1_0 kw_3_90) hy_L_call.2 ⟨(Nat.le_of_ble_eq_true rfl), (Nat.le_of_ble_eq_true rfl)⟩ (fun r_45 g_47 hq => ?_)
                              refine q_wi (fun hi => ?_)
                              have h := h r_45 hq.1 g_47 hq.2 hi
                              refine q_ldc (v := -9999002) X kw_3_86 dL_refuses_1147 ?_
                              refine q_icmp_ne (tgt := 1355) X dL_refuses_1149 (by decide) (fun c_48 => ?_) (fun c_48 => ?_)
                              · have h := h.1 c_48
                                refine q_iconst (v := 0) X dL_refuses_1355 (by decide) ?_
                                exact hE _ _ _ _ _ _ dL_refuses_1356 (by omega) (by omega) (Or.inl rfl) h
                              · have h := h.2 c_48
                                refine q_aload_n (j := 4) X dL_refuses_1152 rfl rfl ?_
                                refine q_iconst (v := 5) X dL_refuses_1153 (by decide) ?_
                                refine q_iload (j := 2) X dL_refuses_1154 rfl ?_
                                refine q_iload (j := 2) X dL_refuses_1156 rfl ?_
                                refine q_iconst (v := 0) X dL_refuses_1158 (by decide) ?_
                                obtain ⟨k_50, h⟩ := h
                                refine qG_own X hW hZ (fun _ h => h) YT_ok [.ref (ad o 0 1), .int 5, .int r_26, .int r_26, .int 0] [] rfl rfl (Nat.le_of_ble_eq_true rfl) dL_refuses_1159 ⟨(Nat.le_of_ble_eq_true rfl), (Nat.le_of_ble_eq_true rfl)⟩ (k_C_5 ha hst o r_26 r_26 0 g_47 k_50) rfl rfl (gS kw_3_88 kw_3_89 kw_1_0 kw_3_90) hy_L_call.2 ⟨(Nat.le_of_ble_eq_true rfl), (Nat.le_of_ble_eq_true rfl)⟩ (fun r_49 g_51 hq => ?_)
                                refine q_wi (fun hi => ?_)
                                have h := h r_49 hq.1 g_51 hq.2 hi
                                refine q_ldc (v := -9999002) X kw_3_86 dL_refuses_1162 ?_
                                refine q_icmp_ne (tgt := 1355) X dL_refuses_1164 (by decide) (fun c_52 => ?_) (fun c_52 => ?_)
                                · have h := h.1 c_52
                                  refine q_iconst (v := 0) X dL_refuses_1355 (by decide) ?_
                                  exact hE _ _ _ _ _ _ dL_refuses_1356 (by omega) (by omega) (Or.inl rfl) h
                                · have h := h.2 c_52
                                  refine q_aload_n (j := 4) X dL_refuses_1167 rfl rfl ?_
                                  refine q_bipush (v := 6) X dL_refuses_1168 (by decide) ?_
                                  refine q_iload (j := 2) X dL_refuses_1170 rfl ?_
                                  refine q_aload_n (j := 4) X dL_refuses_1172 rfl rfl ?_
                                  refine q_bipush (v := 17) X dL_refuses_1173 (by decide) ?_
                                  refine q_iload (j := 2) X dL_refuses_1175 rfl ?_
                                  refine q_iconst (v := 0) X dL_refuses_1177 (by decide) ?_
                                  refine q_iconst (v := 0) X dL_refuses_1178 (by decide) ?_
                                  obtain ⟨k_54, h⟩ := h
                                  refine qG_own X hW hZ (fun _ h => h) YT_ok [.ref (ad o 0 1), .int 17, .int r_26, .int 0, .int 0] [.int r_26, .int 6, .ref (ad o 0 1)] rfl rfl (Nat.le_of_ble_eq_true rfl) dL_refuses_1179 ⟨(Nat.le_of_ble_eq_true rfl), (Nat.le_of_ble_eq_true rfl)⟩ (k_C_17 ha hst o r_26 0 0 g_51 k_54) rfl rfl (gS kw_3_88 kw_3_89 kw_1_0 kw_3_90) hy_L_call.2 ⟨(Nat.le_of_ble_eq_true rfl), (Nat.le_of_ble_eq_true rfl)⟩ (fun r_53 g9 hq => ?_)
                                  obtain ⟨er_53, hq⟩ := hq
                                  rw [hq]
                                  have h := h r_53 er_53
                                  refine q_iconst (v := 1) X dL_refuses_1182 (by decide) ?_
                                  refine q_iadd X dL_refuses_1183 ?_
                                  refine q_iconst (v := 0) X dL_refuses_1184 (by decide) ?_
                                  obtain ⟨k_56, h⟩ := h
                                  refine qG_own X hW hZ (fun _ h => h) YT_ok [.ref (ad o 0 1), .int 6, .int r_26, .int (r_53 + 1), .int 0] [] rfl rfl (Nat.le_of_ble_eq_true rfl) dL_refuses_1185 ⟨(Nat.le_of_ble_eq_true rfl), (Nat.le_of_ble_eq_true rfl)⟩ (k_C_6 ha hst o r_26 (r_53 + 1) 0 g_51 k_56) rfl rfl (gS kw_3_88 kw_3_89 kw_1_0 kw_3_90) hy_L_call.2 ⟨(Nat.le_of_ble_eq_true rfl), (Nat.le_of_ble_eq_true rfl)⟩ (fun r_55 g_57 hq => ?_)
                                  refine q_wi (fun hi => ?_)
                                  have h := h r_55 hq.1 g_57 hq.2 hi
                                  refine q_ldc (v := -9999002) X kw_3_86 dL_refuses_1188 ?_
                                  refine q_icmp_ne (tgt := 1355) X dL_refuses_1190 (by decide) (fun c_58 => ?_) (fun c_58 => ?_)
                                  · have h := h.1 c_58
                                    refine q_iconst (v := 0) X dL_refuses_1355 (by decide) ?_
                                    exact hE _ _ _ _ _ _ dL_refuses_1356 (by omega) (by omega) (Or.inl rfl) h
                                  · have h := h.2 c_58
                                    refine q_aload_n (j := 4) X dL_refuses_1193 rfl rfl ?_
                                    refine q_bipush (v := 21) X dL_refuses_1194 (by decide) ?_
                                    refine q_iload (j := 2) X dL_refuses_1196 rfl ?_
                                    refine q_iconst (v := 0) X dL_refuses_1198 (by decide) ?_
                                    refine q_iconst (v := 0) X dL_refuses_1199 (by decide) ?_
                                    obtain ⟨k_60, h⟩ := h
                                    refine qG_own X hW hZ (fun _ h => h) YT_ok [.ref (ad o 0 1), .int 21, .int r_26, .int 0, .int 0] [] rfl rfl (Nat.le_of_ble_eq_true rfl) dL_refuses_1200 ⟨(Nat.le_of_ble_eq_true rfl), (Nat.le_of_ble_eq_true rfl)⟩ (k_C_21 ha hst o r_26 0 0 g_57 k_60) rfl rfl (gS kw_3_88 kw_3_89 kw_1_0 kw_3_90) hy_L_call.2 ⟨(Nat.le_of_ble_eq_true rfl), (Nat.le_of_ble_eq_true rfl)⟩ (fun r_59 g9 hq => ?_)
                                    obtain ⟨er_59, hq⟩ := hq
                                    rw [hq]
                                    have h := h r_59 er_59
                                    refine q_ldc (v := -9999002) X kw_3_86 dL_refuses_1203 ?_
                                    refine q_icmp_ne (tgt := 1355) X dL_refuses_1205 (by decide) (fun c_61 => ?_) (fun c_61 => ?_)
                                    · have h := h.1 c_61
                                      refine q_iconst (v := 0) X dL_refuses_1355 (by decide) ?_
                                      exact hE _ _ _ _ _ _ dL_refuses_1356 (by omega) (by omega) (Or.inl rfl) h
                                    · have h := h.2 c_61
                                      refine q_aload_n (j := 4) X dL_refuses_1208 rfl rfl ?_
                                      refine q_bipush (v := 47) X dL_refuses_1209 (by decide) ?_
                                      refine q_iload (j := 2) X dL_refuses_1211 rfl ?_
                                      refine q_sipush (v := 366) X dL_refuses_1213 (by decide) ?_
                                      refine q_iconst (v := 0) X dL_refuses_1216 (by decide) ?_
                                      obtain ⟨k_63, h⟩ := h
                                      refine qG_own X hW hZ (fun _ h => h) YT_ok [.ref (ad o 0 1), .int 47, .int r_26, .int 366, .int 0] [] rfl rfl (Nat.le_of_ble_eq_true rfl) dL_refuses_1217 ⟨(Nat.le_of_ble_eq_true rfl), (Nat.le_of_ble_eq_true rfl)⟩ (k_C_47 ha hst o r_26 366 0 g_57 k_63) rfl rfl (gS kw_3_88 kw_3_89 kw_1_0 kw_3_90) hy_L_call.2 ⟨(Nat.le_of_ble_eq_true rfl), (Nat.le_of_ble_eq_true rfl)⟩ (fun r_62 g9 hq => ?_)
                                      obtain ⟨er_62, hq⟩ := hq
                                      rw [hq]
                                      have h := h r_62 er_62
                                      refine q_ldc (v := -9999002) X kw_3_86 dL_refuses_1220 ?_
                                      refine q_icmp_ne (tgt := 1355) X dL_refuses_1222 (by decide) (fun c_64 => ?_) (fun c_64 => ?_)
                                      · have h := h.1 c_64
                                        refine q_iconst (v := 0) X dL_refuses_1355 (by decide) ?_
                                        exact hE _ _ _ _ _ _ dL_refuses_1356 (by omega) (by omega) (Or.inl rfl) h
                                      · have h := h.2 c_64
                                        refine q_aload_n (j := 4) X dL_refuses_1225 rfl rfl ?_
                                        refine q_iconst (v := 3) X dL_refuses_1226 (by decide) ?_
                                        refine q_iload (j := 2) X dL_refuses_1227 rfl ?_
                                        refine q_iload (j := 0) X dL_refuses_1229 rfl ?_
                                        refine q_iconst (v := 0) X dL_refuses_1231 (by decide) ?_
                                        obtain ⟨k_66, h⟩ := h
                                        refine qG_own X hW hZ (fun _ h => h) YT_ok [.ref (ad o 0 1), .int 3, .int r_26, .int r_29, .int 0] [] rfl rfl (Nat.le_of_ble_eq_true rfl) dL_refuses_1232 ⟨(Nat.le_of_ble_eq_true rfl), (Nat.le_of_ble_eq_true rfl)⟩ (k_C_3 ha hst o r_26 r_29 0 g_57 k_66) rfl rfl (gS kw_3_88 kw_3_89 kw_1_0 kw_3_90) hy_L_call.2 ⟨(Nat.le_of_ble_eq_true rfl), (Nat.le_of_ble_eq_true rfl)⟩ (fun r_65 g_67 hq => ?_)
                                        refine q_wi (fun hi => ?_)
                                        have h := h r_65 hq.1 g_67 hq.2 hi
                                        refine q_ldc (v := -9999003) X kw_3_87 dL_refuses_1235 ?_
                                        refine q_icmp_ne (tgt := 1355) X dL_refuses_1237 (by decide) (fun c_68 => ?_) (fun c_68 => ?_)
                                        · have h := h.1 c_68
                                          refine q_iconst (v := 0) X dL_refuses_1355 (by decide) ?_
                                          exact hE _ _ _ _ _ _ dL_refuses_1356 (by omega) (by omega) (Or.inl rfl) h
                                        · have h := h.2 c_68
                                          refine q_aload_n (j := 4) X dL_refuses_1240 rfl rfl ?_
                                          refine q_iload (j := 0) X dL_refuses_1241 rfl ?_
                                          obtain ⟨k_70, h⟩ := h
                                          refine qG_ownW X hW hZ (fun _ h => h) YT_ok [.ref (ad o 0 1), .int r_29] [] rfl rfl (Nat.le_of_ble_eq_true rfl) dL_refuses_1243 ⟨(Nat.le_of_ble_eq_true rfl), (Nat.le_of_ble_eq_true rfl)⟩ (k_L_isLocked ha hst o r_29 g_67 k_70) rfl rfl (gSW kw_6_141 kw_6_142 kw_1_0 kw_6_143) hy_L_isLocked.2 ⟨(Nat.le_of_ble_eq_true rfl), (Nat.le_of_ble_eq_true rfl)⟩ (fun r_69 g9 hq => ?_)
                                          obtain ⟨er_69, hq⟩ := hq
                                          rw [hq]
                                          have h := h r_69 er_69
                                          have J1264 : ∀ (m_71 : Gh), w_L_refuses_J1264 o Q9 x_6 r_26 x_28 m_71 → V p l e rm_L_refuses s m args below meth c QQ 13 (AU A) 132 (6 * 132) (WY D cA ad YT m_71) 1264 [(0, .ref (ad o 0 1)), (7, .int x_6), (10, .int r_26), (11, .int x_28)] [] := by
                                            intro m_71 h
                                            unfold w_L_refuses_J1264 at h
                                            refine q_aload_n (j := 0) X dL_refuses_1264 rfl rfl ?_
                                            refine q_bipush (v := 41) X dL_refuses_1265 (by decide) ?_
                                            refine q_iload (j := 2) X dL_refuses_1267 rfl ?_
                                            refine q_iload (j := 3) X dL_refuses_1269 rfl ?_
                                            refine q_iconst (v := 0) X dL_refuses_1271 (by decide) ?_
                                            obtain ⟨k_73, h⟩ := h
                                            refine qG_own X hW hZ (fun _ h => h) YT_ok [.ref (ad o 0 1), .int 41, .int r_26, .int x_28, .int 0] [] rfl rfl (Nat.le_of_ble_eq_true rfl) dL_refuses_1272 ⟨(Nat.le_of_ble_eq_true rfl), (Nat.le_of_ble_eq_true rfl)⟩ (k_C_41 ha hst o r_26 x_28 0 m_71 k_73) rfl rfl (gS kw_3_88 kw_3_89 kw_1_0 kw_3_90) hy_L_call.2 ⟨(Nat.le_of_ble_eq_true rfl), (Nat.le_of_ble_eq_true rfl)⟩ (fun r_72 g9 hq => ?_)
                                            obtain ⟨er_72, hq⟩ := hq
                                            rw [hq]
                                            have h := h r_72 er_72
                                            have J1293 : ∀ (m_74 : Gh), w_L_refuses_J1293 o Q9 x_6 r_26 x_28 m_74 → V p l e rm_L_refuses s m args below meth c QQ 13 (AU A) 136 (6 * 136) (WY D cA ad YT m_74) 1293 [(0, .ref (ad o 0 1)), (7, .int x_6), (10, .int r_26), (11, .int x_28)] [] := by
                                              intro m_74 h
                                              unfold w_L_refuses_J1293 at h
                                              refine q_aload_n (j := 0) X dL_refuses_1293 rfl rfl ?_
                                              refine q_bipush (v := 42) X dL_refuses_1294 (by decide) ?_
                                              refine q_iload (j := 2) X dL_refuses_1296 rfl ?_
                                              refine q_iload (j := 3) X dL_refuses_1298 rfl ?_
                                              refine q_iconst (v := 0) X dL_refuses_1300 (by decide) ?_
                                              obtain ⟨k_76, h⟩ := h
                                              refine qG_own X hW hZ (fun _ h => h) YT_ok [.ref (ad o 0 1), .int 42, .int r_26, .int x_28, .int 0] [] rfl rfl (Nat.le_of_ble_eq_true rfl) dL_refuses_1301 ⟨(Nat.le_of_ble_eq_true rfl), (Nat.le_of_ble_eq_true rfl)⟩ (k_C_42 ha hst o r_26 x_28 0 m_74 k_76) rfl rfl (gS kw_3_88 kw_3_89 kw_1_0 kw_3_90) hy_L_call.2 ⟨(Nat.le_of_ble_eq_true rfl), (Nat.le_of_ble_eq_true rfl)⟩ (fun r_75 g9 hq => ?_)
                                              obtain ⟨er_75, hq⟩ := hq
                                              rw [hq]
                                              have h := h r_75 er_75
                                              have J1322 : ∀ (m_77 : Gh), w_L_refuses_J1322 o Q9 x_6 r_26 m_77 → V p l e rm_L_refuses s m args below meth c QQ 13 (AU A) 140 (6 * 140) (WY D cA ad YT m_77) 1322 [(0, .ref (ad o 0 1)), (7, .int x_6), (10, .int r_26)] [] := by
                                                intro m_77 h
                                                unfold w_L_refuses_J1322 at h
                                                refine q_aload_n (j := 0) X dL_refuses_1322 rfl rfl ?_
                                                refine q_bipush (v := 43) X dL_refuses_1323 (by decide) ?_
                                                refine q_iload (j := 2) X dL_refuses_1325 rfl ?_
                                                refine q_iload (j := 1) X dL_refuses_1327 rfl ?_
                                                refine q_iconst (v := 0) X dL_refuses_1329 (by decide) ?_
                                                obtain ⟨k_79, h⟩ := h
                                                refine qG_own X hW hZ (fun _ h => h) YT_ok [.ref (ad o 0 1), .int 43, .int r_26, .int x_6, .int 0] [] rfl rfl (Nat.le_of_ble_eq_true rfl) dL_refuses_1330 ⟨(Nat.le_of_ble_eq_true rfl), (Nat.le_of_ble_eq_true rfl)⟩ (k_C_43 ha hst o r_26 x_6 0 m_77 k_79) rfl rfl (gS kw_3_88 kw_3_89 kw_1_0 kw_3_90) hy_L_call.2 ⟨(Nat.le_of_ble_eq_true rfl), (Nat.le_of_ble_eq_true rfl)⟩ (fun r_78 g9 hq => ?_)
                                                obtain ⟨er_78, hq⟩ := hq
                                                rw [hq]
                                                have h := h r_78 er_78
                                                refine q_if_eq (tgt := 1351) X dL_refuses_1333 (by decide) (fun c_80 => ?_) (fun c_80 => ?_)
                                                · have h := h.1 c_80
                                                  refine q_iconst (v := 1) X dL_refuses_1351 (by decide) ?_
                                                  refine q_goto (tgt := 1356) X dL_refuses_1352 (by decide) ?_
                                                  exact hE _ _ _ _ _ _ dL_refuses_1356 (by omega) (by omega) (Or.inr rfl) h
                                                · have h := h.2 c_80
                                                  refine q_aload_n (j := 0) X dL_refuses_1336 rfl rfl ?_
                                                  refine q_iconst (v := 3) X dL_refuses_1337 (by decide) ?_
                                                  refine q_iload (j := 2) X dL_refuses_1338 rfl ?_
                                                  refine q_iload (j := 1) X dL_refuses_1340 rfl ?_
                                                  refine q_iconst (v := 0) X dL_refuses_1342 (by decide) ?_
                                                  obtain ⟨k_82, h⟩ := h
                                                  refine qG_own X hW hZ (fun _ h => h) YT_ok [.ref (ad o 0 1), .int 3, .int r_26, .int x_6, .int 0] [] rfl rfl (Nat.le_of_ble_eq_true rfl) dL_refuses_1343 ⟨(Nat.le_of_ble_eq_true rfl), (Nat.le_of_ble_eq_true rfl)⟩ (k_C_3 ha hst o r_26 x_6 0 m_77 k_82) rfl rfl (gS kw_3_88 kw_3_89 kw_1_0 kw_3_90) hy_L_call.2 ⟨(Nat.le_of_ble_eq_true rfl), (Nat.le_of_ble_eq_true rfl)⟩ (fun r_81 g_83 hq => ?_)
                                                  refine q_wi (fun hi => ?_)
                                                  have h := h r_81 hq.1 g_83 hq.2 hi
                                                  refine q_ldc (v := -9999003) X kw_3_87 dL_refuses_1346 ?_
                                                  refine q_icmp_ne (tgt := 1355) X dL_refuses_1348 (by decide) (fun c_84 => ?_) (fun c_84 => ?_)
                                                  · have h := h.1 c_84
                                                    refine q_iconst (v := 0) X dL_refuses_1355 (by decide) ?_
                                                    exact hE _ _ _ _ _ _ dL_refuses_1356 (by omega) (by omega) (Or.inl rfl) h
                                                  · have h := h.2 c_84
                                                    refine q_iconst (v := 1) X dL_refuses_1351 (by decide) ?_
                                                    refine q_goto (tgt := 1356) X dL_refuses_1352 (by decide) ?_
                                                    exact hE _ _ _ _ _ _ dL_refuses_1356 (by omega) (by omega) (Or.inr rfl) h
                                              refine q_if_eq (tgt := 1322) X dL_refuses_1304 (by decide) (fun c_85 => ?_) (fun c_85 => ?_)
                                              · have h := h.1 c_85
                                                refine q_sub [0, 1, 2] rfl ?_
                                                refine q_w (c2 := 140) (n2 := (6 * 140)) (by omega) (by omega) ?_
                                                exact J1322 m_74 h
                                              · have h := h.2 c_85
                                                refine q_aload_n (j := 0) X dL_refuses_1307 rfl rfl ?_
                                                refine q_iconst (v := 1) X dL_refuses_1308 (by decide) ?_
                                                refine q_iload (j := 2) X dL_refuses_1309 rfl ?_
                                                refine q_iload (j := 3) X dL_refuses_1311 rfl ?_
                                                refine q_iconst (v := 0) X dL_refuses_1313 (by decide) ?_
                                                obtain ⟨k_87, h⟩ := h
                                                refine qG_own X hW hZ (fun _ h => h) YT_ok [.ref (ad o 0 1), .int 1, .int r_26, .int x_28, .int 0] [] rfl rfl (Nat.le_of_ble_eq_true rfl) dL_refuses_1314 ⟨(Nat.le_of_ble_eq_true rfl), (Nat.le_of_ble_eq_true rfl)⟩ (k_C_1 ha hst o r_26 x_28 0 m_74 k_87) rfl rfl (gS kw_3_88 kw_3_89 kw_1_0 kw_3_90) hy_L_call.2 ⟨(Nat.le_of_ble_eq_true rfl), (Nat.le_of_ble_eq_true rfl)⟩ (fun r_86 g_88 hq => ?_)
                                                refine q_wi (fun hi => ?_)
                                                have h := h r_86 hq.1 g_88 hq.2 hi
                                                refine q_ldc (v := -9999003) X kw_3_87 dL_refuses_1317 ?_
                                                refine q_icmp_ne (tgt := 1355) X dL_refuses_1319 (by decide) (fun c_89 => ?_) (fun c_89 => ?_)
                                                · have h := h.1 c_89
                                                  refine q_iconst (v := 0) X dL_refuses_1355 (by decide) ?_
                                                  exact hE _ _ _ _ _ _ dL_refuses_1356 (by omega) (by omega) (Or.inl rfl) h
                                                · have h := h.2 c_89
                                                  refine q_sub [0, 1, 2] rfl ?_
                                                  refine q_w (c2 := 140) (n2 := (6 * 140)) (by omega) (by omega) ?_
                                                  exact J1322 g_88 h
                                            refine q_if_eq (tgt := 1293) X dL_refuses_1275 (by decide) (fun c_90 => ?_) (fun c_90 => ?_)
                                            · have h := h.1 c_90
                                              refine q_sub [0, 1, 2, 3] rfl ?_
                                              refine q_w (c2 := 136) (n2 := (6 * 136)) (by omega) (by omega) ?_
                                              exact J1293 m_71 h
                                            · have h := h.2 c_90
                                              refine q_aload_n (j := 0) X dL_refuses_1278 rfl rfl ?_
                                              refine q_iconst (v := 0) X dL_refuses_1279 (by decide) ?_
                                              refine q_iload (j := 2) X dL_refuses_1280 rfl ?_
                                              refine q_iload (j := 3) X dL_refuses_1282 rfl ?_
                                              refine q_iconst (v := 0) X dL_refuses_1284 (by decide) ?_
                                              obtain ⟨k_92, h⟩ := h
                                              refine qG_own X hW hZ (fun _ h => h) YT_ok [.ref (ad o 0 1), .int 0, .int r_26, .int x_28, .int 0] [] rfl rfl (Nat.le_of_ble_eq_true rfl) dL_refuses_1285 ⟨(Nat.le_of_ble_eq_true rfl), (Nat.le_of_ble_eq_true rfl)⟩ (k_C_0 ha hst o r_26 x_28 0 m_71 k_92) rfl rfl (gS kw_3_88 kw_3_89 kw_1_0 kw_3_90) hy_L_call.2 ⟨(Nat.le_of_ble_eq_true rfl), (Nat.le_of_ble_eq_true rfl)⟩ (fun r_91 g_93 hq => ?_)
                                              refine q_wi (fun hi => ?_)
                                              have h := h r_91 hq.1 g_93 hq.2 hi
                                              refine q_ldc (v := -9999003) X kw_3_87 dL_refuses_1288 ?_
                                              refine q_icmp_ne (tgt := 1355) X dL_refuses_1290 (by decide) (fun c_94 => ?_) (fun c_94 => ?_)
                                              · have h := h.1 c_94
                                                refine q_iconst (v := 0) X dL_refuses_1355 (by decide) ?_
                                                exact hE _ _ _ _ _ _ dL_refuses_1356 (by omega) (by omega) (Or.inl rfl) h
                                              · have h := h.2 c_94
                                                refine q_sub [0, 1, 2, 3] rfl ?_
                                                refine q_w (c2 := 136) (n2 := (6 * 136)) (by omega) (by omega) ?_
                                                exact J1293 g_93 h
                                          refine q_if_eq (tgt := 1264) X dL_refuses_1246 (by decide) (fun c_95 => ?_) (fun c_95 => ?_)
                                          · have h := h.1 c_95
                                            refine q_sub [4, 8, 2, 1] rfl ?_
                                            refine q_w (c2 := 132) (n2 := (6 * 132)) (by omega) (by omega) ?_
                                            exact J1264 g_67 h
                                          · have h := h.2 c_95
                                            refine q_aload_n (j := 4) X dL_refuses_1249 rfl rfl ?_
                                            refine q_bipush (v := 6) X dL_refuses_1250 (by decide) ?_
                                            refine q_iload (j := 2) X dL_refuses_1252 rfl ?_
                                            refine q_iconst (v := 0) X dL_refuses_1254 (by decide) ?_
                                            refine q_iconst (v := 0) X dL_refuses_1255 (by decide) ?_
                                            obtain ⟨k_97, h⟩ := h
                                            refine qG_own X hW hZ (fun _ h => h) YT_ok [.ref (ad o 0 1), .int 6, .int r_26, .int 0, .int 0] [] rfl rfl (Nat.le_of_ble_eq_true rfl) dL_refuses_1256 ⟨(Nat.le_of_ble_eq_true rfl), (Nat.le_of_ble_eq_true rfl)⟩ (k_C_6 ha hst o r_26 0 0 g_67 k_97) rfl rfl (gS kw_3_88 kw_3_89 kw_1_0 kw_3_90) hy_L_call.2 ⟨(Nat.le_of_ble_eq_true rfl), (Nat.le_of_ble_eq_true rfl)⟩ (fun r_96 g_98 hq => ?_)
                                            refine q_wi (fun hi => ?_)
                                            have h := h r_96 hq.1 g_98 hq.2 hi
                                            refine q_ldc (v := -9999003) X kw_3_87 dL_refuses_1259 ?_
                                            refine q_icmp_ne (tgt := 1355) X dL_refuses_1261 (by decide) (fun c_99 => ?_) (fun c_99 => ?_)
                                            · have h := h.1 c_99
                                              refine q_iconst (v := 0) X dL_refuses_1355 (by decide) ?_
                                              exact hE _ _ _ _ _ _ dL_refuses_1356 (by omega) (by omega) (Or.inl rfl) h
                                            · have h := h.2 c_99
                                              refine q_sub [4, 8, 2, 1] rfl ?_
                                              refine q_w (c2 := 132) (n2 := (6 * 132)) (by omega) (by omega) ?_
                                              exact J1264 g_98 h
                      · have h := h.2 c_22
                        refine q_iload (j := 0) X dL_refuses_1041 rfl ?_
                        obtain ⟨b_100, h⟩ := h
                        exact hE _ _ _ _ _ _ dL_refuses_1043 (by omega) (by omega) b_100 h
                  have J1026 : ∀ (m_101 : Gh), w_L_refuses_J1026 o p1 Q9 y_3 y_4 x_6 m_101 → V p l e rm_L_refuses s m args below meth c QQ 13 (AU A) 102 (6 * 102) (WY D cA ad YT m_101) 1026 [(0, .ref (ad o 0 1)), (1, .int p1), (4, .int y_3), (5, .int y_4), (7, .int x_6)] [] := by
                    intro m_101 h
                    unfold w_L_refuses_J1026 at h
                    refine q_iconst (v := 0) X dL_refuses_1026 (by decide) ?_
                    refine q_sub [0, 1, 2, 3, 4] rfl ?_
                    refine q_w (c2 := 102) (n2 := (6 * 102)) (by omega) (by omega) ?_
                    exact J1027 0 m_101 h
                  refine q_if_eq (tgt := 1026) X dL_refuses_876 (by decide) (fun c_102 => ?_) (fun c_102 => ?_)
                  · have h := h.1 c_102
                    refine q_sub [1, 2, 3, 4, 5] rfl ?_
                    refine q_w (c2 := 102) (n2 := (6 * 102)) (by omega) (by omega) ?_
                    exact J1026 m_11 h
                  · have h := h.2 c_102
                    refine q_iload (j := 0) X dL_refuses_879 rfl ?_
                    have J932 : ∀ (m_103 : Gh), w_L_refuses_J932 o p1 Q9 y_3 y_4 x_6 m_103 → V p l e rm_L_refuses s m args below meth c QQ 13 (AU A) 92 (6 * 92) (WY D cA ad YT m_103) 932 [(0, .ref (ad o 0 1)), (1, .int p1), (4, .int y_3), (5, .int y_4), (7, .int x_6)] [] := by
                      intro m_103 h
                      unfold w_L_refuses_J932 at h
                      refine q_aload_n (j := 0) X dL_refuses_932 rfl rfl ?_
                      refine q_iload (j := 4) X dL_refuses_933 rfl ?_
                      obtain ⟨k_105, h⟩ := h
                      refine qG_ownW X hW hZ (fun _ h => h) YT_ok [.ref (ad o 0 1), .int x_6] [] rfl rfl (Nat.le_of_ble_eq_true rfl) dL_refuses_935 ⟨(Nat.le_of_ble_eq_true rfl), (Nat.le_of_ble_eq_true rfl)⟩ (k_L_isBroken ha hst o x_6 m_103 k_105) rfl rfl (gSW kw_6_158 kw_6_159 kw_1_0 kw_6_160) hy_L_isBroken.2 ⟨(Nat.le_of_ble_eq_true rfl), (Nat.le_of_ble_eq_true rfl)⟩ (fun r_104 g9 hq => ?_)
                      obtain ⟨er_104, hq⟩ := hq
                      rw [hq]
                      have h := h r_104 er_104
                      have J956 : ∀ (m_106 : Gh), w_L_refuses_J956 o p1 Q9 y_3 y_4 x_6 m_106 → V p l e rm_L_refuses s m args below meth c QQ 13 (AU A) 96 (6 * 96) (WY D cA ad YT m_106) 956 [(0, .ref (ad o 0 1)), (1, .int p1), (4, .int y_3), (5, .int y_4), (7, .int x_6)] [] := by
                        intro m_106 h
                        unfold w_L_refuses_J956 at h
                        refine q_aload_n (j := 0) X dL_refuses_956 rfl rfl ?_
                        refine q_iconst (v := 1) X dL_refuses_957 (by decide) ?_
                        refine q_iconst (v := 5) X dL_refuses_958 (by decide) ?_
                        refine q_iconst (v := 5) X dL_refuses_959 (by decide) ?_
                        refine q_iload (j := 4) X dL_refuses_960 rfl ?_
                        obtain ⟨k_108, h⟩ := h
                        refine qG_ownW X hW hZ (fun _ h => h) YT_ok [.ref (ad o 0 1), .int 1, .int 5, .int 5, .int x_6] [] rfl rfl (Nat.le_of_ble_eq_true rfl) dL_refuses_962 ⟨(Nat.le_of_ble_eq_true rfl), (Nat.le_of_ble_eq_true rfl)⟩ (k_L_whyNot ha hst o 1 5 5 x_6 m_106 k_108) rfl rfl (gSW kw_6_149 kw_6_150 kw_1_0 kw_6_151) hy_L_whyNot.2 ⟨(Nat.le_of_ble_eq_true rfl), (Nat.le_of_ble_eq_true rfl)⟩ (fun r_107 g9 hq => ?_)
                        obtain ⟨er_107, hq⟩ := hq
                        rw [hq]
                        have h := h r_107 er_107
                        have J982 : ∀ (m_109 : Gh), w_L_refuses_J982 o p1 Q9 y_3 y_4 x_6 m_109 → V p l e rm_L_refuses s m args below meth c QQ 13 (AU A) 100 (6 * 100) (WY D cA ad YT m_109) 982 [(0, .ref (ad o 0 1)), (1, .int p1), (4, .int y_3), (5, .int y_4), (7, .int x_6)] [] := by
                          intro m_109 h
                          unfold w_L_refuses_J982 at h
                          refine q_aload_n (j := 0) X dL_refuses_982 rfl rfl ?_
                          obtain ⟨k_111, h⟩ := h
                          refine qG_ask X hW hZ ha (fun _ h => h) YT_ok o (val := (v_dutyAtStake (m_109.1 o))) (Qp := (fun mo r m1 => r = (v_dutyAtStake (m_109.1 o)) ∧ mo = m1)) [] [] rfl rfl (Nat.le_of_ble_eq_true rfl) dL_refuses_983 ⟨(Nat.le_of_ble_eq_true rfl), (Nat.le_of_ble_eq_true rfl)⟩ k_111 (fun mo hmo => c_X9_dutyAtStake (ha.1 o)  mo _ (n_dutyAtStake hmo.rs hmo.inv  _ rfl)) (fun mo r m1 hr h => ⟨h.1, by rw [← h.2]; exact hr⟩) rfl rfl (gV kw_6_165 kw_6_166 kw_6_167 kw_1_1 kw_6_168) hy_X9_dutyAtStake ⟨(Nat.le_of_ble_eq_true rfl), (Nat.le_of_ble_eq_true rfl)⟩ ?_
                          refine q_topi (fun r_110 er_110 => ?_)
                          have h := h r_110 er_110
                          have J1022 : ∀ (m_112 : Gh), w_L_refuses_J1022 o p1 Q9 y_3 y_4 x_6 m_112 → V p l e rm_L_refuses s m args below meth c QQ 13 (AU A) 102 (6 * 102) (WY D cA ad YT m_112) 1022 [(0, .ref (ad o 0 1)), (1, .int p1), (4, .int y_3), (5, .int y_4), (7, .int x_6)] [] := by
                            intro m_112 h
                            unfold w_L_refuses_J1022 at h
                            refine q_iconst (v := 1) X dL_refuses_1022 (by decide) ?_
                            refine q_goto (tgt := 1027) X dL_refuses_1023 (by decide) ?_
                            refine q_sub [0, 1, 2, 3, 4] rfl ?_
                            refine q_w (c2 := 102) (n2 := (6 * 102)) (by omega) (by omega) ?_
                            exact J1027 1 m_112 h
                          refine q_if_eq (tgt := 1022) X dL_refuses_986 (by decide) (fun c_113 => ?_) (fun c_113 => ?_)
                          · have h := h.1 c_113
                            refine q_sub [0, 1, 2, 3, 4] rfl ?_
                            refine q_w (c2 := 102) (n2 := (6 * 102)) (by omega) (by omega) ?_
                            exact J1022 m_109 h
                          · have h := h.2 c_113
                            refine q_aload_n (j := 0) X dL_refuses_989 rfl rfl ?_
                            refine q_bipush (v := 11) X dL_refuses_990 (by decide) ?_
                            refine q_aload_n (j := 0) X dL_refuses_992 rfl rfl ?_
                            obtain ⟨k_115, h⟩ := h
                            refine qG_ask X hW hZ ha (fun _ h => h) YT_ok o (val := (v_dutyAtStake (m_109.1 o))) (Qp := (fun mo r m1 => r = (v_dutyAtStake (m_109.1 o)) ∧ mo = m1)) [] [.int 11, .ref (ad o 0 1)] rfl rfl (Nat.le_of_ble_eq_true rfl) dL_refuses_993 ⟨(Nat.le_of_ble_eq_true rfl), (Nat.le_of_ble_eq_true rfl)⟩ k_115 (fun mo hmo => c_X9_dutyAtStake (ha.1 o)  mo _ (n_dutyAtStake hmo.rs hmo.inv  _ rfl)) (fun mo r m1 hr h => ⟨h.1, by rw [← h.2]; exact hr⟩) rfl rfl (gV kw_6_165 kw_6_166 kw_6_167 kw_1_1 kw_6_168) hy_X9_dutyAtStake ⟨(Nat.le_of_ble_eq_true rfl), (Nat.le_of_ble_eq_true rfl)⟩ ?_
                            refine q_topi (fun r_114 er_114 => ?_)
                            have h := h r_114 er_114
                            refine q_ldcw (v := 50000) X kw_6_170 dL_refuses_996 ?_
                            have J1012 : ∀ (y_116 : Int32), w_L_refuses_J1012 o p1 Q9 y_3 y_4 x_6 m_109 y_116 → V p l e rm_L_refuses s m args below meth c QQ 13 (AU A) 100 (6 * 100) (WY D cA ad YT m_109) 1012 [(0, .ref (ad o 0 1)), (1, .int p1), (4, .int y_3), (5, .int y_4), (7, .int x_6)] [.int y_116, .int 11, .ref (ad o 0 1)] := by
                              intro y_116 h
                              unfold w_L_refuses_J1012 at h
                              refine q_iconst (v := 0) X dL_refuses_1012 (by decide) ?_
                              refine q_iconst (v := 0) X dL_refuses_1013 (by decide) ?_
                              obtain ⟨k_118, h⟩ := h
                              refine qG_own X hW hZ (fun _ h => h) YT_ok [.ref (ad o 0 1), .int 11, .int y_116, .int 0, .int 0] [] rfl rfl (Nat.le_of_ble_eq_true rfl) dL_refuses_1014 ⟨(Nat.le_of_ble_eq_true rfl), (Nat.le_of_ble_eq_true rfl)⟩ (k_C_11 ha hst o y_116 0 0 m_109 k_118) rfl rfl (gS kw_3_88 kw_3_89 kw_1_0 kw_3_90) hy_L_call.2 ⟨(Nat.le_of_ble_eq_true rfl), (Nat.le_of_ble_eq_true rfl)⟩ (fun r_117 g_119 hq => ?_)
                              refine q_wi (fun hi => ?_)
                              have h := h r_117 hq.1 g_119 hq.2 hi
                              refine q_ldc (v := -9999003) X kw_3_87 dL_refuses_1017 ?_
                              refine q_icmp_ne (tgt := 1026) X dL_refuses_1019 (by decide) (fun c_120 => ?_) (fun c_120 => ?_)
                              · have h := h.1 c_120
                                refine q_sub [0, 1, 2, 3, 4] rfl ?_
                                refine q_w (c2 := 102) (n2 := (6 * 102)) (by omega) (by omega) ?_
                                exact J1026 g_119 h
                              · have h := h.2 c_120
                                refine q_sub [0, 1, 2, 3, 4] rfl ?_
                                refine q_w (c2 := 102) (n2 := (6 * 102)) (by omega) (by omega) ?_
                                exact J1022 g_119 h
                            refine q_icmp_le (tgt := 1006) X dL_refuses_999 (by decide) (fun c_121 => ?_) (fun c_121 => ?_)
                            · have h := h.1 c_121
                              refine q_aload_n (j := 0) X dL_refuses_1006 rfl rfl ?_
                              obtain ⟨k_123, h⟩ := h
                              refine qG_ask X hW hZ ha (fun _ h => h) YT_ok o (val := (v_dutyAtStake (m_109.1 o))) (Qp := (fun mo r m1 => r = (v_dutyAtStake (m_109.1 o)) ∧ mo = m1)) [] [.int 11, .ref (ad o 0 1)] rfl rfl (Nat.le_of_ble_eq_true rfl) dL_refuses_1007 ⟨(Nat.le_of_ble_eq_true rfl), (Nat.le_of_ble_eq_true rfl)⟩ k_123 (fun mo hmo => c_X9_dutyAtStake (ha.1 o)  mo _ (n_dutyAtStake hmo.rs hmo.inv  _ rfl)) (fun mo r m1 hr h => ⟨h.1, by rw [← h.2]; exact hr⟩) rfl rfl (gV kw_6_165 kw_6_166 kw_6_167 kw_1_1 kw_6_168) hy_X9_dutyAtStake ⟨(Nat.le_of_ble_eq_true rfl), (Nat.le_of_ble_eq_true rfl)⟩ ?_
                              refine q_topi (fun r_122 er_122 => ?_)
                              have h := h r_122 er_122
                              refine q_iconst (v := 1) X dL_refuses_1010 (by decide) ?_
                              refine q_isub X dL_refuses_1011 ?_
                              refine q_sub [0, 1, 2, 3, 4] rfl ?_
                              refine q_w (c2 := 100) (n2 := (6 * 100)) (by omega) (by omega) ?_
                              exact J1012 (r_122 - 1) h
                            · have h := h.2 c_121
                              refine q_iconst (v := 0) X dL_refuses_1002 (by decide) ?_
                              refine q_goto (tgt := 1012) X dL_refuses_1003 (by decide) ?_
                              refine q_sub [0, 1, 2, 3, 4] rfl ?_
                              refine q_w (c2 := 100) (n2 := (6 * 100)) (by omega) (by omega) ?_
                              exact J1012 0 h
                        refine q_if_eq (tgt := 982) X dL_refuses_965 (by decide) (fun c_124 => ?_) (fun c_124 => ?_)
                        · have h := h.1 c_124
                          refine q_sub [0, 1, 2, 3, 4] rfl ?_
                          refine q_w (c2 := 100) (n2 := (6 * 100)) (by omega) (by omega) ?_
                          exact J982 m_106 h
                        · have h := h.2 c_124
                          refine q_aload_n (j := 0) X dL_refuses_968 rfl rfl ?_
                          refine q_iconst (v := 1) X dL_refuses_969 (by decide) ?_
                          refine q_iconst (v := 5) X dL_refuses_970 (by decide) ?_
                          refine q_iconst (v := 5) X dL_refuses_971 (by decide) ?_
                          refine q_iload (j := 4) X dL_refuses_972 rfl ?_
                          obtain ⟨k_126, h⟩ := h
                          refine qG_ownW X hW hZ (fun _ h => h) YT_ok [.ref (ad o 0 1), .int 1, .int 5, .int 5, .int x_6] [] rfl rfl (Nat.le_of_ble_eq_true rfl) dL_refuses_974 ⟨(Nat.le_of_ble_eq_true rfl), (Nat.le_of_ble_eq_true rfl)⟩ (k_L_enter ha hst o 1 5 5 x_6 m_106 k_126) rfl rfl (gSW kw_2_140 kw_2_141 kw_1_0 kw_2_142) hy_L_enter.2 ⟨(Nat.le_of_ble_eq_true rfl), (Nat.le_of_ble_eq_true rfl)⟩ (fun r_125 g_127 hq => ?_)
                          refine q_wi (fun hi => ?_)
                          have h := h r_125 hq.1 g_127 hq.2 hi
                          refine q_ldc (v := -9999003) X kw_3_87 dL_refuses_977 ?_
                          refine q_icmp_ne (tgt := 1026) X dL_refuses_979 (by decide) (fun c_128 => ?_) (fun c_128 => ?_)
                          · have h := h.1 c_128
                            refine q_sub [0, 1, 2, 3, 4] rfl ?_
                            refine q_w (c2 := 102) (n2 := (6 * 102)) (by omega) (by omega) ?_
                            exact J1026 g_127 h
                          · have h := h.2 c_128
                            refine q_sub [0, 1, 2, 3, 4] rfl ?_
                            refine q_w (c2 := 100) (n2 := (6 * 100)) (by omega) (by omega) ?_
                            exact J982 g_127 h
                      refine q_if_eq (tgt := 956) X dL_refuses_938 (by decide) (fun c_129 => ?_) (fun c_129 => ?_)
                      · have h := h.1 c_129
                        refine q_sub [0, 1, 2, 3, 4] rfl ?_
                        refine q_w (c2 := 96) (n2 := (6 * 96)) (by omega) (by omega) ?_
                        exact J956 m_103 h
                      · have h := h.2 c_129
                        refine q_aload_n (j := 0) X dL_refuses_941 rfl rfl ?_
                        refine q_bipush (v := 9) X dL_refuses_942 (by decide) ?_
                        refine q_iload (j := 4) X dL_refuses_944 rfl ?_
                        refine q_iconst (v := 0) X dL_refuses_946 (by decide) ?_
                        refine q_iconst (v := 0) X dL_refuses_947 (by decide) ?_
                        obtain ⟨k_131, h⟩ := h
                        refine qG_own X hW hZ (fun _ h => h) YT_ok [.ref (ad o 0 1), .int 9, .int x_6, .int 0, .int 0] [] rfl rfl (Nat.le_of_ble_eq_true rfl) dL_refuses_948 ⟨(Nat.le_of_ble_eq_true rfl), (Nat.le_of_ble_eq_true rfl)⟩ (k_C_9 ha hst o x_6 0 0 m_103 k_131) rfl rfl (gS kw_3_88 kw_3_89 kw_1_0 kw_3_90) hy_L_call.2 ⟨(Nat.le_of_ble_eq_true rfl), (Nat.le_of_ble_eq_true rfl)⟩ (fun r_130 g_132 hq => ?_)
                        refine q_wi (fun hi => ?_)
                        have h := h r_130 hq.1 g_132 hq.2 hi
                        refine q_ldc (v := -9999003) X kw_3_87 dL_refuses_951 ?_
                        refine q_icmp_ne (tgt := 1026) X dL_refuses_953 (by decide) (fun c_133 => ?_) (fun c_133 => ?_)
                        · have h := h.1 c_133
                          refine q_sub [0, 1, 2, 3, 4] rfl ?_
                          refine q_w (c2 := 102) (n2 := (6 * 102)) (by omega) (by omega) ?_
                          exact J1026 g_132 h
                        · have h := h.2 c_133
                          refine q_sub [0, 1, 2, 3, 4] rfl ?_
                          refine q_w (c2 := 96) (n2 := (6 * 96)) (by omega) (by omega) ?_
                          exact J956 g_132 h
                    refine q_if_eq (tgt := 902) X dL_refuses_881 (by decide) (fun c_134 => ?_) (fun c_134 => ?_)
                    · have h := h.1 c_134
                      refine q_aload_n (j := 1) X dL_refuses_902 rfl rfl ?_
                      refine q_bipush (v := 8) X dL_refuses_903 (by decide) ?_
                      refine q_iload (j := 5) X dL_refuses_905 rfl ?_
                      refine q_iconst (v := 0) X dL_refuses_907 (by decide) ?_
                      refine q_iconst (v := 0) X dL_refuses_908 (by decide) ?_
                      obtain ⟨k_136, h⟩ := h
                      refine qG_own X hW hZ (fun _ h => h) YT_ok [.ref (ad o 0 1), .int 8, .int x_6, .int 0, .int 0] [] rfl rfl (Nat.le_of_ble_eq_true rfl) dL_refuses_909 ⟨(Nat.le_of_ble_eq_true rfl), (Nat.le_of_ble_eq_true rfl)⟩ (k_C_8 ha hst o x_6 0 0 m_11 k_136) rfl rfl (gS kw_3_88 kw_3_89 kw_1_0 kw_3_90) hy_L_call.2 ⟨(Nat.le_of_ble_eq_true rfl), (Nat.le_of_ble_eq_true rfl)⟩ (fun r_135 g_137 hq => ?_)
                      refine q_wi (fun hi => ?_)
                      have h := h r_135 hq.1 g_137 hq.2 hi
                      refine q_ldc (v := -9999003) X kw_3_87 dL_refuses_912 ?_
                      refine q_icmp_ne (tgt := 1026) X dL_refuses_914 (by decide) (fun c_138 => ?_) (fun c_138 => ?_)
                      · have h := h.1 c_138
                        refine q_sub [1, 2, 3, 4, 5] rfl ?_
                        refine q_w (c2 := 102) (n2 := (6 * 102)) (by omega) (by omega) ?_
                        exact J1026 g_137 h
                      · have h := h.2 c_138
                        refine q_aload_n (j := 1) X dL_refuses_917 rfl rfl ?_
                        refine q_bipush (v := 9) X dL_refuses_918 (by decide) ?_
                        refine q_iload (j := 5) X dL_refuses_920 rfl ?_
                        refine q_iconst (v := 0) X dL_refuses_922 (by decide) ?_
                        refine q_iconst (v := 0) X dL_refuses_923 (by decide) ?_
                        obtain ⟨k_140, h⟩ := h
                        refine qG_own X hW hZ (fun _ h => h) YT_ok [.ref (ad o 0 1), .int 9, .int x_6, .int 0, .int 0] [] rfl rfl (Nat.le_of_ble_eq_true rfl) dL_refuses_924 ⟨(Nat.le_of_ble_eq_true rfl), (Nat.le_of_ble_eq_true rfl)⟩ (k_C_9 ha hst o x_6 0 0 g_137 k_140) rfl rfl (gS kw_3_88 kw_3_89 kw_1_0 kw_3_90) hy_L_call.2 ⟨(Nat.le_of_ble_eq_true rfl), (Nat.le_of_ble_eq_true rfl)⟩ (fun r_139 g_141 hq => ?_)
                        refine q_wi (fun hi => ?_)
                        have h := h r_139 hq.1 g_141 hq.2 hi
                        refine q_ldc (v := -9999003) X kw_3_87 dL_refuses_927 ?_
                        refine q_icmp_ne (tgt := 1026) X dL_refuses_929 (by decide) (fun c_142 => ?_) (fun c_142 => ?_)
                        · have h := h.1 c_142
                          refine q_sub [1, 2, 3, 4, 5] rfl ?_
                          refine q_w (c2 := 102) (n2 := (6 * 102)) (by omega) (by omega) ?_
                          exact J1026 g_141 h
                        · have h := h.2 c_142
                          refine q_sub [1, 2, 3, 4, 5] rfl ?_
                          refine q_w (c2 := 92) (n2 := (6 * 92)) (by omega) (by omega) ?_
                          exact J932 g_141 h
                    · have h := h.2 c_134
                      refine q_aload_n (j := 1) X dL_refuses_884 rfl rfl ?_
                      refine q_bipush (v := 7) X dL_refuses_885 (by decide) ?_
                      refine q_iload (j := 5) X dL_refuses_887 rfl ?_
                      refine q_iconst (v := 0) X dL_refuses_889 (by decide) ?_
                      refine q_iconst (v := 0) X dL_refuses_890 (by decide) ?_
                      obtain ⟨k_144, h⟩ := h
                      refine qG_own X hW hZ (fun _ h => h) YT_ok [.ref (ad o 0 1), .int 7, .int x_6, .int 0, .int 0] [] rfl rfl (Nat.le_of_ble_eq_true rfl) dL_refuses_891 ⟨(Nat.le_of_ble_eq_true rfl), (Nat.le_of_ble_eq_true rfl)⟩ (k_C_7 ha hst o x_6 0 0 m_11 k_144) rfl rfl (gS kw_3_88 kw_3_89 kw_1_0 kw_3_90) hy_L_call.2 ⟨(Nat.le_of_ble_eq_true rfl), (Nat.le_of_ble_eq_true rfl)⟩ (fun r_143 g_145 hq => ?_)
                      refine q_wi (fun hi => ?_)
                      have h := h r_143 hq.1 g_145 hq.2 hi
                      refine q_ldc (v := -9999003) X kw_3_87 dL_refuses_894 ?_
                      refine q_icmp_ne (tgt := 1026) X dL_refuses_896 (by decide) (fun c_146 => ?_) (fun c_146 => ?_)
                      · have h := h.1 c_146
                        refine q_sub [1, 2, 3, 4, 5] rfl ?_
                        refine q_w (c2 := 102) (n2 := (6 * 102)) (by omega) (by omega) ?_
                        exact J1026 g_145 h
                      · have h := h.2 c_146
                        refine q_goto (tgt := 932) X dL_refuses_899 (by decide) ?_
                        refine q_sub [1, 2, 3, 4, 5] rfl ?_
                        refine q_w (c2 := 92) (n2 := (6 * 92)) (by omega) (by omega) ?_
                        exact J932 g_145 h
                refine q_icmp_ne (tgt := 871) X dL_refuses_864 (by decide) (fun c_147 => ?_) (fun c_147 => ?_)
                · have h := h.1 c_147
                  refine q_iconst (v := 0) X dL_refuses_871 (by decide) ?_
                  refine q_sub [1, 2, 3, 4, 5, 0] rfl ?_
                  refine q_w (c2 := 88) (n2 := (6 * 88)) (by omega) (by omega) ?_
                  exact J872 0 h
                · have h := h.2 c_147
                  refine q_iconst (v := 1) X dL_refuses_867 (by decide) ?_
                  refine q_goto (tgt := 872) X dL_refuses_868 (by decide) ?_
                  refine q_sub [1, 2, 3, 4, 5, 0] rfl ?_
                  refine q_w (c2 := 88) (n2 := (6 * 88)) (by omega) (by omega) ?_
                  exact J872 1 h
              have J854 : w_L_refuses_J854 o p1 Q9 y_3 y_4 x_6 m_11  → V p l e rm_L_refuses s m args below meth c QQ 13 (AU A) 86 (6 * 86) (WY D cA ad YT m_11) 854 [(0, .ref (ad o 0 1)), (1, .int p1), (4, .int y_3), (5, .int y_4), (7, .int x_6)] [] := by
                intro  h
                unfold w_L_refuses_J854 at h
                refine q_iconst (v := 0) X dL_refuses_854 (by decide) ?_
                refine q_sub [0, 1, 2, 3, 4] rfl ?_
                refine q_w (c2 := 86) (n2 := (6 * 86)) (by omega) (by omega) ?_
                exact J855 0 h
              refine q_if_eq (tgt := 854) X dL_refuses_565 (by decide) (fun c_148 => ?_) (fun c_148 => ?_)
              · have h := h.1 c_148
                refine q_sub [1, 2, 5, 6, 8] rfl ?_
                refine q_w (c2 := 86) (n2 := (6 * 86)) (by omega) (by omega) ?_
                exact J854  h
              · have h := h.2 c_148
                refine q_aload_n (j := 1) X dL_refuses_568 rfl rfl ?_
                refine q_bipush (v := 15) X dL_refuses_569 (by decide) ?_
                refine q_iload_n (j := 2) X dL_refuses_571 rfl rfl ?_
                refine q_iconst (v := 2) X dL_refuses_572 (by decide) ?_
                refine q_irem X dL_refuses_573 (by decide) ?_
                have J585 : ∀ (y_149 : Int32), w_L_refuses_J585 o p1 Q9 y_1 y_2 y_3 y_4 y_5 x_6 m_11 y_149 → V p l e rm_L_refuses s m args below meth c QQ 13 (AU A) 48 (6 * 48) (WY D cA ad YT m_11) 585 [(0, .ref (ad o 0 1)), (1, .int p1), (2, .int y_1), (3, .int y_2), (4, .int y_3), (5, .int y_4), (6, .int y_5), (7, .int x_6)] [.int y_149, .int 15, .ref (ad o 0 1)] := by
                  intro y_149 h
                  unfold w_L_refuses_J585 at h
                  refine q_iconst (v := 0) X dL_refuses_585 (by decide) ?_
                  refine q_iconst (v := 0) X dL_refuses_586 (by decide) ?_
                  obtain ⟨k_151, h⟩ := h
                  refine qG_own X hW hZ (fun _ h => h) YT_ok [.ref (ad o 0 1), .int 15, .int y_149, .int 0, .int 0] [] rfl rfl (Nat.le_of_ble_eq_true rfl) dL_refuses_587 ⟨(Nat.le_of_ble_eq_true rfl), (Nat.le_of_ble_eq_true rfl)⟩ (k_C_15 ha hst o y_149 0 0 m_11 k_151) rfl rfl (gS kw_3_88 kw_3_89 kw_1_0 kw_3_90) hy_L_call.2 ⟨(Nat.le_of_ble_eq_true rfl), (Nat.le_of_ble_eq_true rfl)⟩ (fun r_150 g9 hq => ?_)
                  obtain ⟨er_150, hq⟩ := hq
                  rw [hq]
                  have h := h r_150 er_150
                  refine q_ldc (v := -9999001) X kw_3_145 dL_refuses_590 ?_
                  refine q_icmp_ne (tgt := 854) X dL_refuses_592 (by decide) (fun c_152 => ?_) (fun c_152 => ?_)
                  · have h := h.1 c_152
                    refine q_sub [0, 1, 4, 5, 7] rfl ?_
                    refine q_w (c2 := 86) (n2 := (6 * 86)) (by omega) (by omega) ?_
                    exact J854  h
                  · have h := h.2 c_152
                    refine q_aload_n (j := 0) X dL_refuses_595 rfl rfl ?_
                    refine q_bipush (v := 22) X dL_refuses_596 (by decide) ?_
                    refine q_iload_n (j := 2) X dL_refuses_598 rfl rfl ?_
                    refine q_iconst (v := 0) X dL_refuses_599 (by decide) ?_
                    refine q_iconst (v := 0) X dL_refuses_600 (by decide) ?_
                    obtain ⟨k_154, h⟩ := h
                    refine qG_own X hW hZ (fun _ h => h) YT_ok [.ref (ad o 0 1), .int 22, .int y_1, .int 0, .int 0] [] rfl rfl (Nat.le_of_ble_eq_true rfl) dL_refuses_601 ⟨(Nat.le_of_ble_eq_true rfl), (Nat.le_of_ble_eq_true rfl)⟩ (k_C_22 ha hst o y_1 0 0 m_11 k_154) rfl rfl (gS kw_3_88 kw_3_89 kw_1_0 kw_3_90) hy_L_call.2 ⟨(Nat.le_of_ble_eq_true rfl), (Nat.le_of_ble_eq_true rfl)⟩ (fun r_153 g9 hq => ?_)
                    obtain ⟨er_153, hq⟩ := hq
                    rw [hq]
                    have h := h r_153 er_153
                    refine q_ldc (v := -9999001) X kw_3_145 dL_refuses_604 ?_
                    refine q_icmp_ne (tgt := 854) X dL_refuses_606 (by decide) (fun c_155 => ?_) (fun c_155 => ?_)
                    · have h := h.1 c_155
                      refine q_sub [0, 1, 4, 5, 7] rfl ?_
                      refine q_w (c2 := 86) (n2 := (6 * 86)) (by omega) (by omega) ?_
                      exact J854  h
                    · have h := h.2 c_155
                      refine q_aload_n (j := 0) X dL_refuses_609 rfl rfl ?_
                      refine q_iload_n (j := 2) X dL_refuses_610 rfl rfl ?_
                      obtain ⟨k_157, h⟩ := h
                      refine qG_ownW X hW hZ (fun _ h => h) YT_ok [.ref (ad o 0 1), .int y_1] [] rfl rfl (Nat.le_of_ble_eq_true rfl) dL_refuses_611 ⟨(Nat.le_of_ble_eq_true rfl), (Nat.le_of_ble_eq_true rfl)⟩ (k_L_isProved ha hst o y_1 m_11 k_157) rfl rfl (gSW kw_6_134 kw_6_135 kw_1_0 kw_6_136) hy_L_isProved.2 ⟨(Nat.le_of_ble_eq_true rfl), (Nat.le_of_ble_eq_true rfl)⟩ (fun r_156 g9 hq => ?_)
                      obtain ⟨er_156, hq⟩ := hq
                      rw [hq]
                      have h := h r_156 er_156
                      refine q_ldc (v := -9999001) X kw_3_145 dL_refuses_614 ?_
                      refine q_icmp_ne (tgt := 854) X dL_refuses_616 (by decide) (fun c_158 => ?_) (fun c_158 => ?_)
                      · have h := h.1 c_158
                        refine q_sub [0, 1, 4, 5, 7] rfl ?_
                        refine q_w (c2 := 86) (n2 := (6 * 86)) (by omega) (by omega) ?_
                        exact J854  h
                      · have h := h.2 c_158
                        refine q_aload_n (j := 0) X dL_refuses_619 rfl rfl ?_
                        refine q_bipush (v := 21) X dL_refuses_620 (by decide) ?_
                        refine q_iload_n (j := 2) X dL_refuses_622 rfl rfl ?_
                        refine q_iconst (v := 0) X dL_refuses_623 (by decide) ?_
                        refine q_iconst (v := 0) X dL_refuses_624 (by decide) ?_
                        obtain ⟨k_160, h⟩ := h
                        refine qG_own X hW hZ (fun _ h => h) YT_ok [.ref (ad o 0 1), .int 21, .int y_1, .int 0, .int 0] [] rfl rfl (Nat.le_of_ble_eq_true rfl) dL_refuses_625 ⟨(Nat.le_of_ble_eq_true rfl), (Nat.le_of_ble_eq_true rfl)⟩ (k_C_21 ha hst o y_1 0 0 m_11 k_160) rfl rfl (gS kw_3_88 kw_3_89 kw_1_0 kw_3_90) hy_L_call.2 ⟨(Nat.le_of_ble_eq_true rfl), (Nat.le_of_ble_eq_true rfl)⟩ (fun r_159 g9 hq => ?_)
                        obtain ⟨er_159, hq⟩ := hq
                        rw [hq]
                        have h := h r_159 er_159
                        refine q_ldc (v := -9999001) X kw_3_145 dL_refuses_628 ?_
                        refine q_icmp_ne (tgt := 854) X dL_refuses_630 (by decide) (fun c_161 => ?_) (fun c_161 => ?_)
                        · have h := h.1 c_161
                          refine q_sub [0, 1, 4, 5, 7] rfl ?_
                          refine q_w (c2 := 86) (n2 := (6 * 86)) (by omega) (by omega) ?_
                          exact J854  h
                        · have h := h.2 c_161
                          refine q_aload_n (j := 0) X dL_refuses_633 rfl rfl ?_
                          refine q_iload (j := 4) X dL_refuses_634 rfl ?_
                          obtain ⟨k_163, h⟩ := h
                          refine qG_ownW X hW hZ (fun _ h => h) YT_ok [.ref (ad o 0 1), .int y_3] [] rfl rfl (Nat.le_of_ble_eq_true rfl) dL_refuses_636 ⟨(Nat.le_of_ble_eq_true rfl), (Nat.le_of_ble_eq_true rfl)⟩ (k_L_isLocked ha hst o y_3 m_11 k_163) rfl rfl (gSW kw_6_141 kw_6_142 kw_1_0 kw_6_143) hy_L_isLocked.2 ⟨(Nat.le_of_ble_eq_true rfl), (Nat.le_of_ble_eq_true rfl)⟩ (fun r_162 g9 hq => ?_)
                          obtain ⟨er_162, hq⟩ := hq
                          rw [hq]
                          have h := h r_162 er_162
                          refine q_ldc (v := -9999001) X kw_3_145 dL_refuses_639 ?_
                          refine q_icmp_ne (tgt := 854) X dL_refuses_641 (by decide) (fun c_164 => ?_) (fun c_164 => ?_)
                          · have h := h.1 c_164
                            refine q_sub [0, 1, 4, 5, 7] rfl ?_
                            refine q_w (c2 := 86) (n2 := (6 * 86)) (by omega) (by omega) ?_
                            exact J854  h
                          · have h := h.2 c_164
                            refine q_aload_n (j := 0) X dL_refuses_644 rfl rfl ?_
                            refine q_bipush (v := 24) X dL_refuses_645 (by decide) ?_
                            refine q_iload (j := 4) X dL_refuses_647 rfl ?_
                            refine q_iconst (v := 0) X dL_refuses_649 (by decide) ?_
                            refine q_iconst (v := 0) X dL_refuses_650 (by decide) ?_
                            obtain ⟨k_166, h⟩ := h
                            refine qG_own X hW hZ (fun _ h => h) YT_ok [.ref (ad o 0 1), .int 24, .int y_3, .int 0, .int 0] [] rfl rfl (Nat.le_of_ble_eq_true rfl) dL_refuses_651 ⟨(Nat.le_of_ble_eq_true rfl), (Nat.le_of_ble_eq_true rfl)⟩ (k_C_24 ha hst o y_3 0 0 m_11 k_166) rfl rfl (gS kw_3_88 kw_3_89 kw_1_0 kw_3_90) hy_L_call.2 ⟨(Nat.le_of_ble_eq_true rfl), (Nat.le_of_ble_eq_true rfl)⟩ (fun r_165 g9 hq => ?_)
                            obtain ⟨er_165, hq⟩ := hq
                            rw [hq]
                            have h := h r_165 er_165
                            refine q_ldc (v := -9999001) X kw_3_145 dL_refuses_654 ?_
                            refine q_icmp_ne (tgt := 854) X dL_refuses_656 (by decide) (fun c_167 => ?_) (fun c_167 => ?_)
                            · have h := h.1 c_167
                              refine q_sub [0, 1, 4, 5, 7] rfl ?_
                              refine q_w (c2 := 86) (n2 := (6 * 86)) (by omega) (by omega) ?_
                              exact J854  h
                            · have h := h.2 c_167
                              refine q_aload_n (j := 0) X dL_refuses_659 rfl rfl ?_
                              refine q_bipush (v := 26) X dL_refuses_660 (by decide) ?_
                              refine q_iload (j := 4) X dL_refuses_662 rfl ?_
                              refine q_iconst (v := 0) X dL_refuses_664 (by decide) ?_
                              refine q_iconst (v := 0) X dL_refuses_665 (by decide) ?_
                              obtain ⟨k_169, h⟩ := h
                              refine qG_own X hW hZ (fun _ h => h) YT_ok [.ref (ad o 0 1), .int 26, .int y_3, .int 0, .int 0] [] rfl rfl (Nat.le_of_ble_eq_true rfl) dL_refuses_666 ⟨(Nat.le_of_ble_eq_true rfl), (Nat.le_of_ble_eq_true rfl)⟩ (k_C_26 ha hst o y_3 0 0 m_11 k_169) rfl rfl (gS kw_3_88 kw_3_89 kw_1_0 kw_3_90) hy_L_call.2 ⟨(Nat.le_of_ble_eq_true rfl), (Nat.le_of_ble_eq_true rfl)⟩ (fun r_168 g9 hq => ?_)
                              obtain ⟨er_168, hq⟩ := hq
                              rw [hq]
                              have h := h r_168 er_168
                              refine q_ldc (v := -9999001) X kw_3_145 dL_refuses_669 ?_
                              refine q_icmp_ne (tgt := 854) X dL_refuses_671 (by decide) (fun c_170 => ?_) (fun c_170 => ?_)
                              · have h := h.1 c_170
                                refine q_sub [0, 1, 4, 5, 7] rfl ?_
                                refine q_w (c2 := 86) (n2 := (6 * 86)) (by omega) (by omega) ?_
                                exact J854  h
                              · have h := h.2 c_170
                                refine q_aload_n (j := 0) X dL_refuses_674 rfl rfl ?_
                                refine q_bipush (v := 28) X dL_refuses_675 (by decide) ?_
                                refine q_iload (j := 6) X dL_refuses_677 rfl ?_
                                refine q_iconst (v := 0) X dL_refuses_679 (by decide) ?_
                                refine q_iconst (v := 0) X dL_refuses_680 (by decide) ?_
                                obtain ⟨k_172, h⟩ := h
                                refine qG_own X hW hZ (fun _ h => h) YT_ok [.ref (ad o 0 1), .int 28, .int y_5, .int 0, .int 0] [] rfl rfl (Nat.le_of_ble_eq_true rfl) dL_refuses_681 ⟨(Nat.le_of_ble_eq_true rfl), (Nat.le_of_ble_eq_true rfl)⟩ (k_C_28 ha hst o y_5 0 0 m_11 k_172) rfl rfl (gS kw_3_88 kw_3_89 kw_1_0 kw_3_90) hy_L_call.2 ⟨(Nat.le_of_ble_eq_true rfl), (Nat.le_of_ble_eq_true rfl)⟩ (fun r_171 g9 hq => ?_)
                                obtain ⟨er_171, hq⟩ := hq
                                rw [hq]
                                have h := h r_171 er_171
                                refine q_ldc (v := -9999001) X kw_3_145 dL_refuses_684 ?_
                                refine q_icmp_ne (tgt := 854) X dL_refuses_686 (by decide) (fun c_173 => ?_) (fun c_173 => ?_)
                                · have h := h.1 c_173
                                  refine q_sub [0, 1, 4, 5, 7] rfl ?_
                                  refine q_w (c2 := 86) (n2 := (6 * 86)) (by omega) (by omega) ?_
                                  exact J854  h
                                · have h := h.2 c_173
                                  refine q_aload_n (j := 0) X dL_refuses_689 rfl rfl ?_
                                  refine q_bipush (v := 30) X dL_refuses_690 (by decide) ?_
                                  refine q_iload (j := 6) X dL_refuses_692 rfl ?_
                                  refine q_iconst (v := 0) X dL_refuses_694 (by decide) ?_
                                  refine q_iconst (v := 0) X dL_refuses_695 (by decide) ?_
                                  obtain ⟨k_175, h⟩ := h
                                  refine qG_own X hW hZ (fun _ h => h) YT_ok [.ref (ad o 0 1), .int 30, .int y_5, .int 0, .int 0] [] rfl rfl (Nat.le_of_ble_eq_true rfl) dL_refuses_696 ⟨(Nat.le_of_ble_eq_true rfl), (Nat.le_of_ble_eq_true rfl)⟩ (k_C_30 ha hst o y_5 0 0 m_11 k_175) rfl rfl (gS kw_3_88 kw_3_89 kw_1_0 kw_3_90) hy_L_call.2 ⟨(Nat.le_of_ble_eq_true rfl), (Nat.le_of_ble_eq_true rfl)⟩ (fun r_174 g9 hq => ?_)
                                  obtain ⟨er_174, hq⟩ := hq
                                  rw [hq]
                                  have h := h r_174 er_174
                                  refine q_ldc (v := -9999001) X kw_3_145 dL_refuses_699 ?_
                                  refine q_icmp_ne (tgt := 854) X dL_refuses_701 (by decide) (fun c_176 => ?_) (fun c_176 => ?_)
                                  · have h := h.1 c_176
                                    refine q_sub [0, 1, 4, 5, 7] rfl ?_
                                    refine q_w (c2 := 86) (n2 := (6 * 86)) (by omega) (by omega) ?_
                                    exact J854  h
                                  · have h := h.2 c_176
                                    refine q_aload_n (j := 0) X dL_refuses_704 rfl rfl ?_
                                    refine q_bipush (v := 31) X dL_refuses_705 (by decide) ?_
                                    refine q_iload_n (j := 3) X dL_refuses_707 rfl rfl ?_
                                    refine q_iconst (v := 0) X dL_refuses_708 (by decide) ?_
                                    refine q_iconst (v := 0) X dL_refuses_709 (by decide) ?_
                                    obtain ⟨k_178, h⟩ := h
                                    refine qG_own X hW hZ (fun _ h => h) YT_ok [.ref (ad o 0 1), .int 31, .int y_2, .int 0, .int 0] [] rfl rfl (Nat.le_of_ble_eq_true rfl) dL_refuses_710 ⟨(Nat.le_of_ble_eq_true rfl), (Nat.le_of_ble_eq_true rfl)⟩ (k_C_31 ha hst o y_2 0 0 m_11 k_178) rfl rfl (gS kw_3_88 kw_3_89 kw_1_0 kw_3_90) hy_L_call.2 ⟨(Nat.le_of_ble_eq_true rfl), (Nat.le_of_ble_eq_true rfl)⟩ (fun r_177 g9 hq => ?_)
                                    obtain ⟨er_177, hq⟩ := hq
                                    rw [hq]
                                    have h := h r_177 er_177
                                    refine q_ldc (v := -9999002) X kw_3_86 dL_refuses_713 ?_
                                    refine q_icmp_ne (tgt := 854) X dL_refuses_715 (by decide) (fun c_179 => ?_) (fun c_179 => ?_)
                                    · have h := h.1 c_179
                                      refine q_sub [0, 1, 4, 5, 7] rfl ?_
                                      refine q_w (c2 := 86) (n2 := (6 * 86)) (by omega) (by omega) ?_
                                      exact J854  h
                                    · have h := h.2 c_179
                                      refine q_aload_n (j := 0) X dL_refuses_718 rfl rfl ?_
                                      refine q_bipush (v := 39) X dL_refuses_719 (by decide) ?_
                                      refine q_iload_n (j := 3) X dL_refuses_721 rfl rfl ?_
                                      refine q_iconst (v := 0) X dL_refuses_722 (by decide) ?_
                                      refine q_iconst (v := 0) X dL_refuses_723 (by decide) ?_
                                      obtain ⟨k_181, h⟩ := h
                                      refine qG_own X hW hZ (fun _ h => h) YT_ok [.ref (ad o 0 1), .int 39, .int y_2, .int 0, .int 0] [] rfl rfl (Nat.le_of_ble_eq_true rfl) dL_refuses_724 ⟨(Nat.le_of_ble_eq_true rfl), (Nat.le_of_ble_eq_true rfl)⟩ (k_C_39 ha hst o y_2 0 0 m_11 k_181) rfl rfl (gS kw_3_88 kw_3_89 kw_1_0 kw_3_90) hy_L_call.2 ⟨(Nat.le_of_ble_eq_true rfl), (Nat.le_of_ble_eq_true rfl)⟩ (fun r_180 g9 hq => ?_)
                                      obtain ⟨er_180, hq⟩ := hq
                                      rw [hq]
                                      have h := h r_180 er_180
                                      refine q_ldc (v := -9999002) X kw_3_86 dL_refuses_727 ?_
                                      refine q_icmp_ne (tgt := 854) X dL_refuses_729 (by decide) (fun c_182 => ?_) (fun c_182 => ?_)
                                      · have h := h.1 c_182
                                        refine q_sub [0, 1, 4, 5, 7] rfl ?_
                                        refine q_w (c2 := 86) (n2 := (6 * 86)) (by omega) (by omega) ?_
                                        exact J854  h
                                      · have h := h.2 c_182
                                        refine q_aload_n (j := 0) X dL_refuses_732 rfl rfl ?_
                                        refine q_bipush (v := 41) X dL_refuses_733 (by decide) ?_
                                        refine q_iload_n (j := 2) X dL_refuses_735 rfl rfl ?_
                                        refine q_iload (j := 5) X dL_refuses_736 rfl ?_
                                        refine q_iconst (v := 0) X dL_refuses_738 (by decide) ?_
                                        obtain ⟨k_184, h⟩ := h
                                        refine qG_own X hW hZ (fun _ h => h) YT_ok [.ref (ad o 0 1), .int 41, .int y_1, .int y_4, .int 0] [] rfl rfl (Nat.le_of_ble_eq_true rfl) dL_refuses_739 ⟨(Nat.le_of_ble_eq_true rfl), (Nat.le_of_ble_eq_true rfl)⟩ (k_C_41 ha hst o y_1 y_4 0 m_11 k_184) rfl rfl (gS kw_3_88 kw_3_89 kw_1_0 kw_3_90) hy_L_call.2 ⟨(Nat.le_of_ble_eq_true rfl), (Nat.le_of_ble_eq_true rfl)⟩ (fun r_183 g9 hq => ?_)
                                        obtain ⟨er_183, hq⟩ := hq
                                        rw [hq]
                                        have h := h r_183 er_183
                                        refine q_ldc (v := -9999001) X kw_3_145 dL_refuses_742 ?_
                                        refine q_icmp_ne (tgt := 854) X dL_refuses_744 (by decide) (fun c_185 => ?_) (fun c_185 => ?_)
                                        · have h := h.1 c_185
                                          refine q_sub [0, 1, 4, 5, 7] rfl ?_
                                          refine q_w (c2 := 86) (n2 := (6 * 86)) (by omega) (by omega) ?_
                                          exact J854  h
                                        · have h := h.2 c_185
                                          refine q_aload_n (j := 0) X dL_refuses_747 rfl rfl ?_
                                          refine q_bipush (v := 43) X dL_refuses_748 (by decide) ?_
                                          refine q_iload_n (j := 2) X dL_refuses_750 rfl rfl ?_
                                          refine q_iload (j := 4) X dL_refuses_751 rfl ?_
                                          refine q_iconst (v := 0) X dL_refuses_753 (by decide) ?_
                                          obtain ⟨k_187, h⟩ := h
                                          refine qG_own X hW hZ (fun _ h => h) YT_ok [.ref (ad o 0 1), .int 43, .int y_1, .int y_3, .int 0] [] rfl rfl (Nat.le_of_ble_eq_true rfl) dL_refuses_754 ⟨(Nat.le_of_ble_eq_true rfl), (Nat.le_of_ble_eq_true rfl)⟩ (k_C_43 ha hst o y_1 y_3 0 m_11 k_187) rfl rfl (gS kw_3_88 kw_3_89 kw_1_0 kw_3_90) hy_L_call.2 ⟨(Nat.le_of_ble_eq_true rfl), (Nat.le_of_ble_eq_true rfl)⟩ (fun r_186 g9 hq => ?_)
                                          obtain ⟨er_186, hq⟩ := hq
                                          rw [hq]
                                          have h := h r_186 er_186
                                          refine q_ldc (v := -9999001) X kw_3_145 dL_refuses_757 ?_
                                          refine q_icmp_ne (tgt := 854) X dL_refuses_759 (by decide) (fun c_188 => ?_) (fun c_188 => ?_)
                                          · have h := h.1 c_188
                                            refine q_sub [0, 1, 4, 5, 7] rfl ?_
                                            refine q_w (c2 := 86) (n2 := (6 * 86)) (by omega) (by omega) ?_
                                            exact J854  h
                                          · have h := h.2 c_188
                                            refine q_aload_n (j := 0) X dL_refuses_762 rfl rfl ?_
                                            refine q_bipush (v := 44) X dL_refuses_763 (by decide) ?_
                                            refine q_iload (j := 6) X dL_refuses_765 rfl ?_
                                            refine q_iload (j := 5) X dL_refuses_767 rfl ?_
                                            refine q_iconst (v := 0) X dL_refuses_769 (by decide) ?_
                                            obtain ⟨k_190, h⟩ := h
                                            refine qG_own X hW hZ (fun _ h => h) YT_ok [.ref (ad o 0 1), .int 44, .int y_5, .int y_4, .int 0] [] rfl rfl (Nat.le_of_ble_eq_true rfl) dL_refuses_770 ⟨(Nat.le_of_ble_eq_true rfl), (Nat.le_of_ble_eq_true rfl)⟩ (k_C_44 ha hst o y_5 y_4 0 m_11 k_190) rfl rfl (gS kw_3_88 kw_3_89 kw_1_0 kw_3_90) hy_L_call.2 ⟨(Nat.le_of_ble_eq_true rfl), (Nat.le_of_ble_eq_true rfl)⟩ (fun r_189 g9 hq => ?_)
                                            obtain ⟨er_189, hq⟩ := hq
                                            rw [hq]
                                            have h := h r_189 er_189
                                            refine q_ldc (v := -9999001) X kw_3_145 dL_refuses_773 ?_
                                            refine q_icmp_ne (tgt := 854) X dL_refuses_775 (by decide) (fun c_191 => ?_) (fun c_191 => ?_)
                                            · have h := h.1 c_191
                                              refine q_sub [0, 1, 4, 5, 7] rfl ?_
                                              refine q_w (c2 := 86) (n2 := (6 * 86)) (by omega) (by omega) ?_
                                              exact J854  h
                                            · have h := h.2 c_191
                                              refine q_aload_n (j := 0) X dL_refuses_778 rfl rfl ?_
                                              refine q_bipush (v := 45) X dL_refuses_779 (by decide) ?_
                                              refine q_iload_n (j := 2) X dL_refuses_781 rfl rfl ?_
                                              refine q_iconst (v := 0) X dL_refuses_782 (by decide) ?_
                                              refine q_iconst (v := 0) X dL_refuses_783 (by decide) ?_
                                              obtain ⟨k_193, h⟩ := h
                                              refine qG_own X hW hZ (fun _ h => h) YT_ok [.ref (ad o 0 1), .int 45, .int y_1, .int 0, .int 0] [] rfl rfl (Nat.le_of_ble_eq_true rfl) dL_refuses_784 ⟨(Nat.le_of_ble_eq_true rfl), (Nat.le_of_ble_eq_true rfl)⟩ (k_C_45 ha hst o y_1 0 0 m_11 k_193) rfl rfl (gS kw_3_88 kw_3_89 kw_1_0 kw_3_90) hy_L_call.2 ⟨(Nat.le_of_ble_eq_true rfl), (Nat.le_of_ble_eq_true rfl)⟩ (fun r_192 g9 hq => ?_)
                                              obtain ⟨er_192, hq⟩ := hq
                                              rw [hq]
                                              have h := h r_192 er_192
                                              refine q_ldc (v := -9999001) X kw_3_145 dL_refuses_787 ?_
                                              refine q_icmp_ne (tgt := 854) X dL_refuses_789 (by decide) (fun c_194 => ?_) (fun c_194 => ?_)
                                              · have h := h.1 c_194
                                                refine q_sub [0, 1, 4, 5, 7] rfl ?_
                                                refine q_w (c2 := 86) (n2 := (6 * 86)) (by omega) (by omega) ?_
                                                exact J854  h
                                              · have h := h.2 c_194
                                                refine q_aload_n (j := 0) X dL_refuses_792 rfl rfl ?_
                                                refine q_bipush (v := 47) X dL_refuses_793 (by decide) ?_
                                                refine q_iload_n (j := 2) X dL_refuses_795 rfl rfl ?_
                                                refine q_sipush (v := 999) X dL_refuses_796 (by decide) ?_
                                                refine q_iconst (v := 0) X dL_refuses_799 (by decide) ?_
                                                obtain ⟨k_196, h⟩ := h
                                                refine qG_own X hW hZ (fun _ h => h) YT_ok [.ref (ad o 0 1), .int 47, .int y_1, .int 999, .int 0] [] rfl rfl (Nat.le_of_ble_eq_true rfl) dL_refuses_800 ⟨(Nat.le_of_ble_eq_true rfl), (Nat.le_of_ble_eq_true rfl)⟩ (k_C_47 ha hst o y_1 999 0 m_11 k_196) rfl rfl (gS kw_3_88 kw_3_89 kw_1_0 kw_3_90) hy_L_call.2 ⟨(Nat.le_of_ble_eq_true rfl), (Nat.le_of_ble_eq_true rfl)⟩ (fun r_195 g9 hq => ?_)
                                                obtain ⟨er_195, hq⟩ := hq
                                                rw [hq]
                                                have h := h r_195 er_195
                                                refine q_ldc (v := -9999001) X kw_3_145 dL_refuses_803 ?_
                                                refine q_icmp_ne (tgt := 854) X dL_refuses_805 (by decide) (fun c_197 => ?_) (fun c_197 => ?_)
                                                · have h := h.1 c_197
                                                  refine q_sub [0, 1, 4, 5, 7] rfl ?_
                                                  refine q_w (c2 := 86) (n2 := (6 * 86)) (by omega) (by omega) ?_
                                                  exact J854  h
                                                · have h := h.2 c_197
                                                  refine q_aload_n (j := 0) X dL_refuses_808 rfl rfl ?_
                                                  refine q_bipush (v := 49) X dL_refuses_809 (by decide) ?_
                                                  refine q_iload_n (j := 3) X dL_refuses_811 rfl rfl ?_
                                                  refine q_iconst (v := 0) X dL_refuses_812 (by decide) ?_
                                                  refine q_iconst (v := 0) X dL_refuses_813 (by decide) ?_
                                                  obtain ⟨k_199, h⟩ := h
                                                  refine qG_own X hW hZ (fun _ h => h) YT_ok [.ref (ad o 0 1), .int 49, .int y_2, .int 0, .int 0] [] rfl rfl (Nat.le_of_ble_eq_true rfl) dL_refuses_814 ⟨(Nat.le_of_ble_eq_true rfl), (Nat.le_of_ble_eq_true rfl)⟩ (k_C_49 ha hst o y_2 0 0 m_11 k_199) rfl rfl (gS kw_3_88 kw_3_89 kw_1_0 kw_3_90) hy_L_call.2 ⟨(Nat.le_of_ble_eq_true rfl), (Nat.le_of_ble_eq_true rfl)⟩ (fun r_198 g9 hq => ?_)
                                                  obtain ⟨er_198, hq⟩ := hq
                                                  rw [hq]
                                                  have h := h r_198 er_198
                                                  refine q_ldc (v := -9999002) X kw_3_86 dL_refuses_817 ?_
                                                  refine q_icmp_ne (tgt := 854) X dL_refuses_819 (by decide) (fun c_200 => ?_) (fun c_200 => ?_)
                                                  · have h := h.1 c_200
                                                    refine q_sub [0, 1, 4, 5, 7] rfl ?_
                                                    refine q_w (c2 := 86) (n2 := (6 * 86)) (by omega) (by omega) ?_
                                                    exact J854  h
                                                  · have h := h.2 c_200
                                                    refine q_aload_n (j := 0) X dL_refuses_822 rfl rfl ?_
                                                    refine q_bipush (v := 50) X dL_refuses_823 (by decide) ?_
                                                    refine q_iconst (v := 1) X dL_refuses_825 (by decide) ?_
                                                    refine q_iconst (v := 0) X dL_refuses_826 (by decide) ?_
                                                    refine q_iconst (v := 0) X dL_refuses_827 (by decide) ?_
                                                    obtain ⟨k_202, h⟩ := h
                                                    refine qG_own X hW hZ (fun _ h => h) YT_ok [.ref (ad o 0 1), .int 50, .int 1, .int 0, .int 0] [] rfl rfl (Nat.le_of_ble_eq_true rfl) dL_refuses_828 ⟨(Nat.le_of_ble_eq_true rfl), (Nat.le_of_ble_eq_true rfl)⟩ (k_C_50 ha hst o 1 0 0 m_11 k_202) rfl rfl (gS kw_3_88 kw_3_89 kw_1_0 kw_3_90) hy_L_call.2 ⟨(Nat.le_of_ble_eq_true rfl), (Nat.le_of_ble_eq_true rfl)⟩ (fun r_201 g9 hq => ?_)
                                                    obtain ⟨er_201, hq⟩ := hq
                                                    rw [hq]
                                                    have h := h r_201 er_201
                                                    refine q_ldc (v := -9999002) X kw_3_86 dL_refuses_831 ?_
                                                    refine q_icmp_ne (tgt := 854) X dL_refuses_833 (by decide) (fun c_203 => ?_) (fun c_203 => ?_)
                                                    · have h := h.1 c_203
                                                      refine q_sub [0, 1, 4, 5, 7] rfl ?_
                                                      refine q_w (c2 := 86) (n2 := (6 * 86)) (by omega) (by omega) ?_
                                                      exact J854  h
                                                    · have h := h.2 c_203
                                                      refine q_aload_n (j := 0) X dL_refuses_836 rfl rfl ?_
                                                      refine q_iload_n (j := 3) X dL_refuses_837 rfl rfl ?_
                                                      refine q_iconst (v := 5) X dL_refuses_838 (by decide) ?_
                                                      refine q_iconst (v := 5) X dL_refuses_839 (by decide) ?_
                                                      refine q_iload (j := 7) X dL_refuses_840 rfl ?_
                                                      obtain ⟨k_205, h⟩ := h
                                                      refine qG_ownW X hW hZ (fun _ h => h) YT_ok [.ref (ad o 0 1), .int y_2, .int 5, .int 5, .int x_6] [] rfl rfl (Nat.le_of_ble_eq_true rfl) dL_refuses_842 ⟨(Nat.le_of_ble_eq_true rfl), (Nat.le_of_ble_eq_true rfl)⟩ (k_L_whyNot ha hst o y_2 5 5 x_6 m_11 k_205) rfl rfl (gSW kw_6_149 kw_6_150 kw_1_0 kw_6_151) hy_L_whyNot.2 ⟨(Nat.le_of_ble_eq_true rfl), (Nat.le_of_ble_eq_true rfl)⟩ (fun r_204 g9 hq => ?_)
                                                      obtain ⟨er_204, hq⟩ := hq
                                                      rw [hq]
                                                      have h := h r_204 er_204
                                                      refine q_ldc (v := -9999002) X kw_3_86 dL_refuses_845 ?_
                                                      refine q_icmp_ne (tgt := 854) X dL_refuses_847 (by decide) (fun c_206 => ?_) (fun c_206 => ?_)
                                                      · have h := h.1 c_206
                                                        refine q_sub [0, 1, 4, 5, 7] rfl ?_
                                                        refine q_w (c2 := 86) (n2 := (6 * 86)) (by omega) (by omega) ?_
                                                        exact J854  h
                                                      · have h := h.2 c_206
                                                        refine q_iconst (v := 1) X dL_refuses_850 (by decide) ?_
                                                        refine q_goto (tgt := 855) X dL_refuses_851 (by decide) ?_
                                                        refine q_sub [0, 1, 4, 5, 7] rfl ?_
                                                        refine q_w (c2 := 86) (n2 := (6 * 86)) (by omega) (by omega) ?_
                                                        exact J855 1 h
                refine q_if_ne (tgt := 581) X dL_refuses_574 (by decide) (fun c_207 => ?_) (fun c_207 => ?_)
                · have h := h.1 c_207
                  refine q_aload_n (j := 1) X dL_refuses_581 rfl rfl ?_
                  obtain ⟨k_209, h⟩ := h
                  refine qG_ask X hW hZ ha (fun _ h => h) YT_ok o (val := (v_entries (m_11.1 o))) (Qp := (fun mo r m1 => r = (v_entries (m_11.1 o)) ∧ mo = m1)) [] [.int 15, .ref (ad o 0 1)] rfl rfl (Nat.le_of_ble_eq_true rfl) dL_refuses_582 ⟨(Nat.le_of_ble_eq_true rfl), (Nat.le_of_ble_eq_true rfl)⟩ k_209 (fun mo hmo => c_X9_entries (ha.1 o)  mo _ (n_entries hmo.rs hmo.inv  _ rfl)) (fun mo r m1 hr h => ⟨h.1, by rw [← h.2]; exact hr⟩) rfl rfl (gV kw_6_130 kw_6_131 kw_6_132 kw_1_1 kw_6_133) hy_X9_entries ⟨(Nat.le_of_ble_eq_true rfl), (Nat.le_of_ble_eq_true rfl)⟩ ?_
                  refine q_topi (fun r_208 er_208 => ?_)
                  have h := h r_208 er_208
                  refine q_sub [1, 2, 3, 4, 5, 6, 7, 8] rfl ?_
                  refine q_w (c2 := 48) (n2 := (6 * 48)) (by omega) (by omega) ?_
                  exact J585 r_208 h
                · have h := h.2 c_207
                  refine q_iconst (v := (-1)) X dL_refuses_577 (by decide) ?_
                  refine q_goto (tgt := 585) X dL_refuses_578 (by decide) ?_
                  refine q_sub [1, 2, 3, 4, 5, 6, 7, 8] rfl ?_
                  refine q_w (c2 := 48) (n2 := (6 * 48)) (by omega) (by omega) ?_
                  exact J585 (-1) h
            have J560 : ∀ (m_210 : Gh), w_L_refuses_J560 o p1 Q9 y_1 y_2 y_3 y_4 y_5 x_6 m_210 → V p l e rm_L_refuses s m args below meth c QQ 13 (AU A) 48 (6 * 48) (WY D cA ad YT m_210) 560 [(0, .ref (ad o 0 1)), (1, .int p1), (2, .int y_1), (3, .int y_2), (4, .int y_3), (5, .int y_4), (6, .int y_5), (7, .int x_6)] [] := by
              intro m_210 h
              unfold w_L_refuses_J560 at h
              refine q_iconst (v := 0) X dL_refuses_560 (by decide) ?_
              refine q_sub [0, 1, 2, 3, 4, 5, 6, 7] rfl ?_
              refine q_w (c2 := 48) (n2 := (6 * 48)) (by omega) (by omega) ?_
              exact J561 0 m_210 h
            refine q_icmp_ne (tgt := 560) X dL_refuses_138 (by decide) (fun c_211 => ?_) (fun c_211 => ?_)
            · have h := h.1 c_211
              refine q_sub [2, 3, 4, 5, 6, 7, 1, 0] rfl ?_
              refine q_w (c2 := 48) (n2 := (6 * 48)) (by omega) (by omega) ?_
              exact J560 g_9 h
            · have h := h.2 c_211
              refine q_aload_n (j := 2) X dL_refuses_141 rfl rfl ?_
              refine q_iconst (v := 1) X dL_refuses_142 (by decide) ?_
              refine q_iload (j := 7) X dL_refuses_143 rfl ?_
              refine q_iconst (v := 5) X dL_refuses_145 (by decide) ?_
              refine q_iload (j := 0) X dL_refuses_146 rfl ?_
              obtain ⟨k_213, h⟩ := h
              refine qG_ownW X hW hZ (fun _ h => h) YT_ok [.ref (ad o 0 1), .int 1, .int y_4, .int 5, .int x_6] [] rfl rfl (Nat.le_of_ble_eq_true rfl) dL_refuses_148 ⟨(Nat.le_of_ble_eq_true rfl), (Nat.le_of_ble_eq_true rfl)⟩ (k_L_enter ha hst o 1 y_4 5 x_6 g_9 k_213) rfl rfl (gSW kw_2_140 kw_2_141 kw_1_0 kw_2_142) hy_L_enter.2 ⟨(Nat.le_of_ble_eq_true rfl), (Nat.le_of_ble_eq_true rfl)⟩ (fun r_212 g_214 hq => ?_)
              refine q_wi (fun hi => ?_)
              have h := h r_212 hq.1 g_214 hq.2 hi
              refine q_ldc (v := -9999002) X kw_3_86 dL_refuses_151 ?_
              refine q_icmp_ne (tgt := 560) X dL_refuses_153 (by decide) (fun c_215 => ?_) (fun c_215 => ?_)
              · have h := h.1 c_215
                refine q_sub [2, 3, 4, 5, 6, 7, 1, 0] rfl ?_
                refine q_w (c2 := 48) (n2 := (6 * 48)) (by omega) (by omega) ?_
                exact J560 g_214 h
              · have h := h.2 c_215
                refine q_aload_n (j := 2) X dL_refuses_156 rfl rfl ?_
                refine q_iconst (v := 1) X dL_refuses_157 (by decide) ?_
                refine q_iconst (v := 5) X dL_refuses_158 (by decide) ?_
                refine q_iload_n (j := 3) X dL_refuses_159 rfl rfl ?_
                refine q_iconst (v := 2) X dL_refuses_160 (by decide) ?_
                refine q_irem X dL_refuses_161 (by decide) ?_
                have J172 : ∀ (y_216 : Int32), w_L_refuses_J172 o p1 Q9 y_1 y_2 y_3 y_4 y_5 x_6 g_214 y_216 → V p l e rm_L_refuses s m args below meth c QQ 13 (AU A) 4 (6 * 4) (WY D cA ad YT g_214) 172 [(0, .ref (ad o 0 1)), (1, .int p1), (2, .int y_1), (3, .int y_2), (4, .int y_3), (5, .int y_4), (6, .int y_5), (7, .int x_6)] [.int y_216, .int 5, .int 1, .ref (ad o 0 1)] := by
                  intro y_216 h
                  unfold w_L_refuses_J172 at h
                  refine q_iload (j := 7) X dL_refuses_172 rfl ?_
                  obtain ⟨k_218, h⟩ := h
                  refine qG_ownW X hW hZ (fun _ h => h) YT_ok [.ref (ad o 0 1), .int 1, .int 5, .int y_216, .int x_6] [] rfl rfl (Nat.le_of_ble_eq_true rfl) dL_refuses_174 ⟨(Nat.le_of_ble_eq_true rfl), (Nat.le_of_ble_eq_true rfl)⟩ (k_L_enter ha hst o 1 5 y_216 x_6 g_214 k_218) rfl rfl (gSW kw_2_140 kw_2_141 kw_1_0 kw_2_142) hy_L_enter.2 ⟨(Nat.le_of_ble_eq_true rfl), (Nat.le_of_ble_eq_true rfl)⟩ (fun r_217 g_219 hq => ?_)
                  refine q_wi (fun hi => ?_)
                  have h := h r_217 hq.1 g_219 hq.2 hi
                  refine q_ldc (v := -9999002) X kw_3_86 dL_refuses_177 ?_
                  refine q_icmp_ne (tgt := 560) X dL_refuses_179 (by decide) (fun c_220 => ?_) (fun c_220 => ?_)
                  · have h := h.1 c_220
                    refine q_sub [0, 1, 2, 3, 4, 5, 6, 7] rfl ?_
                    refine q_w (c2 := 48) (n2 := (6 * 48)) (by omega) (by omega) ?_
                    exact J560 g_219 h
                  · have h := h.2 c_220
                    refine q_aload_n (j := 0) X dL_refuses_182 rfl rfl ?_
                    refine q_iconst (v := 1) X dL_refuses_183 (by decide) ?_
                    refine q_iconst (v := 5) X dL_refuses_184 (by decide) ?_
                    refine q_iconst (v := 5) X dL_refuses_185 (by decide) ?_
                    refine q_iload (j := 4) X dL_refuses_186 rfl ?_
                    obtain ⟨k_222, h⟩ := h
                    refine qG_ownW X hW hZ (fun _ h => h) YT_ok [.ref (ad o 0 1), .int 1, .int 5, .int 5, .int y_3] [] rfl rfl (Nat.le_of_ble_eq_true rfl) dL_refuses_188 ⟨(Nat.le_of_ble_eq_true rfl), (Nat.le_of_ble_eq_true rfl)⟩ (k_L_enter ha hst o 1 5 5 y_3 g_219 k_222) rfl rfl (gSW kw_2_140 kw_2_141 kw_1_0 kw_2_142) hy_L_enter.2 ⟨(Nat.le_of_ble_eq_true rfl), (Nat.le_of_ble_eq_true rfl)⟩ (fun r_221 g_223 hq => ?_)
                    refine q_wi (fun hi => ?_)
                    have h := h r_221 hq.1 g_223 hq.2 hi
                    refine q_ldc (v := -9999002) X kw_3_86 dL_refuses_191 ?_
                    refine q_icmp_ne (tgt := 560) X dL_refuses_193 (by decide) (fun c_224 => ?_) (fun c_224 => ?_)
                    · have h := h.1 c_224
                      refine q_sub [0, 1, 2, 3, 4, 5, 6, 7] rfl ?_
                      refine q_w (c2 := 48) (n2 := (6 * 48)) (by omega) (by omega) ?_
                      exact J560 g_223 h
                    · have h := h.2 c_224
                      refine q_aload_n (j := 0) X dL_refuses_196 rfl rfl ?_
                      refine q_iconst (v := 0) X dL_refuses_197 (by decide) ?_
                      refine q_iload_n (j := 2) X dL_refuses_198 rfl rfl ?_
                      refine q_iload (j := 5) X dL_refuses_199 rfl ?_
                      refine q_iconst (v := 0) X dL_refuses_201 (by decide) ?_
                      obtain ⟨k_226, h⟩ := h
                      refine qG_own X hW hZ (fun _ h => h) YT_ok [.ref (ad o 0 1), .int 0, .int y_1, .int y_4, .int 0] [] rfl rfl (Nat.le_of_ble_eq_true rfl) dL_refuses_202 ⟨(Nat.le_of_ble_eq_true rfl), (Nat.le_of_ble_eq_true rfl)⟩ (k_C_0 ha hst o y_1 y_4 0 g_223 k_226) rfl rfl (gS kw_3_88 kw_3_89 kw_1_0 kw_3_90) hy_L_call.2 ⟨(Nat.le_of_ble_eq_true rfl), (Nat.le_of_ble_eq_true rfl)⟩ (fun r_225 g_227 hq => ?_)
                      refine q_wi (fun hi => ?_)
                      have h := h r_225 hq.1 g_227 hq.2 hi
                      refine q_ldc (v := -9999001) X kw_3_145 dL_refuses_205 ?_
                      refine q_icmp_ne (tgt := 560) X dL_refuses_207 (by decide) (fun c_228 => ?_) (fun c_228 => ?_)
                      · have h := h.1 c_228
                        refine q_sub [0, 1, 2, 3, 4, 5, 6, 7] rfl ?_
                        refine q_w (c2 := 48) (n2 := (6 * 48)) (by omega) (by omega) ?_
                        exact J560 g_227 h
                      · have h := h.2 c_228
                        refine q_aload_n (j := 0) X dL_refuses_210 rfl rfl ?_
                        refine q_iconst (v := 1) X dL_refuses_211 (by decide) ?_
                        refine q_iload_n (j := 2) X dL_refuses_212 rfl rfl ?_
                        refine q_iconst (v := 1) X dL_refuses_213 (by decide) ?_
                        refine q_iconst (v := 0) X dL_refuses_214 (by decide) ?_
                        obtain ⟨k_230, h⟩ := h
                        refine qG_own X hW hZ (fun _ h => h) YT_ok [.ref (ad o 0 1), .int 1, .int y_1, .int 1, .int 0] [] rfl rfl (Nat.le_of_ble_eq_true rfl) dL_refuses_215 ⟨(Nat.le_of_ble_eq_true rfl), (Nat.le_of_ble_eq_true rfl)⟩ (k_C_1 ha hst o y_1 1 0 g_227 k_230) rfl rfl (gS kw_3_88 kw_3_89 kw_1_0 kw_3_90) hy_L_call.2 ⟨(Nat.le_of_ble_eq_true rfl), (Nat.le_of_ble_eq_true rfl)⟩ (fun r_229 g_231 hq => ?_)
                        refine q_wi (fun hi => ?_)
                        have h := h r_229 hq.1 g_231 hq.2 hi
                        refine q_ldc (v := -9999001) X kw_3_145 dL_refuses_218 ?_
                        refine q_icmp_ne (tgt := 560) X dL_refuses_220 (by decide) (fun c_232 => ?_) (fun c_232 => ?_)
                        · have h := h.1 c_232
                          refine q_sub [0, 1, 2, 3, 4, 5, 6, 7] rfl ?_
                          refine q_w (c2 := 48) (n2 := (6 * 48)) (by omega) (by omega) ?_
                          exact J560 g_231 h
                        · have h := h.2 c_232
                          refine q_aload_n (j := 0) X dL_refuses_223 rfl rfl ?_
                          refine q_iconst (v := 2) X dL_refuses_224 (by decide) ?_
                          refine q_iload (j := 6) X dL_refuses_225 rfl ?_
                          refine q_iload (j := 5) X dL_refuses_227 rfl ?_
                          refine q_iconst (v := 0) X dL_refuses_229 (by decide) ?_
                          obtain ⟨k_234, h⟩ := h
                          refine qG_own X hW hZ (fun _ h => h) YT_ok [.ref (ad o 0 1), .int 2, .int y_5, .int y_4, .int 0] [] rfl rfl (Nat.le_of_ble_eq_true rfl) dL_refuses_230 ⟨(Nat.le_of_ble_eq_true rfl), (Nat.le_of_ble_eq_true rfl)⟩ (k_C_2 ha hst o y_5 y_4 0 g_231 k_234) rfl rfl (gS kw_3_88 kw_3_89 kw_1_0 kw_3_90) hy_L_call.2 ⟨(Nat.le_of_ble_eq_true rfl), (Nat.le_of_ble_eq_true rfl)⟩ (fun r_233 g_235 hq => ?_)
                          refine q_wi (fun hi => ?_)
                          have h := h r_233 hq.1 g_235 hq.2 hi
                          refine q_ldc (v := -9999001) X kw_3_145 dL_refuses_233 ?_
                          refine q_icmp_ne (tgt := 560) X dL_refuses_235 (by decide) (fun c_236 => ?_) (fun c_236 => ?_)
                          · have h := h.1 c_236
                            refine q_sub [0, 1, 2, 3, 4, 5, 6, 7] rfl ?_
                            refine q_w (c2 := 48) (n2 := (6 * 48)) (by omega) (by omega) ?_
                            exact J560 g_235 h
                          · have h := h.2 c_236
                            refine q_aload_n (j := 0) X dL_refuses_238 rfl rfl ?_
                            refine q_iconst (v := 3) X dL_refuses_239 (by decide) ?_
                            refine q_iload_n (j := 2) X dL_refuses_240 rfl rfl ?_
                            refine q_iload (j := 7) X dL_refuses_241 rfl ?_
                            refine q_iconst (v := 0) X dL_refuses_243 (by decide) ?_
                            obtain ⟨k_238, h⟩ := h
                            refine qG_own X hW hZ (fun _ h => h) YT_ok [.ref (ad o 0 1), .int 3, .int y_1, .int x_6, .int 0] [] rfl rfl (Nat.le_of_ble_eq_true rfl) dL_refuses_244 ⟨(Nat.le_of_ble_eq_true rfl), (Nat.le_of_ble_eq_true rfl)⟩ (k_C_3 ha hst o y_1 x_6 0 g_235 k_238) rfl rfl (gS kw_3_88 kw_3_89 kw_1_0 kw_3_90) hy_L_call.2 ⟨(Nat.le_of_ble_eq_true rfl), (Nat.le_of_ble_eq_true rfl)⟩ (fun r_237 g_239 hq => ?_)
                            refine q_wi (fun hi => ?_)
                            have h := h r_237 hq.1 g_239 hq.2 hi
                            refine q_ldc (v := -9999001) X kw_3_145 dL_refuses_247 ?_
                            refine q_icmp_ne (tgt := 560) X dL_refuses_249 (by decide) (fun c_240 => ?_) (fun c_240 => ?_)
                            · have h := h.1 c_240
                              refine q_sub [0, 1, 2, 3, 4, 5, 6, 7] rfl ?_
                              refine q_w (c2 := 48) (n2 := (6 * 48)) (by omega) (by omega) ?_
                              exact J560 g_239 h
                            · have h := h.2 c_240
                              refine q_aload_n (j := 0) X dL_refuses_252 rfl rfl ?_
                              refine q_iconst (v := 4) X dL_refuses_253 (by decide) ?_
                              refine q_iload_n (j := 2) X dL_refuses_254 rfl rfl ?_
                              refine q_iconst (v := 0) X dL_refuses_255 (by decide) ?_
                              refine q_iconst (v := 0) X dL_refuses_256 (by decide) ?_
                              obtain ⟨k_242, h⟩ := h
                              refine qG_own X hW hZ (fun _ h => h) YT_ok [.ref (ad o 0 1), .int 4, .int y_1, .int 0, .int 0] [] rfl rfl (Nat.le_of_ble_eq_true rfl) dL_refuses_257 ⟨(Nat.le_of_ble_eq_true rfl), (Nat.le_of_ble_eq_true rfl)⟩ (k_C_4 ha hst o y_1 0 0 g_239 k_242) rfl rfl (gS kw_3_88 kw_3_89 kw_1_0 kw_3_90) hy_L_call.2 ⟨(Nat.le_of_ble_eq_true rfl), (Nat.le_of_ble_eq_true rfl)⟩ (fun r_241 g_243 hq => ?_)
                              refine q_wi (fun hi => ?_)
                              have h := h r_241 hq.1 g_243 hq.2 hi
                              refine q_ldc (v := -9999001) X kw_3_145 dL_refuses_260 ?_
                              refine q_icmp_ne (tgt := 560) X dL_refuses_262 (by decide) (fun c_244 => ?_) (fun c_244 => ?_)
                              · have h := h.1 c_244
                                refine q_sub [0, 1, 2, 3, 4, 5, 6, 7] rfl ?_
                                refine q_w (c2 := 48) (n2 := (6 * 48)) (by omega) (by omega) ?_
                                exact J560 g_243 h
                              · have h := h.2 c_244
                                refine q_aload_n (j := 0) X dL_refuses_265 rfl rfl ?_
                                refine q_iconst (v := 5) X dL_refuses_266 (by decide) ?_
                                refine q_iload_n (j := 2) X dL_refuses_267 rfl rfl ?_
                                refine q_iload_n (j := 2) X dL_refuses_268 rfl rfl ?_
                                refine q_iconst (v := 0) X dL_refuses_269 (by decide) ?_
                                obtain ⟨k_246, h⟩ := h
                                refine qG_own X hW hZ (fun _ h => h) YT_ok [.ref (ad o 0 1), .int 5, .int y_1, .int y_1, .int 0] [] rfl rfl (Nat.le_of_ble_eq_true rfl) dL_refuses_270 ⟨(Nat.le_of_ble_eq_true rfl), (Nat.le_of_ble_eq_true rfl)⟩ (k_C_5 ha hst o y_1 y_1 0 g_243 k_246) rfl rfl (gS kw_3_88 kw_3_89 kw_1_0 kw_3_90) hy_L_call.2 ⟨(Nat.le_of_ble_eq_true rfl), (Nat.le_of_ble_eq_true rfl)⟩ (fun r_245 g_247 hq => ?_)
                                refine q_wi (fun hi => ?_)
                                have h := h r_245 hq.1 g_247 hq.2 hi
                                refine q_ldc (v := -9999001) X kw_3_145 dL_refuses_273 ?_
                                refine q_icmp_ne (tgt := 560) X dL_refuses_275 (by decide) (fun c_248 => ?_) (fun c_248 => ?_)
                                · have h := h.1 c_248
                                  refine q_sub [0, 1, 2, 3, 4, 5, 6, 7] rfl ?_
                                  refine q_w (c2 := 48) (n2 := (6 * 48)) (by omega) (by omega) ?_
                                  exact J560 g_247 h
                                · have h := h.2 c_248
                                  refine q_aload_n (j := 0) X dL_refuses_278 rfl rfl ?_
                                  refine q_bipush (v := 6) X dL_refuses_279 (by decide) ?_
                                  refine q_iload_n (j := 2) X dL_refuses_281 rfl rfl ?_
                                  refine q_iconst (v := (-1)) X dL_refuses_282 (by decide) ?_
                                  refine q_iconst (v := 0) X dL_refuses_283 (by decide) ?_
                                  obtain ⟨k_250, h⟩ := h
                                  refine qG_own X hW hZ (fun _ h => h) YT_ok [.ref (ad o 0 1), .int 6, .int y_1, .int (-1), .int 0] [] rfl rfl (Nat.le_of_ble_eq_true rfl) dL_refuses_284 ⟨(Nat.le_of_ble_eq_true rfl), (Nat.le_of_ble_eq_true rfl)⟩ (k_C_6 ha hst o y_1 (-1) 0 g_247 k_250) rfl rfl (gS kw_3_88 kw_3_89 kw_1_0 kw_3_90) hy_L_call.2 ⟨(Nat.le_of_ble_eq_true rfl), (Nat.le_of_ble_eq_true rfl)⟩ (fun r_249 g_251 hq => ?_)
                                  refine q_wi (fun hi => ?_)
                                  have h := h r_249 hq.1 g_251 hq.2 hi
                                  refine q_ldc (v := -9999001) X kw_3_145 dL_refuses_287 ?_
                                  refine q_icmp_ne (tgt := 560) X dL_refuses_289 (by decide) (fun c_252 => ?_) (fun c_252 => ?_)
                                  · have h := h.1 c_252
                                    refine q_sub [0, 1, 2, 3, 4, 5, 6, 7] rfl ?_
                                    refine q_w (c2 := 48) (n2 := (6 * 48)) (by omega) (by omega) ?_
                                    exact J560 g_251 h
                                  · have h := h.2 c_252
                                    refine q_aload_n (j := 0) X dL_refuses_292 rfl rfl ?_
                                    refine q_bipush (v := 7) X dL_refuses_293 (by decide) ?_
                                    refine q_iload (j := 4) X dL_refuses_295 rfl ?_
                                    refine q_iconst (v := 0) X dL_refuses_297 (by decide) ?_
                                    refine q_iconst (v := 0) X dL_refuses_298 (by decide) ?_
                                    obtain ⟨k_254, h⟩ := h
                                    refine qG_own X hW hZ (fun _ h => h) YT_ok [.ref (ad o 0 1), .int 7, .int y_3, .int 0, .int 0] [] rfl rfl (Nat.le_of_ble_eq_true rfl) dL_refuses_299 ⟨(Nat.le_of_ble_eq_true rfl), (Nat.le_of_ble_eq_true rfl)⟩ (k_C_7 ha hst o y_3 0 0 g_251 k_254) rfl rfl (gS kw_3_88 kw_3_89 kw_1_0 kw_3_90) hy_L_call.2 ⟨(Nat.le_of_ble_eq_true rfl), (Nat.le_of_ble_eq_true rfl)⟩ (fun r_253 g_255 hq => ?_)
                                    refine q_wi (fun hi => ?_)
                                    have h := h r_253 hq.1 g_255 hq.2 hi
                                    refine q_ldc (v := -9999001) X kw_3_145 dL_refuses_302 ?_
                                    refine q_icmp_ne (tgt := 560) X dL_refuses_304 (by decide) (fun c_256 => ?_) (fun c_256 => ?_)
                                    · have h := h.1 c_256
                                      refine q_sub [0, 1, 2, 3, 4, 5, 6, 7] rfl ?_
                                      refine q_w (c2 := 48) (n2 := (6 * 48)) (by omega) (by omega) ?_
                                      exact J560 g_255 h
                                    · have h := h.2 c_256
                                      refine q_aload_n (j := 0) X dL_refuses_307 rfl rfl ?_
                                      refine q_bipush (v := 8) X dL_refuses_308 (by decide) ?_
                                      refine q_iload (j := 4) X dL_refuses_310 rfl ?_
                                      refine q_iconst (v := 0) X dL_refuses_312 (by decide) ?_
                                      refine q_iconst (v := 0) X dL_refuses_313 (by decide) ?_
                                      obtain ⟨k_258, h⟩ := h
                                      refine qG_own X hW hZ (fun _ h => h) YT_ok [.ref (ad o 0 1), .int 8, .int y_3, .int 0, .int 0] [] rfl rfl (Nat.le_of_ble_eq_true rfl) dL_refuses_314 ⟨(Nat.le_of_ble_eq_true rfl), (Nat.le_of_ble_eq_true rfl)⟩ (k_C_8 ha hst o y_3 0 0 g_255 k_258) rfl rfl (gS kw_3_88 kw_3_89 kw_1_0 kw_3_90) hy_L_call.2 ⟨(Nat.le_of_ble_eq_true rfl), (Nat.le_of_ble_eq_true rfl)⟩ (fun r_257 g_259 hq => ?_)
                                      refine q_wi (fun hi => ?_)
                                      have h := h r_257 hq.1 g_259 hq.2 hi
                                      refine q_ldc (v := -9999001) X kw_3_145 dL_refuses_317 ?_
                                      refine q_icmp_ne (tgt := 560) X dL_refuses_319 (by decide) (fun c_260 => ?_) (fun c_260 => ?_)
                                      · have h := h.1 c_260
                                        refine q_sub [0, 1, 2, 3, 4, 5, 6, 7] rfl ?_
                                        refine q_w (c2 := 48) (n2 := (6 * 48)) (by omega) (by omega) ?_
                                        exact J560 g_259 h
                                      · have h := h.2 c_260
                                        refine q_aload_n (j := 0) X dL_refuses_322 rfl rfl ?_
                                        refine q_bipush (v := 9) X dL_refuses_323 (by decide) ?_
                                        refine q_iload (j := 4) X dL_refuses_325 rfl ?_
                                        refine q_iconst (v := 0) X dL_refuses_327 (by decide) ?_
                                        refine q_iconst (v := 0) X dL_refuses_328 (by decide) ?_
                                        obtain ⟨k_262, h⟩ := h
                                        refine qG_own X hW hZ (fun _ h => h) YT_ok [.ref (ad o 0 1), .int 9, .int y_3, .int 0, .int 0] [] rfl rfl (Nat.le_of_ble_eq_true rfl) dL_refuses_329 ⟨(Nat.le_of_ble_eq_true rfl), (Nat.le_of_ble_eq_true rfl)⟩ (k_C_9 ha hst o y_3 0 0 g_259 k_262) rfl rfl (gS kw_3_88 kw_3_89 kw_1_0 kw_3_90) hy_L_call.2 ⟨(Nat.le_of_ble_eq_true rfl), (Nat.le_of_ble_eq_true rfl)⟩ (fun r_261 g_263 hq => ?_)
                                        refine q_wi (fun hi => ?_)
                                        have h := h r_261 hq.1 g_263 hq.2 hi
                                        refine q_ldc (v := -9999001) X kw_3_145 dL_refuses_332 ?_
                                        refine q_icmp_ne (tgt := 560) X dL_refuses_334 (by decide) (fun c_264 => ?_) (fun c_264 => ?_)
                                        · have h := h.1 c_264
                                          refine q_sub [0, 1, 2, 3, 4, 5, 6, 7] rfl ?_
                                          refine q_w (c2 := 48) (n2 := (6 * 48)) (by omega) (by omega) ?_
                                          exact J560 g_263 h
                                        · have h := h.2 c_264
                                          refine q_aload_n (j := 0) X dL_refuses_337 rfl rfl ?_
                                          refine q_bipush (v := 10) X dL_refuses_338 (by decide) ?_
                                          refine q_iload_n (j := 1) X dL_refuses_340 rfl rfl ?_
                                          refine q_iconst (v := 2) X dL_refuses_341 (by decide) ?_
                                          refine q_irem X dL_refuses_342 (by decide) ?_
                                          have J353 : ∀ (y_265 : Int32), w_L_refuses_J353 o p1 Q9 y_1 y_2 y_3 y_4 y_5 x_6 g_263 y_265 → V p l e rm_L_refuses s m args below meth c QQ 13 (AU A) 28 (6 * 28) (WY D cA ad YT g_263) 353 [(0, .ref (ad o 0 1)), (1, .int p1), (2, .int y_1), (3, .int y_2), (4, .int y_3), (5, .int y_4), (6, .int y_5), (7, .int x_6)] [.int y_265, .int 10, .ref (ad o 0 1)] := by
                                            intro y_265 h
                                            unfold w_L_refuses_J353 at h
                                            refine q_iconst (v := 0) X dL_refuses_353 (by decide) ?_
                                            refine q_iconst (v := 0) X dL_refuses_354 (by decide) ?_
                                            obtain ⟨k_267, h⟩ := h
                                            refine qG_own X hW hZ (fun _ h => h) YT_ok [.ref (ad o 0 1), .int 10, .int y_265, .int 0, .int 0] [] rfl rfl (Nat.le_of_ble_eq_true rfl) dL_refuses_355 ⟨(Nat.le_of_ble_eq_true rfl), (Nat.le_of_ble_eq_true rfl)⟩ (k_C_10 ha hst o y_265 0 0 g_263 k_267) rfl rfl (gS kw_3_88 kw_3_89 kw_1_0 kw_3_90) hy_L_call.2 ⟨(Nat.le_of_ble_eq_true rfl), (Nat.le_of_ble_eq_true rfl)⟩ (fun r_266 g_268 hq => ?_)
                                            refine q_wi (fun hi => ?_)
                                            have h := h r_266 hq.1 g_268 hq.2 hi
                                            refine q_ldc (v := -9999002) X kw_3_86 dL_refuses_358 ?_
                                            refine q_icmp_ne (tgt := 560) X dL_refuses_360 (by decide) (fun c_269 => ?_) (fun c_269 => ?_)
                                            · have h := h.1 c_269
                                              refine q_sub [0, 1, 2, 3, 4, 5, 6, 7] rfl ?_
                                              refine q_w (c2 := 48) (n2 := (6 * 48)) (by omega) (by omega) ?_
                                              exact J560 g_268 h
                                            · have h := h.2 c_269
                                              refine q_aload_n (j := 0) X dL_refuses_363 rfl rfl ?_
                                              refine q_bipush (v := 11) X dL_refuses_364 (by decide) ?_
                                              refine q_iload_n (j := 1) X dL_refuses_366 rfl rfl ?_
                                              refine q_iconst (v := 2) X dL_refuses_367 (by decide) ?_
                                              refine q_irem X dL_refuses_368 (by decide) ?_
                                              have J379 : ∀ (y_270 : Int32), w_L_refuses_J379 o p1 Q9 y_1 y_2 y_3 y_4 y_5 x_6 g_268 y_270 → V p l e rm_L_refuses s m args below meth c QQ 13 (AU A) 30 (6 * 30) (WY D cA ad YT g_268) 379 [(0, .ref (ad o 0 1)), (1, .int p1), (2, .int y_1), (3, .int y_2), (4, .int y_3), (5, .int y_4), (6, .int y_5), (7, .int x_6)] [.int y_270, .int 11, .ref (ad o 0 1)] := by
                                                intro y_270 h
                                                unfold w_L_refuses_J379 at h
                                                refine q_iconst (v := 0) X dL_refuses_379 (by decide) ?_
                                                refine q_iconst (v := 0) X dL_refuses_380 (by decide) ?_
                                                obtain ⟨k_272, h⟩ := h
                                                refine qG_own X hW hZ (fun _ h => h) YT_ok [.ref (ad o 0 1), .int 11, .int y_270, .int 0, .int 0] [] rfl rfl (Nat.le_of_ble_eq_true rfl) dL_refuses_381 ⟨(Nat.le_of_ble_eq_true rfl), (Nat.le_of_ble_eq_true rfl)⟩ (k_C_11 ha hst o y_270 0 0 g_268 k_272) rfl rfl (gS kw_3_88 kw_3_89 kw_1_0 kw_3_90) hy_L_call.2 ⟨(Nat.le_of_ble_eq_true rfl), (Nat.le_of_ble_eq_true rfl)⟩ (fun r_271 g_273 hq => ?_)
                                                refine q_wi (fun hi => ?_)
                                                have h := h r_271 hq.1 g_273 hq.2 hi
                                                refine q_ldc (v := -9999002) X kw_3_86 dL_refuses_384 ?_
                                                refine q_icmp_ne (tgt := 560) X dL_refuses_386 (by decide) (fun c_274 => ?_) (fun c_274 => ?_)
                                                · have h := h.1 c_274
                                                  refine q_sub [0, 1, 2, 3, 4, 5, 6, 7] rfl ?_
                                                  refine q_w (c2 := 48) (n2 := (6 * 48)) (by omega) (by omega) ?_
                                                  exact J560 g_273 h
                                                · have h := h.2 c_274
                                                  refine q_aload_n (j := 0) X dL_refuses_389 rfl rfl ?_
                                                  refine q_bipush (v := 12) X dL_refuses_390 (by decide) ?_
                                                  refine q_iload_n (j := 3) X dL_refuses_392 rfl rfl ?_
                                                  refine q_iconst (v := 5) X dL_refuses_393 (by decide) ?_
                                                  refine q_iconst (v := 0) X dL_refuses_394 (by decide) ?_
                                                  obtain ⟨k_276, h⟩ := h
                                                  refine qG_own X hW hZ (fun _ h => h) YT_ok [.ref (ad o 0 1), .int 12, .int y_2, .int 5, .int 0] [] rfl rfl (Nat.le_of_ble_eq_true rfl) dL_refuses_395 ⟨(Nat.le_of_ble_eq_true rfl), (Nat.le_of_ble_eq_true rfl)⟩ (k_C_12 ha hst o y_2 5 0 g_273 k_276) rfl rfl (gS kw_3_88 kw_3_89 kw_1_0 kw_3_90) hy_L_call.2 ⟨(Nat.le_of_ble_eq_true rfl), (Nat.le_of_ble_eq_true rfl)⟩ (fun r_275 g_277 hq => ?_)
                                                  refine q_wi (fun hi => ?_)
                                                  have h := h r_275 hq.1 g_277 hq.2 hi
                                                  refine q_ldc (v := -9999002) X kw_3_86 dL_refuses_398 ?_
                                                  refine q_icmp_ne (tgt := 560) X dL_refuses_400 (by decide) (fun c_278 => ?_) (fun c_278 => ?_)
                                                  · have h := h.1 c_278
                                                    refine q_sub [0, 1, 2, 3, 4, 5, 6, 7] rfl ?_
                                                    refine q_w (c2 := 48) (n2 := (6 * 48)) (by omega) (by omega) ?_
                                                    exact J560 g_277 h
                                                  · have h := h.2 c_278
                                                    refine q_aload_n (j := 0) X dL_refuses_403 rfl rfl ?_
                                                    refine q_bipush (v := 12) X dL_refuses_404 (by decide) ?_
                                                    refine q_iconst (v := 1) X dL_refuses_406 (by decide) ?_
                                                    refine q_iload_n (j := 1) X dL_refuses_407 rfl rfl ?_
                                                    refine q_iconst (v := 2) X dL_refuses_408 (by decide) ?_
                                                    refine q_irem X dL_refuses_409 (by decide) ?_
                                                    have J419 : ∀ (y_279 : Int32), w_L_refuses_J419 o p1 Q9 y_1 y_2 y_3 y_4 y_5 x_6 g_277 y_279 → V p l e rm_L_refuses s m args below meth c QQ 13 (AU A) 34 (6 * 34) (WY D cA ad YT g_277) 419 [(0, .ref (ad o 0 1)), (1, .int p1), (2, .int y_1), (3, .int y_2), (4, .int y_3), (5, .int y_4), (6, .int y_5), (7, .int x_6)] [.int y_279, .int 1, .int 12, .ref (ad o 0 1)] := by
                                                      intro y_279 h
                                                      unfold w_L_refuses_J419 at h
                                                      refine q_iconst (v := 0) X dL_refuses_419 (by decide) ?_
                                                      obtain ⟨k_281, h⟩ := h
                                                      refine qG_own X hW hZ (fun _ h => h) YT_ok [.ref (ad o 0 1), .int 12, .int 1, .int y_279, .int 0] [] rfl rfl (Nat.le_of_ble_eq_true rfl) dL_refuses_420 ⟨(Nat.le_of_ble_eq_true rfl), (Nat.le_of_ble_eq_true rfl)⟩ (k_C_12 ha hst o 1 y_279 0 g_277 k_281) rfl rfl (gS kw_3_88 kw_3_89 kw_1_0 kw_3_90) hy_L_call.2 ⟨(Nat.le_of_ble_eq_true rfl), (Nat.le_of_ble_eq_true rfl)⟩ (fun r_280 g_282 hq => ?_)
                                                      refine q_wi (fun hi => ?_)
                                                      have h := h r_280 hq.1 g_282 hq.2 hi
                                                      refine q_ldc (v := -9999002) X kw_3_86 dL_refuses_423 ?_
                                                      refine q_icmp_ne (tgt := 560) X dL_refuses_425 (by decide) (fun c_283 => ?_) (fun c_283 => ?_)
                                                      · have h := h.1 c_283
                                                        refine q_sub [0, 1, 2, 3, 4, 5, 6, 7] rfl ?_
                                                        refine q_w (c2 := 48) (n2 := (6 * 48)) (by omega) (by omega) ?_
                                                        exact J560 g_282 h
                                                      · have h := h.2 c_283
                                                        refine q_aload_n (j := 0) X dL_refuses_428 rfl rfl ?_
                                                        refine q_bipush (v := 13) X dL_refuses_429 (by decide) ?_
                                                        refine q_iconst (v := 1) X dL_refuses_431 (by decide) ?_
                                                        refine q_iload_n (j := 1) X dL_refuses_432 rfl rfl ?_
                                                        refine q_iconst (v := 2) X dL_refuses_433 (by decide) ?_
                                                        refine q_irem X dL_refuses_434 (by decide) ?_
                                                        have J444 : ∀ (y_284 : Int32), w_L_refuses_J444 o p1 Q9 y_1 y_2 y_3 y_4 y_5 x_6 g_282 y_284 → V p l e rm_L_refuses s m args below meth c QQ 13 (AU A) 36 (6 * 36) (WY D cA ad YT g_282) 444 [(0, .ref (ad o 0 1)), (1, .int p1), (2, .int y_1), (3, .int y_2), (4, .int y_3), (5, .int y_4), (6, .int y_5), (7, .int x_6)] [.int y_284, .int 1, .int 13, .ref (ad o 0 1)] := by
                                                          intro y_284 h
                                                          unfold w_L_refuses_J444 at h
                                                          refine q_iconst (v := 0) X dL_refuses_444 (by decide) ?_
                                                          obtain ⟨k_286, h⟩ := h
                                                          refine qG_own X hW hZ (fun _ h => h) YT_ok [.ref (ad o 0 1), .int 13, .int 1, .int y_284, .int 0] [] rfl rfl (Nat.le_of_ble_eq_true rfl) dL_refuses_445 ⟨(Nat.le_of_ble_eq_true rfl), (Nat.le_of_ble_eq_true rfl)⟩ (k_C_13 ha hst o 1 y_284 0 g_282 k_286) rfl rfl (gS kw_3_88 kw_3_89 kw_1_0 kw_3_90) hy_L_call.2 ⟨(Nat.le_of_ble_eq_true rfl), (Nat.le_of_ble_eq_true rfl)⟩ (fun r_285 g_287 hq => ?_)
                                                          refine q_wi (fun hi => ?_)
                                                          have h := h r_285 hq.1 g_287 hq.2 hi
                                                          refine q_ldc (v := -9999002) X kw_3_86 dL_refuses_448 ?_
                                                          refine q_icmp_ne (tgt := 560) X dL_refuses_450 (by decide) (fun c_288 => ?_) (fun c_288 => ?_)
                                                          · have h := h.1 c_288
                                                            refine q_sub [0, 1, 2, 3, 4, 5, 6, 7] rfl ?_
                                                            refine q_w (c2 := 48) (n2 := (6 * 48)) (by omega) (by omega) ?_
                                                            exact J560 g_287 h
                                                          · have h := h.2 c_288
                                                            refine q_aload_n (j := 0) X dL_refuses_453 rfl rfl ?_
                                                            refine q_bipush (v := 14) X dL_refuses_454 (by decide) ?_
                                                            refine q_iload_n (j := 1) X dL_refuses_456 rfl rfl ?_
                                                            refine q_iconst (v := 2) X dL_refuses_457 (by decide) ?_
                                                            refine q_irem X dL_refuses_458 (by decide) ?_
                                                            have J468 : ∀ (y_289 : Int32), w_L_refuses_J468 o p1 Q9 y_1 y_2 y_3 y_4 y_5 x_6 g_287 y_289 → V p l e rm_L_refuses s m args below meth c QQ 13 (AU A) 38 (6 * 38) (WY D cA ad YT g_287) 468 [(0, .ref (ad o 0 1)), (1, .int p1), (2, .int y_1), (3, .int y_2), (4, .int y_3), (5, .int y_4), (6, .int y_5), (7, .int x_6)] [.int y_289, .int 14, .ref (ad o 0 1)] := by
                                                              intro y_289 h
                                                              unfold w_L_refuses_J468 at h
                                                              refine q_iconst (v := 0) X dL_refuses_468 (by decide) ?_
                                                              refine q_iconst (v := 0) X dL_refuses_469 (by decide) ?_
                                                              obtain ⟨k_291, h⟩ := h
                                                              refine qG_own X hW hZ (fun _ h => h) YT_ok [.ref (ad o 0 1), .int 14, .int y_289, .int 0, .int 0] [] rfl rfl (Nat.le_of_ble_eq_true rfl) dL_refuses_470 ⟨(Nat.le_of_ble_eq_true rfl), (Nat.le_of_ble_eq_true rfl)⟩ (k_C_14 ha hst o y_289 0 0 g_287 k_291) rfl rfl (gS kw_3_88 kw_3_89 kw_1_0 kw_3_90) hy_L_call.2 ⟨(Nat.le_of_ble_eq_true rfl), (Nat.le_of_ble_eq_true rfl)⟩ (fun r_290 g_292 hq => ?_)
                                                              refine q_wi (fun hi => ?_)
                                                              have h := h r_290 hq.1 g_292 hq.2 hi
                                                              refine q_ldc (v := -9999002) X kw_3_86 dL_refuses_473 ?_
                                                              refine q_icmp_ne (tgt := 560) X dL_refuses_475 (by decide) (fun c_293 => ?_) (fun c_293 => ?_)
                                                              · have h := h.1 c_293
                                                                refine q_sub [0, 1, 2, 3, 4, 5, 6, 7] rfl ?_
                                                                refine q_w (c2 := 48) (n2 := (6 * 48)) (by omega) (by omega) ?_
                                                                exact J560 g_292 h
                                                              · have h := h.2 c_293
                                                                refine q_aload_n (j := 0) X dL_refuses_478 rfl rfl ?_
                                                                refine q_bipush (v := 52) X dL_refuses_479 (by decide) ?_
                                                                refine q_iconst (v := 0) X dL_refuses_481 (by decide) ?_
                                                                refine q_iconst (v := 0) X dL_refuses_482 (by decide) ?_
                                                                refine q_iconst (v := 0) X dL_refuses_483 (by decide) ?_
                                                                obtain ⟨k_295, h⟩ := h
                                                                refine qG_own X hW hZ (fun _ h => h) YT_ok [.ref (ad o 0 1), .int 52, .int 0, .int 0, .int 0] [] rfl rfl (Nat.le_of_ble_eq_true rfl) dL_refuses_484 ⟨(Nat.le_of_ble_eq_true rfl), (Nat.le_of_ble_eq_true rfl)⟩ (k_C_52 ha hst o 0 0 0 g_292 k_295) rfl rfl (gS kw_3_88 kw_3_89 kw_1_0 kw_3_90) hy_L_call.2 ⟨(Nat.le_of_ble_eq_true rfl), (Nat.le_of_ble_eq_true rfl)⟩ (fun r_294 g9 hq => ?_)
                                                                obtain ⟨er_294, hq⟩ := hq
                                                                rw [hq]
                                                                have h := h r_294 er_294
                                                                refine q_ldc (v := -9999002) X kw_3_86 dL_refuses_487 ?_
                                                                refine q_icmp_ne (tgt := 560) X dL_refuses_489 (by decide) (fun c_297 => ?_) (fun c_297 => ?_)
                                                                · have h := h.1 c_297
                                                                  refine q_sub [0, 1, 2, 3, 4, 5, 6, 7] rfl ?_
                                                                  refine q_w (c2 := 48) (n2 := (6 * 48)) (by omega) (by omega) ?_
                                                                  exact J560 g_292 h
                                                                · have h := h.2 c_297
                                                                  refine q_aload_n (j := 0) X dL_refuses_492 rfl rfl ?_
                                                                  refine q_bipush (v := 51) X dL_refuses_493 (by decide) ?_
                                                                  refine q_iload_n (j := 1) X dL_refuses_495 rfl rfl ?_
                                                                  refine q_iconst (v := 2) X dL_refuses_496 (by decide) ?_
                                                                  refine q_irem X dL_refuses_497 (by decide) ?_
                                                                  have J508 : ∀ (y_298 : Int32), w_L_refuses_J508 o p1 Q9 y_1 y_2 y_3 y_4 y_5 x_6 g_292 y_298 → V p l e rm_L_refuses s m args below meth c QQ 13 (AU A) 42 (6 * 42) (WY D cA ad YT g_292) 508 [(0, .ref (ad o 0 1)), (1, .int p1), (2, .int y_1), (3, .int y_2), (4, .int y_3), (5, .int y_4), (6, .int y_5), (7, .int x_6)] [.int y_298, .int 51, .ref (ad o 0 1)] := by
                                                                    intro y_298 h
                                                                    unfold w_L_refuses_J508 at h
                                                                    refine q_iconst (v := 0) X dL_refuses_508 (by decide) ?_
                                                                    refine q_iconst (v := 0) X dL_refuses_509 (by decide) ?_
                                                                    obtain ⟨k_300, h⟩ := h
                                                                    obtain ⟨k_301, h⟩ := h
                                                                    refine qG_own X hW hZ (fun _ h => h) YT_ok [.ref (ad o 0 1), .int 51, .int y_298, .int 0, .int 0] [] rfl rfl (Nat.le_of_ble_eq_true rfl) dL_refuses_510 ⟨(Nat.le_of_ble_eq_true rfl), (Nat.le_of_ble_eq_true rfl)⟩ (k_C_51 ha hst o y_298 0 0 g_292 k_300 k_301) rfl rfl (gS kw_3_88 kw_3_89 kw_1_0 kw_3_90) hy_L_call.2 ⟨(Nat.le_of_ble_eq_true rfl), (Nat.le_of_ble_eq_true rfl)⟩ (fun r_299 g9 hq => ?_)
                                                                    obtain ⟨er_299, hq⟩ := hq
                                                                    rw [hq]
                                                                    have h := h r_299 er_299
                                                                    refine q_ldc (v := -9999002) X kw_3_86 dL_refuses_513 ?_
                                                                    refine q_icmp_ne (tgt := 560) X dL_refuses_515 (by decide) (fun c_302 => ?_) (fun c_302 => ?_)
                                                                    · have h := h.1 c_302
                                                                      refine q_sub [0, 1, 2, 3, 4, 5, 6, 7] rfl ?_
                                                                      refine q_w (c2 := 48) (n2 := (6 * 48)) (by omega) (by omega) ?_
                                                                      exact J560 g_292 h
                                                                    · have h := h.2 c_302
                                                                      refine q_aload_n (j := 0) X dL_refuses_518 rfl rfl ?_
                                                                      refine q_bipush (v := 54) X dL_refuses_519 (by decide) ?_
                                                                      refine q_iconst (v := 2) X dL_refuses_521 (by decide) ?_
                                                                      refine q_iload_n (j := 1) X dL_refuses_522 rfl rfl ?_
                                                                      refine q_bipush (v := 9) X dL_refuses_523 (by decide) ?_
                                                                      refine q_irem X dL_refuses_525 (by decide) ?_
                                                                      refine q_iadd X dL_refuses_526 ?_
                                                                      refine q_iconst (v := 0) X dL_refuses_527 (by decide) ?_
                                                                      refine q_iconst (v := 0) X dL_refuses_528 (by decide) ?_
                                                                      obtain ⟨k_304, h⟩ := h
                                                                      refine qG_own X hW hZ (fun _ h => h) YT_ok [.ref (ad o 0 1), .int 54, .int (2 + (p1 - p1 / 9 * 9)), .int 0, .int 0] [] rfl rfl (Nat.le_of_ble_eq_true rfl) dL_refuses_529 ⟨(Nat.le_of_ble_eq_true rfl), (Nat.le_of_ble_eq_true rfl)⟩ (k_C_54 ha hst o (2 + (p1 - p1 / 9 * 9)) 0 0 g_292 k_304) rfl rfl (gS kw_3_88 kw_3_89 kw_1_0 kw_3_90) hy_L_call.2 ⟨(Nat.le_of_ble_eq_true rfl), (Nat.le_of_ble_eq_true rfl)⟩ (fun r_303 g_305 hq => ?_)
                                                                      refine q_wi (fun hi => ?_)
                                                                      have h := h r_303 hq.1 g_305 hq.2 hi
                                                                      refine q_ldc (v := -9999001) X kw_3_145 dL_refuses_532 ?_
                                                                      refine q_icmp_ne (tgt := 560) X dL_refuses_534 (by decide) (fun c_306 => ?_) (fun c_306 => ?_)
                                                                      · have h := h.1 c_306
                                                                        refine q_sub [0, 1, 2, 3, 4, 5, 6, 7] rfl ?_
                                                                        refine q_w (c2 := 48) (n2 := (6 * 48)) (by omega) (by omega) ?_
                                                                        exact J560 g_305 h
                                                                      · have h := h.2 c_306
                                                                        refine q_aload_n (j := 0) X dL_refuses_537 rfl rfl ?_
                                                                        refine q_bipush (v := 55) X dL_refuses_538 (by decide) ?_
                                                                        refine q_iconst (v := (-1)) X dL_refuses_540 (by decide) ?_
                                                                        refine q_iload_n (j := 1) X dL_refuses_541 rfl rfl ?_
                                                                        refine q_bipush (v := 9) X dL_refuses_542 (by decide) ?_
                                                                        refine q_irem X dL_refuses_544 (by decide) ?_
                                                                        refine q_isub X dL_refuses_545 ?_
                                                                        refine q_iconst (v := 0) X dL_refuses_546 (by decide) ?_
                                                                        refine q_iconst (v := 0) X dL_refuses_547 (by decide) ?_
                                                                        obtain ⟨k_308, h⟩ := h
                                                                        refine qG_own X hW hZ (fun _ h => h) YT_ok [.ref (ad o 0 1), .int 55, .int ((-1) - (p1 - p1 / 9 * 9)), .int 0, .int 0] [] rfl rfl (Nat.le_of_ble_eq_true rfl) dL_refuses_548 ⟨(Nat.le_of_ble_eq_true rfl), (Nat.le_of_ble_eq_true rfl)⟩ (k_C_55 ha hst o ((-1) - (p1 - p1 / 9 * 9)) 0 0 g_305 k_308) rfl rfl (gS kw_3_88 kw_3_89 kw_1_0 kw_3_90) hy_L_call.2 ⟨(Nat.le_of_ble_eq_true rfl), (Nat.le_of_ble_eq_true rfl)⟩ (fun r_307 g_309 hq => ?_)
                                                                        refine q_wi (fun hi => ?_)
                                                                        have h := h r_307 hq.1 g_309 hq.2 hi
                                                                        refine q_ldc (v := -9999001) X kw_3_145 dL_refuses_551 ?_
                                                                        refine q_icmp_ne (tgt := 560) X dL_refuses_553 (by decide) (fun c_310 => ?_) (fun c_310 => ?_)
                                                                        · have h := h.1 c_310
                                                                          refine q_sub [0, 1, 2, 3, 4, 5, 6, 7] rfl ?_
                                                                          refine q_w (c2 := 48) (n2 := (6 * 48)) (by omega) (by omega) ?_
                                                                          exact J560 g_309 h
                                                                        · have h := h.2 c_310
                                                                          refine q_iconst (v := 1) X dL_refuses_556 (by decide) ?_
                                                                          refine q_goto (tgt := 561) X dL_refuses_557 (by decide) ?_
                                                                          refine q_sub [0, 1, 2, 3, 4, 5, 6, 7] rfl ?_
                                                                          refine q_w (c2 := 48) (n2 := (6 * 48)) (by omega) (by omega) ?_
                                                                          exact J561 1 g_309 h
                                                                  refine q_if_ne (tgt := 506) X dL_refuses_498 (by decide) (fun c_311 => ?_) (fun c_311 => ?_)
                                                                  · have h := h.1 c_311
                                                                    refine q_bipush (v := 127) X dL_refuses_506 (by decide) ?_
                                                                    refine q_sub [0, 1, 2, 3, 4, 5, 6, 7] rfl ?_
                                                                    refine q_w (c2 := 42) (n2 := (6 * 42)) (by omega) (by omega) ?_
                                                                    exact J508 127 h
                                                                  · have h := h.2 c_311
                                                                    refine q_bipush (v := 32) X dL_refuses_501 (by decide) ?_
                                                                    refine q_goto (tgt := 508) X dL_refuses_503 (by decide) ?_
                                                                    refine q_sub [0, 1, 2, 3, 4, 5, 6, 7] rfl ?_
                                                                    refine q_w (c2 := 42) (n2 := (6 * 42)) (by omega) (by omega) ?_
                                                                    exact J508 32 h
                                                            refine q_if_ne (tgt := 466) X dL_refuses_459 (by decide) (fun c_312 => ?_) (fun c_312 => ?_)
                                                            · have h := h.1 c_312
                                                              refine q_bipush (v := 101) X dL_refuses_466 (by decide) ?_
                                                              refine q_sub [0, 1, 2, 3, 4, 5, 6, 7] rfl ?_
                                                              refine q_w (c2 := 38) (n2 := (6 * 38)) (by omega) (by omega) ?_
                                                              exact J468 101 h
                                                            · have h := h.2 c_312
                                                              refine q_iconst (v := 0) X dL_refuses_462 (by decide) ?_
                                                              refine q_goto (tgt := 468) X dL_refuses_463 (by decide) ?_
                                                              refine q_sub [0, 1, 2, 3, 4, 5, 6, 7] rfl ?_
                                                              refine q_w (c2 := 38) (n2 := (6 * 38)) (by omega) (by omega) ?_
                                                              exact J468 0 h
                                                        refine q_if_ne (tgt := 442) X dL_refuses_435 (by decide) (fun c_313 => ?_) (fun c_313 => ?_)
                                                        · have h := h.1 c_313
                                                          refine q_bipush (v := 81) X dL_refuses_442 (by decide) ?_
                                                          refine q_sub [0, 1, 2, 3, 4, 5, 6, 7] rfl ?_
                                                          refine q_w (c2 := 36) (n2 := (6 * 36)) (by omega) (by omega) ?_
                                                          exact J444 81 h
                                                        · have h := h.2 c_313
                                                          refine q_iconst (v := (-1)) X dL_refuses_438 (by decide) ?_
                                                          refine q_goto (tgt := 444) X dL_refuses_439 (by decide) ?_
                                                          refine q_sub [0, 1, 2, 3, 4, 5, 6, 7] rfl ?_
                                                          refine q_w (c2 := 36) (n2 := (6 * 36)) (by omega) (by omega) ?_
                                                          exact J444 (-1) h
                                                    refine q_if_ne (tgt := 417) X dL_refuses_410 (by decide) (fun c_314 => ?_) (fun c_314 => ?_)
                                                    · have h := h.1 c_314
                                                      refine q_bipush (v := 61) X dL_refuses_417 (by decide) ?_
                                                      refine q_sub [0, 1, 2, 3, 4, 5, 6, 7] rfl ?_
                                                      refine q_w (c2 := 34) (n2 := (6 * 34)) (by omega) (by omega) ?_
                                                      exact J419 61 h
                                                    · have h := h.2 c_314
                                                      refine q_iconst (v := (-1)) X dL_refuses_413 (by decide) ?_
                                                      refine q_goto (tgt := 419) X dL_refuses_414 (by decide) ?_
                                                      refine q_sub [0, 1, 2, 3, 4, 5, 6, 7] rfl ?_
                                                      refine q_w (c2 := 34) (n2 := (6 * 34)) (by omega) (by omega) ?_
                                                      exact J419 (-1) h
                                              refine q_if_ne (tgt := 376) X dL_refuses_369 (by decide) (fun c_315 => ?_) (fun c_315 => ?_)
                                              · have h := h.1 c_315
                                                refine q_ldcw (v := 50001) X kw_6_129 dL_refuses_376 ?_
                                                refine q_sub [0, 1, 2, 3, 4, 5, 6, 7] rfl ?_
                                                refine q_w (c2 := 30) (n2 := (6 * 30)) (by omega) (by omega) ?_
                                                exact J379 50001 h
                                              · have h := h.2 c_315
                                                refine q_iconst (v := (-1)) X dL_refuses_372 (by decide) ?_
                                                refine q_goto (tgt := 379) X dL_refuses_373 (by decide) ?_
                                                refine q_sub [0, 1, 2, 3, 4, 5, 6, 7] rfl ?_
                                                refine q_w (c2 := 30) (n2 := (6 * 30)) (by omega) (by omega) ?_
                                                exact J379 (-1) h
                                          refine q_if_ne (tgt := 350) X dL_refuses_343 (by decide) (fun c_316 => ?_) (fun c_316 => ?_)
                                          · have h := h.1 c_316
                                            refine q_sipush (v := 10000) X dL_refuses_350 (by decide) ?_
                                            refine q_sub [0, 1, 2, 3, 4, 5, 6, 7] rfl ?_
                                            refine q_w (c2 := 28) (n2 := (6 * 28)) (by omega) (by omega) ?_
                                            exact J353 10000 h
                                          · have h := h.2 c_316
                                            refine q_iconst (v := 0) X dL_refuses_346 (by decide) ?_
                                            refine q_goto (tgt := 353) X dL_refuses_347 (by decide) ?_
                                            refine q_sub [0, 1, 2, 3, 4, 5, 6, 7] rfl ?_
                                            refine q_w (c2 := 28) (n2 := (6 * 28)) (by omega) (by omega) ?_
                                            exact J353 0 h
                refine q_if_ne (tgt := 169) X dL_refuses_162 (by decide) (fun c_317 => ?_) (fun c_317 => ?_)
                · have h := h.1 c_317
                  refine q_sipush (v := 10000) X dL_refuses_169 (by decide) ?_
                  refine q_sub [2, 3, 4, 5, 6, 7, 1, 0] rfl ?_
                  refine q_w (c2 := 4) (n2 := (6 * 4)) (by omega) (by omega) ?_
                  exact J172 10000 h
                · have h := h.2 c_317
                  refine q_iconst (v := 0) X dL_refuses_165 (by decide) ?_
                  refine q_goto (tgt := 172) X dL_refuses_166 (by decide) ?_
                  refine q_sub [2, 3, 4, 5, 6, 7, 1, 0] rfl ?_
                  refine q_w (c2 := 4) (n2 := (6 * 4)) (by omega) (by omega) ?_
                  exact J172 0 h
          refine q_if_ne (tgt := 111) X dL_refuses_99 (by decide) (fun c_318 => ?_) (fun c_318 => ?_)
          · have h := h.1 c_318
            refine q_aload_n (j := 1) X dL_refuses_111 rfl rfl ?_
            obtain ⟨k_320, h⟩ := h
            refine qG_ask X hW hZ ha (fun _ h => h) YT_ok o (val := (v_receipts (g.1 o))) (Qp := (fun mo r m1 => r = (v_receipts (g.1 o)) ∧ mo = m1)) [] [] rfl rfl (Nat.le_of_ble_eq_true rfl) dL_refuses_112 ⟨(Nat.le_of_ble_eq_true rfl), (Nat.le_of_ble_eq_true rfl)⟩ k_320 (fun mo hmo => c_X9_receipts (ha.1 o)  mo _ (n_receipts hmo.rs hmo.inv  _ rfl)) (fun mo r m1 hr h => ⟨h.1, by rw [← h.2]; exact hr⟩) rfl rfl (gV kw_2_136 kw_2_137 kw_2_138 kw_1_1 kw_2_139) hy_X9_receipts ⟨(Nat.le_of_ble_eq_true rfl), (Nat.le_of_ble_eq_true rfl)⟩ ?_
            refine q_topi (fun r_319 er_319 => ?_)
            have h := h r_319 er_319
            refine q_iload_n (j := 2) X dL_refuses_115 rfl rfl ?_
            refine q_bipush (v := 9) X dL_refuses_116 (by decide) ?_
            refine q_irem X dL_refuses_118 (by decide) ?_
            refine q_iadd X dL_refuses_119 ?_
            refine q_sub [1, 2, 3, 4, 5, 0] rfl ?_
            refine q_w (c2 := 0) (n2 := (6 * 0)) (by omega) (by omega) ?_
            exact J120 (r_319 + (p1 - p1 / 9 * 9)) h
          · have h := h.2 c_318
            refine q_iconst (v := (-1)) X dL_refuses_102 (by decide) ?_
            refine q_iload_n (j := 2) X dL_refuses_103 rfl rfl ?_
            refine q_bipush (v := 9) X dL_refuses_104 (by decide) ?_
            refine q_irem X dL_refuses_106 (by decide) ?_
            refine q_isub X dL_refuses_107 ?_
            refine q_goto (tgt := 120) X dL_refuses_108 (by decide) ?_
            refine q_sub [1, 2, 3, 4, 5, 0] rfl ?_
            refine q_w (c2 := 0) (n2 := (6 * 0)) (by omega) (by omega) ?_
            exact J120 ((-1) - (p1 - p1 / 9 * 9)) h
        refine q_if_ne (tgt := 86) X dL_refuses_74 (by decide) (fun c_321 => ?_) (fun c_321 => ?_)
        · have h := h.1 c_321
          refine q_sipush (v := 1000) X dL_refuses_86 (by decide) ?_
          refine q_iload_n (j := 2) X dL_refuses_89 rfl rfl ?_
          refine q_bipush (v := 99) X dL_refuses_90 (by decide) ?_
          refine q_irem X dL_refuses_92 (by decide) ?_
          refine q_iadd X dL_refuses_93 ?_
          refine q_sub [1, 2, 3, 4, 0] rfl ?_
          refine q_w (c2 := 0) (n2 := (6 * 0)) (by omega) (by omega) ?_
          exact J94 (1000 + (p1 - p1 / 99 * 99)) h
        · have h := h.2 c_321
          refine q_iconst (v := 0) X dL_refuses_77 (by decide) ?_
          refine q_iload_n (j := 2) X dL_refuses_78 rfl rfl ?_
          refine q_bipush (v := 99) X dL_refuses_79 (by decide) ?_
          refine q_irem X dL_refuses_81 (by decide) ?_
          refine q_isub X dL_refuses_82 ?_
          refine q_goto (tgt := 94) X dL_refuses_83 (by decide) ?_
          refine q_sub [1, 2, 3, 4, 0] rfl ?_
          refine q_w (c2 := 0) (n2 := (6 * 0)) (by omega) (by omega) ?_
          exact J94 (0 - (p1 - p1 / 99 * 99)) h
      refine q_if_ne (tgt := 63) X dL_refuses_51 (by decide) (fun c_322 => ?_) (fun c_322 => ?_)
      · have h := h.1 c_322
        refine q_iconst (v := 5) X dL_refuses_63 (by decide) ?_
        refine q_iload_n (j := 2) X dL_refuses_64 rfl rfl ?_
        refine q_bipush (v := 99) X dL_refuses_65 (by decide) ?_
        refine q_irem X dL_refuses_67 (by decide) ?_
        refine q_iadd X dL_refuses_68 ?_
        refine q_sub [1, 2, 3, 0] rfl ?_
        refine q_w (c2 := 0) (n2 := (6 * 0)) (by omega) (by omega) ?_
        exact J69 (5 + (p1 - p1 / 99 * 99)) h
      · have h := h.2 c_322
        refine q_iconst (v := (-1)) X dL_refuses_54 (by decide) ?_
        refine q_iload_n (j := 2) X dL_refuses_55 rfl rfl ?_
        refine q_bipush (v := 99) X dL_refuses_56 (by decide) ?_
        refine q_irem X dL_refuses_58 (by decide) ?_
        refine q_isub X dL_refuses_59 ?_
        refine q_goto (tgt := 69) X dL_refuses_60 (by decide) ?_
        refine q_sub [1, 2, 3, 0] rfl ?_
        refine q_w (c2 := 0) (n2 := (6 * 0)) (by omega) (by omega) ?_
        exact J69 ((-1) - (p1 - p1 / 99 * 99)) h
    refine q_if_ne (tgt := 40) X dL_refuses_28 (by decide) (fun c_323 => ?_) (fun c_323 => ?_)
    · have h := h.1 c_323
      refine q_bipush (v := 6) X dL_refuses_40 (by decide) ?_
      refine q_iload_n (j := 2) X dL_refuses_42 rfl rfl ?_
      refine q_bipush (v := 99) X dL_refuses_43 (by decide) ?_
      refine q_irem X dL_refuses_45 (by decide) ?_
      refine q_iadd X dL_refuses_46 ?_
      refine q_sub [1, 2, 0] rfl ?_
      refine q_w (c2 := 0) (n2 := (6 * 0)) (by omega) (by omega) ?_
      exact J47 (6 + (p1 - p1 / 99 * 99)) h
    · have h := h.2 c_323
      refine q_iconst (v := (-1)) X dL_refuses_31 (by decide) ?_
      refine q_iload_n (j := 2) X dL_refuses_32 rfl rfl ?_
      refine q_bipush (v := 99) X dL_refuses_33 (by decide) ?_
      refine q_irem X dL_refuses_35 (by decide) ?_
      refine q_isub X dL_refuses_36 ?_
      refine q_goto (tgt := 47) X dL_refuses_37 (by decide) ?_
      refine q_sub [1, 2, 0] rfl ?_
      refine q_w (c2 := 0) (n2 := (6 * 0)) (by omega) (by omega) ?_
      exact J47 ((-1) - (p1 - p1 / 99 * 99)) h
  refine q_if_ne (tgt := 15) X dL_refuses_3 (by decide) (fun c_324 => ?_) (fun c_324 => ?_)
  · have h := h.1 c_324
    refine q_aload_n (j := 0) X dL_refuses_15 rfl rfl ?_
    obtain ⟨k_326, h⟩ := h
    refine qG_ask X hW hZ ha (fun _ h => h) YT_ok o (val := (v_entriesMade (g.1 o))) (Qp := (fun mo r m1 => r = (v_entriesMade (g.1 o)) ∧ mo = m1)) [] [] rfl rfl (Nat.le_of_ble_eq_true rfl) dL_refuses_16 ⟨(Nat.le_of_ble_eq_true rfl), (Nat.le_of_ble_eq_true rfl)⟩ k_326 (fun mo hmo => c_X9_entriesMade (ha.1 o)  mo _ (n_entriesMade hmo.rs hmo.inv  _ rfl)) (fun mo r m1 hr h => ⟨h.1, by rw [← h.2]; exact hr⟩) rfl rfl (gV kw_2_132 kw_2_133 kw_2_134 kw_1_1 kw_2_135) hy_X9_entriesMade ⟨(Nat.le_of_ble_eq_true rfl), (Nat.le_of_ble_eq_true rfl)⟩ ?_
    refine q_topi (fun r_325 er_325 => ?_)
    have h := h r_325 er_325
    refine q_iload_n (j := 1) X dL_refuses_19 rfl rfl ?_
    refine q_bipush (v := 9) X dL_refuses_20 (by decide) ?_
    refine q_irem X dL_refuses_22 (by decide) ?_
    refine q_iadd X dL_refuses_23 ?_
    refine q_sub [0, 1] rfl ?_
    refine q_w (c2 := 0) (n2 := (6 * 0)) (by omega) (by omega) ?_
    exact J24 (r_325 + (p1 - p1 / 9 * 9)) h
  · have h := h.2 c_324
    refine q_iconst (v := (-1)) X dL_refuses_6 (by decide) ?_
    refine q_iload_n (j := 1) X dL_refuses_7 rfl rfl ?_
    refine q_bipush (v := 99) X dL_refuses_8 (by decide) ?_
    refine q_irem X dL_refuses_10 (by decide) ?_
    refine q_isub X dL_refuses_11 ?_
    refine q_goto (tgt := 24) X dL_refuses_12 (by decide) ?_
    refine q_sub [0, 1] rfl ?_
    refine q_w (c2 := 0) (n2 := (6 * 0)) (by omega) (by omega) ?_
    exact J24 ((-1) - (p1 - p1 / 99 * 99)) h
