theorem kw_6_174 : Jvm.Cond.methodLink "BondWarehouseLaw" (414 : Nat) ({ cls := "BondWarehouse", name := "balance", desc := "()I" } : Jvm.MethodName) ∈ TG := tg_6 174 rfl rfl
theorem kw_6_175 : Jvm.Cond.instanceMethod ({ cls := "BondWarehouse", name := "balance", desc := "()I" } : Jvm.MethodName) ∈ TG := tg_6 175 rfl rfl
theorem kw_6_176 : Jvm.Cond.selects "BondWarehouse" ({ cls := "BondWarehouse", name := "balance", desc := "()I" } : Jvm.MethodName) ({ cls := "BondWarehouse", name := "balance", desc := "()I" } : Jvm.MethodName) ∈ TG := tg_6 176 rfl rfl
theorem kw_6_177 : Jvm.Cond.code ({ cls := "BondWarehouse", name := "balance", desc := "()I" } : Jvm.MethodName) prog_1_method_50_code (1 : Nat) (Option.some Jvm.ClassFile.FieldType.int) ∈ TG := tg_6 177 rfl rfl
theorem kw_6_178 : Jvm.Cond.methodLink "BondWarehouseLaw" (417 : Nat) ({ cls := "BondWarehouse", name := "balanceByTotals", desc := "()I" } : Jvm.MethodName) ∈ TG := tg_6 178 rfl rfl
theorem kw_6_179 : Jvm.Cond.instanceMethod ({ cls := "BondWarehouse", name := "balanceByTotals", desc := "()I" } : Jvm.MethodName) ∈ TG := tg_6 179 rfl rfl
theorem kw_6_180 : Jvm.Cond.selects "BondWarehouse" ({ cls := "BondWarehouse", name := "balanceByTotals", desc := "()I" } : Jvm.MethodName) ({ cls := "BondWarehouse", name := "balanceByTotals", desc := "()I" } : Jvm.MethodName) ∈ TG := tg_6 180 rfl rfl
theorem kw_6_181 : Jvm.Cond.code ({ cls := "BondWarehouse", name := "balanceByTotals", desc := "()I" } : Jvm.MethodName) prog_1_method_51_code (2 : Nat) (Option.some Jvm.ClassFile.FieldType.int) ∈ TG := tg_6 181 rfl rfl
theorem kw_6_182 : Jvm.Cond.methodLink "BondWarehouseLaw" (420 : Nat) ({ cls := "BondWarehouse", name := "account", desc := "()I" } : Jvm.MethodName) ∈ TG := tg_6 182 rfl rfl
theorem kw_6_183 : Jvm.Cond.instanceMethod ({ cls := "BondWarehouse", name := "account", desc := "()I" } : Jvm.MethodName) ∈ TG := tg_6 183 rfl rfl
theorem kw_6_184 : Jvm.Cond.selects "BondWarehouse" ({ cls := "BondWarehouse", name := "account", desc := "()I" } : Jvm.MethodName) ({ cls := "BondWarehouse", name := "account", desc := "()I" } : Jvm.MethodName) ∈ TG := tg_6 184 rfl rfl
theorem kw_6_185 : Jvm.Cond.code ({ cls := "BondWarehouse", name := "account", desc := "()I" } : Jvm.MethodName) prog_1_method_48_code (1 : Nat) (Option.some Jvm.ClassFile.FieldType.int) ∈ TG := tg_6 185 rfl rfl
theorem kw_6_186 : Jvm.Cond.methodLink "BondWarehouseLaw" (423 : Nat) ({ cls := "BondWarehouse", name := "debt", desc := "()I" } : Jvm.MethodName) ∈ TG := tg_6 186 rfl rfl
theorem kw_6_187 : Jvm.Cond.instanceMethod ({ cls := "BondWarehouse", name := "debt", desc := "()I" } : Jvm.MethodName) ∈ TG := tg_6 187 rfl rfl
theorem kw_6_188 : Jvm.Cond.selects "BondWarehouse" ({ cls := "BondWarehouse", name := "debt", desc := "()I" } : Jvm.MethodName) ({ cls := "BondWarehouse", name := "debt", desc := "()I" } : Jvm.MethodName) ∈ TG := tg_6 188 rfl rfl
theorem kw_6_189 : Jvm.Cond.code ({ cls := "BondWarehouse", name := "debt", desc := "()I" } : Jvm.MethodName) prog_1_method_49_code (1 : Nat) (Option.some Jvm.ClassFile.FieldType.int) ∈ TG := tg_6 189 rfl rfl
theorem kw_6_190 : Jvm.Cond.methodLink "BondWarehouseLaw" (426 : Nat) ({ cls := "BondWarehouse", name := "isOpenEntry", desc := "(I)Z" } : Jvm.MethodName) ∈ TG := tg_6 190 rfl rfl
theorem kw_6_191 : Jvm.Cond.instanceMethod ({ cls := "BondWarehouse", name := "isOpenEntry", desc := "(I)Z" } : Jvm.MethodName) ∈ TG := tg_6 191 rfl rfl
theorem kw_6_192 : Jvm.Cond.selects "BondWarehouse" ({ cls := "BondWarehouse", name := "isOpenEntry", desc := "(I)Z" } : Jvm.MethodName) ({ cls := "BondWarehouse", name := "isOpenEntry", desc := "(I)Z" } : Jvm.MethodName) ∈ TG := tg_6 192 rfl rfl
theorem kw_6_193 : Jvm.Cond.code ({ cls := "BondWarehouse", name := "isOpenEntry", desc := "(I)Z" } : Jvm.MethodName) prog_1_method_21_code (2 : Nat) (Option.some Jvm.ClassFile.FieldType.boolean) ∈ TG := tg_6 193 rfl rfl
theorem kw_6_194 : Jvm.Cond.methodLink "BondWarehouseLaw" (429 : Nat) ({ cls := "BondWarehouseLaw", name := "isLate", desc := "(LBondWarehouse;I)I" } : Jvm.MethodName) ∈ TG := tg_6 194 rfl rfl
theorem kw_6_195 : Jvm.Cond.static ({ cls := "BondWarehouseLaw", name := "isLate", desc := "(LBondWarehouse;I)I" } : Jvm.MethodName) ∈ TG := tg_6 195 rfl rfl
theorem kw_6_196 : Jvm.Cond.codeWith ({ cls := "BondWarehouseLaw", name := "isLate", desc := "(LBondWarehouse;I)I" } : Jvm.MethodName) method_5_code (3 : Nat) (Option.some Jvm.ClassFile.FieldType.int) [((0 : Nat), (13 : Nat), (14 : Nat), (26 : Nat))] ∈ TG := tg_6 196 rfl rfl
theorem kw_6_202 : Jvm.Cond.methodLink "BondWarehouseLaw" (432 : Nat) ({ cls := "BondWarehouse", name := "dearestEntry", desc := "()I" } : Jvm.MethodName) ∈ TG := tg_6 202 rfl rfl
theorem kw_6_203 : Jvm.Cond.instanceMethod ({ cls := "BondWarehouse", name := "dearestEntry", desc := "()I" } : Jvm.MethodName) ∈ TG := tg_6 203 rfl rfl
theorem kw_6_204 : Jvm.Cond.selects "BondWarehouse" ({ cls := "BondWarehouse", name := "dearestEntry", desc := "()I" } : Jvm.MethodName) ({ cls := "BondWarehouse", name := "dearestEntry", desc := "()I" } : Jvm.MethodName) ∈ TG := tg_6 204 rfl rfl
theorem kw_6_205 : Jvm.Cond.code ({ cls := "BondWarehouse", name := "dearestEntry", desc := "()I" } : Jvm.MethodName) prog_1_method_76_code (1 : Nat) (Option.some Jvm.ClassFile.FieldType.int) ∈ TG := tg_6 205 rfl rfl
theorem kw_6_210 : Jvm.Cond.methodLink "BondWarehouseLaw" (435 : Nat) ({ cls := "BondWarehouse", name := "nextOverdue", desc := "()I" } : Jvm.MethodName) ∈ TG := tg_6 210 rfl rfl
theorem kw_6_211 : Jvm.Cond.instanceMethod ({ cls := "BondWarehouse", name := "nextOverdue", desc := "()I" } : Jvm.MethodName) ∈ TG := tg_6 211 rfl rfl
theorem kw_6_212 : Jvm.Cond.selects "BondWarehouse" ({ cls := "BondWarehouse", name := "nextOverdue", desc := "()I" } : Jvm.MethodName) ({ cls := "BondWarehouse", name := "nextOverdue", desc := "()I" } : Jvm.MethodName) ∈ TG := tg_6 212 rfl rfl
theorem kw_6_213 : Jvm.Cond.code ({ cls := "BondWarehouse", name := "nextOverdue", desc := "()I" } : Jvm.MethodName) prog_1_method_73_code (1 : Nat) (Option.some Jvm.ClassFile.FieldType.int) ∈ TG := tg_6 213 rfl rfl
theorem kw_6_224 : Jvm.Cond.methodLink "BondWarehouseLaw" (438 : Nat) ({ cls := "BondWarehouse", name := "day", desc := "()I" } : Jvm.MethodName) ∈ TG := tg_6 224 rfl rfl
theorem kw_6_225 : Jvm.Cond.instanceMethod ({ cls := "BondWarehouse", name := "day", desc := "()I" } : Jvm.MethodName) ∈ TG := tg_6 225 rfl rfl
theorem kw_6_226 : Jvm.Cond.selects "BondWarehouse" ({ cls := "BondWarehouse", name := "day", desc := "()I" } : Jvm.MethodName) ({ cls := "BondWarehouse", name := "day", desc := "()I" } : Jvm.MethodName) ∈ TG := tg_6 226 rfl rfl
theorem kw_6_227 : Jvm.Cond.code ({ cls := "BondWarehouse", name := "day", desc := "()I" } : Jvm.MethodName) prog_1_method_18_code (1 : Nat) (Option.some Jvm.ClassFile.FieldType.int) ∈ TG := tg_6 227 rfl rfl
theorem kw_6_228 : Jvm.Cond.methodLink "BondWarehouseLaw" (441 : Nat) ({ cls := "BondWarehouse", name := "bond", desc := "()I" } : Jvm.MethodName) ∈ TG := tg_6 228 rfl rfl
theorem kw_6_229 : Jvm.Cond.instanceMethod ({ cls := "BondWarehouse", name := "bond", desc := "()I" } : Jvm.MethodName) ∈ TG := tg_6 229 rfl rfl
theorem kw_6_230 : Jvm.Cond.selects "BondWarehouse" ({ cls := "BondWarehouse", name := "bond", desc := "()I" } : Jvm.MethodName) ({ cls := "BondWarehouse", name := "bond", desc := "()I" } : Jvm.MethodName) ∈ TG := tg_6 230 rfl rfl
theorem kw_6_231 : Jvm.Cond.code ({ cls := "BondWarehouse", name := "bond", desc := "()I" } : Jvm.MethodName) prog_1_method_46_code (1 : Nat) (Option.some Jvm.ClassFile.FieldType.int) ∈ TG := tg_6 231 rfl rfl
theorem kw_6_232 : Jvm.Cond.methodLink "BondWarehouseLaw" (444 : Nat) ({ cls := "BondWarehouse", name := "savedStates", desc := "()I" } : Jvm.MethodName) ∈ TG := tg_6 232 rfl rfl
theorem kw_6_233 : Jvm.Cond.instanceMethod ({ cls := "BondWarehouse", name := "savedStates", desc := "()I" } : Jvm.MethodName) ∈ TG := tg_6 233 rfl rfl
theorem kw_6_234 : Jvm.Cond.selects "BondWarehouse" ({ cls := "BondWarehouse", name := "savedStates", desc := "()I" } : Jvm.MethodName) ({ cls := "BondWarehouse", name := "savedStates", desc := "()I" } : Jvm.MethodName) ∈ TG := tg_6 234 rfl rfl
theorem kw_6_235 : Jvm.Cond.code ({ cls := "BondWarehouse", name := "savedStates", desc := "()I" } : Jvm.MethodName) prog_1_method_82_code (1 : Nat) (Option.some Jvm.ClassFile.FieldType.int) ∈ TG := tg_6 235 rfl rfl
theorem kw_6_236 : Jvm.Cond.methodLink "BondWarehouseLaw" (447 : Nat) ({ cls := "BondWarehouse", name := "charges", desc := "()I" } : Jvm.MethodName) ∈ TG := tg_6 236 rfl rfl
theorem kw_6_237 : Jvm.Cond.instanceMethod ({ cls := "BondWarehouse", name := "charges", desc := "()I" } : Jvm.MethodName) ∈ TG := tg_6 237 rfl rfl
theorem kw_6_238 : Jvm.Cond.selects "BondWarehouse" ({ cls := "BondWarehouse", name := "charges", desc := "()I" } : Jvm.MethodName) ({ cls := "BondWarehouse", name := "charges", desc := "()I" } : Jvm.MethodName) ∈ TG := tg_6 238 rfl rfl
theorem kw_6_239 : Jvm.Cond.code ({ cls := "BondWarehouse", name := "charges", desc := "()I" } : Jvm.MethodName) prog_1_method_54_code (1 : Nat) (Option.some Jvm.ClassFile.FieldType.int) ∈ TG := tg_6 239 rfl rfl
theorem kw_7_0 : Jvm.Cond.methodLink "BondWarehouseLaw" (450 : Nat) ({ cls := "BondWarehouse", name := "drawbacks", desc := "()I" } : Jvm.MethodName) ∈ TG := tg_7 0 rfl rfl
theorem kw_7_1 : Jvm.Cond.instanceMethod ({ cls := "BondWarehouse", name := "drawbacks", desc := "()I" } : Jvm.MethodName) ∈ TG := tg_7 1 rfl rfl
theorem kw_7_2 : Jvm.Cond.selects "BondWarehouse" ({ cls := "BondWarehouse", name := "drawbacks", desc := "()I" } : Jvm.MethodName) ({ cls := "BondWarehouse", name := "drawbacks", desc := "()I" } : Jvm.MethodName) ∈ TG := tg_7 2 rfl rfl
theorem kw_7_3 : Jvm.Cond.code ({ cls := "BondWarehouse", name := "drawbacks", desc := "()I" } : Jvm.MethodName) prog_1_method_55_code (1 : Nat) (Option.some Jvm.ClassFile.FieldType.int) ∈ TG := tg_7 3 rfl rfl
theorem dL_holds_0 : decode cL_holds 0 = .ok (.iconst 0, 1) := by decide +kernel
theorem dL_holds_1 : decode cL_holds 1 = .ok (.istore_n 2, 1) := by decide +kernel
theorem dL_holds_2 : decode cL_holds 2 = .ok (.aload_n 0, 1) := by decide +kernel
theorem dL_holds_3 : decode cL_holds 3 = .ok (.invokevirtual 397, 3) := by decide +kernel
theorem dL_holds_6 : decode cL_holds 6 = .ok (.istore_n 3, 1) := by decide +kernel
theorem dL_holds_7 : decode cL_holds 7 = .ok (.iconst (-1), 1) := by decide +kernel
theorem dL_holds_8 : decode cL_holds 8 = .ok (.istore 4, 2) := by decide +kernel
theorem dL_holds_10 : decode cL_holds 10 = .ok (.iconst 0, 1) := by decide +kernel
theorem dL_holds_11 : decode cL_holds 11 = .ok (.istore 5, 2) := by decide +kernel
theorem dL_holds_13 : decode cL_holds 13 = .ok (.iload_n 3, 1) := by decide +kernel
theorem dL_holds_14 : decode cL_holds 14 = .ok (.bipush 16, 2) := by decide +kernel
theorem dL_holds_16 : decode cL_holds 16 = .ok (.if_icmp .gt 80, 3) := by decide +kernel
theorem dL_holds_19 : decode cL_holds 19 = .ok (.aload_n 0, 1) := by decide +kernel
theorem dL_holds_20 : decode cL_holds 20 = .ok (.invokevirtual 384, 3) := by decide +kernel
theorem dL_holds_23 : decode cL_holds 23 = .ok (.bipush 60, 2) := by decide +kernel
theorem dL_holds_25 : decode cL_holds 25 = .ok (.if_icmp .gt 71, 3) := by decide +kernel
theorem dL_holds_28 : decode cL_holds 28 = .ok (.aload_n 0, 1) := by decide +kernel
theorem dL_holds_29 : decode cL_holds 29 = .ok (.invokevirtual 414, 3) := by decide +kernel
theorem dL_holds_32 : decode cL_holds 32 = .ok (.aload_n 0, 1) := by decide +kernel
theorem dL_holds_33 : decode cL_holds 33 = .ok (.invokevirtual 417, 3) := by decide +kernel
theorem dL_holds_36 : decode cL_holds 36 = .ok (.if_icmp .ne 60, 3) := by decide +kernel
theorem dL_holds_39 : decode cL_holds 39 = .ok (.aload_n 0, 1) := by decide +kernel
theorem dL_holds_40 : decode cL_holds 40 = .ok (.invokevirtual 414, 3) := by decide +kernel
theorem dL_holds_43 : decode cL_holds 43 = .ok (.aload_n 0, 1) := by decide +kernel
theorem dL_holds_44 : decode cL_holds 44 = .ok (.invokevirtual 420, 3) := by decide +kernel
theorem dL_holds_47 : decode cL_holds 47 = .ok (.aload_n 0, 1) := by decide +kernel
theorem dL_holds_48 : decode cL_holds 48 = .ok (.invokevirtual 423, 3) := by decide +kernel
theorem dL_holds_51 : decode cL_holds 51 = .ok (.isub, 1) := by decide +kernel
theorem dL_holds_52 : decode cL_holds 52 = .ok (.if_icmp .ne 44, 3) := by decide +kernel
theorem dL_holds_55 : decode cL_holds 55 = .ok (.aload_n 0, 1) := by decide +kernel
theorem dL_holds_56 : decode cL_holds 56 = .ok (.invokevirtual 420, 3) := by decide +kernel
theorem dL_holds_59 : decode cL_holds 59 = .ok (.ifCond .eq 10, 3) := by decide +kernel
theorem dL_holds_62 : decode cL_holds 62 = .ok (.aload_n 0, 1) := by decide +kernel
theorem dL_holds_63 : decode cL_holds 63 = .ok (.invokevirtual 423, 3) := by decide +kernel
theorem dL_holds_66 : decode cL_holds 66 = .ok (.ifCond .ne 30, 3) := by decide +kernel
theorem dL_holds_69 : decode cL_holds 69 = .ok (.aload_n 0, 1) := by decide +kernel
theorem dL_holds_70 : decode cL_holds 70 = .ok (.invokevirtual 420, 3) := by decide +kernel
theorem dL_holds_73 : decode cL_holds 73 = .ok (.ifCond .lt 23, 3) := by decide +kernel
theorem dL_holds_76 : decode cL_holds 76 = .ok (.aload_n 0, 1) := by decide +kernel
theorem dL_holds_77 : decode cL_holds 77 = .ok (.invokevirtual 423, 3) := by decide +kernel
theorem dL_holds_80 : decode cL_holds 80 = .ok (.ifCond .lt 16, 3) := by decide +kernel
theorem dL_holds_83 : decode cL_holds 83 = .ok (.aload_n 0, 1) := by decide +kernel
theorem dL_holds_84 : decode cL_holds 84 = .ok (.invokevirtual 387, 3) := by decide +kernel
theorem dL_holds_87 : decode cL_holds 87 = .ok (.bipush 12, 2) := by decide +kernel
theorem dL_holds_89 : decode cL_holds 89 = .ok (.if_icmp .gt 7, 3) := by decide +kernel
theorem dL_holds_92 : decode cL_holds 92 = .ok (.iconst 1, 1) := by decide +kernel
theorem dL_holds_93 : decode cL_holds 93 = .ok (.goto 4, 3) := by decide +kernel
theorem dL_holds_96 : decode cL_holds 96 = .ok (.iconst 0, 1) := by decide +kernel
theorem dL_holds_97 : decode cL_holds 97 = .ok (.istore 6, 2) := by decide +kernel
theorem dL_holds_99 : decode cL_holds 99 = .ok (.iconst 0, 1) := by decide +kernel
theorem dL_holds_100 : decode cL_holds 100 = .ok (.istore 7, 2) := by decide +kernel
theorem dL_holds_102 : decode cL_holds 102 = .ok (.iload 7, 2) := by decide +kernel
theorem dL_holds_104 : decode cL_holds 104 = .ok (.iload_n 3, 1) := by decide +kernel
theorem dL_holds_105 : decode cL_holds 105 = .ok (.if_icmp .ge 289, 3) := by decide +kernel
theorem dL_holds_108 : decode cL_holds 108 = .ok (.iload 6, 2) := by decide +kernel
theorem dL_holds_110 : decode cL_holds 110 = .ok (.ifCond .eq 284, 3) := by decide +kernel
theorem dL_holds_113 : decode cL_holds 113 = .ok (.aload_n 0, 1) := by decide +kernel
theorem dL_holds_114 : decode cL_holds 114 = .ok (.bipush 15, 2) := by decide +kernel
theorem dL_holds_116 : decode cL_holds 116 = .ok (.iload 7, 2) := by decide +kernel
theorem dL_holds_118 : decode cL_holds 118 = .ok (.iconst 0, 1) := by decide +kernel
theorem dL_holds_119 : decode cL_holds 119 = .ok (.iconst 0, 1) := by decide +kernel
theorem dL_holds_120 : decode cL_holds 120 = .ok (.invokestatic 393, 3) := by decide +kernel
theorem dL_holds_123 : decode cL_holds 123 = .ok (.istore 8, 2) := by decide +kernel
theorem dL_holds_125 : decode cL_holds 125 = .ok (.aload_n 0, 1) := by decide +kernel
theorem dL_holds_126 : decode cL_holds 126 = .ok (.bipush 17, 2) := by decide +kernel
theorem dL_holds_128 : decode cL_holds 128 = .ok (.iload 8, 2) := by decide +kernel
theorem dL_holds_130 : decode cL_holds 130 = .ok (.iconst 0, 1) := by decide +kernel
theorem dL_holds_131 : decode cL_holds 131 = .ok (.iconst 0, 1) := by decide +kernel
theorem dL_holds_132 : decode cL_holds 132 = .ok (.invokestatic 393, 3) := by decide +kernel
theorem dL_holds_135 : decode cL_holds 135 = .ok (.istore 9, 2) := by decide +kernel
theorem dL_holds_137 : decode cL_holds 137 = .ok (.aload_n 0, 1) := by decide +kernel
theorem dL_holds_138 : decode cL_holds 138 = .ok (.bipush 22, 2) := by decide +kernel
theorem dL_holds_140 : decode cL_holds 140 = .ok (.iload 8, 2) := by decide +kernel
theorem dL_holds_142 : decode cL_holds 142 = .ok (.iconst 0, 1) := by decide +kernel
theorem dL_holds_143 : decode cL_holds 143 = .ok (.iconst 0, 1) := by decide +kernel
theorem dL_holds_144 : decode cL_holds 144 = .ok (.invokestatic 393, 3) := by decide +kernel
theorem dL_holds_147 : decode cL_holds 147 = .ok (.istore 10, 2) := by decide +kernel
theorem dL_holds_149 : decode cL_holds 149 = .ok (.iconst 1, 1) := by decide +kernel
theorem dL_holds_150 : decode cL_holds 150 = .ok (.iload_n 1, 1) := by decide +kernel
theorem dL_holds_151 : decode cL_holds 151 = .ok (.iload 9, 2) := by decide +kernel
theorem dL_holds_153 : decode cL_holds 153 = .ok (.irem, 1) := by decide +kernel
theorem dL_holds_154 : decode cL_holds 154 = .ok (.iadd, 1) := by decide +kernel
theorem dL_holds_155 : decode cL_holds 155 = .ok (.istore 11, 2) := by decide +kernel
theorem dL_holds_157 : decode cL_holds 157 = .ok (.iload_n 2, 1) := by decide +kernel
theorem dL_holds_158 : decode cL_holds 158 = .ok (.iload 10, 2) := by decide +kernel
theorem dL_holds_160 : decode cL_holds 160 = .ok (.iadd, 1) := by decide +kernel
theorem dL_holds_161 : decode cL_holds 161 = .ok (.istore_n 2, 1) := by decide +kernel
theorem dL_holds_162 : decode cL_holds 162 = .ok (.iload 10, 2) := by decide +kernel
theorem dL_holds_164 : decode cL_holds 164 = .ok (.iload 5, 2) := by decide +kernel
theorem dL_holds_166 : decode cL_holds 166 = .ok (.if_icmp .le 8, 3) := by decide +kernel
theorem dL_holds_169 : decode cL_holds 169 = .ok (.iload 10, 2) := by decide +kernel
theorem dL_holds_171 : decode cL_holds 171 = .ok (.goto 5, 3) := by decide +kernel
theorem dL_holds_174 : decode cL_holds 174 = .ok (.iload 5, 2) := by decide +kernel
theorem dL_holds_176 : decode cL_holds 176 = .ok (.istore 5, 2) := by decide +kernel
theorem dL_holds_178 : decode cL_holds 178 = .ok (.iload 8, 2) := by decide +kernel
theorem dL_holds_180 : decode cL_holds 180 = .ok (.iload 4, 2) := by decide +kernel
theorem dL_holds_182 : decode cL_holds 182 = .ok (.if_icmp .le 199, 3) := by decide +kernel
theorem dL_holds_185 : decode cL_holds 185 = .ok (.aload_n 0, 1) := by decide +kernel
theorem dL_holds_186 : decode cL_holds 186 = .ok (.iload 8, 2) := by decide +kernel
theorem dL_holds_188 : decode cL_holds 188 = .ok (.invokevirtual 426, 3) := by decide +kernel
theorem dL_holds_191 : decode cL_holds 191 = .ok (.ifCond .eq 190, 3) := by decide +kernel
theorem dL_holds_194 : decode cL_holds 194 = .ok (.iload 9, 2) := by decide +kernel
theorem dL_holds_196 : decode cL_holds 196 = .ok (.ifCond .le 185, 3) := by decide +kernel
theorem dL_holds_199 : decode cL_holds 199 = .ok (.iload 9, 2) := by decide +kernel
theorem dL_holds_201 : decode cL_holds 201 = .ok (.sipush 999, 3) := by decide +kernel
theorem dL_holds_204 : decode cL_holds 204 = .ok (.if_icmp .gt 177, 3) := by decide +kernel
theorem dL_holds_207 : decode cL_holds 207 = .ok (.iload 10, 2) := by decide +kernel
theorem dL_holds_209 : decode cL_holds 209 = .ok (.aload_n 0, 1) := by decide +kernel
theorem dL_holds_210 : decode cL_holds 210 = .ok (.bipush 21, 2) := by decide +kernel
theorem dL_holds_212 : decode cL_holds 212 = .ok (.iload 8, 2) := by decide +kernel
theorem dL_holds_214 : decode cL_holds 214 = .ok (.iload 9, 2) := by decide +kernel
theorem dL_holds_216 : decode cL_holds 216 = .ok (.iconst 0, 1) := by decide +kernel
theorem dL_holds_217 : decode cL_holds 217 = .ok (.invokestatic 393, 3) := by decide +kernel
theorem dL_holds_220 : decode cL_holds 220 = .ok (.if_icmp .ne 161, 3) := by decide +kernel
theorem dL_holds_223 : decode cL_holds 223 = .ok (.aload_n 0, 1) := by decide +kernel
theorem dL_holds_224 : decode cL_holds 224 = .ok (.bipush 21, 2) := by decide +kernel
theorem dL_holds_226 : decode cL_holds 226 = .ok (.iload 8, 2) := by decide +kernel
theorem dL_holds_228 : decode cL_holds 228 = .ok (.iload 11, 2) := by decide +kernel
theorem dL_holds_230 : decode cL_holds 230 = .ok (.iconst 0, 1) := by decide +kernel
theorem dL_holds_231 : decode cL_holds 231 = .ok (.invokestatic 393, 3) := by decide +kernel
theorem dL_holds_234 : decode cL_holds 234 = .ok (.iload 10, 2) := by decide +kernel
theorem dL_holds_236 : decode cL_holds 236 = .ok (.if_icmp .gt 145, 3) := by decide +kernel
theorem dL_holds_239 : decode cL_holds 239 = .ok (.aload_n 0, 1) := by decide +kernel
theorem dL_holds_240 : decode cL_holds 240 = .ok (.bipush 47, 2) := by decide +kernel
theorem dL_holds_242 : decode cL_holds 242 = .ok (.iload 8, 2) := by decide +kernel
theorem dL_holds_244 : decode cL_holds 244 = .ok (.iconst 0, 1) := by decide +kernel
theorem dL_holds_245 : decode cL_holds 245 = .ok (.iconst 0, 1) := by decide +kernel
theorem dL_holds_246 : decode cL_holds 246 = .ok (.invokestatic 393, 3) := by decide +kernel
theorem dL_holds_249 : decode cL_holds 249 = .ok (.iload 10, 2) := by decide +kernel
theorem dL_holds_251 : decode cL_holds 251 = .ok (.if_icmp .ne 130, 3) := by decide +kernel
theorem dL_holds_254 : decode cL_holds 254 = .ok (.aload_n 0, 1) := by decide +kernel
theorem dL_holds_255 : decode cL_holds 255 = .ok (.bipush 47, 2) := by decide +kernel
theorem dL_holds_257 : decode cL_holds 257 = .ok (.iload 8, 2) := by decide +kernel
theorem dL_holds_259 : decode cL_holds 259 = .ok (.sipush 365, 3) := by decide +kernel
theorem dL_holds_262 : decode cL_holds 262 = .ok (.iconst 0, 1) := by decide +kernel
theorem dL_holds_263 : decode cL_holds 263 = .ok (.invokestatic 393, 3) := by decide +kernel
theorem dL_holds_266 : decode cL_holds 266 = .ok (.iload 10, 2) := by decide +kernel
theorem dL_holds_268 : decode cL_holds 268 = .ok (.if_icmp .lt 113, 3) := by decide +kernel
theorem dL_holds_271 : decode cL_holds 271 = .ok (.aload_n 0, 1) := by decide +kernel
theorem dL_holds_272 : decode cL_holds 272 = .ok (.iload 8, 2) := by decide +kernel
theorem dL_holds_274 : decode cL_holds 274 = .ok (.invokestatic 429, 3) := by decide +kernel
theorem dL_holds_277 : decode cL_holds 277 = .ok (.iconst 1, 1) := by decide +kernel
theorem dL_holds_278 : decode cL_holds 278 = .ok (.if_icmp .ne 7, 3) := by decide +kernel
theorem dL_holds_281 : decode cL_holds 281 = .ok (.iconst 1, 1) := by decide +kernel
theorem dL_holds_282 : decode cL_holds 282 = .ok (.goto 4, 3) := by decide +kernel
theorem dL_holds_285 : decode cL_holds 285 = .ok (.iconst 0, 1) := by decide +kernel
theorem dL_holds_286 : decode cL_holds 286 = .ok (.aload_n 0, 1) := by decide +kernel
theorem dL_holds_287 : decode cL_holds 287 = .ok (.bipush 48, 2) := by decide +kernel
theorem dL_holds_289 : decode cL_holds 289 = .ok (.iload 8, 2) := by decide +kernel
theorem dL_holds_291 : decode cL_holds 291 = .ok (.iconst 0, 1) := by decide +kernel
theorem dL_holds_292 : decode cL_holds 292 = .ok (.iconst 0, 1) := by decide +kernel
theorem dL_holds_293 : decode cL_holds 293 = .ok (.invokestatic 393, 3) := by decide +kernel
theorem dL_holds_296 : decode cL_holds 296 = .ok (.ifCond .ne 7, 3) := by decide +kernel
theorem dL_holds_299 : decode cL_holds 299 = .ok (.iconst 1, 1) := by decide +kernel
theorem dL_holds_300 : decode cL_holds 300 = .ok (.goto 4, 3) := by decide +kernel
theorem dL_holds_303 : decode cL_holds 303 = .ok (.iconst 0, 1) := by decide +kernel
theorem dL_holds_304 : decode cL_holds 304 = .ok (.if_icmp .ne 77, 3) := by decide +kernel
theorem dL_holds_307 : decode cL_holds 307 = .ok (.aload_n 0, 1) := by decide +kernel
theorem dL_holds_308 : decode cL_holds 308 = .ok (.bipush 23, 2) := by decide +kernel
theorem dL_holds_310 : decode cL_holds 310 = .ok (.iload 8, 2) := by decide +kernel
theorem dL_holds_312 : decode cL_holds 312 = .ok (.iconst 0, 1) := by decide +kernel
theorem dL_holds_313 : decode cL_holds 313 = .ok (.iconst 0, 1) := by decide +kernel
theorem dL_holds_314 : decode cL_holds 314 = .ok (.invokestatic 393, 3) := by decide +kernel
theorem dL_holds_317 : decode cL_holds 317 = .ok (.iload 9, 2) := by decide +kernel
theorem dL_holds_319 : decode cL_holds 319 = .ok (.if_icmp .gt 62, 3) := by decide +kernel
theorem dL_holds_322 : decode cL_holds 322 = .ok (.aload_n 0, 1) := by decide +kernel
theorem dL_holds_323 : decode cL_holds 323 = .ok (.bipush 45, 2) := by decide +kernel
theorem dL_holds_325 : decode cL_holds 325 = .ok (.iload 8, 2) := by decide +kernel
theorem dL_holds_327 : decode cL_holds 327 = .ok (.iload 9, 2) := by decide +kernel
theorem dL_holds_329 : decode cL_holds 329 = .ok (.iconst 0, 1) := by decide +kernel
theorem dL_holds_330 : decode cL_holds 330 = .ok (.invokestatic 393, 3) := by decide +kernel
theorem dL_holds_333 : decode cL_holds 333 = .ok (.ifCond .ne 48, 3) := by decide +kernel
theorem dL_holds_336 : decode cL_holds 336 = .ok (.aload_n 0, 1) := by decide +kernel
theorem dL_holds_337 : decode cL_holds 337 = .ok (.bipush 45, 2) := by decide +kernel
theorem dL_holds_339 : decode cL_holds 339 = .ok (.iload 8, 2) := by decide +kernel
theorem dL_holds_341 : decode cL_holds 341 = .ok (.iconst 0, 1) := by decide +kernel
theorem dL_holds_342 : decode cL_holds 342 = .ok (.iconst 0, 1) := by decide +kernel
theorem dL_holds_343 : decode cL_holds 343 = .ok (.invokestatic 393, 3) := by decide +kernel
theorem dL_holds_346 : decode cL_holds 346 = .ok (.aload_n 0, 1) := by decide +kernel
theorem dL_holds_347 : decode cL_holds 347 = .ok (.bipush 45, 2) := by decide +kernel
theorem dL_holds_349 : decode cL_holds 349 = .ok (.iload 8, 2) := by decide +kernel
theorem dL_holds_351 : decode cL_holds 351 = .ok (.iload 11, 2) := by decide +kernel
theorem dL_holds_353 : decode cL_holds 353 = .ok (.iconst 0, 1) := by decide +kernel
theorem dL_holds_354 : decode cL_holds 354 = .ok (.invokestatic 393, 3) := by decide +kernel
theorem dL_holds_357 : decode cL_holds 357 = .ok (.if_icmp .lt 24, 3) := by decide +kernel
theorem dL_holds_360 : decode cL_holds 360 = .ok (.iload 10, 2) := by decide +kernel
theorem dL_holds_362 : decode cL_holds 362 = .ok (.aload_n 0, 1) := by decide +kernel
theorem dL_holds_363 : decode cL_holds 363 = .ok (.bipush 22, 2) := by decide +kernel
theorem dL_holds_365 : decode cL_holds 365 = .ok (.aload_n 0, 1) := by decide +kernel
theorem dL_holds_366 : decode cL_holds 366 = .ok (.invokevirtual 432, 3) := by decide +kernel
theorem dL_holds_369 : decode cL_holds 369 = .ok (.iconst 0, 1) := by decide +kernel
theorem dL_holds_370 : decode cL_holds 370 = .ok (.iconst 0, 1) := by decide +kernel
theorem dL_holds_371 : decode cL_holds 371 = .ok (.invokestatic 393, 3) := by decide +kernel
theorem dL_holds_374 : decode cL_holds 374 = .ok (.if_icmp .gt 7, 3) := by decide +kernel
theorem dL_holds_377 : decode cL_holds 377 = .ok (.iconst 1, 1) := by decide +kernel
theorem dL_holds_378 : decode cL_holds 378 = .ok (.goto 4, 3) := by decide +kernel
theorem dL_holds_381 : decode cL_holds 381 = .ok (.iconst 0, 1) := by decide +kernel
theorem dL_holds_382 : decode cL_holds 382 = .ok (.istore 6, 2) := by decide +kernel
theorem dL_holds_384 : decode cL_holds 384 = .ok (.iload 8, 2) := by decide +kernel
theorem dL_holds_386 : decode cL_holds 386 = .ok (.istore 4, 2) := by decide +kernel
theorem dL_holds_388 : decode cL_holds 388 = .ok (.iinc 7 1, 3) := by decide +kernel
theorem dL_holds_391 : decode cL_holds 391 = .ok (.goto (-289), 3) := by decide +kernel
theorem dL_holds_394 : decode cL_holds 394 = .ok (.iconst 0, 1) := by decide +kernel
theorem dL_holds_395 : decode cL_holds 395 = .ok (.istore 7, 2) := by decide +kernel
theorem dL_holds_397 : decode cL_holds 397 = .ok (.iload 7, 2) := by decide +kernel
theorem dL_holds_399 : decode cL_holds 399 = .ok (.iconst 5, 1) := by decide +kernel
theorem dL_holds_400 : decode cL_holds 400 = .ok (.if_icmp .ge 88, 3) := by decide +kernel
theorem dL_holds_403 : decode cL_holds 403 = .ok (.iload 6, 2) := by decide +kernel
theorem dL_holds_405 : decode cL_holds 405 = .ok (.ifCond .eq 83, 3) := by decide +kernel
theorem dL_holds_408 : decode cL_holds 408 = .ok (.aload_n 0, 1) := by decide +kernel
theorem dL_holds_409 : decode cL_holds 409 = .ok (.iload 7, 2) := by decide +kernel
theorem dL_holds_411 : decode cL_holds 411 = .ok (.invokestatic 402, 3) := by decide +kernel
theorem dL_holds_414 : decode cL_holds 414 = .ok (.iconst 1, 1) := by decide +kernel
theorem dL_holds_415 : decode cL_holds 415 = .ok (.if_icmp .ne 7, 3) := by decide +kernel
theorem dL_holds_418 : decode cL_holds 418 = .ok (.iconst 1, 1) := by decide +kernel
theorem dL_holds_419 : decode cL_holds 419 = .ok (.goto 4, 3) := by decide +kernel
theorem dL_holds_422 : decode cL_holds 422 = .ok (.iconst 0, 1) := by decide +kernel
theorem dL_holds_423 : decode cL_holds 423 = .ok (.istore 8, 2) := by decide +kernel
theorem dL_holds_425 : decode cL_holds 425 = .ok (.aload_n 0, 1) := by decide +kernel
theorem dL_holds_426 : decode cL_holds 426 = .ok (.bipush 26, 2) := by decide +kernel
theorem dL_holds_428 : decode cL_holds 428 = .ok (.iload 7, 2) := by decide +kernel
theorem dL_holds_430 : decode cL_holds 430 = .ok (.iconst 0, 1) := by decide +kernel
theorem dL_holds_431 : decode cL_holds 431 = .ok (.iconst 0, 1) := by decide +kernel
theorem dL_holds_432 : decode cL_holds 432 = .ok (.invokestatic 393, 3) := by decide +kernel
theorem dL_holds_435 : decode cL_holds 435 = .ok (.ifCond .lt 44, 3) := by decide +kernel
theorem dL_holds_438 : decode cL_holds 438 = .ok (.iload 8, 2) := by decide +kernel
theorem dL_holds_440 : decode cL_holds 440 = .ok (.aload_n 0, 1) := by decide +kernel
theorem dL_holds_441 : decode cL_holds 441 = .ok (.bipush 24, 2) := by decide +kernel
theorem dL_holds_443 : decode cL_holds 443 = .ok (.iload 7, 2) := by decide +kernel
theorem dL_holds_445 : decode cL_holds 445 = .ok (.iconst 0, 1) := by decide +kernel
theorem dL_holds_446 : decode cL_holds 446 = .ok (.iconst 0, 1) := by decide +kernel
theorem dL_holds_447 : decode cL_holds 447 = .ok (.invokestatic 393, 3) := by decide +kernel
theorem dL_holds_450 : decode cL_holds 450 = .ok (.ifCond .le 7, 3) := by decide +kernel
theorem dL_holds_453 : decode cL_holds 453 = .ok (.iconst 1, 1) := by decide +kernel
theorem dL_holds_454 : decode cL_holds 454 = .ok (.goto 4, 3) := by decide +kernel
theorem dL_holds_457 : decode cL_holds 457 = .ok (.iconst 0, 1) := by decide +kernel
theorem dL_holds_458 : decode cL_holds 458 = .ok (.if_icmp .ne 21, 3) := by decide +kernel
theorem dL_holds_461 : decode cL_holds 461 = .ok (.iload 8, 2) := by decide +kernel
theorem dL_holds_463 : decode cL_holds 463 = .ok (.ifCond .ne 12, 3) := by decide +kernel
theorem dL_holds_466 : decode cL_holds 466 = .ok (.aload_n 0, 1) := by decide +kernel
theorem dL_holds_467 : decode cL_holds 467 = .ok (.iload 7, 2) := by decide +kernel
theorem dL_holds_469 : decode cL_holds 469 = .ok (.invokestatic 407, 3) := by decide +kernel
theorem dL_holds_472 : decode cL_holds 472 = .ok (.ifCond .ne 7, 3) := by decide +kernel
theorem dL_holds_475 : decode cL_holds 475 = .ok (.iconst 1, 1) := by decide +kernel
theorem dL_holds_476 : decode cL_holds 476 = .ok (.goto 4, 3) := by decide +kernel
theorem dL_holds_479 : decode cL_holds 479 = .ok (.iconst 0, 1) := by decide +kernel
theorem dL_holds_480 : decode cL_holds 480 = .ok (.istore 6, 2) := by decide +kernel
theorem dL_holds_482 : decode cL_holds 482 = .ok (.iinc 7 1, 3) := by decide +kernel
theorem dL_holds_485 : decode cL_holds 485 = .ok (.goto (-88), 3) := by decide +kernel
theorem dL_holds_488 : decode cL_holds 488 = .ok (.iconst 0, 1) := by decide +kernel
theorem dL_holds_489 : decode cL_holds 489 = .ok (.istore 7, 2) := by decide +kernel
theorem dL_holds_491 : decode cL_holds 491 = .ok (.iload 7, 2) := by decide +kernel
theorem dL_holds_493 : decode cL_holds 493 = .ok (.bipush 6, 2) := by decide +kernel
theorem dL_holds_495 : decode cL_holds 495 = .ok (.if_icmp .ge 175, 3) := by decide +kernel
theorem dL_holds_498 : decode cL_holds 498 = .ok (.iload 6, 2) := by decide +kernel
theorem dL_holds_500 : decode cL_holds 500 = .ok (.ifCond .eq 170, 3) := by decide +kernel
theorem dL_holds_503 : decode cL_holds 503 = .ok (.aload_n 0, 1) := by decide +kernel
theorem dL_holds_504 : decode cL_holds 504 = .ok (.bipush 39, 2) := by decide +kernel
theorem dL_holds_506 : decode cL_holds 506 = .ok (.iload 7, 2) := by decide +kernel
theorem dL_holds_508 : decode cL_holds 508 = .ok (.iconst 0, 1) := by decide +kernel
theorem dL_holds_509 : decode cL_holds 509 = .ok (.iconst 0, 1) := by decide +kernel
theorem dL_holds_510 : decode cL_holds 510 = .ok (.invokestatic 393, 3) := by decide +kernel
theorem dL_holds_513 : decode cL_holds 513 = .ok (.istore 8, 2) := by decide +kernel
theorem dL_holds_515 : decode cL_holds 515 = .ok (.aload_n 0, 1) := by decide +kernel
theorem dL_holds_516 : decode cL_holds 516 = .ok (.bipush 49, 2) := by decide +kernel
theorem dL_holds_518 : decode cL_holds 518 = .ok (.iload 7, 2) := by decide +kernel
theorem dL_holds_520 : decode cL_holds 520 = .ok (.iconst 0, 1) := by decide +kernel
theorem dL_holds_521 : decode cL_holds 521 = .ok (.iconst 0, 1) := by decide +kernel
theorem dL_holds_522 : decode cL_holds 522 = .ok (.invokestatic 393, 3) := by decide +kernel
theorem dL_holds_525 : decode cL_holds 525 = .ok (.istore 9, 2) := by decide +kernel
theorem dL_holds_527 : decode cL_holds 527 = .ok (.iload 8, 2) := by decide +kernel
theorem dL_holds_529 : decode cL_holds 529 = .ok (.aload_n 0, 1) := by decide +kernel
theorem dL_holds_530 : decode cL_holds 530 = .ok (.bipush 40, 2) := by decide +kernel
theorem dL_holds_532 : decode cL_holds 532 = .ok (.iload 7, 2) := by decide +kernel
theorem dL_holds_534 : decode cL_holds 534 = .ok (.iconst 0, 1) := by decide +kernel
theorem dL_holds_535 : decode cL_holds 535 = .ok (.iconst 0, 1) := by decide +kernel
theorem dL_holds_536 : decode cL_holds 536 = .ok (.invokestatic 393, 3) := by decide +kernel
theorem dL_holds_539 : decode cL_holds 539 = .ok (.if_icmp .ne 122, 3) := by decide +kernel
theorem dL_holds_542 : decode cL_holds 542 = .ok (.iload 9, 2) := by decide +kernel
theorem dL_holds_544 : decode cL_holds 544 = .ok (.iconst (-1), 1) := by decide +kernel
theorem dL_holds_545 : decode cL_holds 545 = .ok (.if_icmp .ne 7, 3) := by decide +kernel
theorem dL_holds_548 : decode cL_holds 548 = .ok (.iconst 1, 1) := by decide +kernel
theorem dL_holds_549 : decode cL_holds 549 = .ok (.goto 4, 3) := by decide +kernel
theorem dL_holds_552 : decode cL_holds 552 = .ok (.iconst 0, 1) := by decide +kernel
theorem dL_holds_553 : decode cL_holds 553 = .ok (.iload 8, 2) := by decide +kernel
theorem dL_holds_555 : decode cL_holds 555 = .ok (.ifCond .ne 7, 3) := by decide +kernel
theorem dL_holds_558 : decode cL_holds 558 = .ok (.iconst 1, 1) := by decide +kernel
theorem dL_holds_559 : decode cL_holds 559 = .ok (.goto 4, 3) := by decide +kernel
theorem dL_holds_562 : decode cL_holds 562 = .ok (.iconst 0, 1) := by decide +kernel
theorem dL_holds_563 : decode cL_holds 563 = .ok (.if_icmp .ne 98, 3) := by decide +kernel
theorem dL_holds_566 : decode cL_holds 566 = .ok (.iload 8, 2) := by decide +kernel
theorem dL_holds_568 : decode cL_holds 568 = .ok (.sipush 9998, 3) := by decide +kernel
theorem dL_holds_571 : decode cL_holds 571 = .ok (.if_icmp .gt 20, 3) := by decide +kernel
theorem dL_holds_574 : decode cL_holds 574 = .ok (.aload_n 0, 1) := by decide +kernel
theorem dL_holds_575 : decode cL_holds 575 = .ok (.bipush 50, 2) := by decide +kernel
theorem dL_holds_577 : decode cL_holds 577 = .ok (.iload 7, 2) := by decide +kernel
theorem dL_holds_579 : decode cL_holds 579 = .ok (.iload 8, 2) := by decide +kernel
theorem dL_holds_581 : decode cL_holds 581 = .ok (.iconst 1, 1) := by decide +kernel
theorem dL_holds_582 : decode cL_holds 582 = .ok (.iadd, 1) := by decide +kernel
theorem dL_holds_583 : decode cL_holds 583 = .ok (.iconst 0, 1) := by decide +kernel
theorem dL_holds_584 : decode cL_holds 584 = .ok (.invokestatic 393, 3) := by decide +kernel
theorem dL_holds_587 : decode cL_holds 587 = .ok (.iconst (-1), 1) := by decide +kernel
theorem dL_holds_588 : decode cL_holds 588 = .ok (.if_icmp .ne 73, 3) := by decide +kernel
theorem dL_holds_591 : decode cL_holds 591 = .ok (.iload 8, 2) := by decide +kernel
theorem dL_holds_593 : decode cL_holds 593 = .ok (.ifCond .eq 41, 3) := by decide +kernel
theorem dL_holds_596 : decode cL_holds 596 = .ok (.aload_n 0, 1) := by decide +kernel
theorem dL_holds_597 : decode cL_holds 597 = .ok (.bipush 16, 2) := by decide +kernel
theorem dL_holds_599 : decode cL_holds 599 = .ok (.iload 9, 2) := by decide +kernel
theorem dL_holds_601 : decode cL_holds 601 = .ok (.iconst 0, 1) := by decide +kernel
theorem dL_holds_602 : decode cL_holds 602 = .ok (.iconst 0, 1) := by decide +kernel
theorem dL_holds_603 : decode cL_holds 603 = .ok (.invokestatic 393, 3) := by decide +kernel
theorem dL_holds_606 : decode cL_holds 606 = .ok (.iload 7, 2) := by decide +kernel
theorem dL_holds_608 : decode cL_holds 608 = .ok (.if_icmp .ne 53, 3) := by decide +kernel
theorem dL_holds_611 : decode cL_holds 611 = .ok (.aload_n 0, 1) := by decide +kernel
theorem dL_holds_612 : decode cL_holds 612 = .ok (.bipush 50, 2) := by decide +kernel
theorem dL_holds_614 : decode cL_holds 614 = .ok (.iload 7, 2) := by decide +kernel
theorem dL_holds_616 : decode cL_holds 616 = .ok (.iconst 1, 1) := by decide +kernel
theorem dL_holds_617 : decode cL_holds 617 = .ok (.iconst 0, 1) := by decide +kernel
theorem dL_holds_618 : decode cL_holds 618 = .ok (.invokestatic 393, 3) := by decide +kernel
theorem dL_holds_621 : decode cL_holds 621 = .ok (.aload_n 0, 1) := by decide +kernel
theorem dL_holds_622 : decode cL_holds 622 = .ok (.bipush 21, 2) := by decide +kernel
theorem dL_holds_624 : decode cL_holds 624 = .ok (.iload 9, 2) := by decide +kernel
theorem dL_holds_626 : decode cL_holds 626 = .ok (.iconst 1, 1) := by decide +kernel
theorem dL_holds_627 : decode cL_holds 627 = .ok (.iconst 0, 1) := by decide +kernel
theorem dL_holds_628 : decode cL_holds 628 = .ok (.invokestatic 393, 3) := by decide +kernel
theorem dL_holds_631 : decode cL_holds 631 = .ok (.if_icmp .ne 30, 3) := by decide +kernel
theorem dL_holds_634 : decode cL_holds 634 = .ok (.aload_n 0, 1) := by decide +kernel
theorem dL_holds_635 : decode cL_holds 635 = .ok (.bipush 38, 2) := by decide +kernel
theorem dL_holds_637 : decode cL_holds 637 = .ok (.iload 7, 2) := by decide +kernel
theorem dL_holds_639 : decode cL_holds 639 = .ok (.iconst 0, 1) := by decide +kernel
theorem dL_holds_640 : decode cL_holds 640 = .ok (.iconst 0, 1) := by decide +kernel
theorem dL_holds_641 : decode cL_holds 641 = .ok (.invokestatic 393, 3) := by decide +kernel
theorem dL_holds_644 : decode cL_holds 644 = .ok (.aload_n 0, 1) := by decide +kernel
theorem dL_holds_645 : decode cL_holds 645 = .ok (.bipush 34, 2) := by decide +kernel
theorem dL_holds_647 : decode cL_holds 647 = .ok (.iload 7, 2) := by decide +kernel
theorem dL_holds_649 : decode cL_holds 649 = .ok (.iconst 0, 1) := by decide +kernel
theorem dL_holds_650 : decode cL_holds 650 = .ok (.iconst 0, 1) := by decide +kernel
theorem dL_holds_651 : decode cL_holds 651 = .ok (.invokestatic 393, 3) := by decide +kernel
theorem dL_holds_654 : decode cL_holds 654 = .ok (.if_icmp .gt 7, 3) := by decide +kernel
theorem dL_holds_657 : decode cL_holds 657 = .ok (.iconst 1, 1) := by decide +kernel
theorem dL_holds_658 : decode cL_holds 658 = .ok (.goto 4, 3) := by decide +kernel
theorem dL_holds_661 : decode cL_holds 661 = .ok (.iconst 0, 1) := by decide +kernel
theorem dL_holds_662 : decode cL_holds 662 = .ok (.istore 6, 2) := by decide +kernel
theorem dL_holds_664 : decode cL_holds 664 = .ok (.iinc 7 1, 3) := by decide +kernel
theorem dL_holds_667 : decode cL_holds 667 = .ok (.goto (-176), 3) := by decide +kernel
theorem dL_holds_670 : decode cL_holds 670 = .ok (.iload 6, 2) := by decide +kernel
theorem dL_holds_672 : decode cL_holds 672 = .ok (.ifCond .eq 52, 3) := by decide +kernel
theorem dL_holds_675 : decode cL_holds 675 = .ok (.iload_n 2, 1) := by decide +kernel
theorem dL_holds_676 : decode cL_holds 676 = .ok (.aload_n 0, 1) := by decide +kernel
theorem dL_holds_677 : decode cL_holds 677 = .ok (.invokevirtual 410, 3) := by decide +kernel
theorem dL_holds_680 : decode cL_holds 680 = .ok (.if_icmp .ne 44, 3) := by decide +kernel
theorem dL_holds_683 : decode cL_holds 683 = .ok (.iload_n 3, 1) := by decide +kernel
theorem dL_holds_684 : decode cL_holds 684 = .ok (.ifCond .ne 7, 3) := by decide +kernel
theorem dL_holds_687 : decode cL_holds 687 = .ok (.iconst 1, 1) := by decide +kernel
theorem dL_holds_688 : decode cL_holds 688 = .ok (.goto 4, 3) := by decide +kernel
theorem dL_holds_691 : decode cL_holds 691 = .ok (.iconst 0, 1) := by decide +kernel
theorem dL_holds_692 : decode cL_holds 692 = .ok (.aload_n 0, 1) := by decide +kernel
theorem dL_holds_693 : decode cL_holds 693 = .ok (.invokevirtual 432, 3) := by decide +kernel
theorem dL_holds_696 : decode cL_holds 696 = .ok (.iconst (-1), 1) := by decide +kernel
theorem dL_holds_697 : decode cL_holds 697 = .ok (.if_icmp .ne 7, 3) := by decide +kernel
theorem dL_holds_700 : decode cL_holds 700 = .ok (.iconst 1, 1) := by decide +kernel
theorem dL_holds_701 : decode cL_holds 701 = .ok (.goto 4, 3) := by decide +kernel
theorem dL_holds_704 : decode cL_holds 704 = .ok (.iconst 0, 1) := by decide +kernel
theorem dL_holds_705 : decode cL_holds 705 = .ok (.if_icmp .ne 19, 3) := by decide +kernel
theorem dL_holds_708 : decode cL_holds 708 = .ok (.iload_n 3, 1) := by decide +kernel
theorem dL_holds_709 : decode cL_holds 709 = .ok (.ifCond .gt 11, 3) := by decide +kernel
theorem dL_holds_712 : decode cL_holds 712 = .ok (.aload_n 0, 1) := by decide +kernel
theorem dL_holds_713 : decode cL_holds 713 = .ok (.invokevirtual 435, 3) := by decide +kernel
theorem dL_holds_716 : decode cL_holds 716 = .ok (.iconst (-1), 1) := by decide +kernel
theorem dL_holds_717 : decode cL_holds 717 = .ok (.if_icmp .ne 7, 3) := by decide +kernel
theorem dL_holds_720 : decode cL_holds 720 = .ok (.iconst 1, 1) := by decide +kernel
theorem dL_holds_721 : decode cL_holds 721 = .ok (.goto 4, 3) := by decide +kernel
theorem dL_holds_724 : decode cL_holds 724 = .ok (.iconst 0, 1) := by decide +kernel
theorem dL_holds_725 : decode cL_holds 725 = .ok (.ireturn, 1) := by decide +kernel
def w_L_holds_J705 (o : Bool) (g : Gh) (Q9 : Int32 → Gh → Prop) (r_1 : Int32) (y_26 : Int32) (y_29 : Int32) : Prop :=
  ((¬ y_26 = y_29 → Q9 0 g) ∧
  (y_26 = y_29 → ((0 < r_1 → Q9 1 g) ∧
  (¬ 0 < r_1 → g.2 ≤ 2400 ∧ ∀ r_32 : Int32, r_32 = (v_nextOverdue (g.1 o)) → (((¬ r_32 = (-1) → Q9 0 g) ∧
  (r_32 = (-1) → Q9 1 g)))))))
def w_L_holds_J692 (o : Bool) (g : Gh) (Q9 : Int32 → Gh → Prop) (r_1 : Int32) (y_26 : Int32) : Prop :=
  g.2 ≤ 2400 ∧ ∀ r_27 : Int32, r_27 = (v_dearestEntry (g.1 o)) → (((¬ r_27 = (-1) → w_L_holds_J705 o g Q9 r_1 y_26 0) ∧
  (r_27 = (-1) → w_L_holds_J705 o g Q9 r_1 y_26 1)))
def w_L_holds_J670 (o : Bool) (g : Gh) (Q9 : Int32 → Gh → Prop) (r_1 : Int32) (y_5 : Int32) (y_18 : Int32) : Prop :=
  ((y_18 = 0 → Q9 0 g) ∧
  (¬ y_18 = 0 → g.2 ≤ 2400 ∧ ∀ r_23 : Int32, r_23 = (v_dutyAtStake (g.1 o)) → (((¬ y_5 = r_23 → Q9 0 g) ∧
  (y_5 = r_23 → ((¬ r_1 = 0 → w_L_holds_J692 o g Q9 r_1 0) ∧
  (r_1 = 0 → w_L_holds_J692 o g Q9 r_1 1)))))))
def w_L_holds_J634 (o : Bool) (g : Gh) (y_19 : Int32) (K_20 : Int32 → Int32 → Prop) : Prop :=
  g.2 ≤ 2400 ∧ ∀ r_51 : Int32, r_51 = y_tryDrawn y_19 (g.1 o) → (g.2 ≤ 2400 ∧ ∀ r_53 : Int32, r_53 = y_tryWithdrawn y_19 (g.1 o) → (((r_53 < r_51 → ∀ x_56 : Int32, x_56 = y_19 + 1 → (K_20 0 x_56)) ∧
  (¬ r_53 < r_51 → ∀ x_57 : Int32, x_57 = y_19 + 1 → (K_20 1 x_57)))))
def w_L_holds_J591 (o : Bool) (g : Gh) (y_19 : Int32) (r_39 : Int32) (r_41 : Int32) (K_20 : Int32 → Int32 → Prop) : Prop :=
  ((r_39 = 0 → w_L_holds_J634 o g y_19 K_20) ∧
  (¬ r_39 = 0 → g.2 ≤ 2400 ∧ ∀ r_59 : Int32, r_59 = y_tryKind r_41 (g.1 o) → (((¬ r_59 = y_19 → ∀ x_62 : Int32, x_62 = y_19 + 1 → (K_20 0 x_62)) ∧
  (r_59 = y_19 → g.2 ≤ 2400 ∧ ∀ r_63 : Int32, r_63 = y_tryFrom y_19 1 (g.1 o) → (g.2 ≤ 2400 ∧ ∀ r_65 : Int32, r_65 = y_tryPart r_41 1 (g.1 o) → (((¬ r_63 = r_65 → ∀ x_68 : Int32, x_68 = y_19 + 1 → (K_20 0 x_68)) ∧
  (r_63 = r_65 → w_L_holds_J634 o g y_19 K_20)))))))))
def w_L_holds_J563 (o : Bool) (g : Gh) (y_19 : Int32) (r_39 : Int32) (r_41 : Int32) (y_47 : Int32) (K_20 : Int32 → Int32 → Prop) (y_48 : Int32) : Prop :=
  ((¬ y_47 = y_48 → ∀ x_50 : Int32, x_50 = y_19 + 1 → (K_20 0 x_50)) ∧
  (y_47 = y_48 → ((9998 < r_39 → w_L_holds_J591 o g y_19 r_39 r_41 K_20) ∧
  (¬ 9998 < r_39 → g.2 ≤ 2400 ∧ ∀ r_70 : Int32, r_70 = y_tryFrom y_19 (r_39 + 1) (g.1 o) → (((¬ r_70 = (-1) → ∀ x_73 : Int32, x_73 = y_19 + 1 → (K_20 0 x_73)) ∧
  (r_70 = (-1) → w_L_holds_J591 o g y_19 r_39 r_41 K_20)))))))
def w_L_holds_J553 (o : Bool) (g : Gh) (y_19 : Int32) (r_39 : Int32) (r_41 : Int32) (K_20 : Int32 → Int32 → Prop) (y_47 : Int32) : Prop :=
  ((¬ r_39 = 0 → w_L_holds_J563 o g y_19 r_39 r_41 y_47 K_20 0) ∧
  (r_39 = 0 → w_L_holds_J563 o g y_19 r_39 r_41 y_47 K_20 1))
def w_L_holds_B491 (o : Bool) (g : Gh) (Q9 : Int32 → Gh → Prop) (r_1 : Int32) (y_5 : Int32) (K_20 : Int32 → Int32 → Prop) (y_18 : Int32) (y_19 : Int32) : Prop :=
  ((6 ≤ y_19 → w_L_holds_J670 o g Q9 r_1 y_5 y_18) ∧
  (¬ 6 ≤ y_19 → ((y_18 = 0 → w_L_holds_J670 o g Q9 r_1 y_5 y_18) ∧
  (¬ y_18 = 0 → g.2 ≤ 2400 ∧ ∀ r_39 : Int32, r_39 = y_tryStock y_19 (g.1 o) → (g.2 ≤ 2400 ∧ ∀ r_41 : Int32, r_41 = y_tryCheapest y_19 (g.1 o) → (g.2 ≤ 2400 ∧ ∀ r_43 : Int32, r_43 = y_tryTotals y_19 (g.1 o) → (((¬ r_39 = r_43 → ∀ x_46 : Int32, x_46 = y_19 + 1 → (K_20 0 x_46)) ∧
  (r_39 = r_43 → ((¬ r_41 = (-1) → w_L_holds_J553 o g y_19 r_39 r_41 K_20 0) ∧
  (r_41 = (-1) → w_L_holds_J553 o g y_19 r_39 r_41 K_20 1)))))))))))
def w_L_holds_J488 (o : Bool) (g : Gh) (Q9 : Int32 → Gh → Prop) (r_1 : Int32) (y_5 : Int32) (y_13 : Int32) : Prop :=
  itr (α := Int32 × Int32) (fun K a => w_L_holds_B491 o g Q9 r_1 y_5 (fun z0 z1 => K (z0, z1)) a.1 a.2) 7 (y_13, 0)
def w_L_holds_J458 (o : Bool) (g : Gh) (y_14 : Int32) (y_80 : Int32) (K_15 : Int32 → Int32 → Prop) (y_87 : Int32) : Prop :=
  ((¬ y_80 = y_87 → ∀ x_89 : Int32, x_89 = y_14 + 1 → (K_15 0 x_89)) ∧
  (y_80 = y_87 → ((¬ y_80 = 0 → ∀ x_91 : Int32, x_91 = y_14 + 1 → (K_15 1 x_91)) ∧
  (y_80 = 0 → g.2 ≤ 2400 ∧ ∀ r_92 : Int32, r_92 = y_isBroken y_14 (g.1 o) → (((¬ r_92 = 0 → ∀ x_95 : Int32, x_95 = y_14 + 1 → (K_15 0 x_95)) ∧
  (r_92 = 0 → ∀ x_96 : Int32, x_96 = y_14 + 1 → (K_15 1 x_96))))))))
def w_L_holds_J423 (o : Bool) (g : Gh) (y_14 : Int32) (K_15 : Int32 → Int32 → Prop) (y_80 : Int32) : Prop :=
  g.2 ≤ 2400 ∧ ∀ r_81 : Int32, r_81 = y_tryRoom y_14 (g.1 o) → (((r_81 < 0 → ∀ x_84 : Int32, x_84 = y_14 + 1 → (K_15 0 x_84)) ∧
  (¬ r_81 < 0 → g.2 ≤ 2400 ∧ ∀ r_85 : Int32, r_85 = y_trySeal y_14 (g.1 o) → (((r_85 ≤ 0 → w_L_holds_J458 o g y_14 y_80 K_15 0) ∧
  (¬ r_85 ≤ 0 → w_L_holds_J458 o g y_14 y_80 K_15 1))))))
def w_L_holds_B397 (o : Bool) (g : Gh) (Q9 : Int32 → Gh → Prop) (r_1 : Int32) (y_5 : Int32) (K_15 : Int32 → Int32 → Prop) (y_13 : Int32) (y_14 : Int32) : Prop :=
  ((5 ≤ y_14 → w_L_holds_J488 o g Q9 r_1 y_5 y_13) ∧
  (¬ 5 ≤ y_14 → ((y_13 = 0 → w_L_holds_J488 o g Q9 r_1 y_5 y_13) ∧
  (¬ y_13 = 0 → g.2 ≤ 2400 ∧ ∀ r_78 : Int32, r_78 = y_isLocked y_14 (g.1 o) → (((¬ r_78 = 1 → w_L_holds_J423 o g y_14 K_15 0) ∧
  (r_78 = 1 → w_L_holds_J423 o g y_14 K_15 1)))))))
def w_L_holds_J394 (o : Bool) (g : Gh) (Q9 : Int32 → Gh → Prop) (r_1 : Int32) (y_5 : Int32) (y_8 : Int32) : Prop :=
  itr (α := Int32 × Int32) (fun K a => w_L_holds_B397 o g Q9 r_1 y_5 (fun z0 z1 => K (z0, z1)) a.1 a.2) 6 (y_8, 0)
def w_L_holds_J304 (o : Bool) (g : Gh) (y_9 : Int32) (r_101 : Int32) (r_103 : Int32) (r_105 : Int32) (x_108 : Int32) (x_109 : Int32) (y_110 : Int32) (y_139 : Int32) (K_10 : Int32 → Int32 → Int32 → Int32 → Int32 → Prop) (y_142 : Int32) : Prop :=
  ((¬ y_139 = y_142 → ∀ x_144 : Int32, x_144 = y_9 + 1 → (K_10 x_109 r_101 y_110 0 x_144)) ∧
  (y_139 = y_142 → g.2 ≤ 2400 ∧ ∀ r_145 : Int32, r_145 = y_tryAllowed r_101 (g.1 o) → (((r_103 < r_145 → ∀ x_148 : Int32, x_148 = y_9 + 1 → (K_10 x_109 r_101 y_110 0 x_148)) ∧
  (¬ r_103 < r_145 → g.2 ≤ 2400 ∧ ∀ r_149 : Int32, r_149 = y_tryCharge r_101 r_103 (g.1 o) → (((¬ r_149 = 0 → ∀ x_152 : Int32, x_152 = y_9 + 1 → (K_10 x_109 r_101 y_110 0 x_152)) ∧
  (r_149 = 0 → g.2 ≤ 2400 ∧ ∀ r_153 : Int32, r_153 = y_tryCharge r_101 0 (g.1 o) → (g.2 ≤ 2400 ∧ ∀ r_155 : Int32, r_155 = y_tryCharge r_101 x_108 (g.1 o) → (((r_153 < r_155 → ∀ x_158 : Int32, x_158 = y_9 + 1 → (K_10 x_109 r_101 y_110 0 x_158)) ∧
  (¬ r_153 < r_155 → g.2 ≤ 2400 ∧ ∀ r_159 : Int32, r_159 = (v_dearestEntry (g.1 o)) → (g.2 ≤ 2400 ∧ ∀ r_161 : Int32, r_161 = y_tryDuty r_159 (g.1 o) → (((r_161 < r_105 → ∀ x_164 : Int32, x_164 = y_9 + 1 → (K_10 x_109 r_101 y_110 0 x_164)) ∧
  (¬ r_161 < r_105 → ∀ x_165 : Int32, x_165 = y_9 + 1 → (K_10 x_109 r_101 y_110 1 x_165)))))))))))))))))
def w_L_holds_J286 (o : Bool) (g : Gh) (y_9 : Int32) (r_101 : Int32) (r_103 : Int32) (r_105 : Int32) (x_108 : Int32) (x_109 : Int32) (y_110 : Int32) (K_10 : Int32 → Int32 → Int32 → Int32 → Int32 → Prop) (y_139 : Int32) : Prop :=
  g.2 ≤ 2400 ∧ ∀ r_140 : Int32, r_140 = y_tryDays r_101 (g.1 o) → (((¬ r_140 = 0 → w_L_holds_J304 o g y_9 r_101 r_103 r_105 x_108 x_109 y_110 y_139 K_10 0) ∧
  (r_140 = 0 → w_L_holds_J304 o g y_9 r_101 r_103 r_105 x_108 x_109 y_110 y_139 K_10 1)))
def w_L_holds_J176 (o : Bool) (g : Gh) (y_6 : Int32) (y_9 : Int32) (r_101 : Int32) (r_103 : Int32) (r_105 : Int32) (x_108 : Int32) (x_109 : Int32) (K_10 : Int32 → Int32 → Int32 → Int32 → Int32 → Prop) (y_110 : Int32) : Prop :=
  ((r_101 ≤ y_6 → ∀ x_112 : Int32, x_112 = y_9 + 1 → (K_10 x_109 r_101 y_110 0 x_112)) ∧
  (¬ r_101 ≤ y_6 → g.2 ≤ 2400 ∧ ∀ r_113 : Int32, r_113 = (v_isOpenEntry r_101 (g.1 o)) → (((r_113 = 0 → ∀ x_116 : Int32, x_116 = y_9 + 1 → (K_10 x_109 r_101 y_110 0 x_116)) ∧
  (¬ r_113 = 0 → ((r_103 ≤ 0 → ∀ x_118 : Int32, x_118 = y_9 + 1 → (K_10 x_109 r_101 y_110 0 x_118)) ∧
  (¬ r_103 ≤ 0 → ((999 < r_103 → ∀ x_120 : Int32, x_120 = y_9 + 1 → (K_10 x_109 r_101 y_110 0 x_120)) ∧
  (¬ 999 < r_103 → g.2 ≤ 2400 ∧ ∀ r_121 : Int32, r_121 = y_tryPart r_101 r_103 (g.1 o) → (((¬ r_105 = r_121 → ∀ x_124 : Int32, x_124 = y_9 + 1 → (K_10 x_109 r_101 y_110 0 x_124)) ∧
  (r_105 = r_121 → g.2 ≤ 2400 ∧ ∀ r_125 : Int32, r_125 = y_tryPart r_101 x_108 (g.1 o) → (((r_105 < r_125 → ∀ x_128 : Int32, x_128 = y_9 + 1 → (K_10 x_109 r_101 y_110 0 x_128)) ∧
  (¬ r_105 < r_125 → g.2 ≤ 2400 ∧ ∀ r_129 : Int32, r_129 = y_tryLater r_101 0 (g.1 o) → (((¬ r_129 = r_105 → ∀ x_132 : Int32, x_132 = y_9 + 1 → (K_10 x_109 r_101 y_110 0 x_132)) ∧
  (r_129 = r_105 → g.2 ≤ 2400 ∧ ∀ r_133 : Int32, r_133 = y_tryLater r_101 365 (g.1 o) → (((r_133 < r_105 → ∀ x_136 : Int32, x_136 = y_9 + 1 → (K_10 x_109 r_101 y_110 0 x_136)) ∧
  (¬ r_133 < r_105 → g.2 ≤ 2400 ∧ ∀ r_137 : Int32, r_137 = y_isLate r_101 (g.1 o) → (((¬ r_137 = 1 → w_L_holds_J286 o g y_9 r_101 r_103 r_105 x_108 x_109 y_110 K_10 0) ∧
  (r_137 = 1 → w_L_holds_J286 o g y_9 r_101 r_103 r_105 x_108 x_109 y_110 K_10 1))))))))))))))))))))))))
def w_L_holds_B102 (o : Bool) (p1 : Int32) (g : Gh) (Q9 : Int32 → Gh → Prop) (r_1 : Int32) (K_10 : Int32 → Int32 → Int32 → Int32 → Int32 → Prop) (y_5 : Int32) (y_6 : Int32) (y_7 : Int32) (y_8 : Int32) (y_9 : Int32) : Prop :=
  ((r_1 ≤ y_9 → w_L_holds_J394 o g Q9 r_1 y_5 y_8) ∧
  (¬ r_1 ≤ y_9 → ((y_8 = 0 → w_L_holds_J394 o g Q9 r_1 y_5 y_8) ∧
  (¬ y_8 = 0 → g.2 ≤ 2400 ∧ ∀ r_101 : Int32, r_101 = y_tryAt y_9 (g.1 o) → (g.2 ≤ 2400 ∧ ∀ r_103 : Int32, r_103 = y_tryWeight r_101 (g.1 o) → (g.2 ≤ 2400 ∧ ∀ r_105 : Int32, r_105 = y_tryDuty r_101 (g.1 o) → (¬ r_103 = 0 ∧ (∀ x_108 : Int32, x_108 = (1 + (p1 - p1 / r_103 * r_103)) → (∀ x_109 : Int32, x_109 = (y_5 + r_105) → (((r_105 ≤ y_7 → w_L_holds_J176 o g y_6 y_9 r_101 r_103 r_105 x_108 x_109 K_10 y_7) ∧
  (¬ r_105 ≤ y_7 → w_L_holds_J176 o g y_6 y_9 r_101 r_103 r_105 x_108 x_109 K_10 r_105))))))))))))
def w_L_holds_J97 (o : Bool) (p1 : Int32) (g : Gh) (Q9 : Int32 → Gh → Prop) (r_1 : Int32) (y_3 : Int32) : Prop :=
  itr (α := Int32 × Int32 × Int32 × Int32 × Int32) (fun K a => w_L_holds_B102 o p1 g Q9 r_1 (fun z0 z1 z2 z3 z4 => K (z0, z1, z2, z3, z4)) a.1 a.2.1 a.2.2.1 a.2.2.2.1 a.2.2.2.2) 17 (0, (-1), 0, y_3, 0)
def w_L_holds_J96 (o : Bool) (p1 : Int32) (g : Gh) (Q9 : Int32 → Gh → Prop) (r_1 : Int32) : Prop :=
  w_L_holds_J97 o p1 g Q9 r_1 0
def w_L_holds_J69 (o : Bool) (p1 : Int32) (g : Gh) (Q9 : Int32 → Gh → Prop) (r_1 : Int32) : Prop :=
  g.2 ≤ 2400 ∧ ∀ r_187 : Int32, r_187 = (v_account (g.1 o)) → (((r_187 < 0 → w_L_holds_J96 o p1 g Q9 r_1) ∧
  (¬ r_187 < 0 → g.2 ≤ 2400 ∧ ∀ r_190 : Int32, r_190 = (v_debt (g.1 o)) → (((r_190 < 0 → w_L_holds_J96 o p1 g Q9 r_1) ∧
  (¬ r_190 < 0 → g.2 ≤ 2400 ∧ ∀ r_193 : Int32, r_193 = (v_receipts (g.1 o)) → (((12 < r_193 → w_L_holds_J96 o p1 g Q9 r_1) ∧
  (¬ 12 < r_193 → w_L_holds_J97 o p1 g Q9 r_1 1)))))))))
def w_L_holds (o : Bool) (p1 : Int32) (g : Gh) (Q9 : Int32 → Gh → Prop) : Prop :=
  g.2 ≤ 2400 ∧ ∀ r_1 : Int32, r_1 = (v_entries (g.1 o)) → (((16 < r_1 → w_L_holds_J96 o p1 g Q9 r_1) ∧
  (¬ 16 < r_1 → g.2 ≤ 2400 ∧ ∀ r_170 : Int32, r_170 = (v_entriesMade (g.1 o)) → (((60 < r_170 → w_L_holds_J96 o p1 g Q9 r_1) ∧
  (¬ 60 < r_170 → g.2 ≤ 2400 ∧ ∀ r_173 : Int32, r_173 = (v_balance (g.1 o)) → (g.2 ≤ 2400 ∧ ∀ r_175 : Int32, r_175 = (v_balanceByTotals (g.1 o)) → (((¬ r_173 = r_175 → w_L_holds_J96 o p1 g Q9 r_1) ∧
  (r_173 = r_175 → g.2 ≤ 2400 ∧ ∀ r_178 : Int32, r_178 = (v_balance (g.1 o)) → (g.2 ≤ 2400 ∧ ∀ r_180 : Int32, r_180 = (v_account (g.1 o)) → (g.2 ≤ 2400 ∧ ∀ r_182 : Int32, r_182 = (v_debt (g.1 o)) → (((¬ r_178 = (r_180 - r_182) → w_L_holds_J96 o p1 g Q9 r_1) ∧
  (r_178 = (r_180 - r_182) → g.2 ≤ 2400 ∧ ∀ r_185 : Int32, r_185 = (v_account (g.1 o)) → (((r_185 = 0 → w_L_holds_J69 o p1 g Q9 r_1) ∧
  (¬ r_185 = 0 → g.2 ≤ 2400 ∧ ∀ r_197 : Int32, r_197 = (v_debt (g.1 o)) → (((¬ r_197 = 0 → w_L_holds_J96 o p1 g Q9 r_1) ∧
  (r_197 = 0 → w_L_holds_J69 o p1 g Q9 r_1)))))))))))))))))))))
def rm_L_holds : Room := { frames := 11, cells := 650, slots := 3900, locals := 207 }
theorem hy_L_holds : yL_holds.cls = RL ∧ yL_holds.cls ≠ "java/lang/invoke/MethodHandle" ∧ yL_holds.cls ≠ "java/lang/invoke/VarHandle" ∧ (parseMethodDescriptor yL_holds.desc).map (fun d => d.parameters.length) = some 2 := by decide +kernel
set_option maxRecDepth 100000 in
set_option maxHeartbeats 4000000 in
theorem c_L_holds {l : Launch} {D : va_G} {cA : Nat → ClassId} {ad : Bool → Nat → Nat → Nat} {A : Bool → Nat → Prop} (ha : AG ad A) (hst : l.stackTraces = false) (o : Bool) (p1 : Int32) (g : Gh) (Q9 : Int32 → Gh → Prop) (h : w_L_holds o p1 g Q9) : Met l yL_holds (.code yL_holds cL_holds 12 (some .boolean) :: TG) rm_L_holds (PcG D cA ad A [.ref (ad o 0 1), .int p1] g) (QcG D cA ad A Q9) 650 3900 (AU A) := by
  unfold w_L_holds at h
  refine enterGZ pl_L rfl (Nat.le_of_ble_eq_true rfl) ?_
  intro p e s m args below meth c QQ X hW hZ hE
  refine q_iconst (v := 0) X dL_holds_0 (by decide) ?_
  refine q_istore_n (lv' := [(2, .int 0), (0, .ref (ad o 0 1)), (1, .int p1)]) X dL_holds_1 rfl (by decide) rfl ?_
  refine q_aload_n (j := 1) X dL_holds_2 rfl rfl ?_
  obtain ⟨k_2, h⟩ := h
  refine qG_ask X hW hZ ha (fun _ h => h) YT_ok o (val := (v_entries (g.1 o))) (Qp := (fun mo r m1 => r = (v_entries (g.1 o)) ∧ mo = m1)) [] [] rfl rfl (Nat.le_of_ble_eq_true rfl) dL_holds_3 ⟨(Nat.le_of_ble_eq_true rfl), (Nat.le_of_ble_eq_true rfl)⟩ k_2 (fun mo hmo => c_X9_entries (ha.1 o)  mo _ (n_entries hmo.rs hmo.inv  _ rfl)) (fun mo r m1 hr h => ⟨h.1, by rw [← h.2]; exact hr⟩) rfl rfl (gV kw_6_130 kw_6_131 kw_6_132 kw_1_1 kw_6_133) hy_X9_entries ⟨(Nat.le_of_ble_eq_true rfl), (Nat.le_of_ble_eq_true rfl)⟩ ?_
  refine q_topi (fun r_1 er_1 => ?_)
  have h := h r_1 er_1
  refine q_istore_n (lv' := [(3, .int r_1), (2, .int 0), (0, .ref (ad o 0 1)), (1, .int p1)]) X dL_holds_6 rfl (by decide) rfl ?_
  refine q_iconst (v := (-1)) X dL_holds_7 (by decide) ?_
  refine q_istore (lv' := [(4, .int (-1)), (3, .int r_1), (2, .int 0), (0, .ref (ad o 0 1)), (1, .int p1)]) X dL_holds_8 (by decide) rfl ?_
  refine q_iconst (v := 0) X dL_holds_10 (by decide) ?_
  refine q_istore (lv' := [(5, .int 0), (4, .int (-1)), (3, .int r_1), (2, .int 0), (0, .ref (ad o 0 1)), (1, .int p1)]) X dL_holds_11 (by decide) rfl ?_
  refine q_iload_n (j := 2) X dL_holds_13 rfl rfl ?_
  refine q_bipush (v := 16) X dL_holds_14 (by decide) ?_
  have J97 : ∀ (y_3 : Int32), w_L_holds_J97 o p1 g Q9 r_1 y_3 → V p l e rm_L_holds s m args below meth c QQ 12 (AU A) 0 (6 * 0) (WY D cA ad YT g) 97 [(0, .ref (ad o 0 1)), (1, .int p1), (2, .int 0), (3, .int r_1), (4, .int (-1)), (5, .int 0)] [.int y_3] := by
    intro y_3 h
    unfold w_L_holds_J97 at h
    refine q_istore (lv' := [(6, .int y_3), (0, .ref (ad o 0 1)), (1, .int p1), (2, .int 0), (3, .int r_1), (4, .int (-1)), (5, .int 0)]) X dL_holds_97 (by decide) rfl ?_
    refine q_iconst (v := 0) X dL_holds_99 (by decide) ?_
    refine q_istore (lv' := [(7, .int 0), (6, .int y_3), (0, .ref (ad o 0 1)), (1, .int p1), (2, .int 0), (3, .int r_1), (4, .int (-1)), (5, .int 0)]) X dL_holds_100 (by decide) rfl ?_
    refine q_sub [2, 3, 4, 5, 6, 7, 1, 0] rfl ?_
    have L102 : ∀ (n : Nat) (y_5 : Int32) (y_6 : Int32) (y_7 : Int32) (y_8 : Int32) (y_9 : Int32), itr (α := Int32 × Int32 × Int32 × Int32 × Int32) (fun K a => w_L_holds_B102 o p1 g Q9 r_1 (fun z0 z1 z2 z3 z4 => K (z0, z1, z2, z3, z4)) a.1 a.2.1 a.2.2.1 a.2.2.2.1 a.2.2.2.2) n (y_5, y_6, y_7, y_8, y_9) → ∀ c_4 : Nat, c_4 + n * 28 ≤ 476 → V p l e rm_L_holds s m args below meth c QQ 12 (AU A) c_4 (6 * c_4) (WY D cA ad YT g) 102 [(0, .ref (ad o 0 1)), (1, .int p1), (2, .int y_5), (3, .int r_1), (4, .int y_6), (5, .int y_7), (6, .int y_8), (7, .int y_9)] [] := by
      intro n
      induction n with
      | zero => intro y_5 y_6 y_7 y_8 y_9 h; exact h.elim
      | succ n ih_11 =>
        intro y_5 y_6 y_7 y_8 y_9 h c_4 hc_4
        have h : w_L_holds_B102 o p1 g Q9 r_1 (fun z0 z1 z2 z3 z4 => itr (α := Int32 × Int32 × Int32 × Int32 × Int32) (fun K a => w_L_holds_B102 o p1 g Q9 r_1 (fun z0 z1 z2 z3 z4 => K (z0, z1, z2, z3, z4)) a.1 a.2.1 a.2.2.1 a.2.2.2.1 a.2.2.2.2) n (z0, z1, z2, z3, z4)) y_5 y_6 y_7 y_8 y_9 := h
        generalize hKe : (fun z0 z1 z2 z3 z4 => itr (α := Int32 × Int32 × Int32 × Int32 × Int32) (fun K a => w_L_holds_B102 o p1 g Q9 r_1 (fun z0 z1 z2 z3 z4 => K (z0, z1, z2, z3, z4)) a.1 a.2.1 a.2.2.1 a.2.2.2.1 a.2.2.2.2) n (z0, z1, z2, z3, z4)) = K_10 at h
        have ih_11k : ∀ (y_5 : Int32) (y_6 : Int32) (y_7 : Int32) (y_8 : Int32) (y_9 : Int32), K_10 y_5 y_6 y_7 y_8 y_9 → ∀ c_4 : Nat, c_4 + n * 28 ≤ 476 → V p l e rm_L_holds s m args below meth c QQ 12 (AU A) c_4 (6 * c_4) (WY D cA ad YT g) 102 [(0, .ref (ad o 0 1)), (1, .int p1), (2, .int y_5), (3, .int r_1), (4, .int y_6), (5, .int y_7), (6, .int y_8), (7, .int y_9)] [] := fun y_5 y_6 y_7 y_8 y_9 h => ih_11 y_5 y_6 y_7 y_8 y_9 (by rw [← hKe] at h; exact h)
        unfold w_L_holds_B102 at h
        refine q_iload (j := 7) X dL_holds_102 rfl ?_
        refine q_iload_n (j := 3) X dL_holds_104 rfl rfl ?_
        have J394 : w_L_holds_J394 o g Q9 r_1 y_5 y_8  → V p l e rm_L_holds s m args below meth c QQ 12 (AU A) 476 (6 * 476) (WY D cA ad YT g) 394 [(0, .ref (ad o 0 1)), (2, .int y_5), (3, .int r_1), (6, .int y_8)] [] := by
          intro  h
          unfold w_L_holds_J394 at h
          refine q_iconst (v := 0) X dL_holds_394 (by decide) ?_
          refine q_istore (lv' := [(7, .int 0), (0, .ref (ad o 0 1)), (2, .int y_5), (3, .int r_1), (6, .int y_8)]) X dL_holds_395 (by decide) rfl ?_
          refine q_sub [1, 2, 3, 4, 0] rfl ?_
          have L397 : ∀ (n : Nat) (y_13 : Int32) (y_14 : Int32), itr (α := Int32 × Int32) (fun K a => w_L_holds_B397 o g Q9 r_1 y_5 (fun z0 z1 => K (z0, z1)) a.1 a.2) n (y_13, y_14) → ∀ c_12 : Nat, c_12 + n * 8 ≤ 524 → V p l e rm_L_holds s m args below meth c QQ 12 (AU A) c_12 (6 * c_12) (WY D cA ad YT g) 397 [(0, .ref (ad o 0 1)), (2, .int y_5), (3, .int r_1), (6, .int y_13), (7, .int y_14)] [] := by
            intro n
            induction n with
            | zero => intro y_13 y_14 h; exact h.elim
            | succ n ih_16 =>
              intro y_13 y_14 h c_12 hc_12
              have h : w_L_holds_B397 o g Q9 r_1 y_5 (fun z0 z1 => itr (α := Int32 × Int32) (fun K a => w_L_holds_B397 o g Q9 r_1 y_5 (fun z0 z1 => K (z0, z1)) a.1 a.2) n (z0, z1)) y_13 y_14 := h
              generalize hKe : (fun z0 z1 => itr (α := Int32 × Int32) (fun K a => w_L_holds_B397 o g Q9 r_1 y_5 (fun z0 z1 => K (z0, z1)) a.1 a.2) n (z0, z1)) = K_15 at h
              have ih_16k : ∀ (y_13 : Int32) (y_14 : Int32), K_15 y_13 y_14 → ∀ c_12 : Nat, c_12 + n * 8 ≤ 524 → V p l e rm_L_holds s m args below meth c QQ 12 (AU A) c_12 (6 * c_12) (WY D cA ad YT g) 397 [(0, .ref (ad o 0 1)), (2, .int y_5), (3, .int r_1), (6, .int y_13), (7, .int y_14)] [] := fun y_13 y_14 h => ih_16 y_13 y_14 (by rw [← hKe] at h; exact h)
              unfold w_L_holds_B397 at h
              refine q_iload (j := 4) X dL_holds_397 rfl ?_
              refine q_iconst (v := 5) X dL_holds_399 (by decide) ?_
              have J488 : w_L_holds_J488 o g Q9 r_1 y_5 y_13  → V p l e rm_L_holds s m args below meth c QQ 12 (AU A) 524 (6 * 524) (WY D cA ad YT g) 488 [(0, .ref (ad o 0 1)), (2, .int y_5), (3, .int r_1), (6, .int y_13)] [] := by
                intro  h
                unfold w_L_holds_J488 at h
                refine q_iconst (v := 0) X dL_holds_488 (by decide) ?_
                refine q_istore (lv' := [(7, .int 0), (0, .ref (ad o 0 1)), (2, .int y_5), (3, .int r_1), (6, .int y_13)]) X dL_holds_489 (by decide) rfl ?_
                refine q_sub [1, 2, 3, 4, 0] rfl ?_
                have L491 : ∀ (n : Nat) (y_18 : Int32) (y_19 : Int32), itr (α := Int32 × Int32) (fun K a => w_L_holds_B491 o g Q9 r_1 y_5 (fun z0 z1 => K (z0, z1)) a.1 a.2) n (y_18, y_19) → ∀ c_17 : Nat, c_17 + n * 18 ≤ 650 → V p l e rm_L_holds s m args below meth c QQ 12 (AU A) c_17 (6 * c_17) (WY D cA ad YT g) 491 [(0, .ref (ad o 0 1)), (2, .int y_5), (3, .int r_1), (6, .int y_18), (7, .int y_19)] [] := by
                  intro n
                  induction n with
                  | zero => intro y_18 y_19 h; exact h.elim
                  | succ n ih_21 =>
                    intro y_18 y_19 h c_17 hc_17
                    have h : w_L_holds_B491 o g Q9 r_1 y_5 (fun z0 z1 => itr (α := Int32 × Int32) (fun K a => w_L_holds_B491 o g Q9 r_1 y_5 (fun z0 z1 => K (z0, z1)) a.1 a.2) n (z0, z1)) y_18 y_19 := h
                    generalize hKe : (fun z0 z1 => itr (α := Int32 × Int32) (fun K a => w_L_holds_B491 o g Q9 r_1 y_5 (fun z0 z1 => K (z0, z1)) a.1 a.2) n (z0, z1)) = K_20 at h
                    have ih_21k : ∀ (y_18 : Int32) (y_19 : Int32), K_20 y_18 y_19 → ∀ c_17 : Nat, c_17 + n * 18 ≤ 650 → V p l e rm_L_holds s m args below meth c QQ 12 (AU A) c_17 (6 * c_17) (WY D cA ad YT g) 491 [(0, .ref (ad o 0 1)), (2, .int y_5), (3, .int r_1), (6, .int y_18), (7, .int y_19)] [] := fun y_18 y_19 h => ih_21 y_18 y_19 (by rw [← hKe] at h; exact h)
                    unfold w_L_holds_B491 at h
                    refine q_iload (j := 4) X dL_holds_491 rfl ?_
                    refine q_bipush (v := 6) X dL_holds_493 (by decide) ?_
                    have J670 : w_L_holds_J670 o g Q9 r_1 y_5 y_18  → V p l e rm_L_holds s m args below meth c QQ 12 (AU A) 650 (6 * 650) (WY D cA ad YT g) 670 [(0, .ref (ad o 0 1)), (2, .int y_5), (3, .int r_1), (6, .int y_18)] [] := by
                      intro  h
                      unfold w_L_holds_J670 at h
                      refine q_iload (j := 3) X dL_holds_670 rfl ?_
                      refine q_if_eq (tgt := 724) X dL_holds_672 (by decide) (fun c_22 => ?_) (fun c_22 => ?_)
                      · have h := h.1 c_22
                        refine q_iconst (v := 0) X dL_holds_724 (by decide) ?_
                        exact hE _ _ _ _ _ _ dL_holds_725 (by omega) (by omega) (Or.inl rfl) h
                      · have h := h.2 c_22
                        refine q_iload_n (j := 1) X dL_holds_675 rfl rfl ?_
                        refine q_aload_n (j := 0) X dL_holds_676 rfl rfl ?_
                        obtain ⟨k_24, h⟩ := h
                        refine qG_ask X hW hZ ha (fun _ h => h) YT_ok o (val := (v_dutyAtStake (g.1 o))) (Qp := (fun mo r m1 => r = (v_dutyAtStake (g.1 o)) ∧ mo = m1)) [] [.int y_5] rfl rfl (Nat.le_of_ble_eq_true rfl) dL_holds_677 ⟨(Nat.le_of_ble_eq_true rfl), (Nat.le_of_ble_eq_true rfl)⟩ k_24 (fun mo hmo => c_X9_dutyAtStake (ha.1 o)  mo _ (n_dutyAtStake hmo.rs hmo.inv  _ rfl)) (fun mo r m1 hr h => ⟨h.1, by rw [← h.2]; exact hr⟩) rfl rfl (gV kw_6_165 kw_6_166 kw_6_167 kw_1_1 kw_6_168) hy_X9_dutyAtStake ⟨(Nat.le_of_ble_eq_true rfl), (Nat.le_of_ble_eq_true rfl)⟩ ?_
                        refine q_topi (fun r_23 er_23 => ?_)
                        have h := h r_23 er_23
                        refine q_icmp_ne (tgt := 724) X dL_holds_680 (by decide) (fun c_25 => ?_) (fun c_25 => ?_)
                        · have h := h.1 c_25
                          refine q_iconst (v := 0) X dL_holds_724 (by decide) ?_
                          exact hE _ _ _ _ _ _ dL_holds_725 (by omega) (by omega) (Or.inl rfl) h
                        · have h := h.2 c_25
                          refine q_iload_n (j := 2) X dL_holds_683 rfl rfl ?_
                          have J692 : ∀ (y_26 : Int32), w_L_holds_J692 o g Q9 r_1 y_26 → V p l e rm_L_holds s m args below meth c QQ 12 (AU A) 650 (6 * 650) (WY D cA ad YT g) 692 [(0, .ref (ad o 0 1)), (3, .int r_1)] [.int y_26] := by
                            intro y_26 h
                            unfold w_L_holds_J692 at h
                            refine q_aload_n (j := 0) X dL_holds_692 rfl rfl ?_
                            obtain ⟨k_28, h⟩ := h
                            refine qG_ask X hW hZ ha (fun _ h => h) YT_ok o (val := (v_dearestEntry (g.1 o))) (Qp := (fun _ r m1 => r = (v_dearestEntry (g.1 o)) ∧ RelN g.2 m1 (g.1 o))) [] [.int y_26] rfl rfl (Nat.le_of_ble_eq_true rfl) dL_holds_693 ⟨(Nat.le_of_ble_eq_true rfl), (Nat.le_of_ble_eq_true rfl)⟩ k_28 (fun mo hmo => c_X9_dearestEntry (ha.1 o)  mo _ (n_dearestEntry hmo.rs hmo.inv  _ (fun z hz => ⟨rfl, hmo.scr hz⟩))) (fun _ _ _ _ h => h) rfl rfl (gV kw_6_202 kw_6_203 kw_6_204 kw_1_1 kw_6_205) hy_X9_dearestEntry ⟨(Nat.le_of_ble_eq_true rfl), (Nat.le_of_ble_eq_true rfl)⟩ ?_
                            refine q_topi (fun r_27 er_27 => ?_)
                            have h := h r_27 er_27
                            refine q_iconst (v := (-1)) X dL_holds_696 (by decide) ?_
                            have J705 : ∀ (y_29 : Int32), w_L_holds_J705 o g Q9 r_1 y_26 y_29 → V p l e rm_L_holds s m args below meth c QQ 12 (AU A) 650 (6 * 650) (WY D cA ad YT g) 705 [(0, .ref (ad o 0 1)), (3, .int r_1)] [.int y_29, .int y_26] := by
                              intro y_29 h
                              unfold w_L_holds_J705 at h
                              refine q_icmp_ne (tgt := 724) X dL_holds_705 (by decide) (fun c_30 => ?_) (fun c_30 => ?_)
                              · have h := h.1 c_30
                                refine q_iconst (v := 0) X dL_holds_724 (by decide) ?_
                                exact hE _ _ _ _ _ _ dL_holds_725 (by omega) (by omega) (Or.inl rfl) h
                              · have h := h.2 c_30
                                refine q_iload_n (j := 1) X dL_holds_708 rfl rfl ?_
                                refine q_if_gt (tgt := 720) X dL_holds_709 (by decide) (fun c_31 => ?_) (fun c_31 => ?_)
                                · have h := h.1 c_31
                                  refine q_iconst (v := 1) X dL_holds_720 (by decide) ?_
                                  refine q_goto (tgt := 725) X dL_holds_721 (by decide) ?_
                                  exact hE _ _ _ _ _ _ dL_holds_725 (by omega) (by omega) (Or.inr rfl) h
                                · have h := h.2 c_31
                                  refine q_aload_n (j := 0) X dL_holds_712 rfl rfl ?_
                                  obtain ⟨k_33, h⟩ := h
                                  refine qG_ask X hW hZ ha (fun _ h => h) YT_ok o (val := (v_nextOverdue (g.1 o))) (Qp := (fun mo r m1 => r = (v_nextOverdue (g.1 o)) ∧ mo = m1)) [] [] rfl rfl (Nat.le_of_ble_eq_true rfl) dL_holds_713 ⟨(Nat.le_of_ble_eq_true rfl), (Nat.le_of_ble_eq_true rfl)⟩ k_33 (fun mo hmo => c_X9_nextOverdue (ha.1 o)  mo _ (n_nextOverdue hmo.rs hmo.inv  _ rfl)) (fun mo r m1 hr h => ⟨h.1, by rw [← h.2]; exact hr⟩) rfl rfl (gV kw_6_210 kw_6_211 kw_6_212 kw_1_1 kw_6_213) hy_X9_nextOverdue ⟨(Nat.le_of_ble_eq_true rfl), (Nat.le_of_ble_eq_true rfl)⟩ ?_
                                  refine q_topi (fun r_32 er_32 => ?_)
                                  have h := h r_32 er_32
                                  refine q_iconst (v := (-1)) X dL_holds_716 (by decide) ?_
                                  refine q_icmp_ne (tgt := 724) X dL_holds_717 (by decide) (fun c_34 => ?_) (fun c_34 => ?_)
                                  · have h := h.1 c_34
                                    refine q_iconst (v := 0) X dL_holds_724 (by decide) ?_
                                    exact hE _ _ _ _ _ _ dL_holds_725 (by omega) (by omega) (Or.inl rfl) h
                                  · have h := h.2 c_34
                                    refine q_iconst (v := 1) X dL_holds_720 (by decide) ?_
                                    refine q_goto (tgt := 725) X dL_holds_721 (by decide) ?_
                                    exact hE _ _ _ _ _ _ dL_holds_725 (by omega) (by omega) (Or.inr rfl) h
                            refine q_icmp_ne (tgt := 704) X dL_holds_697 (by decide) (fun c_35 => ?_) (fun c_35 => ?_)
                            · have h := h.1 c_35
                              refine q_iconst (v := 0) X dL_holds_704 (by decide) ?_
                              refine q_sub [0, 1] rfl ?_
                              refine q_w (c2 := 650) (n2 := (6 * 650)) (by omega) (by omega) ?_
                              exact J705 0 h
                            · have h := h.2 c_35
                              refine q_iconst (v := 1) X dL_holds_700 (by decide) ?_
                              refine q_goto (tgt := 705) X dL_holds_701 (by decide) ?_
                              refine q_sub [0, 1] rfl ?_
                              refine q_w (c2 := 650) (n2 := (6 * 650)) (by omega) (by omega) ?_
                              exact J705 1 h
                          refine q_if_ne (tgt := 691) X dL_holds_684 (by decide) (fun c_36 => ?_) (fun c_36 => ?_)
                          · have h := h.1 c_36
                            refine q_iconst (v := 0) X dL_holds_691 (by decide) ?_
                            refine q_sub [0, 2] rfl ?_
                            refine q_w (c2 := 650) (n2 := (6 * 650)) (by omega) (by omega) ?_
                            exact J692 0 h
                          · have h := h.2 c_36
                            refine q_iconst (v := 1) X dL_holds_687 (by decide) ?_
                            refine q_goto (tgt := 692) X dL_holds_688 (by decide) ?_
                            refine q_sub [0, 2] rfl ?_
                            refine q_w (c2 := 650) (n2 := (6 * 650)) (by omega) (by omega) ?_
                            exact J692 1 h
                    refine q_icmp_ge (tgt := 670) X dL_holds_495 (by decide) (fun c_37 => ?_) (fun c_37 => ?_)
                    · have h := h.1 c_37
                      refine q_w (c2 := 650) (n2 := (6 * 650)) (by omega) (by omega) ?_
                      refine q_sub [0, 1, 2, 3] rfl ?_
                      refine q_w (c2 := 650) (n2 := (6 * 650)) (by omega) (by omega) ?_
                      exact J670  h
                    · have h := h.2 c_37
                      refine q_iload (j := 3) X dL_holds_498 rfl ?_
                      refine q_if_eq (tgt := 670) X dL_holds_500 (by decide) (fun c_38 => ?_) (fun c_38 => ?_)
                      · have h := h.1 c_38
                        refine q_w (c2 := 650) (n2 := (6 * 650)) (by omega) (by omega) ?_
                        refine q_sub [0, 1, 2, 3] rfl ?_
                        refine q_w (c2 := 650) (n2 := (6 * 650)) (by omega) (by omega) ?_
                        exact J670  h
                      · have h := h.2 c_38
                        refine q_aload_n (j := 0) X dL_holds_503 rfl rfl ?_
                        refine q_bipush (v := 39) X dL_holds_504 (by decide) ?_
                        refine q_iload (j := 4) X dL_holds_506 rfl ?_
                        refine q_iconst (v := 0) X dL_holds_508 (by decide) ?_
                        refine q_iconst (v := 0) X dL_holds_509 (by decide) ?_
                        obtain ⟨k_40, h⟩ := h
                        refine qG_own X hW hZ (fun _ h => h) YT_ok [.ref (ad o 0 1), .int 39, .int y_19, .int 0, .int 0] [] rfl rfl (Nat.le_of_ble_eq_true rfl) dL_holds_510 ⟨by show _ ≤ 650; omega, by show _ ≤ 3900; omega⟩ (k_C_39 ha hst o y_19 0 0 g k_40) rfl rfl (gS kw_3_88 kw_3_89 kw_1_0 kw_3_90) hy_L_call.2 ⟨(Nat.le_of_ble_eq_true rfl), (Nat.le_of_ble_eq_true rfl)⟩ (fun r_39 g9 hq => ?_)
                        obtain ⟨er_39, hq⟩ := hq
                        rw [hq]
                        have h := h r_39 er_39
                        refine q_istore (lv' := [(8, .int r_39), (0, .ref (ad o 0 1)), (2, .int y_5), (3, .int r_1), (6, .int y_18), (7, .int y_19)]) X dL_holds_513 (by decide) rfl ?_
                        refine q_aload_n (j := 1) X dL_holds_515 rfl rfl ?_
                        refine q_bipush (v := 49) X dL_holds_516 (by decide) ?_
                        refine q_iload (j := 5) X dL_holds_518 rfl ?_
                        refine q_iconst (v := 0) X dL_holds_520 (by decide) ?_
                        refine q_iconst (v := 0) X dL_holds_521 (by decide) ?_
                        obtain ⟨k_42, h⟩ := h
                        refine qG_own X hW hZ (fun _ h => h) YT_ok [.ref (ad o 0 1), .int 49, .int y_19, .int 0, .int 0] [] rfl rfl (Nat.le_of_ble_eq_true rfl) dL_holds_522 ⟨by show _ ≤ 650; omega, by show _ ≤ 3900; omega⟩ (k_C_49 ha hst o y_19 0 0 g k_42) rfl rfl (gS kw_3_88 kw_3_89 kw_1_0 kw_3_90) hy_L_call.2 ⟨(Nat.le_of_ble_eq_true rfl), (Nat.le_of_ble_eq_true rfl)⟩ (fun r_41 g9 hq => ?_)
                        obtain ⟨er_41, hq⟩ := hq
                        rw [hq]
                        have h := h r_41 er_41
                        refine q_istore (lv' := [(9, .int r_41), (8, .int r_39), (0, .ref (ad o 0 1)), (2, .int y_5), (3, .int r_1), (6, .int y_18), (7, .int y_19)]) X dL_holds_525 (by decide) rfl ?_
                        refine q_iload (j := 1) X dL_holds_527 rfl ?_
                        refine q_aload_n (j := 2) X dL_holds_529 rfl rfl ?_
                        refine q_bipush (v := 40) X dL_holds_530 (by decide) ?_
                        refine q_iload (j := 6) X dL_holds_532 rfl ?_
                        refine q_iconst (v := 0) X dL_holds_534 (by decide) ?_
                        refine q_iconst (v := 0) X dL_holds_535 (by decide) ?_
                        obtain ⟨k_44, h⟩ := h
                        refine qG_own X hW hZ (fun _ h => h) YT_ok [.ref (ad o 0 1), .int 40, .int y_19, .int 0, .int 0] [.int r_39] rfl rfl (Nat.le_of_ble_eq_true rfl) dL_holds_536 ⟨by show _ ≤ 650; omega, by show _ ≤ 3900; omega⟩ (k_C_40 ha hst o y_19 0 0 g k_44) rfl rfl (gS kw_3_88 kw_3_89 kw_1_0 kw_3_90) hy_L_call.2 ⟨(Nat.le_of_ble_eq_true rfl), (Nat.le_of_ble_eq_true rfl)⟩ (fun r_43 g9 hq => ?_)
                        obtain ⟨er_43, hq⟩ := hq
                        rw [hq]
                        have h := h r_43 er_43
                        refine q_icmp_ne (tgt := 661) X dL_holds_539 (by decide) (fun c_45 => ?_) (fun c_45 => ?_)
                        · have h := h.1 c_45
                          refine q_iconst (v := 0) X dL_holds_661 (by decide) ?_
                          refine q_istore (lv' := [(6, .int 0), (9, .int r_41), (8, .int r_39), (0, .ref (ad o 0 1)), (2, .int y_5), (3, .int r_1), (7, .int y_19)]) X dL_holds_662 (by decide) rfl ?_
                          obtain ⟨x_46, ex_46⟩ : ∃ z : Int32, z = y_19 + 1 := ⟨_, rfl⟩
                          have h := h x_46 ex_46
                          refine q_iinc (j := 6) (v := x_46) (lv' := [(7, .int x_46), (6, .int 0), (9, .int r_41), (8, .int r_39), (0, .ref (ad o 0 1)), (2, .int y_5), (3, .int r_1)]) X dL_holds_664 rfl (by rw [ex_46]; rfl) (by decide) rfl ?_
                          refine q_goto (tgt := 491) X dL_holds_667 (by decide) ?_
                          refine q_sub [4, 5, 6, 1, 0] rfl ?_
                          refine q_w (c2 := (c_17 + 18)) (n2 := (6 * (c_17 + 18))) (by omega) (by omega) ?_
                          exact ih_21k 0 x_46 h (c_17 + 18) (by omega)
                        · have h := h.2 c_45
                          refine q_iload (j := 0) X dL_holds_542 rfl ?_
                          refine q_iconst (v := (-1)) X dL_holds_544 (by decide) ?_
                          have J553 : ∀ (y_47 : Int32), w_L_holds_J553 o g y_19 r_39 r_41 K_20 y_47 → V p l e rm_L_holds s m args below meth c QQ 12 (AU A) (c_17 + 6) (6 * (c_17 + 6)) (WY D cA ad YT g) 553 [(0, .ref (ad o 0 1)), (2, .int y_5), (3, .int r_1), (7, .int y_19), (8, .int r_39), (9, .int r_41)] [.int y_47] := by
                            intro y_47 h
                            unfold w_L_holds_J553 at h
                            refine q_iload (j := 4) X dL_holds_553 rfl ?_
                            have J563 : ∀ (y_48 : Int32), w_L_holds_J563 o g y_19 r_39 r_41 y_47 K_20 y_48 → V p l e rm_L_holds s m args below meth c QQ 12 (AU A) (c_17 + 6) (6 * (c_17 + 6)) (WY D cA ad YT g) 563 [(0, .ref (ad o 0 1)), (2, .int y_5), (3, .int r_1), (7, .int y_19), (8, .int r_39), (9, .int r_41)] [.int y_48, .int y_47] := by
                              intro y_48 h
                              unfold w_L_holds_J563 at h
                              refine q_icmp_ne (tgt := 661) X dL_holds_563 (by decide) (fun c_49 => ?_) (fun c_49 => ?_)
                              · have h := h.1 c_49
                                refine q_iconst (v := 0) X dL_holds_661 (by decide) ?_
                                refine q_istore (lv' := [(6, .int 0), (0, .ref (ad o 0 1)), (2, .int y_5), (3, .int r_1), (7, .int y_19), (8, .int r_39), (9, .int r_41)]) X dL_holds_662 (by decide) rfl ?_
                                obtain ⟨x_50, ex_50⟩ : ∃ z : Int32, z = y_19 + 1 := ⟨_, rfl⟩
                                have h := h x_50 ex_50
                                refine q_iinc (j := 4) (v := x_50) (lv' := [(7, .int x_50), (6, .int 0), (0, .ref (ad o 0 1)), (2, .int y_5), (3, .int r_1), (8, .int r_39), (9, .int r_41)]) X dL_holds_664 rfl (by rw [ex_50]; rfl) (by decide) rfl ?_
                                refine q_goto (tgt := 491) X dL_holds_667 (by decide) ?_
                                refine q_sub [2, 3, 4, 1, 0] rfl ?_
                                refine q_w (c2 := (c_17 + 18)) (n2 := (6 * (c_17 + 18))) (by omega) (by omega) ?_
                                exact ih_21k 0 x_50 h (c_17 + 18) (by omega)
                              · have h := h.2 c_49
                                refine q_iload (j := 4) X dL_holds_566 rfl ?_
                                refine q_sipush (v := 9998) X dL_holds_568 (by decide) ?_
                                have J591 : w_L_holds_J591 o g y_19 r_39 r_41 K_20  → V p l e rm_L_holds s m args below meth c QQ 12 (AU A) (c_17 + 8) (6 * (c_17 + 8)) (WY D cA ad YT g) 591 [(0, .ref (ad o 0 1)), (2, .int y_5), (3, .int r_1), (7, .int y_19), (8, .int r_39), (9, .int r_41)] [] := by
                                  intro  h
                                  unfold w_L_holds_J591 at h
                                  refine q_iload (j := 4) X dL_holds_591 rfl ?_
                                  have J634 : w_L_holds_J634 o g y_19 K_20  → V p l e rm_L_holds s m args below meth c QQ 12 (AU A) (c_17 + 14) (6 * (c_17 + 14)) (WY D cA ad YT g) 634 [(0, .ref (ad o 0 1)), (2, .int y_5), (3, .int r_1), (7, .int y_19)] [] := by
                                    intro  h
                                    unfold w_L_holds_J634 at h
                                    refine q_aload_n (j := 0) X dL_holds_634 rfl rfl ?_
                                    refine q_bipush (v := 38) X dL_holds_635 (by decide) ?_
                                    refine q_iload (j := 3) X dL_holds_637 rfl ?_
                                    refine q_iconst (v := 0) X dL_holds_639 (by decide) ?_
                                    refine q_iconst (v := 0) X dL_holds_640 (by decide) ?_
                                    obtain ⟨k_52, h⟩ := h
                                    refine qG_own X hW hZ (fun _ h => h) YT_ok [.ref (ad o 0 1), .int 38, .int y_19, .int 0, .int 0] [] rfl rfl (Nat.le_of_ble_eq_true rfl) dL_holds_641 ⟨by show _ ≤ 650; omega, by show _ ≤ 3900; omega⟩ (k_C_38 ha hst o y_19 0 0 g k_52) rfl rfl (gS kw_3_88 kw_3_89 kw_1_0 kw_3_90) hy_L_call.2 ⟨(Nat.le_of_ble_eq_true rfl), (Nat.le_of_ble_eq_true rfl)⟩ (fun r_51 g9 hq => ?_)
                                    obtain ⟨er_51, hq⟩ := hq
                                    rw [hq]
                                    have h := h r_51 er_51
                                    refine q_aload_n (j := 0) X dL_holds_644 rfl rfl ?_
                                    refine q_bipush (v := 34) X dL_holds_645 (by decide) ?_
                                    refine q_iload (j := 3) X dL_holds_647 rfl ?_
                                    refine q_iconst (v := 0) X dL_holds_649 (by decide) ?_
                                    refine q_iconst (v := 0) X dL_holds_650 (by decide) ?_
                                    obtain ⟨k_54, h⟩ := h
                                    refine qG_own X hW hZ (fun _ h => h) YT_ok [.ref (ad o 0 1), .int 34, .int y_19, .int 0, .int 0] [.int r_51] rfl rfl (Nat.le_of_ble_eq_true rfl) dL_holds_651 ⟨by show _ ≤ 650; omega, by show _ ≤ 3900; omega⟩ (k_C_34 ha hst o y_19 0 0 g k_54) rfl rfl (gS kw_3_88 kw_3_89 kw_1_0 kw_3_90) hy_L_call.2 ⟨(Nat.le_of_ble_eq_true rfl), (Nat.le_of_ble_eq_true rfl)⟩ (fun r_53 g9 hq => ?_)
                                    obtain ⟨er_53, hq⟩ := hq
                                    rw [hq]
                                    have h := h r_53 er_53
                                    refine q_icmp_gt (tgt := 661) X dL_holds_654 (by decide) (fun c_55 => ?_) (fun c_55 => ?_)
                                    · have h := h.1 c_55
                                      refine q_iconst (v := 0) X dL_holds_661 (by decide) ?_
                                      refine q_istore (lv' := [(6, .int 0), (0, .ref (ad o 0 1)), (2, .int y_5), (3, .int r_1), (7, .int y_19)]) X dL_holds_662 (by decide) rfl ?_
                                      obtain ⟨x_56, ex_56⟩ : ∃ z : Int32, z = y_19 + 1 := ⟨_, rfl⟩
                                      have h := h x_56 ex_56
                                      refine q_iinc (j := 4) (v := x_56) (lv' := [(7, .int x_56), (6, .int 0), (0, .ref (ad o 0 1)), (2, .int y_5), (3, .int r_1)]) X dL_holds_664 rfl (by rw [ex_56]; rfl) (by decide) rfl ?_
                                      refine q_goto (tgt := 491) X dL_holds_667 (by decide) ?_
                                      refine q_sub [2, 3, 4, 1, 0] rfl ?_
                                      refine q_w (c2 := (c_17 + 18)) (n2 := (6 * (c_17 + 18))) (by omega) (by omega) ?_
                                      exact ih_21k 0 x_56 h (c_17 + 18) (by omega)
                                    · have h := h.2 c_55
                                      refine q_iconst (v := 1) X dL_holds_657 (by decide) ?_
                                      refine q_goto (tgt := 662) X dL_holds_658 (by decide) ?_
                                      refine q_istore (lv' := [(6, .int 1), (0, .ref (ad o 0 1)), (2, .int y_5), (3, .int r_1), (7, .int y_19)]) X dL_holds_662 (by decide) rfl ?_
                                      obtain ⟨x_57, ex_57⟩ : ∃ z : Int32, z = y_19 + 1 := ⟨_, rfl⟩
                                      have h := h x_57 ex_57
                                      refine q_iinc (j := 4) (v := x_57) (lv' := [(7, .int x_57), (6, .int 1), (0, .ref (ad o 0 1)), (2, .int y_5), (3, .int r_1)]) X dL_holds_664 rfl (by rw [ex_57]; rfl) (by decide) rfl ?_
                                      refine q_goto (tgt := 491) X dL_holds_667 (by decide) ?_
                                      refine q_sub [2, 3, 4, 1, 0] rfl ?_
                                      refine q_w (c2 := (c_17 + 18)) (n2 := (6 * (c_17 + 18))) (by omega) (by omega) ?_
                                      exact ih_21k 1 x_57 h (c_17 + 18) (by omega)
                                  refine q_if_eq (tgt := 634) X dL_holds_593 (by decide) (fun c_58 => ?_) (fun c_58 => ?_)
                                  · have h := h.1 c_58
                                    refine q_sub [0, 1, 2, 3] rfl ?_
                                    refine q_w (c2 := (c_17 + 14)) (n2 := (6 * (c_17 + 14))) (by omega) (by omega) ?_
                                    exact J634  h
                                  · have h := h.2 c_58
                                    refine q_aload_n (j := 0) X dL_holds_596 rfl rfl ?_
                                    refine q_bipush (v := 16) X dL_holds_597 (by decide) ?_
                                    refine q_iload (j := 5) X dL_holds_599 rfl ?_
                                    refine q_iconst (v := 0) X dL_holds_601 (by decide) ?_
                                    refine q_iconst (v := 0) X dL_holds_602 (by decide) ?_
                                    obtain ⟨k_60, h⟩ := h
                                    refine qG_own X hW hZ (fun _ h => h) YT_ok [.ref (ad o 0 1), .int 16, .int r_41, .int 0, .int 0] [] rfl rfl (Nat.le_of_ble_eq_true rfl) dL_holds_603 ⟨by show _ ≤ 650; omega, by show _ ≤ 3900; omega⟩ (k_C_16 ha hst o r_41 0 0 g k_60) rfl rfl (gS kw_3_88 kw_3_89 kw_1_0 kw_3_90) hy_L_call.2 ⟨(Nat.le_of_ble_eq_true rfl), (Nat.le_of_ble_eq_true rfl)⟩ (fun r_59 g9 hq => ?_)
                                    obtain ⟨er_59, hq⟩ := hq
                                    rw [hq]
                                    have h := h r_59 er_59
                                    refine q_iload (j := 3) X dL_holds_606 rfl ?_
                                    refine q_icmp_ne (tgt := 661) X dL_holds_608 (by decide) (fun c_61 => ?_) (fun c_61 => ?_)
                                    · have h := h.1 c_61
                                      refine q_iconst (v := 0) X dL_holds_661 (by decide) ?_
                                      refine q_istore (lv' := [(6, .int 0), (0, .ref (ad o 0 1)), (2, .int y_5), (3, .int r_1), (7, .int y_19), (8, .int r_39), (9, .int r_41)]) X dL_holds_662 (by decide) rfl ?_
                                      obtain ⟨x_62, ex_62⟩ : ∃ z : Int32, z = y_19 + 1 := ⟨_, rfl⟩
                                      have h := h x_62 ex_62
                                      refine q_iinc (j := 4) (v := x_62) (lv' := [(7, .int x_62), (6, .int 0), (0, .ref (ad o 0 1)), (2, .int y_5), (3, .int r_1), (8, .int r_39), (9, .int r_41)]) X dL_holds_664 rfl (by rw [ex_62]; rfl) (by decide) rfl ?_
                                      refine q_goto (tgt := 491) X dL_holds_667 (by decide) ?_
                                      refine q_sub [2, 3, 4, 1, 0] rfl ?_
                                      refine q_w (c2 := (c_17 + 18)) (n2 := (6 * (c_17 + 18))) (by omega) (by omega) ?_
                                      exact ih_21k 0 x_62 h (c_17 + 18) (by omega)
                                    · have h := h.2 c_61
                                      refine q_aload_n (j := 0) X dL_holds_611 rfl rfl ?_
                                      refine q_bipush (v := 50) X dL_holds_612 (by decide) ?_
                                      refine q_iload (j := 3) X dL_holds_614 rfl ?_
                                      refine q_iconst (v := 1) X dL_holds_616 (by decide) ?_
                                      refine q_iconst (v := 0) X dL_holds_617 (by decide) ?_
                                      obtain ⟨k_64, h⟩ := h
                                      refine qG_own X hW hZ (fun _ h => h) YT_ok [.ref (ad o 0 1), .int 50, .int y_19, .int 1, .int 0] [] rfl rfl (Nat.le_of_ble_eq_true rfl) dL_holds_618 ⟨by show _ ≤ 650; omega, by show _ ≤ 3900; omega⟩ (k_C_50 ha hst o y_19 1 0 g k_64) rfl rfl (gS kw_3_88 kw_3_89 kw_1_0 kw_3_90) hy_L_call.2 ⟨(Nat.le_of_ble_eq_true rfl), (Nat.le_of_ble_eq_true rfl)⟩ (fun r_63 g9 hq => ?_)
                                      obtain ⟨er_63, hq⟩ := hq
                                      rw [hq]
                                      have h := h r_63 er_63
                                      refine q_aload_n (j := 0) X dL_holds_621 rfl rfl ?_
                                      refine q_bipush (v := 21) X dL_holds_622 (by decide) ?_
                                      refine q_iload (j := 5) X dL_holds_624 rfl ?_
                                      refine q_iconst (v := 1) X dL_holds_626 (by decide) ?_
                                      refine q_iconst (v := 0) X dL_holds_627 (by decide) ?_
                                      obtain ⟨k_66, h⟩ := h
                                      refine qG_own X hW hZ (fun _ h => h) YT_ok [.ref (ad o 0 1), .int 21, .int r_41, .int 1, .int 0] [.int r_63] rfl rfl (Nat.le_of_ble_eq_true rfl) dL_holds_628 ⟨by show _ ≤ 650; omega, by show _ ≤ 3900; omega⟩ (k_C_21 ha hst o r_41 1 0 g k_66) rfl rfl (gS kw_3_88 kw_3_89 kw_1_0 kw_3_90) hy_L_call.2 ⟨(Nat.le_of_ble_eq_true rfl), (Nat.le_of_ble_eq_true rfl)⟩ (fun r_65 g9 hq => ?_)
                                      obtain ⟨er_65, hq⟩ := hq
                                      rw [hq]
                                      have h := h r_65 er_65
                                      refine q_icmp_ne (tgt := 661) X dL_holds_631 (by decide) (fun c_67 => ?_) (fun c_67 => ?_)
                                      · have h := h.1 c_67
                                        refine q_iconst (v := 0) X dL_holds_661 (by decide) ?_
                                        refine q_istore (lv' := [(6, .int 0), (0, .ref (ad o 0 1)), (2, .int y_5), (3, .int r_1), (7, .int y_19), (8, .int r_39), (9, .int r_41)]) X dL_holds_662 (by decide) rfl ?_
                                        obtain ⟨x_68, ex_68⟩ : ∃ z : Int32, z = y_19 + 1 := ⟨_, rfl⟩
                                        have h := h x_68 ex_68
                                        refine q_iinc (j := 4) (v := x_68) (lv' := [(7, .int x_68), (6, .int 0), (0, .ref (ad o 0 1)), (2, .int y_5), (3, .int r_1), (8, .int r_39), (9, .int r_41)]) X dL_holds_664 rfl (by rw [ex_68]; rfl) (by decide) rfl ?_
                                        refine q_goto (tgt := 491) X dL_holds_667 (by decide) ?_
                                        refine q_sub [2, 3, 4, 1, 0] rfl ?_
                                        refine q_w (c2 := (c_17 + 18)) (n2 := (6 * (c_17 + 18))) (by omega) (by omega) ?_
                                        exact ih_21k 0 x_68 h (c_17 + 18) (by omega)
                                      · have h := h.2 c_67
                                        refine q_sub [0, 1, 2, 3] rfl ?_
                                        refine q_w (c2 := (c_17 + 14)) (n2 := (6 * (c_17 + 14))) (by omega) (by omega) ?_
                                        exact J634  h
                                refine q_icmp_gt (tgt := 591) X dL_holds_571 (by decide) (fun c_69 => ?_) (fun c_69 => ?_)
                                · have h := h.1 c_69
                                  refine q_sub [0, 1, 2, 3, 4, 5] rfl ?_
                                  refine q_w (c2 := (c_17 + 8)) (n2 := (6 * (c_17 + 8))) (by omega) (by omega) ?_
                                  exact J591  h
                                · have h := h.2 c_69
                                  refine q_aload_n (j := 0) X dL_holds_574 rfl rfl ?_
                                  refine q_bipush (v := 50) X dL_holds_575 (by decide) ?_
                                  refine q_iload (j := 3) X dL_holds_577 rfl ?_
                                  refine q_iload (j := 4) X dL_holds_579 rfl ?_
                                  refine q_iconst (v := 1) X dL_holds_581 (by decide) ?_
                                  refine q_iadd X dL_holds_582 ?_
                                  refine q_iconst (v := 0) X dL_holds_583 (by decide) ?_
                                  obtain ⟨k_71, h⟩ := h
                                  refine qG_own X hW hZ (fun _ h => h) YT_ok [.ref (ad o 0 1), .int 50, .int y_19, .int (r_39 + 1), .int 0] [] rfl rfl (Nat.le_of_ble_eq_true rfl) dL_holds_584 ⟨by show _ ≤ 650; omega, by show _ ≤ 3900; omega⟩ (k_C_50 ha hst o y_19 (r_39 + 1) 0 g k_71) rfl rfl (gS kw_3_88 kw_3_89 kw_1_0 kw_3_90) hy_L_call.2 ⟨(Nat.le_of_ble_eq_true rfl), (Nat.le_of_ble_eq_true rfl)⟩ (fun r_70 g9 hq => ?_)
                                  obtain ⟨er_70, hq⟩ := hq
                                  rw [hq]
                                  have h := h r_70 er_70
                                  refine q_iconst (v := (-1)) X dL_holds_587 (by decide) ?_
                                  refine q_icmp_ne (tgt := 661) X dL_holds_588 (by decide) (fun c_72 => ?_) (fun c_72 => ?_)
                                  · have h := h.1 c_72
                                    refine q_iconst (v := 0) X dL_holds_661 (by decide) ?_
                                    refine q_istore (lv' := [(6, .int 0), (0, .ref (ad o 0 1)), (2, .int y_5), (3, .int r_1), (7, .int y_19), (8, .int r_39), (9, .int r_41)]) X dL_holds_662 (by decide) rfl ?_
                                    obtain ⟨x_73, ex_73⟩ : ∃ z : Int32, z = y_19 + 1 := ⟨_, rfl⟩
                                    have h := h x_73 ex_73
                                    refine q_iinc (j := 4) (v := x_73) (lv' := [(7, .int x_73), (6, .int 0), (0, .ref (ad o 0 1)), (2, .int y_5), (3, .int r_1), (8, .int r_39), (9, .int r_41)]) X dL_holds_664 rfl (by rw [ex_73]; rfl) (by decide) rfl ?_
                                    refine q_goto (tgt := 491) X dL_holds_667 (by decide) ?_
                                    refine q_sub [2, 3, 4, 1, 0] rfl ?_
                                    refine q_w (c2 := (c_17 + 18)) (n2 := (6 * (c_17 + 18))) (by omega) (by omega) ?_
                                    exact ih_21k 0 x_73 h (c_17 + 18) (by omega)
                                  · have h := h.2 c_72
                                    refine q_sub [0, 1, 2, 3, 4, 5] rfl ?_
                                    refine q_w (c2 := (c_17 + 8)) (n2 := (6 * (c_17 + 8))) (by omega) (by omega) ?_
                                    exact J591  h
                            refine q_if_ne (tgt := 562) X dL_holds_555 (by decide) (fun c_74 => ?_) (fun c_74 => ?_)
                            · have h := h.1 c_74
                              refine q_iconst (v := 0) X dL_holds_562 (by decide) ?_
                              refine q_sub [0, 1, 2, 3, 4, 5] rfl ?_
                              refine q_w (c2 := (c_17 + 6)) (n2 := (6 * (c_17 + 6))) (by omega) (by omega) ?_
                              exact J563 0 h
                            · have h := h.2 c_74
                              refine q_iconst (v := 1) X dL_holds_558 (by decide) ?_
                              refine q_goto (tgt := 563) X dL_holds_559 (by decide) ?_
                              refine q_sub [0, 1, 2, 3, 4, 5] rfl ?_
                              refine q_w (c2 := (c_17 + 6)) (n2 := (6 * (c_17 + 6))) (by omega) (by omega) ?_
                              exact J563 1 h
                          refine q_icmp_ne (tgt := 552) X dL_holds_545 (by decide) (fun c_75 => ?_) (fun c_75 => ?_)
                          · have h := h.1 c_75
                            refine q_iconst (v := 0) X dL_holds_552 (by decide) ?_
                            refine q_sub [2, 3, 4, 6, 1, 0] rfl ?_
                            refine q_w (c2 := (c_17 + 6)) (n2 := (6 * (c_17 + 6))) (by omega) (by omega) ?_
                            exact J553 0 h
                          · have h := h.2 c_75
                            refine q_iconst (v := 1) X dL_holds_548 (by decide) ?_
                            refine q_goto (tgt := 553) X dL_holds_549 (by decide) ?_
                            refine q_sub [2, 3, 4, 6, 1, 0] rfl ?_
                            refine q_w (c2 := (c_17 + 6)) (n2 := (6 * (c_17 + 6))) (by omega) (by omega) ?_
                            exact J553 1 h
                refine q_w (c2 := 524) (n2 := (6 * 524)) (by omega) (by omega) ?_
                exact L491 7 y_13 0 h 524 (by omega)
              refine q_icmp_ge (tgt := 488) X dL_holds_400 (by decide) (fun c_76 => ?_) (fun c_76 => ?_)
              · have h := h.1 c_76
                refine q_w (c2 := 524) (n2 := (6 * 524)) (by omega) (by omega) ?_
                refine q_sub [0, 1, 2, 3] rfl ?_
                refine q_w (c2 := 524) (n2 := (6 * 524)) (by omega) (by omega) ?_
                exact J488  h
              · have h := h.2 c_76
                refine q_iload (j := 3) X dL_holds_403 rfl ?_
                refine q_if_eq (tgt := 488) X dL_holds_405 (by decide) (fun c_77 => ?_) (fun c_77 => ?_)
                · have h := h.1 c_77
                  refine q_w (c2 := 524) (n2 := (6 * 524)) (by omega) (by omega) ?_
                  refine q_sub [0, 1, 2, 3] rfl ?_
                  refine q_w (c2 := 524) (n2 := (6 * 524)) (by omega) (by omega) ?_
                  exact J488  h
                · have h := h.2 c_77
                  refine q_aload_n (j := 0) X dL_holds_408 rfl rfl ?_
                  refine q_iload (j := 4) X dL_holds_409 rfl ?_
                  obtain ⟨k_79, h⟩ := h
                  refine qG_ownW X hW hZ (fun _ h => h) YT_ok [.ref (ad o 0 1), .int y_14] [] rfl rfl (Nat.le_of_ble_eq_true rfl) dL_holds_411 ⟨by show _ ≤ 650; omega, by show _ ≤ 3900; omega⟩ (k_L_isLocked ha hst o y_14 g k_79) rfl rfl (gSW kw_6_141 kw_6_142 kw_1_0 kw_6_143) hy_L_isLocked.2 ⟨(Nat.le_of_ble_eq_true rfl), (Nat.le_of_ble_eq_true rfl)⟩ (fun r_78 g9 hq => ?_)
                  obtain ⟨er_78, hq⟩ := hq
                  rw [hq]
                  have h := h r_78 er_78
                  refine q_iconst (v := 1) X dL_holds_414 (by decide) ?_
                  have J423 : ∀ (y_80 : Int32), w_L_holds_J423 o g y_14 K_15 y_80 → V p l e rm_L_holds s m args below meth c QQ 12 (AU A) (c_12 + 2) (6 * (c_12 + 2)) (WY D cA ad YT g) 423 [(0, .ref (ad o 0 1)), (2, .int y_5), (3, .int r_1), (7, .int y_14)] [.int y_80] := by
                    intro y_80 h
                    unfold w_L_holds_J423 at h
                    refine q_istore (lv' := [(8, .int y_80), (0, .ref (ad o 0 1)), (2, .int y_5), (3, .int r_1), (7, .int y_14)]) X dL_holds_423 (by decide) rfl ?_
                    refine q_aload_n (j := 1) X dL_holds_425 rfl rfl ?_
                    refine q_bipush (v := 26) X dL_holds_426 (by decide) ?_
                    refine q_iload (j := 4) X dL_holds_428 rfl ?_
                    refine q_iconst (v := 0) X dL_holds_430 (by decide) ?_
                    refine q_iconst (v := 0) X dL_holds_431 (by decide) ?_
                    obtain ⟨k_82, h⟩ := h
                    refine qG_own X hW hZ (fun _ h => h) YT_ok [.ref (ad o 0 1), .int 26, .int y_14, .int 0, .int 0] [] rfl rfl (Nat.le_of_ble_eq_true rfl) dL_holds_432 ⟨by show _ ≤ 650; omega, by show _ ≤ 3900; omega⟩ (k_C_26 ha hst o y_14 0 0 g k_82) rfl rfl (gS kw_3_88 kw_3_89 kw_1_0 kw_3_90) hy_L_call.2 ⟨(Nat.le_of_ble_eq_true rfl), (Nat.le_of_ble_eq_true rfl)⟩ (fun r_81 g9 hq => ?_)
                    obtain ⟨er_81, hq⟩ := hq
                    rw [hq]
                    have h := h r_81 er_81
                    refine q_if_lt (tgt := 479) X dL_holds_435 (by decide) (fun c_83 => ?_) (fun c_83 => ?_)
                    · have h := h.1 c_83
                      refine q_iconst (v := 0) X dL_holds_479 (by decide) ?_
                      refine q_istore (lv' := [(6, .int 0), (8, .int y_80), (0, .ref (ad o 0 1)), (2, .int y_5), (3, .int r_1), (7, .int y_14)]) X dL_holds_480 (by decide) rfl ?_
                      obtain ⟨x_84, ex_84⟩ : ∃ z : Int32, z = y_14 + 1 := ⟨_, rfl⟩
                      have h := h x_84 ex_84
                      refine q_iinc (j := 5) (v := x_84) (lv' := [(7, .int x_84), (6, .int 0), (8, .int y_80), (0, .ref (ad o 0 1)), (2, .int y_5), (3, .int r_1)]) X dL_holds_482 rfl (by rw [ex_84]; rfl) (by decide) rfl ?_
                      refine q_goto (tgt := 397) X dL_holds_485 (by decide) ?_
                      refine q_sub [3, 4, 5, 1, 0] rfl ?_
                      refine q_w (c2 := (c_12 + 8)) (n2 := (6 * (c_12 + 8))) (by omega) (by omega) ?_
                      exact ih_16k 0 x_84 h (c_12 + 8) (by omega)
                    · have h := h.2 c_83
                      refine q_iload (j := 0) X dL_holds_438 rfl ?_
                      refine q_aload_n (j := 1) X dL_holds_440 rfl rfl ?_
                      refine q_bipush (v := 24) X dL_holds_441 (by decide) ?_
                      refine q_iload (j := 4) X dL_holds_443 rfl ?_
                      refine q_iconst (v := 0) X dL_holds_445 (by decide) ?_
                      refine q_iconst (v := 0) X dL_holds_446 (by decide) ?_
                      obtain ⟨k_86, h⟩ := h
                      refine qG_own X hW hZ (fun _ h => h) YT_ok [.ref (ad o 0 1), .int 24, .int y_14, .int 0, .int 0] [.int y_80] rfl rfl (Nat.le_of_ble_eq_true rfl) dL_holds_447 ⟨by show _ ≤ 650; omega, by show _ ≤ 3900; omega⟩ (k_C_24 ha hst o y_14 0 0 g k_86) rfl rfl (gS kw_3_88 kw_3_89 kw_1_0 kw_3_90) hy_L_call.2 ⟨(Nat.le_of_ble_eq_true rfl), (Nat.le_of_ble_eq_true rfl)⟩ (fun r_85 g9 hq => ?_)
                      obtain ⟨er_85, hq⟩ := hq
                      rw [hq]
                      have h := h r_85 er_85
                      have J458 : ∀ (y_87 : Int32), w_L_holds_J458 o g y_14 y_80 K_15 y_87 → V p l e rm_L_holds s m args below meth c QQ 12 (AU A) (c_12 + 6) (6 * (c_12 + 6)) (WY D cA ad YT g) 458 [(0, .ref (ad o 0 1)), (2, .int y_5), (3, .int r_1), (7, .int y_14), (8, .int y_80)] [.int y_87, .int y_80] := by
                        intro y_87 h
                        unfold w_L_holds_J458 at h
                        refine q_icmp_ne (tgt := 479) X dL_holds_458 (by decide) (fun c_88 => ?_) (fun c_88 => ?_)
                        · have h := h.1 c_88
                          refine q_iconst (v := 0) X dL_holds_479 (by decide) ?_
                          refine q_istore (lv' := [(6, .int 0), (0, .ref (ad o 0 1)), (2, .int y_5), (3, .int r_1), (7, .int y_14), (8, .int y_80)]) X dL_holds_480 (by decide) rfl ?_
                          obtain ⟨x_89, ex_89⟩ : ∃ z : Int32, z = y_14 + 1 := ⟨_, rfl⟩
                          have h := h x_89 ex_89
                          refine q_iinc (j := 4) (v := x_89) (lv' := [(7, .int x_89), (6, .int 0), (0, .ref (ad o 0 1)), (2, .int y_5), (3, .int r_1), (8, .int y_80)]) X dL_holds_482 rfl (by rw [ex_89]; rfl) (by decide) rfl ?_
                          refine q_goto (tgt := 397) X dL_holds_485 (by decide) ?_
                          refine q_sub [2, 3, 4, 1, 0] rfl ?_
                          refine q_w (c2 := (c_12 + 8)) (n2 := (6 * (c_12 + 8))) (by omega) (by omega) ?_
                          exact ih_16k 0 x_89 h (c_12 + 8) (by omega)
                        · have h := h.2 c_88
                          refine q_iload (j := 4) X dL_holds_461 rfl ?_
                          refine q_if_ne (tgt := 475) X dL_holds_463 (by decide) (fun c_90 => ?_) (fun c_90 => ?_)
                          · have h := h.1 c_90
                            refine q_iconst (v := 1) X dL_holds_475 (by decide) ?_
                            refine q_goto (tgt := 480) X dL_holds_476 (by decide) ?_
                            refine q_istore (lv' := [(6, .int 1), (0, .ref (ad o 0 1)), (2, .int y_5), (3, .int r_1), (7, .int y_14), (8, .int y_80)]) X dL_holds_480 (by decide) rfl ?_
                            obtain ⟨x_91, ex_91⟩ : ∃ z : Int32, z = y_14 + 1 := ⟨_, rfl⟩
                            have h := h x_91 ex_91
                            refine q_iinc (j := 4) (v := x_91) (lv' := [(7, .int x_91), (6, .int 1), (0, .ref (ad o 0 1)), (2, .int y_5), (3, .int r_1), (8, .int y_80)]) X dL_holds_482 rfl (by rw [ex_91]; rfl) (by decide) rfl ?_
                            refine q_goto (tgt := 397) X dL_holds_485 (by decide) ?_
                            refine q_sub [2, 3, 4, 1, 0] rfl ?_
                            refine q_w (c2 := (c_12 + 8)) (n2 := (6 * (c_12 + 8))) (by omega) (by omega) ?_
                            exact ih_16k 1 x_91 h (c_12 + 8) (by omega)
                          · have h := h.2 c_90
                            refine q_aload_n (j := 0) X dL_holds_466 rfl rfl ?_
                            refine q_iload (j := 3) X dL_holds_467 rfl ?_
                            obtain ⟨k_93, h⟩ := h
                            refine qG_ownW X hW hZ (fun _ h => h) YT_ok [.ref (ad o 0 1), .int y_14] [] rfl rfl (Nat.le_of_ble_eq_true rfl) dL_holds_469 ⟨by show _ ≤ 650; omega, by show _ ≤ 3900; omega⟩ (k_L_isBroken ha hst o y_14 g k_93) rfl rfl (gSW kw_6_158 kw_6_159 kw_1_0 kw_6_160) hy_L_isBroken.2 ⟨(Nat.le_of_ble_eq_true rfl), (Nat.le_of_ble_eq_true rfl)⟩ (fun r_92 g9 hq => ?_)
                            obtain ⟨er_92, hq⟩ := hq
                            rw [hq]
                            have h := h r_92 er_92
                            refine q_if_ne (tgt := 479) X dL_holds_472 (by decide) (fun c_94 => ?_) (fun c_94 => ?_)
                            · have h := h.1 c_94
                              refine q_iconst (v := 0) X dL_holds_479 (by decide) ?_
                              refine q_istore (lv' := [(6, .int 0), (0, .ref (ad o 0 1)), (2, .int y_5), (3, .int r_1), (7, .int y_14), (8, .int y_80)]) X dL_holds_480 (by decide) rfl ?_
                              obtain ⟨x_95, ex_95⟩ : ∃ z : Int32, z = y_14 + 1 := ⟨_, rfl⟩
                              have h := h x_95 ex_95
                              refine q_iinc (j := 4) (v := x_95) (lv' := [(7, .int x_95), (6, .int 0), (0, .ref (ad o 0 1)), (2, .int y_5), (3, .int r_1), (8, .int y_80)]) X dL_holds_482 rfl (by rw [ex_95]; rfl) (by decide) rfl ?_
                              refine q_goto (tgt := 397) X dL_holds_485 (by decide) ?_
                              refine q_sub [2, 3, 4, 1, 0] rfl ?_
                              refine q_w (c2 := (c_12 + 8)) (n2 := (6 * (c_12 + 8))) (by omega) (by omega) ?_
                              exact ih_16k 0 x_95 h (c_12 + 8) (by omega)
                            · have h := h.2 c_94
                              refine q_iconst (v := 1) X dL_holds_475 (by decide) ?_
                              refine q_goto (tgt := 480) X dL_holds_476 (by decide) ?_
                              refine q_istore (lv' := [(6, .int 1), (0, .ref (ad o 0 1)), (2, .int y_5), (3, .int r_1), (7, .int y_14), (8, .int y_80)]) X dL_holds_480 (by decide) rfl ?_
                              obtain ⟨x_96, ex_96⟩ : ∃ z : Int32, z = y_14 + 1 := ⟨_, rfl⟩
                              have h := h x_96 ex_96
                              refine q_iinc (j := 4) (v := x_96) (lv' := [(7, .int x_96), (6, .int 1), (0, .ref (ad o 0 1)), (2, .int y_5), (3, .int r_1), (8, .int y_80)]) X dL_holds_482 rfl (by rw [ex_96]; rfl) (by decide) rfl ?_
                              refine q_goto (tgt := 397) X dL_holds_485 (by decide) ?_
                              refine q_sub [2, 3, 4, 1, 0] rfl ?_
                              refine q_w (c2 := (c_12 + 8)) (n2 := (6 * (c_12 + 8))) (by omega) (by omega) ?_
                              exact ih_16k 1 x_96 h (c_12 + 8) (by omega)
                      refine q_if_le (tgt := 457) X dL_holds_450 (by decide) (fun c_97 => ?_) (fun c_97 => ?_)
                      · have h := h.1 c_97
                        refine q_iconst (v := 0) X dL_holds_457 (by decide) ?_
                        refine q_sub [1, 2, 3, 4, 0] rfl ?_
                        refine q_w (c2 := (c_12 + 6)) (n2 := (6 * (c_12 + 6))) (by omega) (by omega) ?_
                        exact J458 0 h
                      · have h := h.2 c_97
                        refine q_iconst (v := 1) X dL_holds_453 (by decide) ?_
                        refine q_goto (tgt := 458) X dL_holds_454 (by decide) ?_
                        refine q_sub [1, 2, 3, 4, 0] rfl ?_
                        refine q_w (c2 := (c_12 + 6)) (n2 := (6 * (c_12 + 6))) (by omega) (by omega) ?_
                        exact J458 1 h
                  refine q_icmp_ne (tgt := 422) X dL_holds_415 (by decide) (fun c_98 => ?_) (fun c_98 => ?_)
                  · have h := h.1 c_98
                    refine q_iconst (v := 0) X dL_holds_422 (by decide) ?_
                    refine q_sub [0, 1, 2, 4] rfl ?_
                    refine q_w (c2 := (c_12 + 2)) (n2 := (6 * (c_12 + 2))) (by omega) (by omega) ?_
                    exact J423 0 h
                  · have h := h.2 c_98
                    refine q_iconst (v := 1) X dL_holds_418 (by decide) ?_
                    refine q_goto (tgt := 423) X dL_holds_419 (by decide) ?_
                    refine q_sub [0, 1, 2, 4] rfl ?_
                    refine q_w (c2 := (c_12 + 2)) (n2 := (6 * (c_12 + 2))) (by omega) (by omega) ?_
                    exact J423 1 h
          refine q_w (c2 := 476) (n2 := (6 * 476)) (by omega) (by omega) ?_
          exact L397 6 y_8 0 h 476 (by omega)
        refine q_icmp_ge (tgt := 394) X dL_holds_105 (by decide) (fun c_99 => ?_) (fun c_99 => ?_)
        · have h := h.1 c_99
          refine q_w (c2 := 476) (n2 := (6 * 476)) (by omega) (by omega) ?_
          refine q_sub [0, 2, 3, 6] rfl ?_
          refine q_w (c2 := 476) (n2 := (6 * 476)) (by omega) (by omega) ?_
          exact J394  h
        · have h := h.2 c_99
          refine q_iload (j := 6) X dL_holds_108 rfl ?_
          refine q_if_eq (tgt := 394) X dL_holds_110 (by decide) (fun c_100 => ?_) (fun c_100 => ?_)
          · have h := h.1 c_100
            refine q_w (c2 := 476) (n2 := (6 * 476)) (by omega) (by omega) ?_
            refine q_sub [0, 2, 3, 6] rfl ?_
            refine q_w (c2 := 476) (n2 := (6 * 476)) (by omega) (by omega) ?_
            exact J394  h
          · have h := h.2 c_100
            refine q_aload_n (j := 0) X dL_holds_113 rfl rfl ?_
            refine q_bipush (v := 15) X dL_holds_114 (by decide) ?_
            refine q_iload (j := 7) X dL_holds_116 rfl ?_
            refine q_iconst (v := 0) X dL_holds_118 (by decide) ?_
            refine q_iconst (v := 0) X dL_holds_119 (by decide) ?_
            obtain ⟨k_102, h⟩ := h
            refine qG_own X hW hZ (fun _ h => h) YT_ok [.ref (ad o 0 1), .int 15, .int y_9, .int 0, .int 0] [] rfl rfl (Nat.le_of_ble_eq_true rfl) dL_holds_120 ⟨by show _ ≤ 650; omega, by show _ ≤ 3900; omega⟩ (k_C_15 ha hst o y_9 0 0 g k_102) rfl rfl (gS kw_3_88 kw_3_89 kw_1_0 kw_3_90) hy_L_call.2 ⟨(Nat.le_of_ble_eq_true rfl), (Nat.le_of_ble_eq_true rfl)⟩ (fun r_101 g9 hq => ?_)
            obtain ⟨er_101, hq⟩ := hq
            rw [hq]
            have h := h r_101 er_101
            refine q_istore (lv' := [(8, .int r_101), (0, .ref (ad o 0 1)), (1, .int p1), (2, .int y_5), (3, .int r_1), (4, .int y_6), (5, .int y_7), (6, .int y_8), (7, .int y_9)]) X dL_holds_123 (by decide) rfl ?_
            refine q_aload_n (j := 1) X dL_holds_125 rfl rfl ?_
            refine q_bipush (v := 17) X dL_holds_126 (by decide) ?_
            refine q_iload (j := 0) X dL_holds_128 rfl ?_
            refine q_iconst (v := 0) X dL_holds_130 (by decide) ?_
            refine q_iconst (v := 0) X dL_holds_131 (by decide) ?_
            obtain ⟨k_104, h⟩ := h
            refine qG_own X hW hZ (fun _ h => h) YT_ok [.ref (ad o 0 1), .int 17, .int r_101, .int 0, .int 0] [] rfl rfl (Nat.le_of_ble_eq_true rfl) dL_holds_132 ⟨by show _ ≤ 650; omega, by show _ ≤ 3900; omega⟩ (k_C_17 ha hst o r_101 0 0 g k_104) rfl rfl (gS kw_3_88 kw_3_89 kw_1_0 kw_3_90) hy_L_call.2 ⟨(Nat.le_of_ble_eq_true rfl), (Nat.le_of_ble_eq_true rfl)⟩ (fun r_103 g9 hq => ?_)
            obtain ⟨er_103, hq⟩ := hq
            rw [hq]
            have h := h r_103 er_103
            refine q_istore (lv' := [(9, .int r_103), (8, .int r_101), (0, .ref (ad o 0 1)), (1, .int p1), (2, .int y_5), (3, .int r_1), (4, .int y_6), (5, .int y_7), (6, .int y_8), (7, .int y_9)]) X dL_holds_135 (by decide) rfl ?_
            refine q_aload_n (j := 2) X dL_holds_137 rfl rfl ?_
            refine q_bipush (v := 22) X dL_holds_138 (by decide) ?_
            refine q_iload (j := 1) X dL_holds_140 rfl ?_
            refine q_iconst (v := 0) X dL_holds_142 (by decide) ?_
            refine q_iconst (v := 0) X dL_holds_143 (by decide) ?_
            obtain ⟨k_106, h⟩ := h
            refine qG_own X hW hZ (fun _ h => h) YT_ok [.ref (ad o 0 1), .int 22, .int r_101, .int 0, .int 0] [] rfl rfl (Nat.le_of_ble_eq_true rfl) dL_holds_144 ⟨by show _ ≤ 650; omega, by show _ ≤ 3900; omega⟩ (k_C_22 ha hst o r_101 0 0 g k_106) rfl rfl (gS kw_3_88 kw_3_89 kw_1_0 kw_3_90) hy_L_call.2 ⟨(Nat.le_of_ble_eq_true rfl), (Nat.le_of_ble_eq_true rfl)⟩ (fun r_105 g9 hq => ?_)
            obtain ⟨er_105, hq⟩ := hq
            rw [hq]
            have h := h r_105 er_105
            refine q_istore (lv' := [(10, .int r_105), (9, .int r_103), (8, .int r_101), (0, .ref (ad o 0 1)), (1, .int p1), (2, .int y_5), (3, .int r_1), (4, .int y_6), (5, .int y_7), (6, .int y_8), (7, .int y_9)]) X dL_holds_147 (by decide) rfl ?_
            refine q_iconst (v := 1) X dL_holds_149 (by decide) ?_
            refine q_iload_n (j := 4) X dL_holds_150 rfl rfl ?_
            refine q_iload (j := 1) X dL_holds_151 rfl ?_
            obtain ⟨c_107, h⟩ := h
            refine q_irem X dL_holds_153 c_107 ?_
            refine q_iadd X dL_holds_154 ?_
            refine q_topi (fun x_108 ex_108 => ?_)
            have h := h x_108 ex_108
            refine q_istore (lv' := [(11, .int x_108), (10, .int r_105), (9, .int r_103), (8, .int r_101), (0, .ref (ad o 0 1)), (1, .int p1), (2, .int y_5), (3, .int r_1), (4, .int y_6), (5, .int y_7), (6, .int y_8), (7, .int y_9)]) X dL_holds_155 (by decide) rfl ?_
            refine q_iload_n (j := 6) X dL_holds_157 rfl rfl ?_
            refine q_iload (j := 1) X dL_holds_158 rfl ?_
            refine q_iadd X dL_holds_160 ?_
            refine q_topi (fun x_109 ex_109 => ?_)
            have h := h x_109 ex_109
            refine q_istore_n (lv' := [(2, .int x_109), (11, .int x_108), (10, .int r_105), (9, .int r_103), (8, .int r_101), (0, .ref (ad o 0 1)), (1, .int p1), (3, .int r_1), (4, .int y_6), (5, .int y_7), (6, .int y_8), (7, .int y_9)]) X dL_holds_161 rfl (by decide) rfl ?_
            refine q_iload (j := 2) X dL_holds_162 rfl ?_
            refine q_iload (j := 9) X dL_holds_164 rfl ?_
            have J176 : ∀ (y_110 : Int32), w_L_holds_J176 o g y_6 y_9 r_101 r_103 r_105 x_108 x_109 K_10 y_110 → V p l e rm_L_holds s m args below meth c QQ 12 (AU A) (c_4 + 6) (6 * (c_4 + 6)) (WY D cA ad YT g) 176 [(0, .ref (ad o 0 1)), (1, .int p1), (2, .int x_109), (3, .int r_1), (4, .int y_6), (7, .int y_9), (8, .int r_101), (9, .int r_103), (10, .int r_105), (11, .int x_108)] [.int y_110] := by
              intro y_110 h
              unfold w_L_holds_J176 at h
              refine q_istore (lv' := [(5, .int y_110), (0, .ref (ad o 0 1)), (1, .int p1), (2, .int x_109), (3, .int r_1), (4, .int y_6), (7, .int y_9), (8, .int r_101), (9, .int r_103), (10, .int r_105), (11, .int x_108)]) X dL_holds_176 (by decide) rfl ?_
              refine q_iload (j := 7) X dL_holds_178 rfl ?_
              refine q_iload (j := 5) X dL_holds_180 rfl ?_
              refine q_icmp_le (tgt := 381) X dL_holds_182 (by decide) (fun c_111 => ?_) (fun c_111 => ?_)
              · have h := h.1 c_111
                refine q_iconst (v := 0) X dL_holds_381 (by decide) ?_
                refine q_istore (lv' := [(6, .int 0), (5, .int y_110), (0, .ref (ad o 0 1)), (1, .int p1), (2, .int x_109), (3, .int r_1), (4, .int y_6), (7, .int y_9), (8, .int r_101), (9, .int r_103), (10, .int r_105), (11, .int x_108)]) X dL_holds_382 (by decide) rfl ?_
                refine q_iload (j := 8) X dL_holds_384 rfl ?_
                refine q_istore (lv' := [(4, .int r_101), (6, .int 0), (5, .int y_110), (0, .ref (ad o 0 1)), (1, .int p1), (2, .int x_109), (3, .int r_1), (7, .int y_9), (8, .int r_101), (9, .int r_103), (10, .int r_105), (11, .int x_108)]) X dL_holds_386 (by decide) rfl ?_
                obtain ⟨x_112, ex_112⟩ : ∃ z : Int32, z = y_9 + 1 := ⟨_, rfl⟩
                have h := h x_112 ex_112
                refine q_iinc (j := 7) (v := x_112) (lv' := [(7, .int x_112), (4, .int r_101), (6, .int 0), (5, .int y_110), (0, .ref (ad o 0 1)), (1, .int p1), (2, .int x_109), (3, .int r_1), (8, .int r_101), (9, .int r_103), (10, .int r_105), (11, .int x_108)]) X dL_holds_388 rfl (by rw [ex_112]; rfl) (by decide) rfl ?_
                refine q_goto (tgt := 102) X dL_holds_391 (by decide) ?_
                refine q_sub [4, 5, 6, 7, 1, 3, 2, 0] rfl ?_
                refine q_w (c2 := (c_4 + 28)) (n2 := (6 * (c_4 + 28))) (by omega) (by omega) ?_
                exact ih_11k x_109 r_101 y_110 0 x_112 h (c_4 + 28) (by omega)
              · have h := h.2 c_111
                refine q_aload_n (j := 1) X dL_holds_185 rfl rfl ?_
                refine q_iload (j := 7) X dL_holds_186 rfl ?_
                obtain ⟨k_114, h⟩ := h
                refine qG_ask X hW hZ ha (fun _ h => h) YT_ok o (val := (v_isOpenEntry r_101 (g.1 o))) (Qp := (fun mo r m1 => r = (v_isOpenEntry r_101 (g.1 o)) ∧ mo = m1)) [.int r_101] [] rfl rfl (Nat.le_of_ble_eq_true rfl) dL_holds_188 ⟨by show _ ≤ 650; omega, by show _ ≤ 3900; omega⟩ k_114 (fun mo hmo => c_X9_isOpenEntry (ha.1 o) r_101 mo _ (n_isOpenEntry hmo.rs hmo.inv r_101 _ rfl)) (fun mo r m1 hr h => ⟨h.1, by rw [← h.2]; exact hr⟩) rfl rfl (gV kw_6_190 kw_6_191 kw_6_192 kw_1_1 kw_6_193) hy_X9_isOpenEntry ⟨(Nat.le_of_ble_eq_true rfl), (Nat.le_of_ble_eq_true rfl)⟩ ?_
                refine q_topi (fun r_113 er_113 => ?_)
                have h := h r_113 er_113
                refine q_if_eq (tgt := 381) X dL_holds_191 (by decide) (fun c_115 => ?_) (fun c_115 => ?_)
                · have h := h.1 c_115
                  refine q_iconst (v := 0) X dL_holds_381 (by decide) ?_
                  refine q_istore (lv' := [(6, .int 0), (5, .int y_110), (0, .ref (ad o 0 1)), (1, .int p1), (2, .int x_109), (3, .int r_1), (4, .int y_6), (7, .int y_9), (8, .int r_101), (9, .int r_103), (10, .int r_105), (11, .int x_108)]) X dL_holds_382 (by decide) rfl ?_
                  refine q_iload (j := 8) X dL_holds_384 rfl ?_
                  refine q_istore (lv' := [(4, .int r_101), (6, .int 0), (5, .int y_110), (0, .ref (ad o 0 1)), (1, .int p1), (2, .int x_109), (3, .int r_1), (7, .int y_9), (8, .int r_101), (9, .int r_103), (10, .int r_105), (11, .int x_108)]) X dL_holds_386 (by decide) rfl ?_
                  obtain ⟨x_116, ex_116⟩ : ∃ z : Int32, z = y_9 + 1 := ⟨_, rfl⟩
                  have h := h x_116 ex_116
                  refine q_iinc (j := 7) (v := x_116) (lv' := [(7, .int x_116), (4, .int r_101), (6, .int 0), (5, .int y_110), (0, .ref (ad o 0 1)), (1, .int p1), (2, .int x_109), (3, .int r_1), (8, .int r_101), (9, .int r_103), (10, .int r_105), (11, .int x_108)]) X dL_holds_388 rfl (by rw [ex_116]; rfl) (by decide) rfl ?_
                  refine q_goto (tgt := 102) X dL_holds_391 (by decide) ?_
                  refine q_sub [4, 5, 6, 7, 1, 3, 2, 0] rfl ?_
                  refine q_w (c2 := (c_4 + 28)) (n2 := (6 * (c_4 + 28))) (by omega) (by omega) ?_
                  exact ih_11k x_109 r_101 y_110 0 x_116 h (c_4 + 28) (by omega)
                · have h := h.2 c_115
                  refine q_iload (j := 8) X dL_holds_194 rfl ?_
                  refine q_if_le (tgt := 381) X dL_holds_196 (by decide) (fun c_117 => ?_) (fun c_117 => ?_)
                  · have h := h.1 c_117
                    refine q_iconst (v := 0) X dL_holds_381 (by decide) ?_
                    refine q_istore (lv' := [(6, .int 0), (5, .int y_110), (0, .ref (ad o 0 1)), (1, .int p1), (2, .int x_109), (3, .int r_1), (4, .int y_6), (7, .int y_9), (8, .int r_101), (9, .int r_103), (10, .int r_105), (11, .int x_108)]) X dL_holds_382 (by decide) rfl ?_
                    refine q_iload (j := 8) X dL_holds_384 rfl ?_
                    refine q_istore (lv' := [(4, .int r_101), (6, .int 0), (5, .int y_110), (0, .ref (ad o 0 1)), (1, .int p1), (2, .int x_109), (3, .int r_1), (7, .int y_9), (8, .int r_101), (9, .int r_103), (10, .int r_105), (11, .int x_108)]) X dL_holds_386 (by decide) rfl ?_
                    obtain ⟨x_118, ex_118⟩ : ∃ z : Int32, z = y_9 + 1 := ⟨_, rfl⟩
                    have h := h x_118 ex_118
                    refine q_iinc (j := 7) (v := x_118) (lv' := [(7, .int x_118), (4, .int r_101), (6, .int 0), (5, .int y_110), (0, .ref (ad o 0 1)), (1, .int p1), (2, .int x_109), (3, .int r_1), (8, .int r_101), (9, .int r_103), (10, .int r_105), (11, .int x_108)]) X dL_holds_388 rfl (by rw [ex_118]; rfl) (by decide) rfl ?_
                    refine q_goto (tgt := 102) X dL_holds_391 (by decide) ?_
                    refine q_sub [4, 5, 6, 7, 1, 3, 2, 0] rfl ?_
                    refine q_w (c2 := (c_4 + 28)) (n2 := (6 * (c_4 + 28))) (by omega) (by omega) ?_
                    exact ih_11k x_109 r_101 y_110 0 x_118 h (c_4 + 28) (by omega)
                  · have h := h.2 c_117
                    refine q_iload (j := 8) X dL_holds_199 rfl ?_
                    refine q_sipush (v := 999) X dL_holds_201 (by decide) ?_
                    refine q_icmp_gt (tgt := 381) X dL_holds_204 (by decide) (fun c_119 => ?_) (fun c_119 => ?_)
                    · have h := h.1 c_119
                      refine q_iconst (v := 0) X dL_holds_381 (by decide) ?_
                      refine q_istore (lv' := [(6, .int 0), (5, .int y_110), (0, .ref (ad o 0 1)), (1, .int p1), (2, .int x_109), (3, .int r_1), (4, .int y_6), (7, .int y_9), (8, .int r_101), (9, .int r_103), (10, .int r_105), (11, .int x_108)]) X dL_holds_382 (by decide) rfl ?_
                      refine q_iload (j := 8) X dL_holds_384 rfl ?_
                      refine q_istore (lv' := [(4, .int r_101), (6, .int 0), (5, .int y_110), (0, .ref (ad o 0 1)), (1, .int p1), (2, .int x_109), (3, .int r_1), (7, .int y_9), (8, .int r_101), (9, .int r_103), (10, .int r_105), (11, .int x_108)]) X dL_holds_386 (by decide) rfl ?_
                      obtain ⟨x_120, ex_120⟩ : ∃ z : Int32, z = y_9 + 1 := ⟨_, rfl⟩
                      have h := h x_120 ex_120
                      refine q_iinc (j := 7) (v := x_120) (lv' := [(7, .int x_120), (4, .int r_101), (6, .int 0), (5, .int y_110), (0, .ref (ad o 0 1)), (1, .int p1), (2, .int x_109), (3, .int r_1), (8, .int r_101), (9, .int r_103), (10, .int r_105), (11, .int x_108)]) X dL_holds_388 rfl (by rw [ex_120]; rfl) (by decide) rfl ?_
                      refine q_goto (tgt := 102) X dL_holds_391 (by decide) ?_
                      refine q_sub [4, 5, 6, 7, 1, 3, 2, 0] rfl ?_
                      refine q_w (c2 := (c_4 + 28)) (n2 := (6 * (c_4 + 28))) (by omega) (by omega) ?_
                      exact ih_11k x_109 r_101 y_110 0 x_120 h (c_4 + 28) (by omega)
                    · have h := h.2 c_119
                      refine q_iload (j := 9) X dL_holds_207 rfl ?_
                      refine q_aload_n (j := 1) X dL_holds_209 rfl rfl ?_
                      refine q_bipush (v := 21) X dL_holds_210 (by decide) ?_
                      refine q_iload (j := 7) X dL_holds_212 rfl ?_
                      refine q_iload (j := 8) X dL_holds_214 rfl ?_
                      refine q_iconst (v := 0) X dL_holds_216 (by decide) ?_
                      obtain ⟨k_122, h⟩ := h
                      refine qG_own X hW hZ (fun _ h => h) YT_ok [.ref (ad o 0 1), .int 21, .int r_101, .int r_103, .int 0] [.int r_105] rfl rfl (Nat.le_of_ble_eq_true rfl) dL_holds_217 ⟨by show _ ≤ 650; omega, by show _ ≤ 3900; omega⟩ (k_C_21 ha hst o r_101 r_103 0 g k_122) rfl rfl (gS kw_3_88 kw_3_89 kw_1_0 kw_3_90) hy_L_call.2 ⟨(Nat.le_of_ble_eq_true rfl), (Nat.le_of_ble_eq_true rfl)⟩ (fun r_121 g9 hq => ?_)
                      obtain ⟨er_121, hq⟩ := hq
                      rw [hq]
                      have h := h r_121 er_121
                      refine q_icmp_ne (tgt := 381) X dL_holds_220 (by decide) (fun c_123 => ?_) (fun c_123 => ?_)
                      · have h := h.1 c_123
                        refine q_iconst (v := 0) X dL_holds_381 (by decide) ?_
                        refine q_istore (lv' := [(6, .int 0), (5, .int y_110), (0, .ref (ad o 0 1)), (1, .int p1), (2, .int x_109), (3, .int r_1), (4, .int y_6), (7, .int y_9), (8, .int r_101), (9, .int r_103), (10, .int r_105), (11, .int x_108)]) X dL_holds_382 (by decide) rfl ?_
                        refine q_iload (j := 8) X dL_holds_384 rfl ?_
                        refine q_istore (lv' := [(4, .int r_101), (6, .int 0), (5, .int y_110), (0, .ref (ad o 0 1)), (1, .int p1), (2, .int x_109), (3, .int r_1), (7, .int y_9), (8, .int r_101), (9, .int r_103), (10, .int r_105), (11, .int x_108)]) X dL_holds_386 (by decide) rfl ?_
                        obtain ⟨x_124, ex_124⟩ : ∃ z : Int32, z = y_9 + 1 := ⟨_, rfl⟩
                        have h := h x_124 ex_124
                        refine q_iinc (j := 7) (v := x_124) (lv' := [(7, .int x_124), (4, .int r_101), (6, .int 0), (5, .int y_110), (0, .ref (ad o 0 1)), (1, .int p1), (2, .int x_109), (3, .int r_1), (8, .int r_101), (9, .int r_103), (10, .int r_105), (11, .int x_108)]) X dL_holds_388 rfl (by rw [ex_124]; rfl) (by decide) rfl ?_
                        refine q_goto (tgt := 102) X dL_holds_391 (by decide) ?_
                        refine q_sub [4, 5, 6, 7, 1, 3, 2, 0] rfl ?_
                        refine q_w (c2 := (c_4 + 28)) (n2 := (6 * (c_4 + 28))) (by omega) (by omega) ?_
                        exact ih_11k x_109 r_101 y_110 0 x_124 h (c_4 + 28) (by omega)
                      · have h := h.2 c_123
                        refine q_aload_n (j := 1) X dL_holds_223 rfl rfl ?_
                        refine q_bipush (v := 21) X dL_holds_224 (by decide) ?_
                        refine q_iload (j := 7) X dL_holds_226 rfl ?_
                        refine q_iload (j := 10) X dL_holds_228 rfl ?_
                        refine q_iconst (v := 0) X dL_holds_230 (by decide) ?_
                        obtain ⟨k_126, h⟩ := h
                        refine qG_own X hW hZ (fun _ h => h) YT_ok [.ref (ad o 0 1), .int 21, .int r_101, .int x_108, .int 0] [] rfl rfl (Nat.le_of_ble_eq_true rfl) dL_holds_231 ⟨by show _ ≤ 650; omega, by show _ ≤ 3900; omega⟩ (k_C_21 ha hst o r_101 x_108 0 g k_126) rfl rfl (gS kw_3_88 kw_3_89 kw_1_0 kw_3_90) hy_L_call.2 ⟨(Nat.le_of_ble_eq_true rfl), (Nat.le_of_ble_eq_true rfl)⟩ (fun r_125 g9 hq => ?_)
                        obtain ⟨er_125, hq⟩ := hq
                        rw [hq]
                        have h := h r_125 er_125
                        refine q_iload (j := 9) X dL_holds_234 rfl ?_
                        refine q_icmp_gt (tgt := 381) X dL_holds_236 (by decide) (fun c_127 => ?_) (fun c_127 => ?_)
                        · have h := h.1 c_127
                          refine q_iconst (v := 0) X dL_holds_381 (by decide) ?_
                          refine q_istore (lv' := [(6, .int 0), (5, .int y_110), (0, .ref (ad o 0 1)), (1, .int p1), (2, .int x_109), (3, .int r_1), (4, .int y_6), (7, .int y_9), (8, .int r_101), (9, .int r_103), (10, .int r_105), (11, .int x_108)]) X dL_holds_382 (by decide) rfl ?_
                          refine q_iload (j := 8) X dL_holds_384 rfl ?_
                          refine q_istore (lv' := [(4, .int r_101), (6, .int 0), (5, .int y_110), (0, .ref (ad o 0 1)), (1, .int p1), (2, .int x_109), (3, .int r_1), (7, .int y_9), (8, .int r_101), (9, .int r_103), (10, .int r_105), (11, .int x_108)]) X dL_holds_386 (by decide) rfl ?_
                          obtain ⟨x_128, ex_128⟩ : ∃ z : Int32, z = y_9 + 1 := ⟨_, rfl⟩
                          have h := h x_128 ex_128
                          refine q_iinc (j := 7) (v := x_128) (lv' := [(7, .int x_128), (4, .int r_101), (6, .int 0), (5, .int y_110), (0, .ref (ad o 0 1)), (1, .int p1), (2, .int x_109), (3, .int r_1), (8, .int r_101), (9, .int r_103), (10, .int r_105), (11, .int x_108)]) X dL_holds_388 rfl (by rw [ex_128]; rfl) (by decide) rfl ?_
                          refine q_goto (tgt := 102) X dL_holds_391 (by decide) ?_
                          refine q_sub [4, 5, 6, 7, 1, 3, 2, 0] rfl ?_
                          refine q_w (c2 := (c_4 + 28)) (n2 := (6 * (c_4 + 28))) (by omega) (by omega) ?_
                          exact ih_11k x_109 r_101 y_110 0 x_128 h (c_4 + 28) (by omega)
                        · have h := h.2 c_127
                          refine q_aload_n (j := 1) X dL_holds_239 rfl rfl ?_
                          refine q_bipush (v := 47) X dL_holds_240 (by decide) ?_
                          refine q_iload (j := 7) X dL_holds_242 rfl ?_
                          refine q_iconst (v := 0) X dL_holds_244 (by decide) ?_
                          refine q_iconst (v := 0) X dL_holds_245 (by decide) ?_
                          obtain ⟨k_130, h⟩ := h
                          refine qG_own X hW hZ (fun _ h => h) YT_ok [.ref (ad o 0 1), .int 47, .int r_101, .int 0, .int 0] [] rfl rfl (Nat.le_of_ble_eq_true rfl) dL_holds_246 ⟨by show _ ≤ 650; omega, by show _ ≤ 3900; omega⟩ (k_C_47 ha hst o r_101 0 0 g k_130) rfl rfl (gS kw_3_88 kw_3_89 kw_1_0 kw_3_90) hy_L_call.2 ⟨(Nat.le_of_ble_eq_true rfl), (Nat.le_of_ble_eq_true rfl)⟩ (fun r_129 g9 hq => ?_)
                          obtain ⟨er_129, hq⟩ := hq
                          rw [hq]
                          have h := h r_129 er_129
                          refine q_iload (j := 9) X dL_holds_249 rfl ?_
                          refine q_icmp_ne (tgt := 381) X dL_holds_251 (by decide) (fun c_131 => ?_) (fun c_131 => ?_)
                          · have h := h.1 c_131
                            refine q_iconst (v := 0) X dL_holds_381 (by decide) ?_
                            refine q_istore (lv' := [(6, .int 0), (5, .int y_110), (0, .ref (ad o 0 1)), (1, .int p1), (2, .int x_109), (3, .int r_1), (4, .int y_6), (7, .int y_9), (8, .int r_101), (9, .int r_103), (10, .int r_105), (11, .int x_108)]) X dL_holds_382 (by decide) rfl ?_
                            refine q_iload (j := 8) X dL_holds_384 rfl ?_
                            refine q_istore (lv' := [(4, .int r_101), (6, .int 0), (5, .int y_110), (0, .ref (ad o 0 1)), (1, .int p1), (2, .int x_109), (3, .int r_1), (7, .int y_9), (8, .int r_101), (9, .int r_103), (10, .int r_105), (11, .int x_108)]) X dL_holds_386 (by decide) rfl ?_
                            obtain ⟨x_132, ex_132⟩ : ∃ z : Int32, z = y_9 + 1 := ⟨_, rfl⟩
                            have h := h x_132 ex_132
                            refine q_iinc (j := 7) (v := x_132) (lv' := [(7, .int x_132), (4, .int r_101), (6, .int 0), (5, .int y_110), (0, .ref (ad o 0 1)), (1, .int p1), (2, .int x_109), (3, .int r_1), (8, .int r_101), (9, .int r_103), (10, .int r_105), (11, .int x_108)]) X dL_holds_388 rfl (by rw [ex_132]; rfl) (by decide) rfl ?_
                            refine q_goto (tgt := 102) X dL_holds_391 (by decide) ?_
                            refine q_sub [4, 5, 6, 7, 1, 3, 2, 0] rfl ?_
                            refine q_w (c2 := (c_4 + 28)) (n2 := (6 * (c_4 + 28))) (by omega) (by omega) ?_
                            exact ih_11k x_109 r_101 y_110 0 x_132 h (c_4 + 28) (by omega)
                          · have h := h.2 c_131
                            refine q_aload_n (j := 1) X dL_holds_254 rfl rfl ?_
                            refine q_bipush (v := 47) X dL_holds_255 (by decide) ?_
                            refine q_iload (j := 7) X dL_holds_257 rfl ?_
                            refine q_sipush (v := 365) X dL_holds_259 (by decide) ?_
                            refine q_iconst (v := 0) X dL_holds_262 (by decide) ?_
                            obtain ⟨k_134, h⟩ := h
                            refine qG_own X hW hZ (fun _ h => h) YT_ok [.ref (ad o 0 1), .int 47, .int r_101, .int 365, .int 0] [] rfl rfl (Nat.le_of_ble_eq_true rfl) dL_holds_263 ⟨by show _ ≤ 650; omega, by show _ ≤ 3900; omega⟩ (k_C_47 ha hst o r_101 365 0 g k_134) rfl rfl (gS kw_3_88 kw_3_89 kw_1_0 kw_3_90) hy_L_call.2 ⟨(Nat.le_of_ble_eq_true rfl), (Nat.le_of_ble_eq_true rfl)⟩ (fun r_133 g9 hq => ?_)
                            obtain ⟨er_133, hq⟩ := hq
                            rw [hq]
                            have h := h r_133 er_133
                            refine q_iload (j := 9) X dL_holds_266 rfl ?_
                            refine q_icmp_lt (tgt := 381) X dL_holds_268 (by decide) (fun c_135 => ?_) (fun c_135 => ?_)
                            · have h := h.1 c_135
                              refine q_iconst (v := 0) X dL_holds_381 (by decide) ?_
                              refine q_istore (lv' := [(6, .int 0), (5, .int y_110), (0, .ref (ad o 0 1)), (1, .int p1), (2, .int x_109), (3, .int r_1), (4, .int y_6), (7, .int y_9), (8, .int r_101), (9, .int r_103), (10, .int r_105), (11, .int x_108)]) X dL_holds_382 (by decide) rfl ?_
                              refine q_iload (j := 8) X dL_holds_384 rfl ?_
                              refine q_istore (lv' := [(4, .int r_101), (6, .int 0), (5, .int y_110), (0, .ref (ad o 0 1)), (1, .int p1), (2, .int x_109), (3, .int r_1), (7, .int y_9), (8, .int r_101), (9, .int r_103), (10, .int r_105), (11, .int x_108)]) X dL_holds_386 (by decide) rfl ?_
                              obtain ⟨x_136, ex_136⟩ : ∃ z : Int32, z = y_9 + 1 := ⟨_, rfl⟩
                              have h := h x_136 ex_136
                              refine q_iinc (j := 7) (v := x_136) (lv' := [(7, .int x_136), (4, .int r_101), (6, .int 0), (5, .int y_110), (0, .ref (ad o 0 1)), (1, .int p1), (2, .int x_109), (3, .int r_1), (8, .int r_101), (9, .int r_103), (10, .int r_105), (11, .int x_108)]) X dL_holds_388 rfl (by rw [ex_136]; rfl) (by decide) rfl ?_
                              refine q_goto (tgt := 102) X dL_holds_391 (by decide) ?_
                              refine q_sub [4, 5, 6, 7, 1, 3, 2, 0] rfl ?_
                              refine q_w (c2 := (c_4 + 28)) (n2 := (6 * (c_4 + 28))) (by omega) (by omega) ?_
                              exact ih_11k x_109 r_101 y_110 0 x_136 h (c_4 + 28) (by omega)
                            · have h := h.2 c_135
                              refine q_aload_n (j := 1) X dL_holds_271 rfl rfl ?_
                              refine q_iload (j := 7) X dL_holds_272 rfl ?_
                              obtain ⟨k_138, h⟩ := h
                              refine qG_ownW X hW hZ (fun _ h => h) YT_ok [.ref (ad o 0 1), .int r_101] [] rfl rfl (Nat.le_of_ble_eq_true rfl) dL_holds_274 ⟨by show _ ≤ 650; omega, by show _ ≤ 3900; omega⟩ (k_L_isLate ha hst o r_101 g k_138) rfl rfl (gSW kw_6_194 kw_6_195 kw_1_0 kw_6_196) hy_L_isLate.2 ⟨(Nat.le_of_ble_eq_true rfl), (Nat.le_of_ble_eq_true rfl)⟩ (fun r_137 g9 hq => ?_)
                              obtain ⟨er_137, hq⟩ := hq
                              rw [hq]
                              have h := h r_137 er_137
                              refine q_iconst (v := 1) X dL_holds_277 (by decide) ?_
                              have J286 : ∀ (y_139 : Int32), w_L_holds_J286 o g y_9 r_101 r_103 r_105 x_108 x_109 y_110 K_10 y_139 → V p l e rm_L_holds s m args below meth c QQ 12 (AU A) (c_4 + 16) (6 * (c_4 + 16)) (WY D cA ad YT g) 286 [(0, .ref (ad o 0 1)), (1, .int p1), (2, .int x_109), (3, .int r_1), (5, .int y_110), (7, .int y_9), (8, .int r_101), (9, .int r_103), (10, .int r_105), (11, .int x_108)] [.int y_139] := by
                                intro y_139 h
                                unfold w_L_holds_J286 at h
                                refine q_aload_n (j := 0) X dL_holds_286 rfl rfl ?_
                                refine q_bipush (v := 48) X dL_holds_287 (by decide) ?_
                                refine q_iload (j := 6) X dL_holds_289 rfl ?_
                                refine q_iconst (v := 0) X dL_holds_291 (by decide) ?_
                                refine q_iconst (v := 0) X dL_holds_292 (by decide) ?_
                                obtain ⟨k_141, h⟩ := h
                                refine qG_own X hW hZ (fun _ h => h) YT_ok [.ref (ad o 0 1), .int 48, .int r_101, .int 0, .int 0] [.int y_139] rfl rfl (Nat.le_of_ble_eq_true rfl) dL_holds_293 ⟨by show _ ≤ 650; omega, by show _ ≤ 3900; omega⟩ (k_C_48 ha hst o r_101 0 0 g k_141) rfl rfl (gS kw_3_88 kw_3_89 kw_1_0 kw_3_90) hy_L_call.2 ⟨(Nat.le_of_ble_eq_true rfl), (Nat.le_of_ble_eq_true rfl)⟩ (fun r_140 g9 hq => ?_)
                                obtain ⟨er_140, hq⟩ := hq
                                rw [hq]
                                have h := h r_140 er_140
                                have J304 : ∀ (y_142 : Int32), w_L_holds_J304 o g y_9 r_101 r_103 r_105 x_108 x_109 y_110 y_139 K_10 y_142 → V p l e rm_L_holds s m args below meth c QQ 12 (AU A) (c_4 + 18) (6 * (c_4 + 18)) (WY D cA ad YT g) 304 [(0, .ref (ad o 0 1)), (1, .int p1), (2, .int x_109), (3, .int r_1), (5, .int y_110), (7, .int y_9), (8, .int r_101), (9, .int r_103), (10, .int r_105), (11, .int x_108)] [.int y_142, .int y_139] := by
                                  intro y_142 h
                                  unfold w_L_holds_J304 at h
                                  refine q_icmp_ne (tgt := 381) X dL_holds_304 (by decide) (fun c_143 => ?_) (fun c_143 => ?_)
                                  · have h := h.1 c_143
                                    refine q_iconst (v := 0) X dL_holds_381 (by decide) ?_
                                    refine q_istore (lv' := [(6, .int 0), (0, .ref (ad o 0 1)), (1, .int p1), (2, .int x_109), (3, .int r_1), (5, .int y_110), (7, .int y_9), (8, .int r_101), (9, .int r_103), (10, .int r_105), (11, .int x_108)]) X dL_holds_382 (by decide) rfl ?_
                                    refine q_iload (j := 7) X dL_holds_384 rfl ?_
                                    refine q_istore (lv' := [(4, .int r_101), (6, .int 0), (0, .ref (ad o 0 1)), (1, .int p1), (2, .int x_109), (3, .int r_1), (5, .int y_110), (7, .int y_9), (8, .int r_101), (9, .int r_103), (10, .int r_105), (11, .int x_108)]) X dL_holds_386 (by decide) rfl ?_
                                    obtain ⟨x_144, ex_144⟩ : ∃ z : Int32, z = y_9 + 1 := ⟨_, rfl⟩
                                    have h := h x_144 ex_144
                                    refine q_iinc (j := 7) (v := x_144) (lv' := [(7, .int x_144), (4, .int r_101), (6, .int 0), (0, .ref (ad o 0 1)), (1, .int p1), (2, .int x_109), (3, .int r_1), (5, .int y_110), (8, .int r_101), (9, .int r_103), (10, .int r_105), (11, .int x_108)]) X dL_holds_388 rfl (by rw [ex_144]; rfl) (by decide) rfl ?_
                                    refine q_goto (tgt := 102) X dL_holds_391 (by decide) ?_
                                    refine q_sub [3, 4, 5, 6, 1, 7, 2, 0] rfl ?_
                                    refine q_w (c2 := (c_4 + 28)) (n2 := (6 * (c_4 + 28))) (by omega) (by omega) ?_
                                    exact ih_11k x_109 r_101 y_110 0 x_144 h (c_4 + 28) (by omega)
                                  · have h := h.2 c_143
                                    refine q_aload_n (j := 0) X dL_holds_307 rfl rfl ?_
                                    refine q_bipush (v := 23) X dL_holds_308 (by decide) ?_
                                    refine q_iload (j := 6) X dL_holds_310 rfl ?_
                                    refine q_iconst (v := 0) X dL_holds_312 (by decide) ?_
                                    refine q_iconst (v := 0) X dL_holds_313 (by decide) ?_
                                    obtain ⟨k_146, h⟩ := h
                                    refine qG_own X hW hZ (fun _ h => h) YT_ok [.ref (ad o 0 1), .int 23, .int r_101, .int 0, .int 0] [] rfl rfl (Nat.le_of_ble_eq_true rfl) dL_holds_314 ⟨by show _ ≤ 650; omega, by show _ ≤ 3900; omega⟩ (k_C_23 ha hst o r_101 0 0 g k_146) rfl rfl (gS kw_3_88 kw_3_89 kw_1_0 kw_3_90) hy_L_call.2 ⟨(Nat.le_of_ble_eq_true rfl), (Nat.le_of_ble_eq_true rfl)⟩ (fun r_145 g9 hq => ?_)
                                    obtain ⟨er_145, hq⟩ := hq
                                    rw [hq]
                                    have h := h r_145 er_145
                                    refine q_iload (j := 7) X dL_holds_317 rfl ?_
                                    refine q_icmp_gt (tgt := 381) X dL_holds_319 (by decide) (fun c_147 => ?_) (fun c_147 => ?_)
                                    · have h := h.1 c_147
                                      refine q_iconst (v := 0) X dL_holds_381 (by decide) ?_
                                      refine q_istore (lv' := [(6, .int 0), (0, .ref (ad o 0 1)), (1, .int p1), (2, .int x_109), (3, .int r_1), (5, .int y_110), (7, .int y_9), (8, .int r_101), (9, .int r_103), (10, .int r_105), (11, .int x_108)]) X dL_holds_382 (by decide) rfl ?_
                                      refine q_iload (j := 7) X dL_holds_384 rfl ?_
                                      refine q_istore (lv' := [(4, .int r_101), (6, .int 0), (0, .ref (ad o 0 1)), (1, .int p1), (2, .int x_109), (3, .int r_1), (5, .int y_110), (7, .int y_9), (8, .int r_101), (9, .int r_103), (10, .int r_105), (11, .int x_108)]) X dL_holds_386 (by decide) rfl ?_
                                      obtain ⟨x_148, ex_148⟩ : ∃ z : Int32, z = y_9 + 1 := ⟨_, rfl⟩
                                      have h := h x_148 ex_148
                                      refine q_iinc (j := 7) (v := x_148) (lv' := [(7, .int x_148), (4, .int r_101), (6, .int 0), (0, .ref (ad o 0 1)), (1, .int p1), (2, .int x_109), (3, .int r_1), (5, .int y_110), (8, .int r_101), (9, .int r_103), (10, .int r_105), (11, .int x_108)]) X dL_holds_388 rfl (by rw [ex_148]; rfl) (by decide) rfl ?_
                                      refine q_goto (tgt := 102) X dL_holds_391 (by decide) ?_
                                      refine q_sub [3, 4, 5, 6, 1, 7, 2, 0] rfl ?_
                                      refine q_w (c2 := (c_4 + 28)) (n2 := (6 * (c_4 + 28))) (by omega) (by omega) ?_
                                      exact ih_11k x_109 r_101 y_110 0 x_148 h (c_4 + 28) (by omega)
                                    · have h := h.2 c_147
                                      refine q_aload_n (j := 0) X dL_holds_322 rfl rfl ?_
                                      refine q_bipush (v := 45) X dL_holds_323 (by decide) ?_
                                      refine q_iload (j := 6) X dL_holds_325 rfl ?_
                                      refine q_iload (j := 7) X dL_holds_327 rfl ?_
                                      refine q_iconst (v := 0) X dL_holds_329 (by decide) ?_
                                      obtain ⟨k_150, h⟩ := h
                                      refine qG_own X hW hZ (fun _ h => h) YT_ok [.ref (ad o 0 1), .int 45, .int r_101, .int r_103, .int 0] [] rfl rfl (Nat.le_of_ble_eq_true rfl) dL_holds_330 ⟨by show _ ≤ 650; omega, by show _ ≤ 3900; omega⟩ (k_C_45 ha hst o r_101 r_103 0 g k_150) rfl rfl (gS kw_3_88 kw_3_89 kw_1_0 kw_3_90) hy_L_call.2 ⟨(Nat.le_of_ble_eq_true rfl), (Nat.le_of_ble_eq_true rfl)⟩ (fun r_149 g9 hq => ?_)
                                      obtain ⟨er_149, hq⟩ := hq
                                      rw [hq]
                                      have h := h r_149 er_149
                                      refine q_if_ne (tgt := 381) X dL_holds_333 (by decide) (fun c_151 => ?_) (fun c_151 => ?_)
                                      · have h := h.1 c_151
                                        refine q_iconst (v := 0) X dL_holds_381 (by decide) ?_
                                        refine q_istore (lv' := [(6, .int 0), (0, .ref (ad o 0 1)), (1, .int p1), (2, .int x_109), (3, .int r_1), (5, .int y_110), (7, .int y_9), (8, .int r_101), (9, .int r_103), (10, .int r_105), (11, .int x_108)]) X dL_holds_382 (by decide) rfl ?_
                                        refine q_iload (j := 7) X dL_holds_384 rfl ?_
                                        refine q_istore (lv' := [(4, .int r_101), (6, .int 0), (0, .ref (ad o 0 1)), (1, .int p1), (2, .int x_109), (3, .int r_1), (5, .int y_110), (7, .int y_9), (8, .int r_101), (9, .int r_103), (10, .int r_105), (11, .int x_108)]) X dL_holds_386 (by decide) rfl ?_
                                        obtain ⟨x_152, ex_152⟩ : ∃ z : Int32, z = y_9 + 1 := ⟨_, rfl⟩
                                        have h := h x_152 ex_152
                                        refine q_iinc (j := 7) (v := x_152) (lv' := [(7, .int x_152), (4, .int r_101), (6, .int 0), (0, .ref (ad o 0 1)), (1, .int p1), (2, .int x_109), (3, .int r_1), (5, .int y_110), (8, .int r_101), (9, .int r_103), (10, .int r_105), (11, .int x_108)]) X dL_holds_388 rfl (by rw [ex_152]; rfl) (by decide) rfl ?_
                                        refine q_goto (tgt := 102) X dL_holds_391 (by decide) ?_
                                        refine q_sub [3, 4, 5, 6, 1, 7, 2, 0] rfl ?_
                                        refine q_w (c2 := (c_4 + 28)) (n2 := (6 * (c_4 + 28))) (by omega) (by omega) ?_
                                        exact ih_11k x_109 r_101 y_110 0 x_152 h (c_4 + 28) (by omega)
                                      · have h := h.2 c_151
                                        refine q_aload_n (j := 0) X dL_holds_336 rfl rfl ?_
                                        refine q_bipush (v := 45) X dL_holds_337 (by decide) ?_
                                        refine q_iload (j := 6) X dL_holds_339 rfl ?_
                                        refine q_iconst (v := 0) X dL_holds_341 (by decide) ?_
                                        refine q_iconst (v := 0) X dL_holds_342 (by decide) ?_
                                        obtain ⟨k_154, h⟩ := h
                                        refine qG_own X hW hZ (fun _ h => h) YT_ok [.ref (ad o 0 1), .int 45, .int r_101, .int 0, .int 0] [] rfl rfl (Nat.le_of_ble_eq_true rfl) dL_holds_343 ⟨by show _ ≤ 650; omega, by show _ ≤ 3900; omega⟩ (k_C_45 ha hst o r_101 0 0 g k_154) rfl rfl (gS kw_3_88 kw_3_89 kw_1_0 kw_3_90) hy_L_call.2 ⟨(Nat.le_of_ble_eq_true rfl), (Nat.le_of_ble_eq_true rfl)⟩ (fun r_153 g9 hq => ?_)
                                        obtain ⟨er_153, hq⟩ := hq
                                        rw [hq]
                                        have h := h r_153 er_153
                                        refine q_aload_n (j := 0) X dL_holds_346 rfl rfl ?_
                                        refine q_bipush (v := 45) X dL_holds_347 (by decide) ?_
                                        refine q_iload (j := 6) X dL_holds_349 rfl ?_
                                        refine q_iload (j := 9) X dL_holds_351 rfl ?_
                                        refine q_iconst (v := 0) X dL_holds_353 (by decide) ?_
                                        obtain ⟨k_156, h⟩ := h
                                        refine qG_own X hW hZ (fun _ h => h) YT_ok [.ref (ad o 0 1), .int 45, .int r_101, .int x_108, .int 0] [.int r_153] rfl rfl (Nat.le_of_ble_eq_true rfl) dL_holds_354 ⟨by show _ ≤ 650; omega, by show _ ≤ 3900; omega⟩ (k_C_45 ha hst o r_101 x_108 0 g k_156) rfl rfl (gS kw_3_88 kw_3_89 kw_1_0 kw_3_90) hy_L_call.2 ⟨(Nat.le_of_ble_eq_true rfl), (Nat.le_of_ble_eq_true rfl)⟩ (fun r_155 g9 hq => ?_)
                                        obtain ⟨er_155, hq⟩ := hq
                                        rw [hq]
                                        have h := h r_155 er_155
                                        refine q_icmp_lt (tgt := 381) X dL_holds_357 (by decide) (fun c_157 => ?_) (fun c_157 => ?_)
                                        · have h := h.1 c_157
                                          refine q_iconst (v := 0) X dL_holds_381 (by decide) ?_
                                          refine q_istore (lv' := [(6, .int 0), (0, .ref (ad o 0 1)), (1, .int p1), (2, .int x_109), (3, .int r_1), (5, .int y_110), (7, .int y_9), (8, .int r_101), (9, .int r_103), (10, .int r_105), (11, .int x_108)]) X dL_holds_382 (by decide) rfl ?_
                                          refine q_iload (j := 7) X dL_holds_384 rfl ?_
                                          refine q_istore (lv' := [(4, .int r_101), (6, .int 0), (0, .ref (ad o 0 1)), (1, .int p1), (2, .int x_109), (3, .int r_1), (5, .int y_110), (7, .int y_9), (8, .int r_101), (9, .int r_103), (10, .int r_105), (11, .int x_108)]) X dL_holds_386 (by decide) rfl ?_
                                          obtain ⟨x_158, ex_158⟩ : ∃ z : Int32, z = y_9 + 1 := ⟨_, rfl⟩
                                          have h := h x_158 ex_158
                                          refine q_iinc (j := 7) (v := x_158) (lv' := [(7, .int x_158), (4, .int r_101), (6, .int 0), (0, .ref (ad o 0 1)), (1, .int p1), (2, .int x_109), (3, .int r_1), (5, .int y_110), (8, .int r_101), (9, .int r_103), (10, .int r_105), (11, .int x_108)]) X dL_holds_388 rfl (by rw [ex_158]; rfl) (by decide) rfl ?_
                                          refine q_goto (tgt := 102) X dL_holds_391 (by decide) ?_
                                          refine q_sub [3, 4, 5, 6, 1, 7, 2, 0] rfl ?_
                                          refine q_w (c2 := (c_4 + 28)) (n2 := (6 * (c_4 + 28))) (by omega) (by omega) ?_
                                          exact ih_11k x_109 r_101 y_110 0 x_158 h (c_4 + 28) (by omega)
                                        · have h := h.2 c_157
                                          refine q_iload (j := 8) X dL_holds_360 rfl ?_
                                          refine q_aload_n (j := 0) X dL_holds_362 rfl rfl ?_
                                          refine q_bipush (v := 22) X dL_holds_363 (by decide) ?_
                                          refine q_aload_n (j := 0) X dL_holds_365 rfl rfl ?_
                                          obtain ⟨k_160, h⟩ := h
                                          refine qG_ask X hW hZ ha (fun _ h => h) YT_ok o (val := (v_dearestEntry (g.1 o))) (Qp := (fun _ r m1 => r = (v_dearestEntry (g.1 o)) ∧ RelN g.2 m1 (g.1 o))) [] [.int 22, .ref (ad o 0 1), .int r_105] rfl rfl (Nat.le_of_ble_eq_true rfl) dL_holds_366 ⟨by show _ ≤ 650; omega, by show _ ≤ 3900; omega⟩ k_160 (fun mo hmo => c_X9_dearestEntry (ha.1 o)  mo _ (n_dearestEntry hmo.rs hmo.inv  _ (fun z hz => ⟨rfl, hmo.scr hz⟩))) (fun _ _ _ _ h => h) rfl rfl (gV kw_6_202 kw_6_203 kw_6_204 kw_1_1 kw_6_205) hy_X9_dearestEntry ⟨(Nat.le_of_ble_eq_true rfl), (Nat.le_of_ble_eq_true rfl)⟩ ?_
                                          refine q_topi (fun r_159 er_159 => ?_)
                                          have h := h r_159 er_159
                                          refine q_iconst (v := 0) X dL_holds_369 (by decide) ?_
                                          refine q_iconst (v := 0) X dL_holds_370 (by decide) ?_
                                          obtain ⟨k_162, h⟩ := h
                                          refine qG_own X hW hZ (fun _ h => h) YT_ok [.ref (ad o 0 1), .int 22, .int r_159, .int 0, .int 0] [.int r_105] rfl rfl (Nat.le_of_ble_eq_true rfl) dL_holds_371 ⟨by show _ ≤ 650; omega, by show _ ≤ 3900; omega⟩ (k_C_22 ha hst o r_159 0 0 g k_162) rfl rfl (gS kw_3_88 kw_3_89 kw_1_0 kw_3_90) hy_L_call.2 ⟨(Nat.le_of_ble_eq_true rfl), (Nat.le_of_ble_eq_true rfl)⟩ (fun r_161 g9 hq => ?_)
                                          obtain ⟨er_161, hq⟩ := hq
                                          rw [hq]
                                          have h := h r_161 er_161
                                          refine q_icmp_gt (tgt := 381) X dL_holds_374 (by decide) (fun c_163 => ?_) (fun c_163 => ?_)
                                          · have h := h.1 c_163
                                            refine q_iconst (v := 0) X dL_holds_381 (by decide) ?_
                                            refine q_istore (lv' := [(6, .int 0), (0, .ref (ad o 0 1)), (1, .int p1), (2, .int x_109), (3, .int r_1), (5, .int y_110), (7, .int y_9), (8, .int r_101), (9, .int r_103), (10, .int r_105), (11, .int x_108)]) X dL_holds_382 (by decide) rfl ?_
                                            refine q_iload (j := 7) X dL_holds_384 rfl ?_
                                            refine q_istore (lv' := [(4, .int r_101), (6, .int 0), (0, .ref (ad o 0 1)), (1, .int p1), (2, .int x_109), (3, .int r_1), (5, .int y_110), (7, .int y_9), (8, .int r_101), (9, .int r_103), (10, .int r_105), (11, .int x_108)]) X dL_holds_386 (by decide) rfl ?_
                                            obtain ⟨x_164, ex_164⟩ : ∃ z : Int32, z = y_9 + 1 := ⟨_, rfl⟩
                                            have h := h x_164 ex_164
                                            refine q_iinc (j := 7) (v := x_164) (lv' := [(7, .int x_164), (4, .int r_101), (6, .int 0), (0, .ref (ad o 0 1)), (1, .int p1), (2, .int x_109), (3, .int r_1), (5, .int y_110), (8, .int r_101), (9, .int r_103), (10, .int r_105), (11, .int x_108)]) X dL_holds_388 rfl (by rw [ex_164]; rfl) (by decide) rfl ?_
                                            refine q_goto (tgt := 102) X dL_holds_391 (by decide) ?_
                                            refine q_sub [3, 4, 5, 6, 1, 7, 2, 0] rfl ?_
                                            refine q_w (c2 := (c_4 + 28)) (n2 := (6 * (c_4 + 28))) (by omega) (by omega) ?_
                                            exact ih_11k x_109 r_101 y_110 0 x_164 h (c_4 + 28) (by omega)
                                          · have h := h.2 c_163
                                            refine q_iconst (v := 1) X dL_holds_377 (by decide) ?_
                                            refine q_goto (tgt := 382) X dL_holds_378 (by decide) ?_
                                            refine q_istore (lv' := [(6, .int 1), (0, .ref (ad o 0 1)), (1, .int p1), (2, .int x_109), (3, .int r_1), (5, .int y_110), (7, .int y_9), (8, .int r_101), (9, .int r_103), (10, .int r_105), (11, .int x_108)]) X dL_holds_382 (by decide) rfl ?_
                                            refine q_iload (j := 7) X dL_holds_384 rfl ?_
                                            refine q_istore (lv' := [(4, .int r_101), (6, .int 1), (0, .ref (ad o 0 1)), (1, .int p1), (2, .int x_109), (3, .int r_1), (5, .int y_110), (7, .int y_9), (8, .int r_101), (9, .int r_103), (10, .int r_105), (11, .int x_108)]) X dL_holds_386 (by decide) rfl ?_
                                            obtain ⟨x_165, ex_165⟩ : ∃ z : Int32, z = y_9 + 1 := ⟨_, rfl⟩
                                            have h := h x_165 ex_165
                                            refine q_iinc (j := 7) (v := x_165) (lv' := [(7, .int x_165), (4, .int r_101), (6, .int 1), (0, .ref (ad o 0 1)), (1, .int p1), (2, .int x_109), (3, .int r_1), (5, .int y_110), (8, .int r_101), (9, .int r_103), (10, .int r_105), (11, .int x_108)]) X dL_holds_388 rfl (by rw [ex_165]; rfl) (by decide) rfl ?_
                                            refine q_goto (tgt := 102) X dL_holds_391 (by decide) ?_
                                            refine q_sub [3, 4, 5, 6, 1, 7, 2, 0] rfl ?_
                                            refine q_w (c2 := (c_4 + 28)) (n2 := (6 * (c_4 + 28))) (by omega) (by omega) ?_
                                            exact ih_11k x_109 r_101 y_110 1 x_165 h (c_4 + 28) (by omega)
                                refine q_if_ne (tgt := 303) X dL_holds_296 (by decide) (fun c_166 => ?_) (fun c_166 => ?_)
                                · have h := h.1 c_166
                                  refine q_iconst (v := 0) X dL_holds_303 (by decide) ?_
                                  refine q_sub [0, 1, 2, 3, 4, 5, 6, 7, 8, 9] rfl ?_
                                  refine q_w (c2 := (c_4 + 18)) (n2 := (6 * (c_4 + 18))) (by omega) (by omega) ?_
                                  exact J304 0 h
                                · have h := h.2 c_166
                                  refine q_iconst (v := 1) X dL_holds_299 (by decide) ?_
                                  refine q_goto (tgt := 304) X dL_holds_300 (by decide) ?_
                                  refine q_sub [0, 1, 2, 3, 4, 5, 6, 7, 8, 9] rfl ?_
                                  refine q_w (c2 := (c_4 + 18)) (n2 := (6 * (c_4 + 18))) (by omega) (by omega) ?_
                                  exact J304 1 h
                              refine q_icmp_ne (tgt := 285) X dL_holds_278 (by decide) (fun c_167 => ?_) (fun c_167 => ?_)
                              · have h := h.1 c_167
                                refine q_iconst (v := 0) X dL_holds_285 (by decide) ?_
                                refine q_sub [1, 2, 3, 4, 0, 6, 7, 8, 9, 10] rfl ?_
                                refine q_w (c2 := (c_4 + 16)) (n2 := (6 * (c_4 + 16))) (by omega) (by omega) ?_
                                exact J286 0 h
                              · have h := h.2 c_167
                                refine q_iconst (v := 1) X dL_holds_281 (by decide) ?_
                                refine q_goto (tgt := 286) X dL_holds_282 (by decide) ?_
                                refine q_sub [1, 2, 3, 4, 0, 6, 7, 8, 9, 10] rfl ?_
                                refine q_w (c2 := (c_4 + 16)) (n2 := (6 * (c_4 + 16))) (by omega) (by omega) ?_
                                exact J286 1 h
            refine q_icmp_le (tgt := 174) X dL_holds_166 (by decide) (fun c_168 => ?_) (fun c_168 => ?_)
            · have h := h.1 c_168
              refine q_iload (j := 9) X dL_holds_174 rfl ?_
              refine q_sub [5, 6, 0, 7, 8, 11, 4, 3, 2, 1] rfl ?_
              refine q_w (c2 := (c_4 + 6)) (n2 := (6 * (c_4 + 6))) (by omega) (by omega) ?_
              exact J176 y_7 h
            · have h := h.2 c_168
              refine q_iload (j := 2) X dL_holds_169 rfl ?_
              refine q_goto (tgt := 176) X dL_holds_171 (by decide) ?_
              refine q_sub [5, 6, 0, 7, 8, 11, 4, 3, 2, 1] rfl ?_
              refine q_w (c2 := (c_4 + 6)) (n2 := (6 * (c_4 + 6))) (by omega) (by omega) ?_
              exact J176 r_105 h
    refine q_w (c2 := 0) (n2 := (6 * 0)) (by omega) (by omega) ?_
    exact L102 17 0 (-1) 0 y_3 0 h 0 (by omega)
  have J96 : w_L_holds_J96 o p1 g Q9 r_1  → V p l e rm_L_holds s m args below meth c QQ 12 (AU A) 0 (6 * 0) (WY D cA ad YT g) 96 [(0, .ref (ad o 0 1)), (1, .int p1), (2, .int 0), (3, .int r_1), (4, .int (-1)), (5, .int 0)] [] := by
    intro  h
    unfold w_L_holds_J96 at h
    refine q_iconst (v := 0) X dL_holds_96 (by decide) ?_
    refine q_sub [0, 1, 2, 3, 4, 5] rfl ?_
    refine q_w (c2 := 0) (n2 := (6 * 0)) (by omega) (by omega) ?_
    exact J97 0 h
  refine q_icmp_gt (tgt := 96) X dL_holds_16 (by decide) (fun c_169 => ?_) (fun c_169 => ?_)
  · have h := h.1 c_169
    refine q_sub [4, 5, 3, 2, 1, 0] rfl ?_
    refine q_w (c2 := 0) (n2 := (6 * 0)) (by omega) (by omega) ?_
    exact J96  h
  · have h := h.2 c_169
    refine q_aload_n (j := 4) X dL_holds_19 rfl rfl ?_
    obtain ⟨k_171, h⟩ := h
    refine qG_ask X hW hZ ha (fun _ h => h) YT_ok o (val := (v_entriesMade (g.1 o))) (Qp := (fun mo r m1 => r = (v_entriesMade (g.1 o)) ∧ mo = m1)) [] [] rfl rfl (Nat.le_of_ble_eq_true rfl) dL_holds_20 ⟨(Nat.le_of_ble_eq_true rfl), (Nat.le_of_ble_eq_true rfl)⟩ k_171 (fun mo hmo => c_X9_entriesMade (ha.1 o)  mo _ (n_entriesMade hmo.rs hmo.inv  _ rfl)) (fun mo r m1 hr h => ⟨h.1, by rw [← h.2]; exact hr⟩) rfl rfl (gV kw_2_132 kw_2_133 kw_2_134 kw_1_1 kw_2_135) hy_X9_entriesMade ⟨(Nat.le_of_ble_eq_true rfl), (Nat.le_of_ble_eq_true rfl)⟩ ?_
    refine q_topi (fun r_170 er_170 => ?_)
    have h := h r_170 er_170
    refine q_bipush (v := 60) X dL_holds_23 (by decide) ?_
    refine q_icmp_gt (tgt := 96) X dL_holds_25 (by decide) (fun c_172 => ?_) (fun c_172 => ?_)
    · have h := h.1 c_172
      refine q_sub [4, 5, 3, 2, 1, 0] rfl ?_
      refine q_w (c2 := 0) (n2 := (6 * 0)) (by omega) (by omega) ?_
      exact J96  h
    · have h := h.2 c_172
      refine q_aload_n (j := 4) X dL_holds_28 rfl rfl ?_
      obtain ⟨k_174, h⟩ := h
      refine qG_ask X hW hZ ha (fun _ h => h) YT_ok o (val := (v_balance (g.1 o))) (Qp := (fun mo r m1 => r = (v_balance (g.1 o)) ∧ mo = m1)) [] [] rfl rfl (Nat.le_of_ble_eq_true rfl) dL_holds_29 ⟨(Nat.le_of_ble_eq_true rfl), (Nat.le_of_ble_eq_true rfl)⟩ k_174 (fun mo hmo => c_X9_balance (ha.1 o)  mo _ (n_balance hmo.rs hmo.inv  _ rfl)) (fun mo r m1 hr h => ⟨h.1, by rw [← h.2]; exact hr⟩) rfl rfl (gV kw_6_174 kw_6_175 kw_6_176 kw_1_1 kw_6_177) hy_X9_balance ⟨(Nat.le_of_ble_eq_true rfl), (Nat.le_of_ble_eq_true rfl)⟩ ?_
      refine q_topi (fun r_173 er_173 => ?_)
      have h := h r_173 er_173
      refine q_aload_n (j := 4) X dL_holds_32 rfl rfl ?_
      obtain ⟨k_176, h⟩ := h
      refine qG_ask X hW hZ ha (fun _ h => h) YT_ok o (val := (v_balanceByTotals (g.1 o))) (Qp := (fun mo r m1 => r = (v_balanceByTotals (g.1 o)) ∧ mo = m1)) [] [.int r_173] rfl rfl (Nat.le_of_ble_eq_true rfl) dL_holds_33 ⟨(Nat.le_of_ble_eq_true rfl), (Nat.le_of_ble_eq_true rfl)⟩ k_176 (fun mo hmo => c_X9_balanceByTotals (ha.1 o)  mo _ (n_balanceByTotals hmo.rs hmo.inv  _ rfl)) (fun mo r m1 hr h => ⟨h.1, by rw [← h.2]; exact hr⟩) rfl rfl (gV kw_6_178 kw_6_179 kw_6_180 kw_1_1 kw_6_181) hy_X9_balanceByTotals ⟨(Nat.le_of_ble_eq_true rfl), (Nat.le_of_ble_eq_true rfl)⟩ ?_
      refine q_topi (fun r_175 er_175 => ?_)
      have h := h r_175 er_175
      refine q_icmp_ne (tgt := 96) X dL_holds_36 (by decide) (fun c_177 => ?_) (fun c_177 => ?_)
      · have h := h.1 c_177
        refine q_sub [4, 5, 3, 2, 1, 0] rfl ?_
        refine q_w (c2 := 0) (n2 := (6 * 0)) (by omega) (by omega) ?_
        exact J96  h
      · have h := h.2 c_177
        refine q_aload_n (j := 4) X dL_holds_39 rfl rfl ?_
        obtain ⟨k_179, h⟩ := h
        refine qG_ask X hW hZ ha (fun _ h => h) YT_ok o (val := (v_balance (g.1 o))) (Qp := (fun mo r m1 => r = (v_balance (g.1 o)) ∧ mo = m1)) [] [] rfl rfl (Nat.le_of_ble_eq_true rfl) dL_holds_40 ⟨(Nat.le_of_ble_eq_true rfl), (Nat.le_of_ble_eq_true rfl)⟩ k_179 (fun mo hmo => c_X9_balance (ha.1 o)  mo _ (n_balance hmo.rs hmo.inv  _ rfl)) (fun mo r m1 hr h => ⟨h.1, by rw [← h.2]; exact hr⟩) rfl rfl (gV kw_6_174 kw_6_175 kw_6_176 kw_1_1 kw_6_177) hy_X9_balance ⟨(Nat.le_of_ble_eq_true rfl), (Nat.le_of_ble_eq_true rfl)⟩ ?_
        refine q_topi (fun r_178 er_178 => ?_)
        have h := h r_178 er_178
        refine q_aload_n (j := 4) X dL_holds_43 rfl rfl ?_
        obtain ⟨k_181, h⟩ := h
        refine qG_ask X hW hZ ha (fun _ h => h) YT_ok o (val := (v_account (g.1 o))) (Qp := (fun mo r m1 => r = (v_account (g.1 o)) ∧ mo = m1)) [] [.int r_178] rfl rfl (Nat.le_of_ble_eq_true rfl) dL_holds_44 ⟨(Nat.le_of_ble_eq_true rfl), (Nat.le_of_ble_eq_true rfl)⟩ k_181 (fun mo hmo => c_X9_account (ha.1 o)  mo _ (n_account hmo.rs hmo.inv  _ rfl)) (fun mo r m1 hr h => ⟨h.1, by rw [← h.2]; exact hr⟩) rfl rfl (gV kw_6_182 kw_6_183 kw_6_184 kw_1_1 kw_6_185) hy_X9_account ⟨(Nat.le_of_ble_eq_true rfl), (Nat.le_of_ble_eq_true rfl)⟩ ?_
        refine q_topi (fun r_180 er_180 => ?_)
        have h := h r_180 er_180
        refine q_aload_n (j := 4) X dL_holds_47 rfl rfl ?_
        obtain ⟨k_183, h⟩ := h
        refine qG_ask X hW hZ ha (fun _ h => h) YT_ok o (val := (v_debt (g.1 o))) (Qp := (fun mo r m1 => r = (v_debt (g.1 o)) ∧ mo = m1)) [] [.int r_180, .int r_178] rfl rfl (Nat.le_of_ble_eq_true rfl) dL_holds_48 ⟨(Nat.le_of_ble_eq_true rfl), (Nat.le_of_ble_eq_true rfl)⟩ k_183 (fun mo hmo => c_X9_debt (ha.1 o)  mo _ (n_debt hmo.rs hmo.inv  _ rfl)) (fun mo r m1 hr h => ⟨h.1, by rw [← h.2]; exact hr⟩) rfl rfl (gV kw_6_186 kw_6_187 kw_6_188 kw_1_1 kw_6_189) hy_X9_debt ⟨(Nat.le_of_ble_eq_true rfl), (Nat.le_of_ble_eq_true rfl)⟩ ?_
        refine q_topi (fun r_182 er_182 => ?_)
        have h := h r_182 er_182
        refine q_isub X dL_holds_51 ?_
        refine q_icmp_ne (tgt := 96) X dL_holds_52 (by decide) (fun c_184 => ?_) (fun c_184 => ?_)
        · have h := h.1 c_184
          refine q_sub [4, 5, 3, 2, 1, 0] rfl ?_
          refine q_w (c2 := 0) (n2 := (6 * 0)) (by omega) (by omega) ?_
          exact J96  h
        · have h := h.2 c_184
          refine q_aload_n (j := 4) X dL_holds_55 rfl rfl ?_
          obtain ⟨k_186, h⟩ := h
          refine qG_ask X hW hZ ha (fun _ h => h) YT_ok o (val := (v_account (g.1 o))) (Qp := (fun mo r m1 => r = (v_account (g.1 o)) ∧ mo = m1)) [] [] rfl rfl (Nat.le_of_ble_eq_true rfl) dL_holds_56 ⟨(Nat.le_of_ble_eq_true rfl), (Nat.le_of_ble_eq_true rfl)⟩ k_186 (fun mo hmo => c_X9_account (ha.1 o)  mo _ (n_account hmo.rs hmo.inv  _ rfl)) (fun mo r m1 hr h => ⟨h.1, by rw [← h.2]; exact hr⟩) rfl rfl (gV kw_6_182 kw_6_183 kw_6_184 kw_1_1 kw_6_185) hy_X9_account ⟨(Nat.le_of_ble_eq_true rfl), (Nat.le_of_ble_eq_true rfl)⟩ ?_
          refine q_topi (fun r_185 er_185 => ?_)
          have h := h r_185 er_185
          have J69 : w_L_holds_J69 o p1 g Q9 r_1  → V p l e rm_L_holds s m args below meth c QQ 12 (AU A) 0 (6 * 0) (WY D cA ad YT g) 69 [(0, .ref (ad o 0 1)), (1, .int p1), (2, .int 0), (3, .int r_1), (4, .int (-1)), (5, .int 0)] [] := by
            intro  h
            unfold w_L_holds_J69 at h
            refine q_aload_n (j := 0) X dL_holds_69 rfl rfl ?_
            obtain ⟨k_188, h⟩ := h
            refine qG_ask X hW hZ ha (fun _ h => h) YT_ok o (val := (v_account (g.1 o))) (Qp := (fun mo r m1 => r = (v_account (g.1 o)) ∧ mo = m1)) [] [] rfl rfl (Nat.le_of_ble_eq_true rfl) dL_holds_70 ⟨(Nat.le_of_ble_eq_true rfl), (Nat.le_of_ble_eq_true rfl)⟩ k_188 (fun mo hmo => c_X9_account (ha.1 o)  mo _ (n_account hmo.rs hmo.inv  _ rfl)) (fun mo r m1 hr h => ⟨h.1, by rw [← h.2]; exact hr⟩) rfl rfl (gV kw_6_182 kw_6_183 kw_6_184 kw_1_1 kw_6_185) hy_X9_account ⟨(Nat.le_of_ble_eq_true rfl), (Nat.le_of_ble_eq_true rfl)⟩ ?_
            refine q_topi (fun r_187 er_187 => ?_)
            have h := h r_187 er_187
            refine q_if_lt (tgt := 96) X dL_holds_73 (by decide) (fun c_189 => ?_) (fun c_189 => ?_)
            · have h := h.1 c_189
              refine q_sub [0, 1, 2, 3, 4, 5] rfl ?_
              refine q_w (c2 := 0) (n2 := (6 * 0)) (by omega) (by omega) ?_
              exact J96  h
            · have h := h.2 c_189
              refine q_aload_n (j := 0) X dL_holds_76 rfl rfl ?_
              obtain ⟨k_191, h⟩ := h
              refine qG_ask X hW hZ ha (fun _ h => h) YT_ok o (val := (v_debt (g.1 o))) (Qp := (fun mo r m1 => r = (v_debt (g.1 o)) ∧ mo = m1)) [] [] rfl rfl (Nat.le_of_ble_eq_true rfl) dL_holds_77 ⟨(Nat.le_of_ble_eq_true rfl), (Nat.le_of_ble_eq_true rfl)⟩ k_191 (fun mo hmo => c_X9_debt (ha.1 o)  mo _ (n_debt hmo.rs hmo.inv  _ rfl)) (fun mo r m1 hr h => ⟨h.1, by rw [← h.2]; exact hr⟩) rfl rfl (gV kw_6_186 kw_6_187 kw_6_188 kw_1_1 kw_6_189) hy_X9_debt ⟨(Nat.le_of_ble_eq_true rfl), (Nat.le_of_ble_eq_true rfl)⟩ ?_
              refine q_topi (fun r_190 er_190 => ?_)
              have h := h r_190 er_190
              refine q_if_lt (tgt := 96) X dL_holds_80 (by decide) (fun c_192 => ?_) (fun c_192 => ?_)
              · have h := h.1 c_192
                refine q_sub [0, 1, 2, 3, 4, 5] rfl ?_
                refine q_w (c2 := 0) (n2 := (6 * 0)) (by omega) (by omega) ?_
                exact J96  h
              · have h := h.2 c_192
                refine q_aload_n (j := 0) X dL_holds_83 rfl rfl ?_
                obtain ⟨k_194, h⟩ := h
                refine qG_ask X hW hZ ha (fun _ h => h) YT_ok o (val := (v_receipts (g.1 o))) (Qp := (fun mo r m1 => r = (v_receipts (g.1 o)) ∧ mo = m1)) [] [] rfl rfl (Nat.le_of_ble_eq_true rfl) dL_holds_84 ⟨(Nat.le_of_ble_eq_true rfl), (Nat.le_of_ble_eq_true rfl)⟩ k_194 (fun mo hmo => c_X9_receipts (ha.1 o)  mo _ (n_receipts hmo.rs hmo.inv  _ rfl)) (fun mo r m1 hr h => ⟨h.1, by rw [← h.2]; exact hr⟩) rfl rfl (gV kw_2_136 kw_2_137 kw_2_138 kw_1_1 kw_2_139) hy_X9_receipts ⟨(Nat.le_of_ble_eq_true rfl), (Nat.le_of_ble_eq_true rfl)⟩ ?_
                refine q_topi (fun r_193 er_193 => ?_)
                have h := h r_193 er_193
                refine q_bipush (v := 12) X dL_holds_87 (by decide) ?_
                refine q_icmp_gt (tgt := 96) X dL_holds_89 (by decide) (fun c_195 => ?_) (fun c_195 => ?_)
                · have h := h.1 c_195
                  refine q_sub [0, 1, 2, 3, 4, 5] rfl ?_
                  refine q_w (c2 := 0) (n2 := (6 * 0)) (by omega) (by omega) ?_
                  exact J96  h
                · have h := h.2 c_195
                  refine q_iconst (v := 1) X dL_holds_92 (by decide) ?_
                  refine q_goto (tgt := 97) X dL_holds_93 (by decide) ?_
                  refine q_sub [0, 1, 2, 3, 4, 5] rfl ?_
                  refine q_w (c2 := 0) (n2 := (6 * 0)) (by omega) (by omega) ?_
                  exact J97 1 h
          refine q_if_eq (tgt := 69) X dL_holds_59 (by decide) (fun c_196 => ?_) (fun c_196 => ?_)
          · have h := h.1 c_196
            refine q_sub [4, 5, 3, 2, 1, 0] rfl ?_
            refine q_w (c2 := 0) (n2 := (6 * 0)) (by omega) (by omega) ?_
            exact J69  h
          · have h := h.2 c_196
            refine q_aload_n (j := 4) X dL_holds_62 rfl rfl ?_
            obtain ⟨k_198, h⟩ := h
            refine qG_ask X hW hZ ha (fun _ h => h) YT_ok o (val := (v_debt (g.1 o))) (Qp := (fun mo r m1 => r = (v_debt (g.1 o)) ∧ mo = m1)) [] [] rfl rfl (Nat.le_of_ble_eq_true rfl) dL_holds_63 ⟨(Nat.le_of_ble_eq_true rfl), (Nat.le_of_ble_eq_true rfl)⟩ k_198 (fun mo hmo => c_X9_debt (ha.1 o)  mo _ (n_debt hmo.rs hmo.inv  _ rfl)) (fun mo r m1 hr h => ⟨h.1, by rw [← h.2]; exact hr⟩) rfl rfl (gV kw_6_186 kw_6_187 kw_6_188 kw_1_1 kw_6_189) hy_X9_debt ⟨(Nat.le_of_ble_eq_true rfl), (Nat.le_of_ble_eq_true rfl)⟩ ?_
            refine q_topi (fun r_197 er_197 => ?_)
            have h := h r_197 er_197
            refine q_if_ne (tgt := 96) X dL_holds_66 (by decide) (fun c_199 => ?_) (fun c_199 => ?_)
            · have h := h.1 c_199
              refine q_sub [4, 5, 3, 2, 1, 0] rfl ?_
              refine q_w (c2 := 0) (n2 := (6 * 0)) (by omega) (by omega) ?_
              exact J96  h
            · have h := h.2 c_199
              refine q_sub [4, 5, 3, 2, 1, 0] rfl ?_
              refine q_w (c2 := 0) (n2 := (6 * 0)) (by omega) (by omega) ?_
              exact J69  h
theorem dL_alike_0 : decode cL_alike 0 = .ok (.aload_n 0, 1) := by decide +kernel
theorem dL_alike_1 : decode cL_alike 1 = .ok (.invokevirtual 438, 3) := by decide +kernel
theorem dL_alike_4 : decode cL_alike 4 = .ok (.aload_n 1, 1) := by decide +kernel
theorem dL_alike_5 : decode cL_alike 5 = .ok (.invokevirtual 438, 3) := by decide +kernel
theorem dL_alike_8 : decode cL_alike 8 = .ok (.if_icmp .ne 128, 3) := by decide +kernel
theorem dL_alike_11 : decode cL_alike 11 = .ok (.aload_n 0, 1) := by decide +kernel
theorem dL_alike_12 : decode cL_alike 12 = .ok (.invokevirtual 397, 3) := by decide +kernel
theorem dL_alike_15 : decode cL_alike 15 = .ok (.aload_n 1, 1) := by decide +kernel
theorem dL_alike_16 : decode cL_alike 16 = .ok (.invokevirtual 397, 3) := by decide +kernel
theorem dL_alike_19 : decode cL_alike 19 = .ok (.if_icmp .ne 117, 3) := by decide +kernel
theorem dL_alike_22 : decode cL_alike 22 = .ok (.aload_n 0, 1) := by decide +kernel
theorem dL_alike_23 : decode cL_alike 23 = .ok (.invokevirtual 384, 3) := by decide +kernel
theorem dL_alike_26 : decode cL_alike 26 = .ok (.aload_n 1, 1) := by decide +kernel
theorem dL_alike_27 : decode cL_alike 27 = .ok (.invokevirtual 384, 3) := by decide +kernel
theorem dL_alike_30 : decode cL_alike 30 = .ok (.if_icmp .ne 106, 3) := by decide +kernel
theorem dL_alike_33 : decode cL_alike 33 = .ok (.aload_n 0, 1) := by decide +kernel
theorem dL_alike_34 : decode cL_alike 34 = .ok (.invokevirtual 410, 3) := by decide +kernel
theorem dL_alike_37 : decode cL_alike 37 = .ok (.aload_n 1, 1) := by decide +kernel
theorem dL_alike_38 : decode cL_alike 38 = .ok (.invokevirtual 410, 3) := by decide +kernel
theorem dL_alike_41 : decode cL_alike 41 = .ok (.if_icmp .ne 95, 3) := by decide +kernel
theorem dL_alike_44 : decode cL_alike 44 = .ok (.aload_n 0, 1) := by decide +kernel
theorem dL_alike_45 : decode cL_alike 45 = .ok (.invokevirtual 420, 3) := by decide +kernel
theorem dL_alike_48 : decode cL_alike 48 = .ok (.aload_n 1, 1) := by decide +kernel
theorem dL_alike_49 : decode cL_alike 49 = .ok (.invokevirtual 420, 3) := by decide +kernel
theorem dL_alike_52 : decode cL_alike 52 = .ok (.if_icmp .ne 84, 3) := by decide +kernel
theorem dL_alike_55 : decode cL_alike 55 = .ok (.aload_n 0, 1) := by decide +kernel
theorem dL_alike_56 : decode cL_alike 56 = .ok (.invokevirtual 423, 3) := by decide +kernel
theorem dL_alike_59 : decode cL_alike 59 = .ok (.aload_n 1, 1) := by decide +kernel
theorem dL_alike_60 : decode cL_alike 60 = .ok (.invokevirtual 423, 3) := by decide +kernel
theorem dL_alike_63 : decode cL_alike 63 = .ok (.if_icmp .ne 73, 3) := by decide +kernel
theorem dL_alike_66 : decode cL_alike 66 = .ok (.aload_n 0, 1) := by decide +kernel
theorem dL_alike_67 : decode cL_alike 67 = .ok (.invokevirtual 441, 3) := by decide +kernel
theorem dL_alike_70 : decode cL_alike 70 = .ok (.aload_n 1, 1) := by decide +kernel
theorem dL_alike_71 : decode cL_alike 71 = .ok (.invokevirtual 441, 3) := by decide +kernel
theorem dL_alike_74 : decode cL_alike 74 = .ok (.if_icmp .ne 62, 3) := by decide +kernel
theorem dL_alike_77 : decode cL_alike 77 = .ok (.aload_n 0, 1) := by decide +kernel
theorem dL_alike_78 : decode cL_alike 78 = .ok (.invokevirtual 387, 3) := by decide +kernel
theorem dL_alike_81 : decode cL_alike 81 = .ok (.aload_n 1, 1) := by decide +kernel
theorem dL_alike_82 : decode cL_alike 82 = .ok (.invokevirtual 387, 3) := by decide +kernel
theorem dL_alike_85 : decode cL_alike 85 = .ok (.if_icmp .ne 51, 3) := by decide +kernel
theorem dL_alike_88 : decode cL_alike 88 = .ok (.aload_n 0, 1) := by decide +kernel
theorem dL_alike_89 : decode cL_alike 89 = .ok (.invokevirtual 444, 3) := by decide +kernel
theorem dL_alike_92 : decode cL_alike 92 = .ok (.aload_n 1, 1) := by decide +kernel
theorem dL_alike_93 : decode cL_alike 93 = .ok (.invokevirtual 444, 3) := by decide +kernel
theorem dL_alike_96 : decode cL_alike 96 = .ok (.if_icmp .ne 40, 3) := by decide +kernel
theorem dL_alike_99 : decode cL_alike 99 = .ok (.aload_n 0, 1) := by decide +kernel
theorem dL_alike_100 : decode cL_alike 100 = .ok (.invokevirtual 447, 3) := by decide +kernel
theorem dL_alike_103 : decode cL_alike 103 = .ok (.aload_n 1, 1) := by decide +kernel
theorem dL_alike_104 : decode cL_alike 104 = .ok (.invokevirtual 447, 3) := by decide +kernel
theorem dL_alike_107 : decode cL_alike 107 = .ok (.if_icmp .ne 29, 3) := by decide +kernel
theorem dL_alike_110 : decode cL_alike 110 = .ok (.aload_n 0, 1) := by decide +kernel
theorem dL_alike_111 : decode cL_alike 111 = .ok (.invokevirtual 450, 3) := by decide +kernel
theorem dL_alike_114 : decode cL_alike 114 = .ok (.aload_n 1, 1) := by decide +kernel
theorem dL_alike_115 : decode cL_alike 115 = .ok (.invokevirtual 450, 3) := by decide +kernel
theorem dL_alike_118 : decode cL_alike 118 = .ok (.if_icmp .ne 18, 3) := by decide +kernel
theorem dL_alike_121 : decode cL_alike 121 = .ok (.aload_n 0, 1) := by decide +kernel
theorem dL_alike_122 : decode cL_alike 122 = .ok (.invokevirtual 435, 3) := by decide +kernel
theorem dL_alike_125 : decode cL_alike 125 = .ok (.aload_n 1, 1) := by decide +kernel
theorem dL_alike_126 : decode cL_alike 126 = .ok (.invokevirtual 435, 3) := by decide +kernel
theorem dL_alike_129 : decode cL_alike 129 = .ok (.if_icmp .ne 7, 3) := by decide +kernel
theorem dL_alike_132 : decode cL_alike 132 = .ok (.iconst 1, 1) := by decide +kernel
theorem dL_alike_133 : decode cL_alike 133 = .ok (.goto 4, 3) := by decide +kernel
theorem dL_alike_136 : decode cL_alike 136 = .ok (.iconst 0, 1) := by decide +kernel
theorem dL_alike_137 : decode cL_alike 137 = .ok (.istore_n 2, 1) := by decide +kernel
theorem dL_alike_138 : decode cL_alike 138 = .ok (.aload_n 0, 1) := by decide +kernel
theorem dL_alike_139 : decode cL_alike 139 = .ok (.invokevirtual 397, 3) := by decide +kernel
theorem dL_alike_142 : decode cL_alike 142 = .ok (.istore_n 3, 1) := by decide +kernel
theorem dL_alike_143 : decode cL_alike 143 = .ok (.iconst 0, 1) := by decide +kernel
theorem dL_alike_144 : decode cL_alike 144 = .ok (.istore 4, 2) := by decide +kernel
theorem dL_alike_146 : decode cL_alike 146 = .ok (.iload 4, 2) := by decide +kernel
theorem dL_alike_148 : decode cL_alike 148 = .ok (.iload_n 3, 1) := by decide +kernel
theorem dL_alike_149 : decode cL_alike 149 = .ok (.if_icmp .ge 176, 3) := by decide +kernel
theorem dL_alike_152 : decode cL_alike 152 = .ok (.iload_n 2, 1) := by decide +kernel
theorem dL_alike_153 : decode cL_alike 153 = .ok (.ifCond .eq 172, 3) := by decide +kernel
theorem dL_alike_156 : decode cL_alike 156 = .ok (.aload_n 0, 1) := by decide +kernel
theorem dL_alike_157 : decode cL_alike 157 = .ok (.bipush 15, 2) := by decide +kernel
theorem dL_alike_159 : decode cL_alike 159 = .ok (.iload 4, 2) := by decide +kernel
theorem dL_alike_161 : decode cL_alike 161 = .ok (.iconst 0, 1) := by decide +kernel
theorem dL_alike_162 : decode cL_alike 162 = .ok (.iconst 0, 1) := by decide +kernel
theorem dL_alike_163 : decode cL_alike 163 = .ok (.invokestatic 393, 3) := by decide +kernel
theorem dL_alike_166 : decode cL_alike 166 = .ok (.istore 5, 2) := by decide +kernel
theorem dL_alike_168 : decode cL_alike 168 = .ok (.aload_n 1, 1) := by decide +kernel
theorem dL_alike_169 : decode cL_alike 169 = .ok (.bipush 15, 2) := by decide +kernel
theorem dL_alike_171 : decode cL_alike 171 = .ok (.iload 4, 2) := by decide +kernel
theorem dL_alike_173 : decode cL_alike 173 = .ok (.iconst 0, 1) := by decide +kernel
theorem dL_alike_174 : decode cL_alike 174 = .ok (.iconst 0, 1) := by decide +kernel
theorem dL_alike_175 : decode cL_alike 175 = .ok (.invokestatic 393, 3) := by decide +kernel
theorem dL_alike_178 : decode cL_alike 178 = .ok (.iload 5, 2) := by decide +kernel
theorem dL_alike_180 : decode cL_alike 180 = .ok (.if_icmp .ne 137, 3) := by decide +kernel
theorem dL_alike_183 : decode cL_alike 183 = .ok (.aload_n 0, 1) := by decide +kernel
theorem dL_alike_184 : decode cL_alike 184 = .ok (.bipush 17, 2) := by decide +kernel
theorem dL_alike_186 : decode cL_alike 186 = .ok (.iload 5, 2) := by decide +kernel
theorem dL_alike_188 : decode cL_alike 188 = .ok (.iconst 0, 1) := by decide +kernel
theorem dL_alike_189 : decode cL_alike 189 = .ok (.iconst 0, 1) := by decide +kernel
theorem dL_alike_190 : decode cL_alike 190 = .ok (.invokestatic 393, 3) := by decide +kernel
theorem dL_alike_193 : decode cL_alike 193 = .ok (.aload_n 1, 1) := by decide +kernel
theorem dL_alike_194 : decode cL_alike 194 = .ok (.bipush 17, 2) := by decide +kernel
theorem dL_alike_196 : decode cL_alike 196 = .ok (.iload 5, 2) := by decide +kernel
theorem dL_alike_198 : decode cL_alike 198 = .ok (.iconst 0, 1) := by decide +kernel
theorem dL_alike_199 : decode cL_alike 199 = .ok (.iconst 0, 1) := by decide +kernel
theorem dL_alike_200 : decode cL_alike 200 = .ok (.invokestatic 393, 3) := by decide +kernel
theorem dL_alike_203 : decode cL_alike 203 = .ok (.if_icmp .ne 114, 3) := by decide +kernel
theorem dL_alike_206 : decode cL_alike 206 = .ok (.aload_n 0, 1) := by decide +kernel
theorem dL_alike_207 : decode cL_alike 207 = .ok (.bipush 18, 2) := by decide +kernel
theorem dL_alike_209 : decode cL_alike 209 = .ok (.iload 5, 2) := by decide +kernel
theorem dL_alike_211 : decode cL_alike 211 = .ok (.iconst 0, 1) := by decide +kernel
theorem dL_alike_212 : decode cL_alike 212 = .ok (.iconst 0, 1) := by decide +kernel
theorem dL_alike_213 : decode cL_alike 213 = .ok (.invokestatic 393, 3) := by decide +kernel
theorem dL_alike_216 : decode cL_alike 216 = .ok (.aload_n 1, 1) := by decide +kernel
theorem dL_alike_217 : decode cL_alike 217 = .ok (.bipush 18, 2) := by decide +kernel
theorem dL_alike_219 : decode cL_alike 219 = .ok (.iload 5, 2) := by decide +kernel
theorem dL_alike_221 : decode cL_alike 221 = .ok (.iconst 0, 1) := by decide +kernel
theorem dL_alike_222 : decode cL_alike 222 = .ok (.iconst 0, 1) := by decide +kernel
theorem dL_alike_223 : decode cL_alike 223 = .ok (.invokestatic 393, 3) := by decide +kernel
theorem dL_alike_226 : decode cL_alike 226 = .ok (.if_icmp .ne 91, 3) := by decide +kernel
theorem dL_alike_229 : decode cL_alike 229 = .ok (.aload_n 0, 1) := by decide +kernel
theorem dL_alike_230 : decode cL_alike 230 = .ok (.bipush 19, 2) := by decide +kernel
theorem dL_alike_232 : decode cL_alike 232 = .ok (.iload 5, 2) := by decide +kernel
theorem dL_alike_234 : decode cL_alike 234 = .ok (.iconst 0, 1) := by decide +kernel
theorem dL_alike_235 : decode cL_alike 235 = .ok (.iconst 0, 1) := by decide +kernel
theorem dL_alike_236 : decode cL_alike 236 = .ok (.invokestatic 393, 3) := by decide +kernel
theorem dL_alike_239 : decode cL_alike 239 = .ok (.aload_n 1, 1) := by decide +kernel
theorem dL_alike_240 : decode cL_alike 240 = .ok (.bipush 19, 2) := by decide +kernel
theorem dL_alike_242 : decode cL_alike 242 = .ok (.iload 5, 2) := by decide +kernel
theorem dL_alike_244 : decode cL_alike 244 = .ok (.iconst 0, 1) := by decide +kernel
theorem dL_alike_245 : decode cL_alike 245 = .ok (.iconst 0, 1) := by decide +kernel
theorem dL_alike_246 : decode cL_alike 246 = .ok (.invokestatic 393, 3) := by decide +kernel
theorem dL_alike_249 : decode cL_alike 249 = .ok (.if_icmp .ne 68, 3) := by decide +kernel
theorem dL_alike_252 : decode cL_alike 252 = .ok (.aload_n 0, 1) := by decide +kernel
theorem dL_alike_253 : decode cL_alike 253 = .ok (.bipush 20, 2) := by decide +kernel
theorem dL_alike_255 : decode cL_alike 255 = .ok (.iload 5, 2) := by decide +kernel
theorem dL_alike_257 : decode cL_alike 257 = .ok (.iconst 0, 1) := by decide +kernel
theorem dL_alike_258 : decode cL_alike 258 = .ok (.iconst 0, 1) := by decide +kernel
theorem dL_alike_259 : decode cL_alike 259 = .ok (.invokestatic 393, 3) := by decide +kernel
theorem dL_alike_262 : decode cL_alike 262 = .ok (.aload_n 1, 1) := by decide +kernel
theorem dL_alike_263 : decode cL_alike 263 = .ok (.bipush 20, 2) := by decide +kernel
theorem dL_alike_265 : decode cL_alike 265 = .ok (.iload 5, 2) := by decide +kernel
theorem dL_alike_267 : decode cL_alike 267 = .ok (.iconst 0, 1) := by decide +kernel
theorem dL_alike_268 : decode cL_alike 268 = .ok (.iconst 0, 1) := by decide +kernel
theorem dL_alike_269 : decode cL_alike 269 = .ok (.invokestatic 393, 3) := by decide +kernel
theorem dL_alike_272 : decode cL_alike 272 = .ok (.if_icmp .ne 45, 3) := by decide +kernel
theorem dL_alike_275 : decode cL_alike 275 = .ok (.aload_n 0, 1) := by decide +kernel
theorem dL_alike_276 : decode cL_alike 276 = .ok (.iload 5, 2) := by decide +kernel
theorem dL_alike_278 : decode cL_alike 278 = .ok (.invokestatic 400, 3) := by decide +kernel
theorem dL_alike_281 : decode cL_alike 281 = .ok (.aload_n 1, 1) := by decide +kernel
theorem dL_alike_282 : decode cL_alike 282 = .ok (.iload 5, 2) := by decide +kernel
theorem dL_alike_284 : decode cL_alike 284 = .ok (.invokestatic 400, 3) := by decide +kernel
theorem dL_alike_287 : decode cL_alike 287 = .ok (.if_icmp .ne 30, 3) := by decide +kernel
theorem dL_alike_290 : decode cL_alike 290 = .ok (.aload_n 0, 1) := by decide +kernel
theorem dL_alike_291 : decode cL_alike 291 = .ok (.bipush 23, 2) := by decide +kernel
theorem dL_alike_293 : decode cL_alike 293 = .ok (.iload 5, 2) := by decide +kernel
theorem dL_alike_295 : decode cL_alike 295 = .ok (.iconst 0, 1) := by decide +kernel
theorem dL_alike_296 : decode cL_alike 296 = .ok (.iconst 0, 1) := by decide +kernel
theorem dL_alike_297 : decode cL_alike 297 = .ok (.invokestatic 393, 3) := by decide +kernel
theorem dL_alike_300 : decode cL_alike 300 = .ok (.aload_n 1, 1) := by decide +kernel
theorem dL_alike_301 : decode cL_alike 301 = .ok (.bipush 23, 2) := by decide +kernel
theorem dL_alike_303 : decode cL_alike 303 = .ok (.iload 5, 2) := by decide +kernel
theorem dL_alike_305 : decode cL_alike 305 = .ok (.iconst 0, 1) := by decide +kernel
theorem dL_alike_306 : decode cL_alike 306 = .ok (.iconst 0, 1) := by decide +kernel
theorem dL_alike_307 : decode cL_alike 307 = .ok (.invokestatic 393, 3) := by decide +kernel
theorem dL_alike_310 : decode cL_alike 310 = .ok (.if_icmp .ne 7, 3) := by decide +kernel
theorem dL_alike_313 : decode cL_alike 313 = .ok (.iconst 1, 1) := by decide +kernel
theorem dL_alike_314 : decode cL_alike 314 = .ok (.goto 4, 3) := by decide +kernel
theorem dL_alike_317 : decode cL_alike 317 = .ok (.iconst 0, 1) := by decide +kernel
theorem dL_alike_318 : decode cL_alike 318 = .ok (.istore_n 2, 1) := by decide +kernel
theorem dL_alike_319 : decode cL_alike 319 = .ok (.iinc 4 1, 3) := by decide +kernel
theorem dL_alike_322 : decode cL_alike 322 = .ok (.goto (-176), 3) := by decide +kernel
theorem dL_alike_325 : decode cL_alike 325 = .ok (.iconst 0, 1) := by decide +kernel
theorem dL_alike_326 : decode cL_alike 326 = .ok (.istore 4, 2) := by decide +kernel
theorem dL_alike_328 : decode cL_alike 328 = .ok (.iload 4, 2) := by decide +kernel
theorem dL_alike_330 : decode cL_alike 330 = .ok (.iconst 5, 1) := by decide +kernel
theorem dL_alike_331 : decode cL_alike 331 = .ok (.if_icmp .ge 126, 3) := by decide +kernel
theorem dL_alike_334 : decode cL_alike 334 = .ok (.iload_n 2, 1) := by decide +kernel
theorem dL_alike_335 : decode cL_alike 335 = .ok (.ifCond .eq 122, 3) := by decide +kernel
theorem dL_alike_338 : decode cL_alike 338 = .ok (.aload_n 0, 1) := by decide +kernel
theorem dL_alike_339 : decode cL_alike 339 = .ok (.bipush 24, 2) := by decide +kernel
theorem dL_alike_341 : decode cL_alike 341 = .ok (.iload 4, 2) := by decide +kernel
theorem dL_alike_343 : decode cL_alike 343 = .ok (.iconst 0, 1) := by decide +kernel
theorem dL_alike_344 : decode cL_alike 344 = .ok (.iconst 0, 1) := by decide +kernel
theorem dL_alike_345 : decode cL_alike 345 = .ok (.invokestatic 393, 3) := by decide +kernel
theorem dL_alike_348 : decode cL_alike 348 = .ok (.aload_n 1, 1) := by decide +kernel
theorem dL_alike_349 : decode cL_alike 349 = .ok (.bipush 24, 2) := by decide +kernel
theorem dL_alike_351 : decode cL_alike 351 = .ok (.iload 4, 2) := by decide +kernel
theorem dL_alike_353 : decode cL_alike 353 = .ok (.iconst 0, 1) := by decide +kernel
theorem dL_alike_354 : decode cL_alike 354 = .ok (.iconst 0, 1) := by decide +kernel
theorem dL_alike_355 : decode cL_alike 355 = .ok (.invokestatic 393, 3) := by decide +kernel
theorem dL_alike_358 : decode cL_alike 358 = .ok (.if_icmp .ne 91, 3) := by decide +kernel
theorem dL_alike_361 : decode cL_alike 361 = .ok (.aload_n 0, 1) := by decide +kernel
theorem dL_alike_362 : decode cL_alike 362 = .ok (.iload 4, 2) := by decide +kernel
theorem dL_alike_364 : decode cL_alike 364 = .ok (.invokestatic 407, 3) := by decide +kernel
theorem dL_alike_367 : decode cL_alike 367 = .ok (.aload_n 1, 1) := by decide +kernel
theorem dL_alike_368 : decode cL_alike 368 = .ok (.iload 4, 2) := by decide +kernel
theorem dL_alike_370 : decode cL_alike 370 = .ok (.invokestatic 407, 3) := by decide +kernel
theorem dL_alike_373 : decode cL_alike 373 = .ok (.if_icmp .ne 76, 3) := by decide +kernel
theorem dL_alike_376 : decode cL_alike 376 = .ok (.aload_n 0, 1) := by decide +kernel
theorem dL_alike_377 : decode cL_alike 377 = .ok (.bipush 29, 2) := by decide +kernel
theorem dL_alike_379 : decode cL_alike 379 = .ok (.iload 4, 2) := by decide +kernel
theorem dL_alike_381 : decode cL_alike 381 = .ok (.iconst 0, 1) := by decide +kernel
theorem dL_alike_382 : decode cL_alike 382 = .ok (.iconst 0, 1) := by decide +kernel
theorem dL_alike_383 : decode cL_alike 383 = .ok (.invokestatic 393, 3) := by decide +kernel
theorem dL_alike_386 : decode cL_alike 386 = .ok (.aload_n 1, 1) := by decide +kernel
theorem dL_alike_387 : decode cL_alike 387 = .ok (.bipush 29, 2) := by decide +kernel
theorem dL_alike_389 : decode cL_alike 389 = .ok (.iload 4, 2) := by decide +kernel
theorem dL_alike_391 : decode cL_alike 391 = .ok (.iconst 0, 1) := by decide +kernel
theorem dL_alike_392 : decode cL_alike 392 = .ok (.iconst 0, 1) := by decide +kernel
theorem dL_alike_393 : decode cL_alike 393 = .ok (.invokestatic 393, 3) := by decide +kernel
theorem dL_alike_396 : decode cL_alike 396 = .ok (.if_icmp .ne 53, 3) := by decide +kernel
theorem dL_alike_399 : decode cL_alike 399 = .ok (.aload_n 0, 1) := by decide +kernel
theorem dL_alike_400 : decode cL_alike 400 = .ok (.bipush 31, 2) := by decide +kernel
theorem dL_alike_402 : decode cL_alike 402 = .ok (.iload 4, 2) := by decide +kernel
theorem dL_alike_404 : decode cL_alike 404 = .ok (.iconst 0, 1) := by decide +kernel
theorem dL_alike_405 : decode cL_alike 405 = .ok (.iconst 0, 1) := by decide +kernel
theorem dL_alike_406 : decode cL_alike 406 = .ok (.invokestatic 393, 3) := by decide +kernel
theorem dL_alike_409 : decode cL_alike 409 = .ok (.aload_n 1, 1) := by decide +kernel
theorem dL_alike_410 : decode cL_alike 410 = .ok (.bipush 31, 2) := by decide +kernel
theorem dL_alike_412 : decode cL_alike 412 = .ok (.iload 4, 2) := by decide +kernel
theorem dL_alike_414 : decode cL_alike 414 = .ok (.iconst 0, 1) := by decide +kernel
theorem dL_alike_415 : decode cL_alike 415 = .ok (.iconst 0, 1) := by decide +kernel
theorem dL_alike_416 : decode cL_alike 416 = .ok (.invokestatic 393, 3) := by decide +kernel
theorem dL_alike_419 : decode cL_alike 419 = .ok (.if_icmp .ne 30, 3) := by decide +kernel
theorem dL_alike_422 : decode cL_alike 422 = .ok (.aload_n 0, 1) := by decide +kernel
theorem dL_alike_423 : decode cL_alike 423 = .ok (.bipush 37, 2) := by decide +kernel
theorem dL_alike_425 : decode cL_alike 425 = .ok (.iload 4, 2) := by decide +kernel
theorem dL_alike_427 : decode cL_alike 427 = .ok (.iconst 0, 1) := by decide +kernel
theorem dL_alike_428 : decode cL_alike 428 = .ok (.iconst 0, 1) := by decide +kernel
theorem dL_alike_429 : decode cL_alike 429 = .ok (.invokestatic 393, 3) := by decide +kernel
theorem dL_alike_432 : decode cL_alike 432 = .ok (.aload_n 1, 1) := by decide +kernel
theorem dL_alike_433 : decode cL_alike 433 = .ok (.bipush 37, 2) := by decide +kernel
theorem dL_alike_435 : decode cL_alike 435 = .ok (.iload 4, 2) := by decide +kernel
theorem dL_alike_437 : decode cL_alike 437 = .ok (.iconst 0, 1) := by decide +kernel
theorem dL_alike_438 : decode cL_alike 438 = .ok (.iconst 0, 1) := by decide +kernel
theorem dL_alike_439 : decode cL_alike 439 = .ok (.invokestatic 393, 3) := by decide +kernel
theorem dL_alike_442 : decode cL_alike 442 = .ok (.if_icmp .ne 7, 3) := by decide +kernel
theorem dL_alike_445 : decode cL_alike 445 = .ok (.iconst 1, 1) := by decide +kernel
theorem dL_alike_446 : decode cL_alike 446 = .ok (.goto 4, 3) := by decide +kernel
theorem dL_alike_449 : decode cL_alike 449 = .ok (.iconst 0, 1) := by decide +kernel
theorem dL_alike_450 : decode cL_alike 450 = .ok (.istore_n 2, 1) := by decide +kernel
theorem dL_alike_451 : decode cL_alike 451 = .ok (.iinc 4 1, 3) := by decide +kernel
theorem dL_alike_454 : decode cL_alike 454 = .ok (.goto (-126), 3) := by decide +kernel
theorem dL_alike_457 : decode cL_alike 457 = .ok (.iload_n 2, 1) := by decide +kernel
theorem dL_alike_458 : decode cL_alike 458 = .ok (.ireturn, 1) := by decide +kernel
def w_L_alike_B328 (o : Bool) (q : Bool) (g : Gh) (Q9 : Int32 → Gh → Prop) (K_16 : Int32 → Int32 → Prop) (y_14 : Int32) (y_15 : Int32) : Prop :=
  ((5 ≤ y_15 → isB y_14 ∧ Q9 y_14 g) ∧
  (¬ 5 ≤ y_15 → ((y_14 = 0 → isB y_14 ∧ Q9 y_14 g) ∧
  (¬ y_14 = 0 → g.2 ≤ 2400 ∧ ∀ r_22 : Int32, r_22 = y_trySeal y_15 (g.1 o) → (g.2 ≤ 2400 ∧ ∀ r_24 : Int32, r_24 = y_trySeal y_15 (g.1 q) → (((¬ r_22 = r_24 → ∀ x_27 : Int32, x_27 = y_15 + 1 → (K_16 0 x_27)) ∧
  (r_22 = r_24 → g.2 ≤ 2400 ∧ ∀ r_28 : Int32, r_28 = y_isBroken y_15 (g.1 o) → (g.2 ≤ 2400 ∧ ∀ r_30 : Int32, r_30 = y_isBroken y_15 (g.1 q) → (((¬ r_28 = r_30 → ∀ x_33 : Int32, x_33 = y_15 + 1 → (K_16 0 x_33)) ∧
  (r_28 = r_30 → g.2 ≤ 2400 ∧ ∀ r_34 : Int32, r_34 = y_tryPaperDuty y_15 (g.1 o) → (g.2 ≤ 2400 ∧ ∀ r_36 : Int32, r_36 = y_tryPaperDuty y_15 (g.1 q) → (((¬ r_34 = r_36 → ∀ x_39 : Int32, x_39 = y_15 + 1 → (K_16 0 x_39)) ∧
  (r_34 = r_36 → g.2 ≤ 2400 ∧ ∀ r_40 : Int32, r_40 = y_tryByValue y_15 (g.1 o) → (g.2 ≤ 2400 ∧ ∀ r_42 : Int32, r_42 = y_tryByValue y_15 (g.1 q) → (((¬ r_40 = r_42 → ∀ x_45 : Int32, x_45 = y_15 + 1 → (K_16 0 x_45)) ∧
  (r_40 = r_42 → g.2 ≤ 2400 ∧ ∀ r_46 : Int32, r_46 = y_tryLost y_15 (g.1 o) → (g.2 ≤ 2400 ∧ ∀ r_48 : Int32, r_48 = y_tryLost y_15 (g.1 q) → (((¬ r_46 = r_48 → ∀ x_51 : Int32, x_51 = y_15 + 1 → (K_16 0 x_51)) ∧
  (r_46 = r_48 → ∀ x_52 : Int32, x_52 = y_15 + 1 → (K_16 1 x_52)))))))))))))))))))))))))
def w_L_alike_J325 (o : Bool) (q : Bool) (g : Gh) (Q9 : Int32 → Gh → Prop) (y_9 : Int32) : Prop :=
  itr (α := Int32 × Int32) (fun K a => w_L_alike_B328 o q g Q9 (fun z0 z1 => K (z0, z1)) a.1 a.2) 6 (y_9, 0)
def w_L_alike_B146 (o : Bool) (q : Bool) (g : Gh) (Q9 : Int32 → Gh → Prop) (r_6 : Int32) (K_11 : Int32 → Int32 → Prop) (y_9 : Int32) (y_10 : Int32) : Prop :=
  ((r_6 ≤ y_10 → w_L_alike_J325 o q g Q9 y_9) ∧
  (¬ r_6 ≤ y_10 → ((y_9 = 0 → w_L_alike_J325 o q g Q9 y_9) ∧
  (¬ y_9 = 0 → g.2 ≤ 2400 ∧ ∀ r_55 : Int32, r_55 = y_tryAt y_10 (g.1 o) → (g.2 ≤ 2400 ∧ ∀ r_57 : Int32, r_57 = y_tryAt y_10 (g.1 q) → (((¬ r_57 = r_55 → ∀ x_60 : Int32, x_60 = y_10 + 1 → (K_11 0 x_60)) ∧
  (r_57 = r_55 → g.2 ≤ 2400 ∧ ∀ r_61 : Int32, r_61 = y_tryWeight r_55 (g.1 o) → (g.2 ≤ 2400 ∧ ∀ r_63 : Int32, r_63 = y_tryWeight r_55 (g.1 q) → (((¬ r_61 = r_63 → ∀ x_66 : Int32, x_66 = y_10 + 1 → (K_11 0 x_66)) ∧
  (r_61 = r_63 → g.2 ≤ 2400 ∧ ∀ r_67 : Int32, r_67 = y_tryValue r_55 (g.1 o) → (g.2 ≤ 2400 ∧ ∀ r_69 : Int32, r_69 = y_tryValue r_55 (g.1 q) → (((¬ r_67 = r_69 → ∀ x_72 : Int32, x_72 = y_10 + 1 → (K_11 0 x_72)) ∧
  (r_67 = r_69 → g.2 ≤ 2400 ∧ ∀ r_73 : Int32, r_73 = y_tryChamber r_55 (g.1 o) → (g.2 ≤ 2400 ∧ ∀ r_75 : Int32, r_75 = y_tryChamber r_55 (g.1 q) → (((¬ r_73 = r_75 → ∀ x_78 : Int32, x_78 = y_10 + 1 → (K_11 0 x_78)) ∧
  (r_73 = r_75 → g.2 ≤ 2400 ∧ ∀ r_79 : Int32, r_79 = y_tryAge r_55 (g.1 o) → (g.2 ≤ 2400 ∧ ∀ r_81 : Int32, r_81 = y_tryAge r_55 (g.1 q) → (((¬ r_79 = r_81 → ∀ x_84 : Int32, x_84 = y_10 + 1 → (K_11 0 x_84)) ∧
  (r_79 = r_81 → g.2 ≤ 2400 ∧ ∀ r_85 : Int32, r_85 = y_isProved r_55 (g.1 o) → (g.2 ≤ 2400 ∧ ∀ r_87 : Int32, r_87 = y_isProved r_55 (g.1 q) → (((¬ r_85 = r_87 → ∀ x_90 : Int32, x_90 = y_10 + 1 → (K_11 0 x_90)) ∧
  (r_85 = r_87 → g.2 ≤ 2400 ∧ ∀ r_91 : Int32, r_91 = y_tryAllowed r_55 (g.1 o) → (g.2 ≤ 2400 ∧ ∀ r_93 : Int32, r_93 = y_tryAllowed r_55 (g.1 q) → (((¬ r_91 = r_93 → ∀ x_96 : Int32, x_96 = y_10 + 1 → (K_11 0 x_96)) ∧
  (r_91 = r_93 → ∀ x_97 : Int32, x_97 = y_10 + 1 → (K_11 1 x_97)))))))))))))))))))))))))))))))))
def w_L_alike_J137 (o : Bool) (q : Bool) (g : Gh) (Q9 : Int32 → Gh → Prop) (y_5 : Int32) : Prop :=
  g.2 ≤ 2400 ∧ ∀ r_6 : Int32, r_6 = (v_entries (g.1 o)) → (itr (α := Int32 × Int32) (fun K a => w_L_alike_B146 o q g Q9 r_6 (fun z0 z1 => K (z0, z1)) a.1 a.2) 17 (y_5, 0))
def w_L_alike_J136 (o : Bool) (q : Bool) (g : Gh) (Q9 : Int32 → Gh → Prop) : Prop :=
  w_L_alike_J137 o q g Q9 0
def w_L_alike (o : Bool) (q : Bool) (g : Gh) (Q9 : Int32 → Gh → Prop) : Prop :=
  g.2 ≤ 2400 ∧ ∀ r_1 : Int32, r_1 = (v_day (g.1 o)) → (g.2 ≤ 2400 ∧ ∀ r_3 : Int32, r_3 = (v_day (g.1 q)) → (((¬ r_1 = r_3 → w_L_alike_J136 o q g Q9) ∧
  (r_1 = r_3 → g.2 ≤ 2400 ∧ ∀ r_99 : Int32, r_99 = (v_entries (g.1 o)) → (g.2 ≤ 2400 ∧ ∀ r_101 : Int32, r_101 = (v_entries (g.1 q)) → (((¬ r_99 = r_101 → w_L_alike_J136 o q g Q9) ∧
  (r_99 = r_101 → g.2 ≤ 2400 ∧ ∀ r_104 : Int32, r_104 = (v_entriesMade (g.1 o)) → (g.2 ≤ 2400 ∧ ∀ r_106 : Int32, r_106 = (v_entriesMade (g.1 q)) → (((¬ r_104 = r_106 → w_L_alike_J136 o q g Q9) ∧
  (r_104 = r_106 → g.2 ≤ 2400 ∧ ∀ r_109 : Int32, r_109 = (v_dutyAtStake (g.1 o)) → (g.2 ≤ 2400 ∧ ∀ r_111 : Int32, r_111 = (v_dutyAtStake (g.1 q)) → (((¬ r_109 = r_111 → w_L_alike_J136 o q g Q9) ∧
  (r_109 = r_111 → g.2 ≤ 2400 ∧ ∀ r_114 : Int32, r_114 = (v_account (g.1 o)) → (g.2 ≤ 2400 ∧ ∀ r_116 : Int32, r_116 = (v_account (g.1 q)) → (((¬ r_114 = r_116 → w_L_alike_J136 o q g Q9) ∧
  (r_114 = r_116 → g.2 ≤ 2400 ∧ ∀ r_119 : Int32, r_119 = (v_debt (g.1 o)) → (g.2 ≤ 2400 ∧ ∀ r_121 : Int32, r_121 = (v_debt (g.1 q)) → (((¬ r_119 = r_121 → w_L_alike_J136 o q g Q9) ∧
  (r_119 = r_121 → g.2 ≤ 2400 ∧ ∀ r_124 : Int32, r_124 = (v_bond (g.1 o)) → (g.2 ≤ 2400 ∧ ∀ r_126 : Int32, r_126 = (v_bond (g.1 q)) → (((¬ r_124 = r_126 → w_L_alike_J136 o q g Q9) ∧
  (r_124 = r_126 → g.2 ≤ 2400 ∧ ∀ r_129 : Int32, r_129 = (v_receipts (g.1 o)) → (g.2 ≤ 2400 ∧ ∀ r_131 : Int32, r_131 = (v_receipts (g.1 q)) → (((¬ r_129 = r_131 → w_L_alike_J136 o q g Q9) ∧
  (r_129 = r_131 → g.2 ≤ 2400 ∧ ∀ r_134 : Int32, r_134 = (v_savedStates (g.1 o)) → (g.2 ≤ 2400 ∧ ∀ r_136 : Int32, r_136 = (v_savedStates (g.1 q)) → (((¬ r_134 = r_136 → w_L_alike_J136 o q g Q9) ∧
  (r_134 = r_136 → g.2 ≤ 2400 ∧ ∀ r_139 : Int32, r_139 = (v_charges (g.1 o)) → (g.2 ≤ 2400 ∧ ∀ r_141 : Int32, r_141 = (v_charges (g.1 q)) → (((¬ r_139 = r_141 → w_L_alike_J136 o q g Q9) ∧
  (r_139 = r_141 → g.2 ≤ 2400 ∧ ∀ r_144 : Int32, r_144 = (v_drawbacks (g.1 o)) → (g.2 ≤ 2400 ∧ ∀ r_146 : Int32, r_146 = (v_drawbacks (g.1 q)) → (((¬ r_144 = r_146 → w_L_alike_J136 o q g Q9) ∧
  (r_144 = r_146 → g.2 ≤ 2400 ∧ ∀ r_149 : Int32, r_149 = (v_nextOverdue (g.1 o)) → (g.2 ≤ 2400 ∧ ∀ r_151 : Int32, r_151 = (v_nextOverdue (g.1 q)) → (((¬ r_149 = r_151 → w_L_alike_J136 o q g Q9) ∧
  (r_149 = r_151 → w_L_alike_J137 o q g Q9 1))))))))))))))))))))))))))))))))))))))))))))))))
def rm_L_alike : Room := { frames := 11, cells := 596, slots := 3576, locals := 207 }
theorem hy_L_alike : yL_alike.cls = RL ∧ yL_alike.cls ≠ "java/lang/invoke/MethodHandle" ∧ yL_alike.cls ≠ "java/lang/invoke/VarHandle" ∧ (parseMethodDescriptor yL_alike.desc).map (fun d => d.parameters.length) = some 2 := by decide +kernel
set_option maxRecDepth 100000 in
set_option maxHeartbeats 4000000 in
theorem c_L_alike {l : Launch} {D : va_G} {cA : Nat → ClassId} {ad : Bool → Nat → Nat → Nat} {A : Bool → Nat → Prop} (ha : AG ad A) (hst : l.stackTraces = false) (o : Bool) (q : Bool) (g : Gh) (Q9 : Int32 → Gh → Prop) (h : w_L_alike o q g Q9) : Met l yL_alike (.code yL_alike cL_alike 6 (some .boolean) :: TG) rm_L_alike (PcG D cA ad A [.ref (ad o 0 1), .ref (ad q 0 1)] g) (QcG D cA ad A Q9) 596 3576 (AU A) := by
  unfold w_L_alike at h
  refine enterGZ pl_L rfl (Nat.le_of_ble_eq_true rfl) ?_
  intro p e s m args below meth c QQ X hW hZ hE
  refine q_aload_n (j := 0) X dL_alike_0 rfl rfl ?_
  obtain ⟨k_2, h⟩ := h
  refine qG_ask X hW hZ ha (fun _ h => h) YT_ok o (val := (v_day (g.1 o))) (Qp := (fun mo r m1 => r = (v_day (g.1 o)) ∧ mo = m1)) [] [] rfl rfl (Nat.le_of_ble_eq_true rfl) dL_alike_1 ⟨(Nat.le_of_ble_eq_true rfl), (Nat.le_of_ble_eq_true rfl)⟩ k_2 (fun mo hmo => c_X9_day (ha.1 o)  mo _ (n_day hmo.rs hmo.inv  _ rfl)) (fun mo r m1 hr h => ⟨h.1, by rw [← h.2]; exact hr⟩) rfl rfl (gV kw_6_224 kw_6_225 kw_6_226 kw_1_1 kw_6_227) hy_X9_day ⟨(Nat.le_of_ble_eq_true rfl), (Nat.le_of_ble_eq_true rfl)⟩ ?_
  refine q_topi (fun r_1 er_1 => ?_)
  have h := h r_1 er_1
  refine q_aload_n (j := 1) X dL_alike_4 rfl rfl ?_
  obtain ⟨k_4, h⟩ := h
  refine qG_ask X hW hZ ha (fun _ h => h) YT_ok q (val := (v_day (g.1 q))) (Qp := (fun mo r m1 => r = (v_day (g.1 q)) ∧ mo = m1)) [] [.int r_1] rfl rfl (Nat.le_of_ble_eq_true rfl) dL_alike_5 ⟨(Nat.le_of_ble_eq_true rfl), (Nat.le_of_ble_eq_true rfl)⟩ k_4 (fun mo hmo => c_X9_day (ha.1 q)  mo _ (n_day hmo.rs hmo.inv  _ rfl)) (fun mo r m1 hr h => ⟨h.1, by rw [← h.2]; exact hr⟩) rfl rfl (gV kw_6_224 kw_6_225 kw_6_226 kw_1_1 kw_6_227) hy_X9_day ⟨(Nat.le_of_ble_eq_true rfl), (Nat.le_of_ble_eq_true rfl)⟩ ?_
  refine q_topi (fun r_3 er_3 => ?_)
  have h := h r_3 er_3
  have J137 : ∀ (y_5 : Int32), w_L_alike_J137 o q g Q9 y_5 → V p l e rm_L_alike s m args below meth c QQ 6 (AU A) 0 (6 * 0) (WY D cA ad YT g) 137 [(0, .ref (ad o 0 1)), (1, .ref (ad q 0 1))] [.int y_5] := by
    intro y_5 h
    unfold w_L_alike_J137 at h
    refine q_istore_n (lv' := [(2, .int y_5), (0, .ref (ad o 0 1)), (1, .ref (ad q 0 1))]) X dL_alike_137 rfl (by decide) rfl ?_
    refine q_aload_n (j := 1) X dL_alike_138 rfl rfl ?_
    obtain ⟨k_7, h⟩ := h
    refine qG_ask X hW hZ ha (fun _ h => h) YT_ok o (val := (v_entries (g.1 o))) (Qp := (fun mo r m1 => r = (v_entries (g.1 o)) ∧ mo = m1)) [] [] rfl rfl (Nat.le_of_ble_eq_true rfl) dL_alike_139 ⟨(Nat.le_of_ble_eq_true rfl), (Nat.le_of_ble_eq_true rfl)⟩ k_7 (fun mo hmo => c_X9_entries (ha.1 o)  mo _ (n_entries hmo.rs hmo.inv  _ rfl)) (fun mo r m1 hr h => ⟨h.1, by rw [← h.2]; exact hr⟩) rfl rfl (gV kw_6_130 kw_6_131 kw_6_132 kw_1_1 kw_6_133) hy_X9_entries ⟨(Nat.le_of_ble_eq_true rfl), (Nat.le_of_ble_eq_true rfl)⟩ ?_
    refine q_topi (fun r_6 er_6 => ?_)
    have h := h r_6 er_6
    refine q_istore_n (lv' := [(3, .int r_6), (2, .int y_5), (0, .ref (ad o 0 1)), (1, .ref (ad q 0 1))]) X dL_alike_142 rfl (by decide) rfl ?_
    refine q_iconst (v := 0) X dL_alike_143 (by decide) ?_
    refine q_istore (lv' := [(4, .int 0), (3, .int r_6), (2, .int y_5), (0, .ref (ad o 0 1)), (1, .ref (ad q 0 1))]) X dL_alike_144 (by decide) rfl ?_
    refine q_sub [3, 4, 2, 1, 0] rfl ?_
    have L146 : ∀ (n : Nat) (y_9 : Int32) (y_10 : Int32), itr (α := Int32 × Int32) (fun K a => w_L_alike_B146 o q g Q9 r_6 (fun z0 z1 => K (z0, z1)) a.1 a.2) n (y_9, y_10) → ∀ c_8 : Nat, c_8 + n * 28 ≤ 476 → V p l e rm_L_alike s m args below meth c QQ 6 (AU A) c_8 (6 * c_8) (WY D cA ad YT g) 146 [(0, .ref (ad o 0 1)), (1, .ref (ad q 0 1)), (2, .int y_9), (3, .int r_6), (4, .int y_10)] [] := by
      intro n
      induction n with
      | zero => intro y_9 y_10 h; exact h.elim
      | succ n ih_12 =>
        intro y_9 y_10 h c_8 hc_8
        have h : w_L_alike_B146 o q g Q9 r_6 (fun z0 z1 => itr (α := Int32 × Int32) (fun K a => w_L_alike_B146 o q g Q9 r_6 (fun z0 z1 => K (z0, z1)) a.1 a.2) n (z0, z1)) y_9 y_10 := h
        generalize hKe : (fun z0 z1 => itr (α := Int32 × Int32) (fun K a => w_L_alike_B146 o q g Q9 r_6 (fun z0 z1 => K (z0, z1)) a.1 a.2) n (z0, z1)) = K_11 at h
        have ih_12k : ∀ (y_9 : Int32) (y_10 : Int32), K_11 y_9 y_10 → ∀ c_8 : Nat, c_8 + n * 28 ≤ 476 → V p l e rm_L_alike s m args below meth c QQ 6 (AU A) c_8 (6 * c_8) (WY D cA ad YT g) 146 [(0, .ref (ad o 0 1)), (1, .ref (ad q 0 1)), (2, .int y_9), (3, .int r_6), (4, .int y_10)] [] := fun y_9 y_10 h => ih_12 y_9 y_10 (by rw [← hKe] at h; exact h)
        unfold w_L_alike_B146 at h
        refine q_iload (j := 4) X dL_alike_146 rfl ?_
        refine q_iload_n (j := 3) X dL_alike_148 rfl rfl ?_
        have J325 : w_L_alike_J325 o q g Q9 y_9  → V p l e rm_L_alike s m args below meth c QQ 6 (AU A) 476 (6 * 476) (WY D cA ad YT g) 325 [(0, .ref (ad o 0 1)), (1, .ref (ad q 0 1)), (2, .int y_9)] [] := by
          intro  h
          unfold w_L_alike_J325 at h
          refine q_iconst (v := 0) X dL_alike_325 (by decide) ?_
          refine q_istore (lv' := [(4, .int 0), (0, .ref (ad o 0 1)), (1, .ref (ad q 0 1)), (2, .int y_9)]) X dL_alike_326 (by decide) rfl ?_
          refine q_sub [1, 2, 3, 0] rfl ?_
          have L328 : ∀ (n : Nat) (y_14 : Int32) (y_15 : Int32), itr (α := Int32 × Int32) (fun K a => w_L_alike_B328 o q g Q9 (fun z0 z1 => K (z0, z1)) a.1 a.2) n (y_14, y_15) → ∀ c_13 : Nat, c_13 + n * 20 ≤ 596 → V p l e rm_L_alike s m args below meth c QQ 6 (AU A) c_13 (6 * c_13) (WY D cA ad YT g) 328 [(0, .ref (ad o 0 1)), (1, .ref (ad q 0 1)), (2, .int y_14), (4, .int y_15)] [] := by
            intro n
            induction n with
            | zero => intro y_14 y_15 h; exact h.elim
            | succ n ih_17 =>
              intro y_14 y_15 h c_13 hc_13
              have h : w_L_alike_B328 o q g Q9 (fun z0 z1 => itr (α := Int32 × Int32) (fun K a => w_L_alike_B328 o q g Q9 (fun z0 z1 => K (z0, z1)) a.1 a.2) n (z0, z1)) y_14 y_15 := h
              generalize hKe : (fun z0 z1 => itr (α := Int32 × Int32) (fun K a => w_L_alike_B328 o q g Q9 (fun z0 z1 => K (z0, z1)) a.1 a.2) n (z0, z1)) = K_16 at h
              have ih_17k : ∀ (y_14 : Int32) (y_15 : Int32), K_16 y_14 y_15 → ∀ c_13 : Nat, c_13 + n * 20 ≤ 596 → V p l e rm_L_alike s m args below meth c QQ 6 (AU A) c_13 (6 * c_13) (WY D cA ad YT g) 328 [(0, .ref (ad o 0 1)), (1, .ref (ad q 0 1)), (2, .int y_14), (4, .int y_15)] [] := fun y_14 y_15 h => ih_17 y_14 y_15 (by rw [← hKe] at h; exact h)
              unfold w_L_alike_B328 at h
              refine q_iload (j := 3) X dL_alike_328 rfl ?_
              refine q_iconst (v := 5) X dL_alike_330 (by decide) ?_
              refine q_icmp_ge (tgt := 457) X dL_alike_331 (by decide) (fun c_18 => ?_) (fun c_18 => ?_)
              · have h := h.1 c_18
                refine q_w (c2 := 596) (n2 := (6 * 596)) (by omega) (by omega) ?_
                refine q_iload_n (j := 2) X dL_alike_457 rfl rfl ?_
                obtain ⟨b_19, h⟩ := h
                exact hE _ _ _ _ _ _ dL_alike_458 (by omega) (by omega) b_19 h
              · have h := h.2 c_18
                refine q_iload_n (j := 2) X dL_alike_334 rfl rfl ?_
                refine q_if_eq (tgt := 457) X dL_alike_335 (by decide) (fun c_20 => ?_) (fun c_20 => ?_)
                · have h := h.1 c_20
                  refine q_w (c2 := 596) (n2 := (6 * 596)) (by omega) (by omega) ?_
                  refine q_iload_n (j := 2) X dL_alike_457 rfl rfl ?_
                  obtain ⟨b_21, h⟩ := h
                  exact hE _ _ _ _ _ _ dL_alike_458 (by omega) (by omega) b_21 h
                · have h := h.2 c_20
                  refine q_aload_n (j := 0) X dL_alike_338 rfl rfl ?_
                  refine q_bipush (v := 24) X dL_alike_339 (by decide) ?_
                  refine q_iload (j := 3) X dL_alike_341 rfl ?_
                  refine q_iconst (v := 0) X dL_alike_343 (by decide) ?_
                  refine q_iconst (v := 0) X dL_alike_344 (by decide) ?_
                  obtain ⟨k_23, h⟩ := h
                  refine qG_own X hW hZ (fun _ h => h) YT_ok [.ref (ad o 0 1), .int 24, .int y_15, .int 0, .int 0] [] rfl rfl (Nat.le_of_ble_eq_true rfl) dL_alike_345 ⟨by show _ ≤ 596; omega, by show _ ≤ 3576; omega⟩ (k_C_24 ha hst o y_15 0 0 g k_23) rfl rfl (gS kw_3_88 kw_3_89 kw_1_0 kw_3_90) hy_L_call.2 ⟨(Nat.le_of_ble_eq_true rfl), (Nat.le_of_ble_eq_true rfl)⟩ (fun r_22 g9 hq => ?_)
                  obtain ⟨er_22, hq⟩ := hq
                  rw [hq]
                  have h := h r_22 er_22
                  refine q_aload_n (j := 1) X dL_alike_348 rfl rfl ?_
                  refine q_bipush (v := 24) X dL_alike_349 (by decide) ?_
                  refine q_iload (j := 3) X dL_alike_351 rfl ?_
                  refine q_iconst (v := 0) X dL_alike_353 (by decide) ?_
                  refine q_iconst (v := 0) X dL_alike_354 (by decide) ?_
                  obtain ⟨k_25, h⟩ := h
                  refine qG_own X hW hZ (fun _ h => h) YT_ok [.ref (ad q 0 1), .int 24, .int y_15, .int 0, .int 0] [.int r_22] rfl rfl (Nat.le_of_ble_eq_true rfl) dL_alike_355 ⟨by show _ ≤ 596; omega, by show _ ≤ 3576; omega⟩ (k_C_24 ha hst q y_15 0 0 g k_25) rfl rfl (gS kw_3_88 kw_3_89 kw_1_0 kw_3_90) hy_L_call.2 ⟨(Nat.le_of_ble_eq_true rfl), (Nat.le_of_ble_eq_true rfl)⟩ (fun r_24 g9 hq => ?_)
                  obtain ⟨er_24, hq⟩ := hq
                  rw [hq]
                  have h := h r_24 er_24
                  refine q_icmp_ne (tgt := 449) X dL_alike_358 (by decide) (fun c_26 => ?_) (fun c_26 => ?_)
                  · have h := h.1 c_26
                    refine q_iconst (v := 0) X dL_alike_449 (by decide) ?_
                    refine q_istore_n (lv' := [(2, .int 0), (0, .ref (ad o 0 1)), (1, .ref (ad q 0 1)), (4, .int y_15)]) X dL_alike_450 rfl (by decide) rfl ?_
                    obtain ⟨x_27, ex_27⟩ : ∃ z : Int32, z = y_15 + 1 := ⟨_, rfl⟩
                    have h := h x_27 ex_27
                    refine q_iinc (j := 3) (v := x_27) (lv' := [(4, .int x_27), (2, .int 0), (0, .ref (ad o 0 1)), (1, .ref (ad q 0 1))]) X dL_alike_451 rfl (by rw [ex_27]; rfl) (by decide) rfl ?_
                    refine q_goto (tgt := 328) X dL_alike_454 (by decide) ?_
                    refine q_sub [2, 3, 1, 0] rfl ?_
                    refine q_w (c2 := (c_13 + 20)) (n2 := (6 * (c_13 + 20))) (by omega) (by omega) ?_
                    exact ih_17k 0 x_27 h (c_13 + 20) (by omega)
                  · have h := h.2 c_26
                    refine q_aload_n (j := 0) X dL_alike_361 rfl rfl ?_
                    refine q_iload (j := 3) X dL_alike_362 rfl ?_
                    obtain ⟨k_29, h⟩ := h
                    refine qG_ownW X hW hZ (fun _ h => h) YT_ok [.ref (ad o 0 1), .int y_15] [] rfl rfl (Nat.le_of_ble_eq_true rfl) dL_alike_364 ⟨by show _ ≤ 596; omega, by show _ ≤ 3576; omega⟩ (k_L_isBroken ha hst o y_15 g k_29) rfl rfl (gSW kw_6_158 kw_6_159 kw_1_0 kw_6_160) hy_L_isBroken.2 ⟨(Nat.le_of_ble_eq_true rfl), (Nat.le_of_ble_eq_true rfl)⟩ (fun r_28 g9 hq => ?_)
                    obtain ⟨er_28, hq⟩ := hq
                    rw [hq]
                    have h := h r_28 er_28
                    refine q_aload_n (j := 1) X dL_alike_367 rfl rfl ?_
                    refine q_iload (j := 3) X dL_alike_368 rfl ?_
                    obtain ⟨k_31, h⟩ := h
                    refine qG_ownW X hW hZ (fun _ h => h) YT_ok [.ref (ad q 0 1), .int y_15] [.int r_28] rfl rfl (Nat.le_of_ble_eq_true rfl) dL_alike_370 ⟨by show _ ≤ 596; omega, by show _ ≤ 3576; omega⟩ (k_L_isBroken ha hst q y_15 g k_31) rfl rfl (gSW kw_6_158 kw_6_159 kw_1_0 kw_6_160) hy_L_isBroken.2 ⟨(Nat.le_of_ble_eq_true rfl), (Nat.le_of_ble_eq_true rfl)⟩ (fun r_30 g9 hq => ?_)
                    obtain ⟨er_30, hq⟩ := hq
                    rw [hq]
                    have h := h r_30 er_30
                    refine q_icmp_ne (tgt := 449) X dL_alike_373 (by decide) (fun c_32 => ?_) (fun c_32 => ?_)
                    · have h := h.1 c_32
                      refine q_iconst (v := 0) X dL_alike_449 (by decide) ?_
                      refine q_istore_n (lv' := [(2, .int 0), (0, .ref (ad o 0 1)), (1, .ref (ad q 0 1)), (4, .int y_15)]) X dL_alike_450 rfl (by decide) rfl ?_
                      obtain ⟨x_33, ex_33⟩ : ∃ z : Int32, z = y_15 + 1 := ⟨_, rfl⟩
                      have h := h x_33 ex_33
                      refine q_iinc (j := 3) (v := x_33) (lv' := [(4, .int x_33), (2, .int 0), (0, .ref (ad o 0 1)), (1, .ref (ad q 0 1))]) X dL_alike_451 rfl (by rw [ex_33]; rfl) (by decide) rfl ?_
                      refine q_goto (tgt := 328) X dL_alike_454 (by decide) ?_
                      refine q_sub [2, 3, 1, 0] rfl ?_
                      refine q_w (c2 := (c_13 + 20)) (n2 := (6 * (c_13 + 20))) (by omega) (by omega) ?_
                      exact ih_17k 0 x_33 h (c_13 + 20) (by omega)
                    · have h := h.2 c_32
                      refine q_aload_n (j := 0) X dL_alike_376 rfl rfl ?_
                      refine q_bipush (v := 29) X dL_alike_377 (by decide) ?_
                      refine q_iload (j := 3) X dL_alike_379 rfl ?_
                      refine q_iconst (v := 0) X dL_alike_381 (by decide) ?_
                      refine q_iconst (v := 0) X dL_alike_382 (by decide) ?_
                      obtain ⟨k_35, h⟩ := h
                      refine qG_own X hW hZ (fun _ h => h) YT_ok [.ref (ad o 0 1), .int 29, .int y_15, .int 0, .int 0] [] rfl rfl (Nat.le_of_ble_eq_true rfl) dL_alike_383 ⟨by show _ ≤ 596; omega, by show _ ≤ 3576; omega⟩ (k_C_29 ha hst o y_15 0 0 g k_35) rfl rfl (gS kw_3_88 kw_3_89 kw_1_0 kw_3_90) hy_L_call.2 ⟨(Nat.le_of_ble_eq_true rfl), (Nat.le_of_ble_eq_true rfl)⟩ (fun r_34 g9 hq => ?_)
                      obtain ⟨er_34, hq⟩ := hq
                      rw [hq]
                      have h := h r_34 er_34
                      refine q_aload_n (j := 1) X dL_alike_386 rfl rfl ?_
                      refine q_bipush (v := 29) X dL_alike_387 (by decide) ?_
                      refine q_iload (j := 3) X dL_alike_389 rfl ?_
                      refine q_iconst (v := 0) X dL_alike_391 (by decide) ?_
                      refine q_iconst (v := 0) X dL_alike_392 (by decide) ?_
                      obtain ⟨k_37, h⟩ := h
                      refine qG_own X hW hZ (fun _ h => h) YT_ok [.ref (ad q 0 1), .int 29, .int y_15, .int 0, .int 0] [.int r_34] rfl rfl (Nat.le_of_ble_eq_true rfl) dL_alike_393 ⟨by show _ ≤ 596; omega, by show _ ≤ 3576; omega⟩ (k_C_29 ha hst q y_15 0 0 g k_37) rfl rfl (gS kw_3_88 kw_3_89 kw_1_0 kw_3_90) hy_L_call.2 ⟨(Nat.le_of_ble_eq_true rfl), (Nat.le_of_ble_eq_true rfl)⟩ (fun r_36 g9 hq => ?_)
                      obtain ⟨er_36, hq⟩ := hq
                      rw [hq]
                      have h := h r_36 er_36
                      refine q_icmp_ne (tgt := 449) X dL_alike_396 (by decide) (fun c_38 => ?_) (fun c_38 => ?_)
                      · have h := h.1 c_38
                        refine q_iconst (v := 0) X dL_alike_449 (by decide) ?_
                        refine q_istore_n (lv' := [(2, .int 0), (0, .ref (ad o 0 1)), (1, .ref (ad q 0 1)), (4, .int y_15)]) X dL_alike_450 rfl (by decide) rfl ?_
                        obtain ⟨x_39, ex_39⟩ : ∃ z : Int32, z = y_15 + 1 := ⟨_, rfl⟩
                        have h := h x_39 ex_39
                        refine q_iinc (j := 3) (v := x_39) (lv' := [(4, .int x_39), (2, .int 0), (0, .ref (ad o 0 1)), (1, .ref (ad q 0 1))]) X dL_alike_451 rfl (by rw [ex_39]; rfl) (by decide) rfl ?_
                        refine q_goto (tgt := 328) X dL_alike_454 (by decide) ?_
                        refine q_sub [2, 3, 1, 0] rfl ?_
                        refine q_w (c2 := (c_13 + 20)) (n2 := (6 * (c_13 + 20))) (by omega) (by omega) ?_
                        exact ih_17k 0 x_39 h (c_13 + 20) (by omega)
                      · have h := h.2 c_38
                        refine q_aload_n (j := 0) X dL_alike_399 rfl rfl ?_
                        refine q_bipush (v := 31) X dL_alike_400 (by decide) ?_
                        refine q_iload (j := 3) X dL_alike_402 rfl ?_
                        refine q_iconst (v := 0) X dL_alike_404 (by decide) ?_
                        refine q_iconst (v := 0) X dL_alike_405 (by decide) ?_
                        obtain ⟨k_41, h⟩ := h
                        refine qG_own X hW hZ (fun _ h => h) YT_ok [.ref (ad o 0 1), .int 31, .int y_15, .int 0, .int 0] [] rfl rfl (Nat.le_of_ble_eq_true rfl) dL_alike_406 ⟨by show _ ≤ 596; omega, by show _ ≤ 3576; omega⟩ (k_C_31 ha hst o y_15 0 0 g k_41) rfl rfl (gS kw_3_88 kw_3_89 kw_1_0 kw_3_90) hy_L_call.2 ⟨(Nat.le_of_ble_eq_true rfl), (Nat.le_of_ble_eq_true rfl)⟩ (fun r_40 g9 hq => ?_)
                        obtain ⟨er_40, hq⟩ := hq
                        rw [hq]
                        have h := h r_40 er_40
                        refine q_aload_n (j := 1) X dL_alike_409 rfl rfl ?_
                        refine q_bipush (v := 31) X dL_alike_410 (by decide) ?_
                        refine q_iload (j := 3) X dL_alike_412 rfl ?_
                        refine q_iconst (v := 0) X dL_alike_414 (by decide) ?_
                        refine q_iconst (v := 0) X dL_alike_415 (by decide) ?_
                        obtain ⟨k_43, h⟩ := h
                        refine qG_own X hW hZ (fun _ h => h) YT_ok [.ref (ad q 0 1), .int 31, .int y_15, .int 0, .int 0] [.int r_40] rfl rfl (Nat.le_of_ble_eq_true rfl) dL_alike_416 ⟨by show _ ≤ 596; omega, by show _ ≤ 3576; omega⟩ (k_C_31 ha hst q y_15 0 0 g k_43) rfl rfl (gS kw_3_88 kw_3_89 kw_1_0 kw_3_90) hy_L_call.2 ⟨(Nat.le_of_ble_eq_true rfl), (Nat.le_of_ble_eq_true rfl)⟩ (fun r_42 g9 hq => ?_)
                        obtain ⟨er_42, hq⟩ := hq
                        rw [hq]
                        have h := h r_42 er_42
                        refine q_icmp_ne (tgt := 449) X dL_alike_419 (by decide) (fun c_44 => ?_) (fun c_44 => ?_)
                        · have h := h.1 c_44
                          refine q_iconst (v := 0) X dL_alike_449 (by decide) ?_
                          refine q_istore_n (lv' := [(2, .int 0), (0, .ref (ad o 0 1)), (1, .ref (ad q 0 1)), (4, .int y_15)]) X dL_alike_450 rfl (by decide) rfl ?_
                          obtain ⟨x_45, ex_45⟩ : ∃ z : Int32, z = y_15 + 1 := ⟨_, rfl⟩
                          have h := h x_45 ex_45
                          refine q_iinc (j := 3) (v := x_45) (lv' := [(4, .int x_45), (2, .int 0), (0, .ref (ad o 0 1)), (1, .ref (ad q 0 1))]) X dL_alike_451 rfl (by rw [ex_45]; rfl) (by decide) rfl ?_
                          refine q_goto (tgt := 328) X dL_alike_454 (by decide) ?_
                          refine q_sub [2, 3, 1, 0] rfl ?_
                          refine q_w (c2 := (c_13 + 20)) (n2 := (6 * (c_13 + 20))) (by omega) (by omega) ?_
                          exact ih_17k 0 x_45 h (c_13 + 20) (by omega)
                        · have h := h.2 c_44
                          refine q_aload_n (j := 0) X dL_alike_422 rfl rfl ?_
                          refine q_bipush (v := 37) X dL_alike_423 (by decide) ?_
                          refine q_iload (j := 3) X dL_alike_425 rfl ?_
                          refine q_iconst (v := 0) X dL_alike_427 (by decide) ?_
                          refine q_iconst (v := 0) X dL_alike_428 (by decide) ?_
                          obtain ⟨k_47, h⟩ := h
                          refine qG_own X hW hZ (fun _ h => h) YT_ok [.ref (ad o 0 1), .int 37, .int y_15, .int 0, .int 0] [] rfl rfl (Nat.le_of_ble_eq_true rfl) dL_alike_429 ⟨by show _ ≤ 596; omega, by show _ ≤ 3576; omega⟩ (k_C_37 ha hst o y_15 0 0 g k_47) rfl rfl (gS kw_3_88 kw_3_89 kw_1_0 kw_3_90) hy_L_call.2 ⟨(Nat.le_of_ble_eq_true rfl), (Nat.le_of_ble_eq_true rfl)⟩ (fun r_46 g9 hq => ?_)
                          obtain ⟨er_46, hq⟩ := hq
                          rw [hq]
                          have h := h r_46 er_46
                          refine q_aload_n (j := 1) X dL_alike_432 rfl rfl ?_
                          refine q_bipush (v := 37) X dL_alike_433 (by decide) ?_
                          refine q_iload (j := 3) X dL_alike_435 rfl ?_
                          refine q_iconst (v := 0) X dL_alike_437 (by decide) ?_
                          refine q_iconst (v := 0) X dL_alike_438 (by decide) ?_
                          obtain ⟨k_49, h⟩ := h
                          refine qG_own X hW hZ (fun _ h => h) YT_ok [.ref (ad q 0 1), .int 37, .int y_15, .int 0, .int 0] [.int r_46] rfl rfl (Nat.le_of_ble_eq_true rfl) dL_alike_439 ⟨by show _ ≤ 596; omega, by show _ ≤ 3576; omega⟩ (k_C_37 ha hst q y_15 0 0 g k_49) rfl rfl (gS kw_3_88 kw_3_89 kw_1_0 kw_3_90) hy_L_call.2 ⟨(Nat.le_of_ble_eq_true rfl), (Nat.le_of_ble_eq_true rfl)⟩ (fun r_48 g9 hq => ?_)
                          obtain ⟨er_48, hq⟩ := hq
                          rw [hq]
                          have h := h r_48 er_48
                          refine q_icmp_ne (tgt := 449) X dL_alike_442 (by decide) (fun c_50 => ?_) (fun c_50 => ?_)
                          · have h := h.1 c_50
                            refine q_iconst (v := 0) X dL_alike_449 (by decide) ?_
                            refine q_istore_n (lv' := [(2, .int 0), (0, .ref (ad o 0 1)), (1, .ref (ad q 0 1)), (4, .int y_15)]) X dL_alike_450 rfl (by decide) rfl ?_
                            obtain ⟨x_51, ex_51⟩ : ∃ z : Int32, z = y_15 + 1 := ⟨_, rfl⟩
                            have h := h x_51 ex_51
                            refine q_iinc (j := 3) (v := x_51) (lv' := [(4, .int x_51), (2, .int 0), (0, .ref (ad o 0 1)), (1, .ref (ad q 0 1))]) X dL_alike_451 rfl (by rw [ex_51]; rfl) (by decide) rfl ?_
                            refine q_goto (tgt := 328) X dL_alike_454 (by decide) ?_
                            refine q_sub [2, 3, 1, 0] rfl ?_
                            refine q_w (c2 := (c_13 + 20)) (n2 := (6 * (c_13 + 20))) (by omega) (by omega) ?_
                            exact ih_17k 0 x_51 h (c_13 + 20) (by omega)
                          · have h := h.2 c_50
                            refine q_iconst (v := 1) X dL_alike_445 (by decide) ?_
                            refine q_goto (tgt := 450) X dL_alike_446 (by decide) ?_
                            refine q_istore_n (lv' := [(2, .int 1), (0, .ref (ad o 0 1)), (1, .ref (ad q 0 1)), (4, .int y_15)]) X dL_alike_450 rfl (by decide) rfl ?_
                            obtain ⟨x_52, ex_52⟩ : ∃ z : Int32, z = y_15 + 1 := ⟨_, rfl⟩
                            have h := h x_52 ex_52
                            refine q_iinc (j := 3) (v := x_52) (lv' := [(4, .int x_52), (2, .int 1), (0, .ref (ad o 0 1)), (1, .ref (ad q 0 1))]) X dL_alike_451 rfl (by rw [ex_52]; rfl) (by decide) rfl ?_
                            refine q_goto (tgt := 328) X dL_alike_454 (by decide) ?_
                            refine q_sub [2, 3, 1, 0] rfl ?_
                            refine q_w (c2 := (c_13 + 20)) (n2 := (6 * (c_13 + 20))) (by omega) (by omega) ?_
                            exact ih_17k 1 x_52 h (c_13 + 20) (by omega)
          refine q_w (c2 := 476) (n2 := (6 * 476)) (by omega) (by omega) ?_
          exact L328 6 y_9 0 h 476 (by omega)
        refine q_icmp_ge (tgt := 325) X dL_alike_149 (by decide) (fun c_53 => ?_) (fun c_53 => ?_)
        · have h := h.1 c_53
          refine q_w (c2 := 476) (n2 := (6 * 476)) (by omega) (by omega) ?_
          refine q_sub [0, 1, 2] rfl ?_
          refine q_w (c2 := 476) (n2 := (6 * 476)) (by omega) (by omega) ?_
          exact J325  h
        · have h := h.2 c_53
          refine q_iload_n (j := 2) X dL_alike_152 rfl rfl ?_
          refine q_if_eq (tgt := 325) X dL_alike_153 (by decide) (fun c_54 => ?_) (fun c_54 => ?_)
          · have h := h.1 c_54
            refine q_w (c2 := 476) (n2 := (6 * 476)) (by omega) (by omega) ?_
            refine q_sub [0, 1, 2] rfl ?_
            refine q_w (c2 := 476) (n2 := (6 * 476)) (by omega) (by omega) ?_
            exact J325  h
          · have h := h.2 c_54
            refine q_aload_n (j := 0) X dL_alike_156 rfl rfl ?_
            refine q_bipush (v := 15) X dL_alike_157 (by decide) ?_
            refine q_iload (j := 4) X dL_alike_159 rfl ?_
            refine q_iconst (v := 0) X dL_alike_161 (by decide) ?_
            refine q_iconst (v := 0) X dL_alike_162 (by decide) ?_
            obtain ⟨k_56, h⟩ := h
            refine qG_own X hW hZ (fun _ h => h) YT_ok [.ref (ad o 0 1), .int 15, .int y_10, .int 0, .int 0] [] rfl rfl (Nat.le_of_ble_eq_true rfl) dL_alike_163 ⟨by show _ ≤ 596; omega, by show _ ≤ 3576; omega⟩ (k_C_15 ha hst o y_10 0 0 g k_56) rfl rfl (gS kw_3_88 kw_3_89 kw_1_0 kw_3_90) hy_L_call.2 ⟨(Nat.le_of_ble_eq_true rfl), (Nat.le_of_ble_eq_true rfl)⟩ (fun r_55 g9 hq => ?_)
            obtain ⟨er_55, hq⟩ := hq
            rw [hq]
            have h := h r_55 er_55
            refine q_istore (lv' := [(5, .int r_55), (0, .ref (ad o 0 1)), (1, .ref (ad q 0 1)), (2, .int y_9), (3, .int r_6), (4, .int y_10)]) X dL_alike_166 (by decide) rfl ?_
            refine q_aload_n (j := 2) X dL_alike_168 rfl rfl ?_
            refine q_bipush (v := 15) X dL_alike_169 (by decide) ?_
            refine q_iload (j := 5) X dL_alike_171 rfl ?_
            refine q_iconst (v := 0) X dL_alike_173 (by decide) ?_
            refine q_iconst (v := 0) X dL_alike_174 (by decide) ?_
            obtain ⟨k_58, h⟩ := h
            refine qG_own X hW hZ (fun _ h => h) YT_ok [.ref (ad q 0 1), .int 15, .int y_10, .int 0, .int 0] [] rfl rfl (Nat.le_of_ble_eq_true rfl) dL_alike_175 ⟨by show _ ≤ 596; omega, by show _ ≤ 3576; omega⟩ (k_C_15 ha hst q y_10 0 0 g k_58) rfl rfl (gS kw_3_88 kw_3_89 kw_1_0 kw_3_90) hy_L_call.2 ⟨(Nat.le_of_ble_eq_true rfl), (Nat.le_of_ble_eq_true rfl)⟩ (fun r_57 g9 hq => ?_)
            obtain ⟨er_57, hq⟩ := hq
            rw [hq]
            have h := h r_57 er_57
            refine q_iload (j := 0) X dL_alike_178 rfl ?_
            refine q_icmp_ne (tgt := 317) X dL_alike_180 (by decide) (fun c_59 => ?_) (fun c_59 => ?_)
            · have h := h.1 c_59
              refine q_iconst (v := 0) X dL_alike_317 (by decide) ?_
              refine q_istore_n (lv' := [(2, .int 0), (5, .int r_55), (0, .ref (ad o 0 1)), (1, .ref (ad q 0 1)), (3, .int r_6), (4, .int y_10)]) X dL_alike_318 rfl (by decide) rfl ?_
              obtain ⟨x_60, ex_60⟩ : ∃ z : Int32, z = y_10 + 1 := ⟨_, rfl⟩
              have h := h x_60 ex_60
              refine q_iinc (j := 5) (v := x_60) (lv' := [(4, .int x_60), (2, .int 0), (5, .int r_55), (0, .ref (ad o 0 1)), (1, .ref (ad q 0 1)), (3, .int r_6)]) X dL_alike_319 rfl (by rw [ex_60]; rfl) (by decide) rfl ?_
              refine q_goto (tgt := 146) X dL_alike_322 (by decide) ?_
              refine q_sub [3, 4, 1, 5, 0] rfl ?_
              refine q_w (c2 := (c_8 + 28)) (n2 := (6 * (c_8 + 28))) (by omega) (by omega) ?_
              exact ih_12k 0 x_60 h (c_8 + 28) (by omega)
            · have h := h.2 c_59
              refine q_aload_n (j := 1) X dL_alike_183 rfl rfl ?_
              refine q_bipush (v := 17) X dL_alike_184 (by decide) ?_
              refine q_iload (j := 0) X dL_alike_186 rfl ?_
              refine q_iconst (v := 0) X dL_alike_188 (by decide) ?_
              refine q_iconst (v := 0) X dL_alike_189 (by decide) ?_
              obtain ⟨k_62, h⟩ := h
              refine qG_own X hW hZ (fun _ h => h) YT_ok [.ref (ad o 0 1), .int 17, .int r_55, .int 0, .int 0] [] rfl rfl (Nat.le_of_ble_eq_true rfl) dL_alike_190 ⟨by show _ ≤ 596; omega, by show _ ≤ 3576; omega⟩ (k_C_17 ha hst o r_55 0 0 g k_62) rfl rfl (gS kw_3_88 kw_3_89 kw_1_0 kw_3_90) hy_L_call.2 ⟨(Nat.le_of_ble_eq_true rfl), (Nat.le_of_ble_eq_true rfl)⟩ (fun r_61 g9 hq => ?_)
              obtain ⟨er_61, hq⟩ := hq
              rw [hq]
              have h := h r_61 er_61
              refine q_aload_n (j := 2) X dL_alike_193 rfl rfl ?_
              refine q_bipush (v := 17) X dL_alike_194 (by decide) ?_
              refine q_iload (j := 0) X dL_alike_196 rfl ?_
              refine q_iconst (v := 0) X dL_alike_198 (by decide) ?_
              refine q_iconst (v := 0) X dL_alike_199 (by decide) ?_
              obtain ⟨k_64, h⟩ := h
              refine qG_own X hW hZ (fun _ h => h) YT_ok [.ref (ad q 0 1), .int 17, .int r_55, .int 0, .int 0] [.int r_61] rfl rfl (Nat.le_of_ble_eq_true rfl) dL_alike_200 ⟨by show _ ≤ 596; omega, by show _ ≤ 3576; omega⟩ (k_C_17 ha hst q r_55 0 0 g k_64) rfl rfl (gS kw_3_88 kw_3_89 kw_1_0 kw_3_90) hy_L_call.2 ⟨(Nat.le_of_ble_eq_true rfl), (Nat.le_of_ble_eq_true rfl)⟩ (fun r_63 g9 hq => ?_)
              obtain ⟨er_63, hq⟩ := hq
              rw [hq]
              have h := h r_63 er_63
              refine q_icmp_ne (tgt := 317) X dL_alike_203 (by decide) (fun c_65 => ?_) (fun c_65 => ?_)
              · have h := h.1 c_65
                refine q_iconst (v := 0) X dL_alike_317 (by decide) ?_
                refine q_istore_n (lv' := [(2, .int 0), (5, .int r_55), (0, .ref (ad o 0 1)), (1, .ref (ad q 0 1)), (3, .int r_6), (4, .int y_10)]) X dL_alike_318 rfl (by decide) rfl ?_
                obtain ⟨x_66, ex_66⟩ : ∃ z : Int32, z = y_10 + 1 := ⟨_, rfl⟩
                have h := h x_66 ex_66
                refine q_iinc (j := 5) (v := x_66) (lv' := [(4, .int x_66), (2, .int 0), (5, .int r_55), (0, .ref (ad o 0 1)), (1, .ref (ad q 0 1)), (3, .int r_6)]) X dL_alike_319 rfl (by rw [ex_66]; rfl) (by decide) rfl ?_
                refine q_goto (tgt := 146) X dL_alike_322 (by decide) ?_
                refine q_sub [3, 4, 1, 5, 0] rfl ?_
                refine q_w (c2 := (c_8 + 28)) (n2 := (6 * (c_8 + 28))) (by omega) (by omega) ?_
                exact ih_12k 0 x_66 h (c_8 + 28) (by omega)
              · have h := h.2 c_65
                refine q_aload_n (j := 1) X dL_alike_206 rfl rfl ?_
                refine q_bipush (v := 18) X dL_alike_207 (by decide) ?_
                refine q_iload (j := 0) X dL_alike_209 rfl ?_
                refine q_iconst (v := 0) X dL_alike_211 (by decide) ?_
                refine q_iconst (v := 0) X dL_alike_212 (by decide) ?_
                obtain ⟨k_68, h⟩ := h
                refine qG_own X hW hZ (fun _ h => h) YT_ok [.ref (ad o 0 1), .int 18, .int r_55, .int 0, .int 0] [] rfl rfl (Nat.le_of_ble_eq_true rfl) dL_alike_213 ⟨by show _ ≤ 596; omega, by show _ ≤ 3576; omega⟩ (k_C_18 ha hst o r_55 0 0 g k_68) rfl rfl (gS kw_3_88 kw_3_89 kw_1_0 kw_3_90) hy_L_call.2 ⟨(Nat.le_of_ble_eq_true rfl), (Nat.le_of_ble_eq_true rfl)⟩ (fun r_67 g9 hq => ?_)
                obtain ⟨er_67, hq⟩ := hq
                rw [hq]
                have h := h r_67 er_67
                refine q_aload_n (j := 2) X dL_alike_216 rfl rfl ?_
                refine q_bipush (v := 18) X dL_alike_217 (by decide) ?_
                refine q_iload (j := 0) X dL_alike_219 rfl ?_
                refine q_iconst (v := 0) X dL_alike_221 (by decide) ?_
                refine q_iconst (v := 0) X dL_alike_222 (by decide) ?_
                obtain ⟨k_70, h⟩ := h
                refine qG_own X hW hZ (fun _ h => h) YT_ok [.ref (ad q 0 1), .int 18, .int r_55, .int 0, .int 0] [.int r_67] rfl rfl (Nat.le_of_ble_eq_true rfl) dL_alike_223 ⟨by show _ ≤ 596; omega, by show _ ≤ 3576; omega⟩ (k_C_18 ha hst q r_55 0 0 g k_70) rfl rfl (gS kw_3_88 kw_3_89 kw_1_0 kw_3_90) hy_L_call.2 ⟨(Nat.le_of_ble_eq_true rfl), (Nat.le_of_ble_eq_true rfl)⟩ (fun r_69 g9 hq => ?_)
                obtain ⟨er_69, hq⟩ := hq
                rw [hq]
                have h := h r_69 er_69
                refine q_icmp_ne (tgt := 317) X dL_alike_226 (by decide) (fun c_71 => ?_) (fun c_71 => ?_)
                · have h := h.1 c_71
                  refine q_iconst (v := 0) X dL_alike_317 (by decide) ?_
                  refine q_istore_n (lv' := [(2, .int 0), (5, .int r_55), (0, .ref (ad o 0 1)), (1, .ref (ad q 0 1)), (3, .int r_6), (4, .int y_10)]) X dL_alike_318 rfl (by decide) rfl ?_
                  obtain ⟨x_72, ex_72⟩ : ∃ z : Int32, z = y_10 + 1 := ⟨_, rfl⟩
                  have h := h x_72 ex_72
                  refine q_iinc (j := 5) (v := x_72) (lv' := [(4, .int x_72), (2, .int 0), (5, .int r_55), (0, .ref (ad o 0 1)), (1, .ref (ad q 0 1)), (3, .int r_6)]) X dL_alike_319 rfl (by rw [ex_72]; rfl) (by decide) rfl ?_
                  refine q_goto (tgt := 146) X dL_alike_322 (by decide) ?_
                  refine q_sub [3, 4, 1, 5, 0] rfl ?_
                  refine q_w (c2 := (c_8 + 28)) (n2 := (6 * (c_8 + 28))) (by omega) (by omega) ?_
                  exact ih_12k 0 x_72 h (c_8 + 28) (by omega)
                · have h := h.2 c_71
                  refine q_aload_n (j := 1) X dL_alike_229 rfl rfl ?_
                  refine q_bipush (v := 19) X dL_alike_230 (by decide) ?_
                  refine q_iload (j := 0) X dL_alike_232 rfl ?_
                  refine q_iconst (v := 0) X dL_alike_234 (by decide) ?_
                  refine q_iconst (v := 0) X dL_alike_235 (by decide) ?_
                  obtain ⟨k_74, h⟩ := h
                  refine qG_own X hW hZ (fun _ h => h) YT_ok [.ref (ad o 0 1), .int 19, .int r_55, .int 0, .int 0] [] rfl rfl (Nat.le_of_ble_eq_true rfl) dL_alike_236 ⟨by show _ ≤ 596; omega, by show _ ≤ 3576; omega⟩ (k_C_19 ha hst o r_55 0 0 g k_74) rfl rfl (gS kw_3_88 kw_3_89 kw_1_0 kw_3_90) hy_L_call.2 ⟨(Nat.le_of_ble_eq_true rfl), (Nat.le_of_ble_eq_true rfl)⟩ (fun r_73 g9 hq => ?_)
                  obtain ⟨er_73, hq⟩ := hq
                  rw [hq]
                  have h := h r_73 er_73
                  refine q_aload_n (j := 2) X dL_alike_239 rfl rfl ?_
                  refine q_bipush (v := 19) X dL_alike_240 (by decide) ?_
                  refine q_iload (j := 0) X dL_alike_242 rfl ?_
                  refine q_iconst (v := 0) X dL_alike_244 (by decide) ?_
                  refine q_iconst (v := 0) X dL_alike_245 (by decide) ?_
                  obtain ⟨k_76, h⟩ := h
                  refine qG_own X hW hZ (fun _ h => h) YT_ok [.ref (ad q 0 1), .int 19, .int r_55, .int 0, .int 0] [.int r_73] rfl rfl (Nat.le_of_ble_eq_true rfl) dL_alike_246 ⟨by show _ ≤ 596; omega, by show _ ≤ 3576; omega⟩ (k_C_19 ha hst q r_55 0 0 g k_76) rfl rfl (gS kw_3_88 kw_3_89 kw_1_0 kw_3_90) hy_L_call.2 ⟨(Nat.le_of_ble_eq_true rfl), (Nat.le_of_ble_eq_true rfl)⟩ (fun r_75 g9 hq => ?_)
                  obtain ⟨er_75, hq⟩ := hq
                  rw [hq]
                  have h := h r_75 er_75
                  refine q_icmp_ne (tgt := 317) X dL_alike_249 (by decide) (fun c_77 => ?_) (fun c_77 => ?_)
                  · have h := h.1 c_77
                    refine q_iconst (v := 0) X dL_alike_317 (by decide) ?_
                    refine q_istore_n (lv' := [(2, .int 0), (5, .int r_55), (0, .ref (ad o 0 1)), (1, .ref (ad q 0 1)), (3, .int r_6), (4, .int y_10)]) X dL_alike_318 rfl (by decide) rfl ?_
                    obtain ⟨x_78, ex_78⟩ : ∃ z : Int32, z = y_10 + 1 := ⟨_, rfl⟩
                    have h := h x_78 ex_78
                    refine q_iinc (j := 5) (v := x_78) (lv' := [(4, .int x_78), (2, .int 0), (5, .int r_55), (0, .ref (ad o 0 1)), (1, .ref (ad q 0 1)), (3, .int r_6)]) X dL_alike_319 rfl (by rw [ex_78]; rfl) (by decide) rfl ?_
                    refine q_goto (tgt := 146) X dL_alike_322 (by decide) ?_
                    refine q_sub [3, 4, 1, 5, 0] rfl ?_
                    refine q_w (c2 := (c_8 + 28)) (n2 := (6 * (c_8 + 28))) (by omega) (by omega) ?_
                    exact ih_12k 0 x_78 h (c_8 + 28) (by omega)
                  · have h := h.2 c_77
                    refine q_aload_n (j := 1) X dL_alike_252 rfl rfl ?_
                    refine q_bipush (v := 20) X dL_alike_253 (by decide) ?_
                    refine q_iload (j := 0) X dL_alike_255 rfl ?_
                    refine q_iconst (v := 0) X dL_alike_257 (by decide) ?_
                    refine q_iconst (v := 0) X dL_alike_258 (by decide) ?_
                    obtain ⟨k_80, h⟩ := h
                    refine qG_own X hW hZ (fun _ h => h) YT_ok [.ref (ad o 0 1), .int 20, .int r_55, .int 0, .int 0] [] rfl rfl (Nat.le_of_ble_eq_true rfl) dL_alike_259 ⟨by show _ ≤ 596; omega, by show _ ≤ 3576; omega⟩ (k_C_20 ha hst o r_55 0 0 g k_80) rfl rfl (gS kw_3_88 kw_3_89 kw_1_0 kw_3_90) hy_L_call.2 ⟨(Nat.le_of_ble_eq_true rfl), (Nat.le_of_ble_eq_true rfl)⟩ (fun r_79 g9 hq => ?_)
                    obtain ⟨er_79, hq⟩ := hq
                    rw [hq]
                    have h := h r_79 er_79
                    refine q_aload_n (j := 2) X dL_alike_262 rfl rfl ?_
                    refine q_bipush (v := 20) X dL_alike_263 (by decide) ?_
                    refine q_iload (j := 0) X dL_alike_265 rfl ?_
                    refine q_iconst (v := 0) X dL_alike_267 (by decide) ?_
                    refine q_iconst (v := 0) X dL_alike_268 (by decide) ?_
                    obtain ⟨k_82, h⟩ := h
                    refine qG_own X hW hZ (fun _ h => h) YT_ok [.ref (ad q 0 1), .int 20, .int r_55, .int 0, .int 0] [.int r_79] rfl rfl (Nat.le_of_ble_eq_true rfl) dL_alike_269 ⟨by show _ ≤ 596; omega, by show _ ≤ 3576; omega⟩ (k_C_20 ha hst q r_55 0 0 g k_82) rfl rfl (gS kw_3_88 kw_3_89 kw_1_0 kw_3_90) hy_L_call.2 ⟨(Nat.le_of_ble_eq_true rfl), (Nat.le_of_ble_eq_true rfl)⟩ (fun r_81 g9 hq => ?_)
                    obtain ⟨er_81, hq⟩ := hq
                    rw [hq]
                    have h := h r_81 er_81
                    refine q_icmp_ne (tgt := 317) X dL_alike_272 (by decide) (fun c_83 => ?_) (fun c_83 => ?_)
                    · have h := h.1 c_83
                      refine q_iconst (v := 0) X dL_alike_317 (by decide) ?_
                      refine q_istore_n (lv' := [(2, .int 0), (5, .int r_55), (0, .ref (ad o 0 1)), (1, .ref (ad q 0 1)), (3, .int r_6), (4, .int y_10)]) X dL_alike_318 rfl (by decide) rfl ?_
                      obtain ⟨x_84, ex_84⟩ : ∃ z : Int32, z = y_10 + 1 := ⟨_, rfl⟩
                      have h := h x_84 ex_84
                      refine q_iinc (j := 5) (v := x_84) (lv' := [(4, .int x_84), (2, .int 0), (5, .int r_55), (0, .ref (ad o 0 1)), (1, .ref (ad q 0 1)), (3, .int r_6)]) X dL_alike_319 rfl (by rw [ex_84]; rfl) (by decide) rfl ?_
                      refine q_goto (tgt := 146) X dL_alike_322 (by decide) ?_
                      refine q_sub [3, 4, 1, 5, 0] rfl ?_
                      refine q_w (c2 := (c_8 + 28)) (n2 := (6 * (c_8 + 28))) (by omega) (by omega) ?_
                      exact ih_12k 0 x_84 h (c_8 + 28) (by omega)
                    · have h := h.2 c_83
                      refine q_aload_n (j := 1) X dL_alike_275 rfl rfl ?_
                      refine q_iload (j := 0) X dL_alike_276 rfl ?_
                      obtain ⟨k_86, h⟩ := h
                      refine qG_ownW X hW hZ (fun _ h => h) YT_ok [.ref (ad o 0 1), .int r_55] [] rfl rfl (Nat.le_of_ble_eq_true rfl) dL_alike_278 ⟨by show _ ≤ 596; omega, by show _ ≤ 3576; omega⟩ (k_L_isProved ha hst o r_55 g k_86) rfl rfl (gSW kw_6_134 kw_6_135 kw_1_0 kw_6_136) hy_L_isProved.2 ⟨(Nat.le_of_ble_eq_true rfl), (Nat.le_of_ble_eq_true rfl)⟩ (fun r_85 g9 hq => ?_)
                      obtain ⟨er_85, hq⟩ := hq
                      rw [hq]
                      have h := h r_85 er_85
                      refine q_aload_n (j := 2) X dL_alike_281 rfl rfl ?_
                      refine q_iload (j := 0) X dL_alike_282 rfl ?_
                      obtain ⟨k_88, h⟩ := h
                      refine qG_ownW X hW hZ (fun _ h => h) YT_ok [.ref (ad q 0 1), .int r_55] [.int r_85] rfl rfl (Nat.le_of_ble_eq_true rfl) dL_alike_284 ⟨by show _ ≤ 596; omega, by show _ ≤ 3576; omega⟩ (k_L_isProved ha hst q r_55 g k_88) rfl rfl (gSW kw_6_134 kw_6_135 kw_1_0 kw_6_136) hy_L_isProved.2 ⟨(Nat.le_of_ble_eq_true rfl), (Nat.le_of_ble_eq_true rfl)⟩ (fun r_87 g9 hq => ?_)
                      obtain ⟨er_87, hq⟩ := hq
                      rw [hq]
                      have h := h r_87 er_87
                      refine q_icmp_ne (tgt := 317) X dL_alike_287 (by decide) (fun c_89 => ?_) (fun c_89 => ?_)
                      · have h := h.1 c_89
                        refine q_iconst (v := 0) X dL_alike_317 (by decide) ?_
                        refine q_istore_n (lv' := [(2, .int 0), (5, .int r_55), (0, .ref (ad o 0 1)), (1, .ref (ad q 0 1)), (3, .int r_6), (4, .int y_10)]) X dL_alike_318 rfl (by decide) rfl ?_
                        obtain ⟨x_90, ex_90⟩ : ∃ z : Int32, z = y_10 + 1 := ⟨_, rfl⟩
                        have h := h x_90 ex_90
                        refine q_iinc (j := 5) (v := x_90) (lv' := [(4, .int x_90), (2, .int 0), (5, .int r_55), (0, .ref (ad o 0 1)), (1, .ref (ad q 0 1)), (3, .int r_6)]) X dL_alike_319 rfl (by rw [ex_90]; rfl) (by decide) rfl ?_
                        refine q_goto (tgt := 146) X dL_alike_322 (by decide) ?_
                        refine q_sub [3, 4, 1, 5, 0] rfl ?_
                        refine q_w (c2 := (c_8 + 28)) (n2 := (6 * (c_8 + 28))) (by omega) (by omega) ?_
                        exact ih_12k 0 x_90 h (c_8 + 28) (by omega)
                      · have h := h.2 c_89
                        refine q_aload_n (j := 1) X dL_alike_290 rfl rfl ?_
                        refine q_bipush (v := 23) X dL_alike_291 (by decide) ?_
                        refine q_iload (j := 0) X dL_alike_293 rfl ?_
                        refine q_iconst (v := 0) X dL_alike_295 (by decide) ?_
                        refine q_iconst (v := 0) X dL_alike_296 (by decide) ?_
                        obtain ⟨k_92, h⟩ := h
                        refine qG_own X hW hZ (fun _ h => h) YT_ok [.ref (ad o 0 1), .int 23, .int r_55, .int 0, .int 0] [] rfl rfl (Nat.le_of_ble_eq_true rfl) dL_alike_297 ⟨by show _ ≤ 596; omega, by show _ ≤ 3576; omega⟩ (k_C_23 ha hst o r_55 0 0 g k_92) rfl rfl (gS kw_3_88 kw_3_89 kw_1_0 kw_3_90) hy_L_call.2 ⟨(Nat.le_of_ble_eq_true rfl), (Nat.le_of_ble_eq_true rfl)⟩ (fun r_91 g9 hq => ?_)
                        obtain ⟨er_91, hq⟩ := hq
                        rw [hq]
                        have h := h r_91 er_91
                        refine q_aload_n (j := 2) X dL_alike_300 rfl rfl ?_
                        refine q_bipush (v := 23) X dL_alike_301 (by decide) ?_
                        refine q_iload (j := 0) X dL_alike_303 rfl ?_
                        refine q_iconst (v := 0) X dL_alike_305 (by decide) ?_
                        refine q_iconst (v := 0) X dL_alike_306 (by decide) ?_
                        obtain ⟨k_94, h⟩ := h
                        refine qG_own X hW hZ (fun _ h => h) YT_ok [.ref (ad q 0 1), .int 23, .int r_55, .int 0, .int 0] [.int r_91] rfl rfl (Nat.le_of_ble_eq_true rfl) dL_alike_307 ⟨by show _ ≤ 596; omega, by show _ ≤ 3576; omega⟩ (k_C_23 ha hst q r_55 0 0 g k_94) rfl rfl (gS kw_3_88 kw_3_89 kw_1_0 kw_3_90) hy_L_call.2 ⟨(Nat.le_of_ble_eq_true rfl), (Nat.le_of_ble_eq_true rfl)⟩ (fun r_93 g9 hq => ?_)
                        obtain ⟨er_93, hq⟩ := hq
                        rw [hq]
                        have h := h r_93 er_93
                        refine q_icmp_ne (tgt := 317) X dL_alike_310 (by decide) (fun c_95 => ?_) (fun c_95 => ?_)
                        · have h := h.1 c_95
                          refine q_iconst (v := 0) X dL_alike_317 (by decide) ?_
                          refine q_istore_n (lv' := [(2, .int 0), (5, .int r_55), (0, .ref (ad o 0 1)), (1, .ref (ad q 0 1)), (3, .int r_6), (4, .int y_10)]) X dL_alike_318 rfl (by decide) rfl ?_
                          obtain ⟨x_96, ex_96⟩ : ∃ z : Int32, z = y_10 + 1 := ⟨_, rfl⟩
                          have h := h x_96 ex_96
                          refine q_iinc (j := 5) (v := x_96) (lv' := [(4, .int x_96), (2, .int 0), (5, .int r_55), (0, .ref (ad o 0 1)), (1, .ref (ad q 0 1)), (3, .int r_6)]) X dL_alike_319 rfl (by rw [ex_96]; rfl) (by decide) rfl ?_
                          refine q_goto (tgt := 146) X dL_alike_322 (by decide) ?_
                          refine q_sub [3, 4, 1, 5, 0] rfl ?_
                          refine q_w (c2 := (c_8 + 28)) (n2 := (6 * (c_8 + 28))) (by omega) (by omega) ?_
                          exact ih_12k 0 x_96 h (c_8 + 28) (by omega)
                        · have h := h.2 c_95
                          refine q_iconst (v := 1) X dL_alike_313 (by decide) ?_
                          refine q_goto (tgt := 318) X dL_alike_314 (by decide) ?_
                          refine q_istore_n (lv' := [(2, .int 1), (5, .int r_55), (0, .ref (ad o 0 1)), (1, .ref (ad q 0 1)), (3, .int r_6), (4, .int y_10)]) X dL_alike_318 rfl (by decide) rfl ?_
                          obtain ⟨x_97, ex_97⟩ : ∃ z : Int32, z = y_10 + 1 := ⟨_, rfl⟩
                          have h := h x_97 ex_97
                          refine q_iinc (j := 5) (v := x_97) (lv' := [(4, .int x_97), (2, .int 1), (5, .int r_55), (0, .ref (ad o 0 1)), (1, .ref (ad q 0 1)), (3, .int r_6)]) X dL_alike_319 rfl (by rw [ex_97]; rfl) (by decide) rfl ?_
                          refine q_goto (tgt := 146) X dL_alike_322 (by decide) ?_
                          refine q_sub [3, 4, 1, 5, 0] rfl ?_
                          refine q_w (c2 := (c_8 + 28)) (n2 := (6 * (c_8 + 28))) (by omega) (by omega) ?_
                          exact ih_12k 1 x_97 h (c_8 + 28) (by omega)
    refine q_w (c2 := 0) (n2 := (6 * 0)) (by omega) (by omega) ?_
    exact L146 17 y_5 0 h 0 (by omega)
  have J136 : w_L_alike_J136 o q g Q9  → V p l e rm_L_alike s m args below meth c QQ 6 (AU A) 0 (6 * 0) (WY D cA ad YT g) 136 [(0, .ref (ad o 0 1)), (1, .ref (ad q 0 1))] [] := by
    intro  h
    unfold w_L_alike_J136 at h
    refine q_iconst (v := 0) X dL_alike_136 (by decide) ?_
    refine q_sub [0, 1] rfl ?_
    refine q_w (c2 := 0) (n2 := (6 * 0)) (by omega) (by omega) ?_
    exact J137 0 h
  refine q_icmp_ne (tgt := 136) X dL_alike_8 (by decide) (fun c_98 => ?_) (fun c_98 => ?_)
  · have h := h.1 c_98
    refine q_sub [0, 1] rfl ?_
    refine q_w (c2 := 0) (n2 := (6 * 0)) (by omega) (by omega) ?_
    exact J136  h
  · have h := h.2 c_98
    refine q_aload_n (j := 0) X dL_alike_11 rfl rfl ?_
    obtain ⟨k_100, h⟩ := h
    refine qG_ask X hW hZ ha (fun _ h => h) YT_ok o (val := (v_entries (g.1 o))) (Qp := (fun mo r m1 => r = (v_entries (g.1 o)) ∧ mo = m1)) [] [] rfl rfl (Nat.le_of_ble_eq_true rfl) dL_alike_12 ⟨(Nat.le_of_ble_eq_true rfl), (Nat.le_of_ble_eq_true rfl)⟩ k_100 (fun mo hmo => c_X9_entries (ha.1 o)  mo _ (n_entries hmo.rs hmo.inv  _ rfl)) (fun mo r m1 hr h => ⟨h.1, by rw [← h.2]; exact hr⟩) rfl rfl (gV kw_6_130 kw_6_131 kw_6_132 kw_1_1 kw_6_133) hy_X9_entries ⟨(Nat.le_of_ble_eq_true rfl), (Nat.le_of_ble_eq_true rfl)⟩ ?_
    refine q_topi (fun r_99 er_99 => ?_)
    have h := h r_99 er_99
    refine q_aload_n (j := 1) X dL_alike_15 rfl rfl ?_
    obtain ⟨k_102, h⟩ := h
    refine qG_ask X hW hZ ha (fun _ h => h) YT_ok q (val := (v_entries (g.1 q))) (Qp := (fun mo r m1 => r = (v_entries (g.1 q)) ∧ mo = m1)) [] [.int r_99] rfl rfl (Nat.le_of_ble_eq_true rfl) dL_alike_16 ⟨(Nat.le_of_ble_eq_true rfl), (Nat.le_of_ble_eq_true rfl)⟩ k_102 (fun mo hmo => c_X9_entries (ha.1 q)  mo _ (n_entries hmo.rs hmo.inv  _ rfl)) (fun mo r m1 hr h => ⟨h.1, by rw [← h.2]; exact hr⟩) rfl rfl (gV kw_6_130 kw_6_131 kw_6_132 kw_1_1 kw_6_133) hy_X9_entries ⟨(Nat.le_of_ble_eq_true rfl), (Nat.le_of_ble_eq_true rfl)⟩ ?_
    refine q_topi (fun r_101 er_101 => ?_)
    have h := h r_101 er_101
    refine q_icmp_ne (tgt := 136) X dL_alike_19 (by decide) (fun c_103 => ?_) (fun c_103 => ?_)
    · have h := h.1 c_103
      refine q_sub [0, 1] rfl ?_
      refine q_w (c2 := 0) (n2 := (6 * 0)) (by omega) (by omega) ?_
      exact J136  h
    · have h := h.2 c_103
      refine q_aload_n (j := 0) X dL_alike_22 rfl rfl ?_
      obtain ⟨k_105, h⟩ := h
      refine qG_ask X hW hZ ha (fun _ h => h) YT_ok o (val := (v_entriesMade (g.1 o))) (Qp := (fun mo r m1 => r = (v_entriesMade (g.1 o)) ∧ mo = m1)) [] [] rfl rfl (Nat.le_of_ble_eq_true rfl) dL_alike_23 ⟨(Nat.le_of_ble_eq_true rfl), (Nat.le_of_ble_eq_true rfl)⟩ k_105 (fun mo hmo => c_X9_entriesMade (ha.1 o)  mo _ (n_entriesMade hmo.rs hmo.inv  _ rfl)) (fun mo r m1 hr h => ⟨h.1, by rw [← h.2]; exact hr⟩) rfl rfl (gV kw_2_132 kw_2_133 kw_2_134 kw_1_1 kw_2_135) hy_X9_entriesMade ⟨(Nat.le_of_ble_eq_true rfl), (Nat.le_of_ble_eq_true rfl)⟩ ?_
      refine q_topi (fun r_104 er_104 => ?_)
      have h := h r_104 er_104
      refine q_aload_n (j := 1) X dL_alike_26 rfl rfl ?_
      obtain ⟨k_107, h⟩ := h
      refine qG_ask X hW hZ ha (fun _ h => h) YT_ok q (val := (v_entriesMade (g.1 q))) (Qp := (fun mo r m1 => r = (v_entriesMade (g.1 q)) ∧ mo = m1)) [] [.int r_104] rfl rfl (Nat.le_of_ble_eq_true rfl) dL_alike_27 ⟨(Nat.le_of_ble_eq_true rfl), (Nat.le_of_ble_eq_true rfl)⟩ k_107 (fun mo hmo => c_X9_entriesMade (ha.1 q)  mo _ (n_entriesMade hmo.rs hmo.inv  _ rfl)) (fun mo r m1 hr h => ⟨h.1, by rw [← h.2]; exact hr⟩) rfl rfl (gV kw_2_132 kw_2_133 kw_2_134 kw_1_1 kw_2_135) hy_X9_entriesMade ⟨(Nat.le_of_ble_eq_true rfl), (Nat.le_of_ble_eq_true rfl)⟩ ?_
      refine q_topi (fun r_106 er_106 => ?_)
      have h := h r_106 er_106
      refine q_icmp_ne (tgt := 136) X dL_alike_30 (by decide) (fun c_108 => ?_) (fun c_108 => ?_)
      · have h := h.1 c_108
        refine q_sub [0, 1] rfl ?_
        refine q_w (c2 := 0) (n2 := (6 * 0)) (by omega) (by omega) ?_
        exact J136  h
      · have h := h.2 c_108
        refine q_aload_n (j := 0) X dL_alike_33 rfl rfl ?_
        obtain ⟨k_110, h⟩ := h
        refine qG_ask X hW hZ ha (fun _ h => h) YT_ok o (val := (v_dutyAtStake (g.1 o))) (Qp := (fun mo r m1 => r = (v_dutyAtStake (g.1 o)) ∧ mo = m1)) [] [] rfl rfl (Nat.le_of_ble_eq_true rfl) dL_alike_34 ⟨(Nat.le_of_ble_eq_true rfl), (Nat.le_of_ble_eq_true rfl)⟩ k_110 (fun mo hmo => c_X9_dutyAtStake (ha.1 o)  mo _ (n_dutyAtStake hmo.rs hmo.inv  _ rfl)) (fun mo r m1 hr h => ⟨h.1, by rw [← h.2]; exact hr⟩) rfl rfl (gV kw_6_165 kw_6_166 kw_6_167 kw_1_1 kw_6_168) hy_X9_dutyAtStake ⟨(Nat.le_of_ble_eq_true rfl), (Nat.le_of_ble_eq_true rfl)⟩ ?_
        refine q_topi (fun r_109 er_109 => ?_)
        have h := h r_109 er_109
        refine q_aload_n (j := 1) X dL_alike_37 rfl rfl ?_
        obtain ⟨k_112, h⟩ := h
        refine qG_ask X hW hZ ha (fun _ h => h) YT_ok q (val := (v_dutyAtStake (g.1 q))) (Qp := (fun mo r m1 => r = (v_dutyAtStake (g.1 q)) ∧ mo = m1)) [] [.int r_109] rfl rfl (Nat.le_of_ble_eq_true rfl) dL_alike_38 ⟨(Nat.le_of_ble_eq_true rfl), (Nat.le_of_ble_eq_true rfl)⟩ k_112 (fun mo hmo => c_X9_dutyAtStake (ha.1 q)  mo _ (n_dutyAtStake hmo.rs hmo.inv  _ rfl)) (fun mo r m1 hr h => ⟨h.1, by rw [← h.2]; exact hr⟩) rfl rfl (gV kw_6_165 kw_6_166 kw_6_167 kw_1_1 kw_6_168) hy_X9_dutyAtStake ⟨(Nat.le_of_ble_eq_true rfl), (Nat.le_of_ble_eq_true rfl)⟩ ?_
        refine q_topi (fun r_111 er_111 => ?_)
        have h := h r_111 er_111
        refine q_icmp_ne (tgt := 136) X dL_alike_41 (by decide) (fun c_113 => ?_) (fun c_113 => ?_)
        · have h := h.1 c_113
          refine q_sub [0, 1] rfl ?_
          refine q_w (c2 := 0) (n2 := (6 * 0)) (by omega) (by omega) ?_
          exact J136  h
        · have h := h.2 c_113
          refine q_aload_n (j := 0) X dL_alike_44 rfl rfl ?_
          obtain ⟨k_115, h⟩ := h
          refine qG_ask X hW hZ ha (fun _ h => h) YT_ok o (val := (v_account (g.1 o))) (Qp := (fun mo r m1 => r = (v_account (g.1 o)) ∧ mo = m1)) [] [] rfl rfl (Nat.le_of_ble_eq_true rfl) dL_alike_45 ⟨(Nat.le_of_ble_eq_true rfl), (Nat.le_of_ble_eq_true rfl)⟩ k_115 (fun mo hmo => c_X9_account (ha.1 o)  mo _ (n_account hmo.rs hmo.inv  _ rfl)) (fun mo r m1 hr h => ⟨h.1, by rw [← h.2]; exact hr⟩) rfl rfl (gV kw_6_182 kw_6_183 kw_6_184 kw_1_1 kw_6_185) hy_X9_account ⟨(Nat.le_of_ble_eq_true rfl), (Nat.le_of_ble_eq_true rfl)⟩ ?_
          refine q_topi (fun r_114 er_114 => ?_)
          have h := h r_114 er_114
          refine q_aload_n (j := 1) X dL_alike_48 rfl rfl ?_
          obtain ⟨k_117, h⟩ := h
          refine qG_ask X hW hZ ha (fun _ h => h) YT_ok q (val := (v_account (g.1 q))) (Qp := (fun mo r m1 => r = (v_account (g.1 q)) ∧ mo = m1)) [] [.int r_114] rfl rfl (Nat.le_of_ble_eq_true rfl) dL_alike_49 ⟨(Nat.le_of_ble_eq_true rfl), (Nat.le_of_ble_eq_true rfl)⟩ k_117 (fun mo hmo => c_X9_account (ha.1 q)  mo _ (n_account hmo.rs hmo.inv  _ rfl)) (fun mo r m1 hr h => ⟨h.1, by rw [← h.2]; exact hr⟩) rfl rfl (gV kw_6_182 kw_6_183 kw_6_184 kw_1_1 kw_6_185) hy_X9_account ⟨(Nat.le_of_ble_eq_true rfl), (Nat.le_of_ble_eq_true rfl)⟩ ?_
          refine q_topi (fun r_116 er_116 => ?_)
          have h := h r_116 er_116
          refine q_icmp_ne (tgt := 136) X dL_alike_52 (by decide) (fun c_118 => ?_) (fun c_118 => ?_)
          · have h := h.1 c_118
            refine q_sub [0, 1] rfl ?_
            refine q_w (c2 := 0) (n2 := (6 * 0)) (by omega) (by omega) ?_
            exact J136  h
          · have h := h.2 c_118
            refine q_aload_n (j := 0) X dL_alike_55 rfl rfl ?_
            obtain ⟨k_120, h⟩ := h
            refine qG_ask X hW hZ ha (fun _ h => h) YT_ok o (val := (v_debt (g.1 o))) (Qp := (fun mo r m1 => r = (v_debt (g.1 o)) ∧ mo = m1)) [] [] rfl rfl (Nat.le_of_ble_eq_true rfl) dL_alike_56 ⟨(Nat.le_of_ble_eq_true rfl), (Nat.le_of_ble_eq_true rfl)⟩ k_120 (fun mo hmo => c_X9_debt (ha.1 o)  mo _ (n_debt hmo.rs hmo.inv  _ rfl)) (fun mo r m1 hr h => ⟨h.1, by rw [← h.2]; exact hr⟩) rfl rfl (gV kw_6_186 kw_6_187 kw_6_188 kw_1_1 kw_6_189) hy_X9_debt ⟨(Nat.le_of_ble_eq_true rfl), (Nat.le_of_ble_eq_true rfl)⟩ ?_
            refine q_topi (fun r_119 er_119 => ?_)
            have h := h r_119 er_119
            refine q_aload_n (j := 1) X dL_alike_59 rfl rfl ?_
            obtain ⟨k_122, h⟩ := h
            refine qG_ask X hW hZ ha (fun _ h => h) YT_ok q (val := (v_debt (g.1 q))) (Qp := (fun mo r m1 => r = (v_debt (g.1 q)) ∧ mo = m1)) [] [.int r_119] rfl rfl (Nat.le_of_ble_eq_true rfl) dL_alike_60 ⟨(Nat.le_of_ble_eq_true rfl), (Nat.le_of_ble_eq_true rfl)⟩ k_122 (fun mo hmo => c_X9_debt (ha.1 q)  mo _ (n_debt hmo.rs hmo.inv  _ rfl)) (fun mo r m1 hr h => ⟨h.1, by rw [← h.2]; exact hr⟩) rfl rfl (gV kw_6_186 kw_6_187 kw_6_188 kw_1_1 kw_6_189) hy_X9_debt ⟨(Nat.le_of_ble_eq_true rfl), (Nat.le_of_ble_eq_true rfl)⟩ ?_
            refine q_topi (fun r_121 er_121 => ?_)
            have h := h r_121 er_121
            refine q_icmp_ne (tgt := 136) X dL_alike_63 (by decide) (fun c_123 => ?_) (fun c_123 => ?_)
            · have h := h.1 c_123
              refine q_sub [0, 1] rfl ?_
              refine q_w (c2 := 0) (n2 := (6 * 0)) (by omega) (by omega) ?_
              exact J136  h
            · have h := h.2 c_123
              refine q_aload_n (j := 0) X dL_alike_66 rfl rfl ?_
              obtain ⟨k_125, h⟩ := h
              refine qG_ask X hW hZ ha (fun _ h => h) YT_ok o (val := (v_bond (g.1 o))) (Qp := (fun mo r m1 => r = (v_bond (g.1 o)) ∧ mo = m1)) [] [] rfl rfl (Nat.le_of_ble_eq_true rfl) dL_alike_67 ⟨(Nat.le_of_ble_eq_true rfl), (Nat.le_of_ble_eq_true rfl)⟩ k_125 (fun mo hmo => c_X9_bond (ha.1 o)  mo _ (n_bond hmo.rs hmo.inv  _ rfl)) (fun mo r m1 hr h => ⟨h.1, by rw [← h.2]; exact hr⟩) rfl rfl (gV kw_6_228 kw_6_229 kw_6_230 kw_1_1 kw_6_231) hy_X9_bond ⟨(Nat.le_of_ble_eq_true rfl), (Nat.le_of_ble_eq_true rfl)⟩ ?_
              refine q_topi (fun r_124 er_124 => ?_)
              have h := h r_124 er_124
              refine q_aload_n (j := 1) X dL_alike_70 rfl rfl ?_
              obtain ⟨k_127, h⟩ := h
              refine qG_ask X hW hZ ha (fun _ h => h) YT_ok q (val := (v_bond (g.1 q))) (Qp := (fun mo r m1 => r = (v_bond (g.1 q)) ∧ mo = m1)) [] [.int r_124] rfl rfl (Nat.le_of_ble_eq_true rfl) dL_alike_71 ⟨(Nat.le_of_ble_eq_true rfl), (Nat.le_of_ble_eq_true rfl)⟩ k_127 (fun mo hmo => c_X9_bond (ha.1 q)  mo _ (n_bond hmo.rs hmo.inv  _ rfl)) (fun mo r m1 hr h => ⟨h.1, by rw [← h.2]; exact hr⟩) rfl rfl (gV kw_6_228 kw_6_229 kw_6_230 kw_1_1 kw_6_231) hy_X9_bond ⟨(Nat.le_of_ble_eq_true rfl), (Nat.le_of_ble_eq_true rfl)⟩ ?_
              refine q_topi (fun r_126 er_126 => ?_)
              have h := h r_126 er_126
              refine q_icmp_ne (tgt := 136) X dL_alike_74 (by decide) (fun c_128 => ?_) (fun c_128 => ?_)
              · have h := h.1 c_128
                refine q_sub [0, 1] rfl ?_
                refine q_w (c2 := 0) (n2 := (6 * 0)) (by omega) (by omega) ?_
                exact J136  h
              · have h := h.2 c_128
                refine q_aload_n (j := 0) X dL_alike_77 rfl rfl ?_
                obtain ⟨k_130, h⟩ := h
                refine qG_ask X hW hZ ha (fun _ h => h) YT_ok o (val := (v_receipts (g.1 o))) (Qp := (fun mo r m1 => r = (v_receipts (g.1 o)) ∧ mo = m1)) [] [] rfl rfl (Nat.le_of_ble_eq_true rfl) dL_alike_78 ⟨(Nat.le_of_ble_eq_true rfl), (Nat.le_of_ble_eq_true rfl)⟩ k_130 (fun mo hmo => c_X9_receipts (ha.1 o)  mo _ (n_receipts hmo.rs hmo.inv  _ rfl)) (fun mo r m1 hr h => ⟨h.1, by rw [← h.2]; exact hr⟩) rfl rfl (gV kw_2_136 kw_2_137 kw_2_138 kw_1_1 kw_2_139) hy_X9_receipts ⟨(Nat.le_of_ble_eq_true rfl), (Nat.le_of_ble_eq_true rfl)⟩ ?_
                refine q_topi (fun r_129 er_129 => ?_)
                have h := h r_129 er_129
                refine q_aload_n (j := 1) X dL_alike_81 rfl rfl ?_
                obtain ⟨k_132, h⟩ := h
                refine qG_ask X hW hZ ha (fun _ h => h) YT_ok q (val := (v_receipts (g.1 q))) (Qp := (fun mo r m1 => r = (v_receipts (g.1 q)) ∧ mo = m1)) [] [.int r_129] rfl rfl (Nat.le_of_ble_eq_true rfl) dL_alike_82 ⟨(Nat.le_of_ble_eq_true rfl), (Nat.le_of_ble_eq_true rfl)⟩ k_132 (fun mo hmo => c_X9_receipts (ha.1 q)  mo _ (n_receipts hmo.rs hmo.inv  _ rfl)) (fun mo r m1 hr h => ⟨h.1, by rw [← h.2]; exact hr⟩) rfl rfl (gV kw_2_136 kw_2_137 kw_2_138 kw_1_1 kw_2_139) hy_X9_receipts ⟨(Nat.le_of_ble_eq_true rfl), (Nat.le_of_ble_eq_true rfl)⟩ ?_
                refine q_topi (fun r_131 er_131 => ?_)
                have h := h r_131 er_131
                refine q_icmp_ne (tgt := 136) X dL_alike_85 (by decide) (fun c_133 => ?_) (fun c_133 => ?_)
                · have h := h.1 c_133
                  refine q_sub [0, 1] rfl ?_
                  refine q_w (c2 := 0) (n2 := (6 * 0)) (by omega) (by omega) ?_
                  exact J136  h
                · have h := h.2 c_133
                  refine q_aload_n (j := 0) X dL_alike_88 rfl rfl ?_
                  obtain ⟨k_135, h⟩ := h
                  refine qG_ask X hW hZ ha (fun _ h => h) YT_ok o (val := (v_savedStates (g.1 o))) (Qp := (fun mo r m1 => r = (v_savedStates (g.1 o)) ∧ mo = m1)) [] [] rfl rfl (Nat.le_of_ble_eq_true rfl) dL_alike_89 ⟨(Nat.le_of_ble_eq_true rfl), (Nat.le_of_ble_eq_true rfl)⟩ k_135 (fun mo hmo => c_X9_savedStates (ha.1 o)  mo _ (N_savedStates hmo _ rfl)) (fun mo r m1 hr h => ⟨h.1, by rw [← h.2]; exact hr⟩) rfl rfl (gV kw_6_232 kw_6_233 kw_6_234 kw_1_1 kw_6_235) hy_X9_savedStates ⟨(Nat.le_of_ble_eq_true rfl), (Nat.le_of_ble_eq_true rfl)⟩ ?_
                  refine q_topi (fun r_134 er_134 => ?_)
                  have h := h r_134 er_134
                  refine q_aload_n (j := 1) X dL_alike_92 rfl rfl ?_
                  obtain ⟨k_137, h⟩ := h
                  refine qG_ask X hW hZ ha (fun _ h => h) YT_ok q (val := (v_savedStates (g.1 q))) (Qp := (fun mo r m1 => r = (v_savedStates (g.1 q)) ∧ mo = m1)) [] [.int r_134] rfl rfl (Nat.le_of_ble_eq_true rfl) dL_alike_93 ⟨(Nat.le_of_ble_eq_true rfl), (Nat.le_of_ble_eq_true rfl)⟩ k_137 (fun mo hmo => c_X9_savedStates (ha.1 q)  mo _ (N_savedStates hmo _ rfl)) (fun mo r m1 hr h => ⟨h.1, by rw [← h.2]; exact hr⟩) rfl rfl (gV kw_6_232 kw_6_233 kw_6_234 kw_1_1 kw_6_235) hy_X9_savedStates ⟨(Nat.le_of_ble_eq_true rfl), (Nat.le_of_ble_eq_true rfl)⟩ ?_
                  refine q_topi (fun r_136 er_136 => ?_)
                  have h := h r_136 er_136
                  refine q_icmp_ne (tgt := 136) X dL_alike_96 (by decide) (fun c_138 => ?_) (fun c_138 => ?_)
                  · have h := h.1 c_138
                    refine q_sub [0, 1] rfl ?_
                    refine q_w (c2 := 0) (n2 := (6 * 0)) (by omega) (by omega) ?_
                    exact J136  h
                  · have h := h.2 c_138
                    refine q_aload_n (j := 0) X dL_alike_99 rfl rfl ?_
                    obtain ⟨k_140, h⟩ := h
                    refine qG_ask X hW hZ ha (fun _ h => h) YT_ok o (val := (v_charges (g.1 o))) (Qp := (fun mo r m1 => r = (v_charges (g.1 o)) ∧ mo = m1)) [] [] rfl rfl (Nat.le_of_ble_eq_true rfl) dL_alike_100 ⟨(Nat.le_of_ble_eq_true rfl), (Nat.le_of_ble_eq_true rfl)⟩ k_140 (fun mo hmo => c_X9_charges (ha.1 o)  mo _ (n_charges hmo.rs hmo.inv  _ rfl)) (fun mo r m1 hr h => ⟨h.1, by rw [← h.2]; exact hr⟩) rfl rfl (gV kw_6_236 kw_6_237 kw_6_238 kw_1_1 kw_6_239) hy_X9_charges ⟨(Nat.le_of_ble_eq_true rfl), (Nat.le_of_ble_eq_true rfl)⟩ ?_
                    refine q_topi (fun r_139 er_139 => ?_)
                    have h := h r_139 er_139
                    refine q_aload_n (j := 1) X dL_alike_103 rfl rfl ?_
                    obtain ⟨k_142, h⟩ := h
                    refine qG_ask X hW hZ ha (fun _ h => h) YT_ok q (val := (v_charges (g.1 q))) (Qp := (fun mo r m1 => r = (v_charges (g.1 q)) ∧ mo = m1)) [] [.int r_139] rfl rfl (Nat.le_of_ble_eq_true rfl) dL_alike_104 ⟨(Nat.le_of_ble_eq_true rfl), (Nat.le_of_ble_eq_true rfl)⟩ k_142 (fun mo hmo => c_X9_charges (ha.1 q)  mo _ (n_charges hmo.rs hmo.inv  _ rfl)) (fun mo r m1 hr h => ⟨h.1, by rw [← h.2]; exact hr⟩) rfl rfl (gV kw_6_236 kw_6_237 kw_6_238 kw_1_1 kw_6_239) hy_X9_charges ⟨(Nat.le_of_ble_eq_true rfl), (Nat.le_of_ble_eq_true rfl)⟩ ?_
                    refine q_topi (fun r_141 er_141 => ?_)
                    have h := h r_141 er_141
                    refine q_icmp_ne (tgt := 136) X dL_alike_107 (by decide) (fun c_143 => ?_) (fun c_143 => ?_)
                    · have h := h.1 c_143
                      refine q_sub [0, 1] rfl ?_
                      refine q_w (c2 := 0) (n2 := (6 * 0)) (by omega) (by omega) ?_
                      exact J136  h
                    · have h := h.2 c_143
                      refine q_aload_n (j := 0) X dL_alike_110 rfl rfl ?_
                      obtain ⟨k_145, h⟩ := h
                      refine qG_ask X hW hZ ha (fun _ h => h) YT_ok o (val := (v_drawbacks (g.1 o))) (Qp := (fun mo r m1 => r = (v_drawbacks (g.1 o)) ∧ mo = m1)) [] [] rfl rfl (Nat.le_of_ble_eq_true rfl) dL_alike_111 ⟨(Nat.le_of_ble_eq_true rfl), (Nat.le_of_ble_eq_true rfl)⟩ k_145 (fun mo hmo => c_X9_drawbacks (ha.1 o)  mo _ (n_drawbacks hmo.rs hmo.inv  _ rfl)) (fun mo r m1 hr h => ⟨h.1, by rw [← h.2]; exact hr⟩) rfl rfl (gV kw_7_0 kw_7_1 kw_7_2 kw_1_1 kw_7_3) hy_X9_drawbacks ⟨(Nat.le_of_ble_eq_true rfl), (Nat.le_of_ble_eq_true rfl)⟩ ?_
                      refine q_topi (fun r_144 er_144 => ?_)
                      have h := h r_144 er_144
                      refine q_aload_n (j := 1) X dL_alike_114 rfl rfl ?_
                      obtain ⟨k_147, h⟩ := h
                      refine qG_ask X hW hZ ha (fun _ h => h) YT_ok q (val := (v_drawbacks (g.1 q))) (Qp := (fun mo r m1 => r = (v_drawbacks (g.1 q)) ∧ mo = m1)) [] [.int r_144] rfl rfl (Nat.le_of_ble_eq_true rfl) dL_alike_115 ⟨(Nat.le_of_ble_eq_true rfl), (Nat.le_of_ble_eq_true rfl)⟩ k_147 (fun mo hmo => c_X9_drawbacks (ha.1 q)  mo _ (n_drawbacks hmo.rs hmo.inv  _ rfl)) (fun mo r m1 hr h => ⟨h.1, by rw [← h.2]; exact hr⟩) rfl rfl (gV kw_7_0 kw_7_1 kw_7_2 kw_1_1 kw_7_3) hy_X9_drawbacks ⟨(Nat.le_of_ble_eq_true rfl), (Nat.le_of_ble_eq_true rfl)⟩ ?_
                      refine q_topi (fun r_146 er_146 => ?_)
                      have h := h r_146 er_146
                      refine q_icmp_ne (tgt := 136) X dL_alike_118 (by decide) (fun c_148 => ?_) (fun c_148 => ?_)
                      · have h := h.1 c_148
                        refine q_sub [0, 1] rfl ?_
                        refine q_w (c2 := 0) (n2 := (6 * 0)) (by omega) (by omega) ?_
                        exact J136  h
                      · have h := h.2 c_148
                        refine q_aload_n (j := 0) X dL_alike_121 rfl rfl ?_
                        obtain ⟨k_150, h⟩ := h
                        refine qG_ask X hW hZ ha (fun _ h => h) YT_ok o (val := (v_nextOverdue (g.1 o))) (Qp := (fun mo r m1 => r = (v_nextOverdue (g.1 o)) ∧ mo = m1)) [] [] rfl rfl (Nat.le_of_ble_eq_true rfl) dL_alike_122 ⟨(Nat.le_of_ble_eq_true rfl), (Nat.le_of_ble_eq_true rfl)⟩ k_150 (fun mo hmo => c_X9_nextOverdue (ha.1 o)  mo _ (n_nextOverdue hmo.rs hmo.inv  _ rfl)) (fun mo r m1 hr h => ⟨h.1, by rw [← h.2]; exact hr⟩) rfl rfl (gV kw_6_210 kw_6_211 kw_6_212 kw_1_1 kw_6_213) hy_X9_nextOverdue ⟨(Nat.le_of_ble_eq_true rfl), (Nat.le_of_ble_eq_true rfl)⟩ ?_
                        refine q_topi (fun r_149 er_149 => ?_)
                        have h := h r_149 er_149
                        refine q_aload_n (j := 1) X dL_alike_125 rfl rfl ?_
                        obtain ⟨k_152, h⟩ := h
                        refine qG_ask X hW hZ ha (fun _ h => h) YT_ok q (val := (v_nextOverdue (g.1 q))) (Qp := (fun mo r m1 => r = (v_nextOverdue (g.1 q)) ∧ mo = m1)) [] [.int r_149] rfl rfl (Nat.le_of_ble_eq_true rfl) dL_alike_126 ⟨(Nat.le_of_ble_eq_true rfl), (Nat.le_of_ble_eq_true rfl)⟩ k_152 (fun mo hmo => c_X9_nextOverdue (ha.1 q)  mo _ (n_nextOverdue hmo.rs hmo.inv  _ rfl)) (fun mo r m1 hr h => ⟨h.1, by rw [← h.2]; exact hr⟩) rfl rfl (gV kw_6_210 kw_6_211 kw_6_212 kw_1_1 kw_6_213) hy_X9_nextOverdue ⟨(Nat.le_of_ble_eq_true rfl), (Nat.le_of_ble_eq_true rfl)⟩ ?_
                        refine q_topi (fun r_151 er_151 => ?_)
                        have h := h r_151 er_151
                        refine q_icmp_ne (tgt := 136) X dL_alike_129 (by decide) (fun c_153 => ?_) (fun c_153 => ?_)
                        · have h := h.1 c_153
                          refine q_sub [0, 1] rfl ?_
                          refine q_w (c2 := 0) (n2 := (6 * 0)) (by omega) (by omega) ?_
                          exact J136  h
                        · have h := h.2 c_153
                          refine q_iconst (v := 1) X dL_alike_132 (by decide) ?_
                          refine q_goto (tgt := 137) X dL_alike_133 (by decide) ?_
                          refine q_sub [0, 1] rfl ?_
                          refine q_w (c2 := 0) (n2 := (6 * 0)) (by omega) (by omega) ?_
                          exact J137 1 h
