theorem kw_3_91 : Jvm.Cond.methodLink "BondWarehouseLaw" (209 : Nat) ({ cls := "BondWarehouseLaw", name := "tryWithdraw", desc := "(LBondWarehouse;II)I" } : Jvm.MethodName) ∈ TG := tg_3 91 rfl rfl
theorem kw_3_92 : Jvm.Cond.static ({ cls := "BondWarehouseLaw", name := "tryWithdraw", desc := "(LBondWarehouse;II)I" } : Jvm.MethodName) ∈ TG := tg_3 92 rfl rfl
theorem kw_1_0 : Jvm.Cond.initialized "BondWarehouseLaw" ∈ TG := tg_1 0 rfl rfl
theorem kw_3_93 : Jvm.Cond.codeWith ({ cls := "BondWarehouseLaw", name := "tryWithdraw", desc := "(LBondWarehouse;II)I" } : Jvm.MethodName) method_8_code (4 : Nat) (Option.some Jvm.ClassFile.FieldType.int) [((0 : Nat), (6 : Nat), (7 : Nat), (26 : Nat)), ((0 : Nat), (6 : Nat), (11 : Nat), (13 : Nat)), ((0 : Nat), (6 : Nat), (15 : Nat), (16 : Nat))] ∈ TG := tg_3 93 rfl rfl
theorem kw_3_146 : Jvm.Cond.methodLink "BondWarehouseLaw" (215 : Nat) ({ cls := "BondWarehouseLaw", name := "trySend", desc := "(LBondWarehouse;II)I" } : Jvm.MethodName) ∈ TG := tg_3 146 rfl rfl
theorem kw_3_147 : Jvm.Cond.static ({ cls := "BondWarehouseLaw", name := "trySend", desc := "(LBondWarehouse;II)I" } : Jvm.MethodName) ∈ TG := tg_3 147 rfl rfl
theorem kw_3_148 : Jvm.Cond.codeWith ({ cls := "BondWarehouseLaw", name := "trySend", desc := "(LBondWarehouse;II)I" } : Jvm.MethodName) method_9_code (4 : Nat) (Option.some Jvm.ClassFile.FieldType.int) [((0 : Nat), (6 : Nat), (7 : Nat), (26 : Nat)), ((0 : Nat), (6 : Nat), (11 : Nat), (13 : Nat)), ((0 : Nat), (6 : Nat), (15 : Nat), (16 : Nat))] ∈ TG := tg_3 148 rfl rfl
theorem kw_3_165 : Jvm.Cond.methodLink "BondWarehouseLaw" (218 : Nat) ({ cls := "BondWarehouseLaw", name := "tryDraw", desc := "(LBondWarehouse;II)I" } : Jvm.MethodName) ∈ TG := tg_3 165 rfl rfl
theorem kw_3_166 : Jvm.Cond.static ({ cls := "BondWarehouseLaw", name := "tryDraw", desc := "(LBondWarehouse;II)I" } : Jvm.MethodName) ∈ TG := tg_3 166 rfl rfl
theorem kw_3_167 : Jvm.Cond.codeWith ({ cls := "BondWarehouseLaw", name := "tryDraw", desc := "(LBondWarehouse;II)I" } : Jvm.MethodName) method_10_code (4 : Nat) (Option.some Jvm.ClassFile.FieldType.int) [((0 : Nat), (6 : Nat), (7 : Nat), (26 : Nat)), ((0 : Nat), (6 : Nat), (11 : Nat), (13 : Nat)), ((0 : Nat), (6 : Nat), (15 : Nat), (16 : Nat))] ∈ TG := tg_3 167 rfl rfl
theorem kw_3_196 : Jvm.Cond.methodLink "BondWarehouseLaw" (221 : Nat) ({ cls := "BondWarehouseLaw", name := "tryMove", desc := "(LBondWarehouse;II)I" } : Jvm.MethodName) ∈ TG := tg_3 196 rfl rfl
theorem kw_3_197 : Jvm.Cond.static ({ cls := "BondWarehouseLaw", name := "tryMove", desc := "(LBondWarehouse;II)I" } : Jvm.MethodName) ∈ TG := tg_3 197 rfl rfl
theorem kw_3_198 : Jvm.Cond.codeWith ({ cls := "BondWarehouseLaw", name := "tryMove", desc := "(LBondWarehouse;II)I" } : Jvm.MethodName) method_11_code (4 : Nat) (Option.some Jvm.ClassFile.FieldType.int) [((0 : Nat), (6 : Nat), (7 : Nat), (26 : Nat)), ((0 : Nat), (6 : Nat), (11 : Nat), (16 : Nat))] ∈ TG := tg_3 198 rfl rfl
theorem kw_3_212 : Jvm.Cond.methodLink "BondWarehouseLaw" (224 : Nat) ({ cls := "BondWarehouseLaw", name := "trySplit", desc := "(LBondWarehouse;II)I" } : Jvm.MethodName) ∈ TG := tg_3 212 rfl rfl
theorem kw_3_213 : Jvm.Cond.static ({ cls := "BondWarehouseLaw", name := "trySplit", desc := "(LBondWarehouse;II)I" } : Jvm.MethodName) ∈ TG := tg_3 213 rfl rfl
theorem kw_3_214 : Jvm.Cond.codeWith ({ cls := "BondWarehouseLaw", name := "trySplit", desc := "(LBondWarehouse;II)I" } : Jvm.MethodName) method_12_code (4 : Nat) (Option.some Jvm.ClassFile.FieldType.int) [((0 : Nat), (6 : Nat), (7 : Nat), (26 : Nat)), ((0 : Nat), (6 : Nat), (11 : Nat), (13 : Nat)), ((0 : Nat), (6 : Nat), (15 : Nat), (16 : Nat))] ∈ TG := tg_3 214 rfl rfl
theorem kw_3_227 : Jvm.Cond.methodLink "BondWarehouseLaw" (227 : Nat) ({ cls := "BondWarehouseLaw", name := "tryMerge", desc := "(LBondWarehouse;II)I" } : Jvm.MethodName) ∈ TG := tg_3 227 rfl rfl
theorem kw_3_228 : Jvm.Cond.static ({ cls := "BondWarehouseLaw", name := "tryMerge", desc := "(LBondWarehouse;II)I" } : Jvm.MethodName) ∈ TG := tg_3 228 rfl rfl
theorem kw_3_229 : Jvm.Cond.codeWith ({ cls := "BondWarehouseLaw", name := "tryMerge", desc := "(LBondWarehouse;II)I" } : Jvm.MethodName) method_13_code (4 : Nat) (Option.some Jvm.ClassFile.FieldType.int) [((0 : Nat), (6 : Nat), (7 : Nat), (26 : Nat)), ((0 : Nat), (6 : Nat), (11 : Nat), (13 : Nat)), ((0 : Nat), (6 : Nat), (15 : Nat), (16 : Nat))] ∈ TG := tg_3 229 rfl rfl
theorem kw_4_10 : Jvm.Cond.methodLink "BondWarehouseLaw" (230 : Nat) ({ cls := "BondWarehouseLaw", name := "tryWeigh", desc := "(LBondWarehouse;II)I" } : Jvm.MethodName) ∈ TG := tg_4 10 rfl rfl
theorem kw_4_11 : Jvm.Cond.static ({ cls := "BondWarehouseLaw", name := "tryWeigh", desc := "(LBondWarehouse;II)I" } : Jvm.MethodName) ∈ TG := tg_4 11 rfl rfl
theorem kw_4_12 : Jvm.Cond.codeWith ({ cls := "BondWarehouseLaw", name := "tryWeigh", desc := "(LBondWarehouse;II)I" } : Jvm.MethodName) method_14_code (4 : Nat) (Option.some Jvm.ClassFile.FieldType.int) [((0 : Nat), (6 : Nat), (7 : Nat), (26 : Nat)), ((0 : Nat), (6 : Nat), (11 : Nat), (13 : Nat)), ((0 : Nat), (6 : Nat), (15 : Nat), (16 : Nat))] ∈ TG := tg_4 12 rfl rfl
theorem kw_4_41 : Jvm.Cond.methodLink "BondWarehouseLaw" (233 : Nat) ({ cls := "BondWarehouseLaw", name := "tryLock", desc := "(LBondWarehouse;I)I" } : Jvm.MethodName) ∈ TG := tg_4 41 rfl rfl
theorem kw_4_42 : Jvm.Cond.static ({ cls := "BondWarehouseLaw", name := "tryLock", desc := "(LBondWarehouse;I)I" } : Jvm.MethodName) ∈ TG := tg_4 42 rfl rfl
theorem kw_4_43 : Jvm.Cond.codeWith ({ cls := "BondWarehouseLaw", name := "tryLock", desc := "(LBondWarehouse;I)I" } : Jvm.MethodName) method_15_code (3 : Nat) (Option.some Jvm.ClassFile.FieldType.int) [((0 : Nat), (5 : Nat), (6 : Nat), (26 : Nat)), ((0 : Nat), (5 : Nat), (10 : Nat), (16 : Nat))] ∈ TG := tg_4 43 rfl rfl
theorem kw_4_52 : Jvm.Cond.methodLink "BondWarehouseLaw" (237 : Nat) ({ cls := "BondWarehouseLaw", name := "tryOpen", desc := "(LBondWarehouse;I)I" } : Jvm.MethodName) ∈ TG := tg_4 52 rfl rfl
theorem kw_4_53 : Jvm.Cond.static ({ cls := "BondWarehouseLaw", name := "tryOpen", desc := "(LBondWarehouse;I)I" } : Jvm.MethodName) ∈ TG := tg_4 53 rfl rfl
theorem kw_4_54 : Jvm.Cond.codeWith ({ cls := "BondWarehouseLaw", name := "tryOpen", desc := "(LBondWarehouse;I)I" } : Jvm.MethodName) method_16_code (3 : Nat) (Option.some Jvm.ClassFile.FieldType.int) [((0 : Nat), (5 : Nat), (6 : Nat), (26 : Nat)), ((0 : Nat), (5 : Nat), (10 : Nat), (16 : Nat))] ∈ TG := tg_4 54 rfl rfl
theorem kw_4_63 : Jvm.Cond.methodLink "BondWarehouseLaw" (240 : Nat) ({ cls := "BondWarehouseLaw", name := "tryBreak", desc := "(LBondWarehouse;I)I" } : Jvm.MethodName) ∈ TG := tg_4 63 rfl rfl
theorem kw_4_64 : Jvm.Cond.static ({ cls := "BondWarehouseLaw", name := "tryBreak", desc := "(LBondWarehouse;I)I" } : Jvm.MethodName) ∈ TG := tg_4 64 rfl rfl
theorem kw_4_65 : Jvm.Cond.codeWith ({ cls := "BondWarehouseLaw", name := "tryBreak", desc := "(LBondWarehouse;I)I" } : Jvm.MethodName) method_17_code (3 : Nat) (Option.some Jvm.ClassFile.FieldType.int) [((0 : Nat), (5 : Nat), (6 : Nat), (26 : Nat)), ((0 : Nat), (5 : Nat), (10 : Nat), (16 : Nat))] ∈ TG := tg_4 65 rfl rfl
theorem kw_4_74 : Jvm.Cond.methodLink "BondWarehouseLaw" (243 : Nat) ({ cls := "BondWarehouseLaw", name := "tryPay", desc := "(LBondWarehouse;I)I" } : Jvm.MethodName) ∈ TG := tg_4 74 rfl rfl
theorem kw_4_75 : Jvm.Cond.static ({ cls := "BondWarehouseLaw", name := "tryPay", desc := "(LBondWarehouse;I)I" } : Jvm.MethodName) ∈ TG := tg_4 75 rfl rfl
theorem kw_4_76 : Jvm.Cond.codeWith ({ cls := "BondWarehouseLaw", name := "tryPay", desc := "(LBondWarehouse;I)I" } : Jvm.MethodName) method_18_code (3 : Nat) (Option.some Jvm.ClassFile.FieldType.int) [((0 : Nat), (5 : Nat), (6 : Nat), (13 : Nat)), ((0 : Nat), (5 : Nat), (10 : Nat), (16 : Nat))] ∈ TG := tg_4 76 rfl rfl
theorem kw_4_95 : Jvm.Cond.methodLink "BondWarehouseLaw" (246 : Nat) ({ cls := "BondWarehouseLaw", name := "trySetBond", desc := "(LBondWarehouse;I)I" } : Jvm.MethodName) ∈ TG := tg_4 95 rfl rfl
theorem kw_4_96 : Jvm.Cond.static ({ cls := "BondWarehouseLaw", name := "trySetBond", desc := "(LBondWarehouse;I)I" } : Jvm.MethodName) ∈ TG := tg_4 96 rfl rfl
theorem kw_4_97 : Jvm.Cond.codeWith ({ cls := "BondWarehouseLaw", name := "trySetBond", desc := "(LBondWarehouse;I)I" } : Jvm.MethodName) method_19_code (3 : Nat) (Option.some Jvm.ClassFile.FieldType.int) [((0 : Nat), (5 : Nat), (6 : Nat), (13 : Nat)), ((0 : Nat), (5 : Nat), (10 : Nat), (16 : Nat))] ∈ TG := tg_4 97 rfl rfl
theorem kw_4_108 : Jvm.Cond.methodLink "BondWarehouseLaw" (249 : Nat) ({ cls := "BondWarehouseLaw", name := "trySetValue", desc := "(LBondWarehouse;II)I" } : Jvm.MethodName) ∈ TG := tg_4 108 rfl rfl
theorem kw_4_109 : Jvm.Cond.static ({ cls := "BondWarehouseLaw", name := "trySetValue", desc := "(LBondWarehouse;II)I" } : Jvm.MethodName) ∈ TG := tg_4 109 rfl rfl
theorem kw_4_110 : Jvm.Cond.codeWith ({ cls := "BondWarehouseLaw", name := "trySetValue", desc := "(LBondWarehouse;II)I" } : Jvm.MethodName) method_20_code (4 : Nat) (Option.some Jvm.ClassFile.FieldType.int) [((0 : Nat), (6 : Nat), (7 : Nat), (13 : Nat))] ∈ TG := tg_4 110 rfl rfl
theorem kw_4_119 : Jvm.Cond.methodLink "BondWarehouseLaw" (252 : Nat) ({ cls := "BondWarehouseLaw", name := "trySetWeight", desc := "(LBondWarehouse;II)I" } : Jvm.MethodName) ∈ TG := tg_4 119 rfl rfl
theorem kw_4_120 : Jvm.Cond.static ({ cls := "BondWarehouseLaw", name := "trySetWeight", desc := "(LBondWarehouse;II)I" } : Jvm.MethodName) ∈ TG := tg_4 120 rfl rfl
theorem kw_4_121 : Jvm.Cond.codeWith ({ cls := "BondWarehouseLaw", name := "trySetWeight", desc := "(LBondWarehouse;II)I" } : Jvm.MethodName) method_21_code (4 : Nat) (Option.some Jvm.ClassFile.FieldType.int) [((0 : Nat), (6 : Nat), (7 : Nat), (13 : Nat))] ∈ TG := tg_4 121 rfl rfl
theorem kw_4_130 : Jvm.Cond.methodLink "BondWarehouseLaw" (255 : Nat) ({ cls := "BondWarehouseLaw", name := "tryPass", desc := "(LBondWarehouse;I)I" } : Jvm.MethodName) ∈ TG := tg_4 130 rfl rfl
theorem kw_4_131 : Jvm.Cond.static ({ cls := "BondWarehouseLaw", name := "tryPass", desc := "(LBondWarehouse;I)I" } : Jvm.MethodName) ∈ TG := tg_4 131 rfl rfl
theorem kw_4_132 : Jvm.Cond.codeWith ({ cls := "BondWarehouseLaw", name := "tryPass", desc := "(LBondWarehouse;I)I" } : Jvm.MethodName) method_22_code (3 : Nat) (Option.some Jvm.ClassFile.FieldType.int) [((0 : Nat), (5 : Nat), (6 : Nat), (13 : Nat)), ((0 : Nat), (5 : Nat), (10 : Nat), (16 : Nat))] ∈ TG := tg_4 132 rfl rfl
theorem kw_4_146 : Jvm.Cond.methodLink "BondWarehouseLaw" (258 : Nat) ({ cls := "BondWarehouseLaw", name := "tryAt", desc := "(LBondWarehouse;I)I" } : Jvm.MethodName) ∈ TG := tg_4 146 rfl rfl
theorem kw_4_147 : Jvm.Cond.static ({ cls := "BondWarehouseLaw", name := "tryAt", desc := "(LBondWarehouse;I)I" } : Jvm.MethodName) ∈ TG := tg_4 147 rfl rfl
theorem kw_4_148 : Jvm.Cond.codeWith ({ cls := "BondWarehouseLaw", name := "tryAt", desc := "(LBondWarehouse;I)I" } : Jvm.MethodName) method_23_code (3 : Nat) (Option.some Jvm.ClassFile.FieldType.int) [((0 : Nat), (5 : Nat), (6 : Nat), (26 : Nat))] ∈ TG := tg_4 148 rfl rfl
theorem kw_4_154 : Jvm.Cond.methodLink "BondWarehouseLaw" (261 : Nat) ({ cls := "BondWarehouseLaw", name := "tryKind", desc := "(LBondWarehouse;I)I" } : Jvm.MethodName) ∈ TG := tg_4 154 rfl rfl
theorem kw_4_155 : Jvm.Cond.static ({ cls := "BondWarehouseLaw", name := "tryKind", desc := "(LBondWarehouse;I)I" } : Jvm.MethodName) ∈ TG := tg_4 155 rfl rfl
theorem kw_4_156 : Jvm.Cond.codeWith ({ cls := "BondWarehouseLaw", name := "tryKind", desc := "(LBondWarehouse;I)I" } : Jvm.MethodName) method_24_code (3 : Nat) (Option.some Jvm.ClassFile.FieldType.int) [((0 : Nat), (5 : Nat), (6 : Nat), (26 : Nat))] ∈ TG := tg_4 156 rfl rfl
theorem kw_4_167 : Jvm.Cond.methodLink "BondWarehouseLaw" (264 : Nat) ({ cls := "BondWarehouseLaw", name := "tryWeight", desc := "(LBondWarehouse;I)I" } : Jvm.MethodName) ∈ TG := tg_4 167 rfl rfl
theorem kw_4_168 : Jvm.Cond.static ({ cls := "BondWarehouseLaw", name := "tryWeight", desc := "(LBondWarehouse;I)I" } : Jvm.MethodName) ∈ TG := tg_4 168 rfl rfl
theorem kw_4_169 : Jvm.Cond.codeWith ({ cls := "BondWarehouseLaw", name := "tryWeight", desc := "(LBondWarehouse;I)I" } : Jvm.MethodName) method_25_code (3 : Nat) (Option.some Jvm.ClassFile.FieldType.int) [((0 : Nat), (5 : Nat), (6 : Nat), (26 : Nat))] ∈ TG := tg_4 169 rfl rfl
theorem kw_4_174 : Jvm.Cond.methodLink "BondWarehouseLaw" (267 : Nat) ({ cls := "BondWarehouseLaw", name := "tryValue", desc := "(LBondWarehouse;I)I" } : Jvm.MethodName) ∈ TG := tg_4 174 rfl rfl
theorem kw_4_175 : Jvm.Cond.static ({ cls := "BondWarehouseLaw", name := "tryValue", desc := "(LBondWarehouse;I)I" } : Jvm.MethodName) ∈ TG := tg_4 175 rfl rfl
theorem kw_4_176 : Jvm.Cond.codeWith ({ cls := "BondWarehouseLaw", name := "tryValue", desc := "(LBondWarehouse;I)I" } : Jvm.MethodName) method_26_code (3 : Nat) (Option.some Jvm.ClassFile.FieldType.int) [((0 : Nat), (5 : Nat), (6 : Nat), (26 : Nat))] ∈ TG := tg_4 176 rfl rfl
theorem kw_4_181 : Jvm.Cond.methodLink "BondWarehouseLaw" (270 : Nat) ({ cls := "BondWarehouseLaw", name := "tryChamber", desc := "(LBondWarehouse;I)I" } : Jvm.MethodName) ∈ TG := tg_4 181 rfl rfl
theorem kw_4_182 : Jvm.Cond.static ({ cls := "BondWarehouseLaw", name := "tryChamber", desc := "(LBondWarehouse;I)I" } : Jvm.MethodName) ∈ TG := tg_4 182 rfl rfl
theorem kw_4_183 : Jvm.Cond.codeWith ({ cls := "BondWarehouseLaw", name := "tryChamber", desc := "(LBondWarehouse;I)I" } : Jvm.MethodName) method_27_code (3 : Nat) (Option.some Jvm.ClassFile.FieldType.int) [((0 : Nat), (5 : Nat), (6 : Nat), (26 : Nat))] ∈ TG := tg_4 183 rfl rfl
theorem kw_4_188 : Jvm.Cond.methodLink "BondWarehouseLaw" (273 : Nat) ({ cls := "BondWarehouseLaw", name := "tryAge", desc := "(LBondWarehouse;I)I" } : Jvm.MethodName) ∈ TG := tg_4 188 rfl rfl
theorem kw_4_189 : Jvm.Cond.static ({ cls := "BondWarehouseLaw", name := "tryAge", desc := "(LBondWarehouse;I)I" } : Jvm.MethodName) ∈ TG := tg_4 189 rfl rfl
theorem kw_4_190 : Jvm.Cond.codeWith ({ cls := "BondWarehouseLaw", name := "tryAge", desc := "(LBondWarehouse;I)I" } : Jvm.MethodName) method_28_code (3 : Nat) (Option.some Jvm.ClassFile.FieldType.int) [((0 : Nat), (5 : Nat), (6 : Nat), (26 : Nat))] ∈ TG := tg_4 190 rfl rfl
theorem kw_4_196 : Jvm.Cond.methodLink "BondWarehouseLaw" (276 : Nat) ({ cls := "BondWarehouseLaw", name := "tryPart", desc := "(LBondWarehouse;II)I" } : Jvm.MethodName) ∈ TG := tg_4 196 rfl rfl
theorem kw_4_197 : Jvm.Cond.static ({ cls := "BondWarehouseLaw", name := "tryPart", desc := "(LBondWarehouse;II)I" } : Jvm.MethodName) ∈ TG := tg_4 197 rfl rfl
theorem kw_4_198 : Jvm.Cond.codeWith ({ cls := "BondWarehouseLaw", name := "tryPart", desc := "(LBondWarehouse;II)I" } : Jvm.MethodName) method_29_code (4 : Nat) (Option.some Jvm.ClassFile.FieldType.int) [((0 : Nat), (6 : Nat), (7 : Nat), (26 : Nat)), ((0 : Nat), (6 : Nat), (11 : Nat), (13 : Nat))] ∈ TG := tg_4 198 rfl rfl
theorem kw_4_207 : Jvm.Cond.methodLink "BondWarehouseLaw" (279 : Nat) ({ cls := "BondWarehouseLaw", name := "tryDuty", desc := "(LBondWarehouse;I)I" } : Jvm.MethodName) ∈ TG := tg_4 207 rfl rfl
theorem kw_4_208 : Jvm.Cond.static ({ cls := "BondWarehouseLaw", name := "tryDuty", desc := "(LBondWarehouse;I)I" } : Jvm.MethodName) ∈ TG := tg_4 208 rfl rfl
theorem kw_4_209 : Jvm.Cond.codeWith ({ cls := "BondWarehouseLaw", name := "tryDuty", desc := "(LBondWarehouse;I)I" } : Jvm.MethodName) method_30_code (3 : Nat) (Option.some Jvm.ClassFile.FieldType.int) [((0 : Nat), (5 : Nat), (6 : Nat), (26 : Nat))] ∈ TG := tg_4 209 rfl rfl
theorem kw_4_215 : Jvm.Cond.methodLink "BondWarehouseLaw" (282 : Nat) ({ cls := "BondWarehouseLaw", name := "tryAllowed", desc := "(LBondWarehouse;I)I" } : Jvm.MethodName) ∈ TG := tg_4 215 rfl rfl
theorem kw_4_216 : Jvm.Cond.static ({ cls := "BondWarehouseLaw", name := "tryAllowed", desc := "(LBondWarehouse;I)I" } : Jvm.MethodName) ∈ TG := tg_4 216 rfl rfl
theorem kw_4_217 : Jvm.Cond.codeWith ({ cls := "BondWarehouseLaw", name := "tryAllowed", desc := "(LBondWarehouse;I)I" } : Jvm.MethodName) method_31_code (3 : Nat) (Option.some Jvm.ClassFile.FieldType.int) [((0 : Nat), (5 : Nat), (6 : Nat), (26 : Nat))] ∈ TG := tg_4 217 rfl rfl
theorem kw_4_223 : Jvm.Cond.methodLink "BondWarehouseLaw" (285 : Nat) ({ cls := "BondWarehouseLaw", name := "trySeal", desc := "(LBondWarehouse;I)I" } : Jvm.MethodName) ∈ TG := tg_4 223 rfl rfl
theorem kw_4_224 : Jvm.Cond.static ({ cls := "BondWarehouseLaw", name := "trySeal", desc := "(LBondWarehouse;I)I" } : Jvm.MethodName) ∈ TG := tg_4 224 rfl rfl
theorem kw_4_225 : Jvm.Cond.codeWith ({ cls := "BondWarehouseLaw", name := "trySeal", desc := "(LBondWarehouse;I)I" } : Jvm.MethodName) method_32_code (3 : Nat) (Option.some Jvm.ClassFile.FieldType.int) [((0 : Nat), (5 : Nat), (6 : Nat), (26 : Nat))] ∈ TG := tg_4 225 rfl rfl
theorem kw_5_9 : Jvm.Cond.methodLink "BondWarehouseLaw" (291 : Nat) ({ cls := "BondWarehouseLaw", name := "tryRoom", desc := "(LBondWarehouse;I)I" } : Jvm.MethodName) ∈ TG := tg_5 9 rfl rfl
theorem kw_5_10 : Jvm.Cond.static ({ cls := "BondWarehouseLaw", name := "tryRoom", desc := "(LBondWarehouse;I)I" } : Jvm.MethodName) ∈ TG := tg_5 10 rfl rfl
theorem kw_5_11 : Jvm.Cond.codeWith ({ cls := "BondWarehouseLaw", name := "tryRoom", desc := "(LBondWarehouse;I)I" } : Jvm.MethodName) method_34_code (3 : Nat) (Option.some Jvm.ClassFile.FieldType.int) [((0 : Nat), (5 : Nat), (6 : Nat), (26 : Nat))] ∈ TG := tg_5 11 rfl rfl
theorem kw_5_30 : Jvm.Cond.methodLink "BondWarehouseLaw" (297 : Nat) ({ cls := "BondWarehouseLaw", name := "tryPaper", desc := "(LBondWarehouse;I)I" } : Jvm.MethodName) ∈ TG := tg_5 30 rfl rfl
theorem kw_5_31 : Jvm.Cond.static ({ cls := "BondWarehouseLaw", name := "tryPaper", desc := "(LBondWarehouse;I)I" } : Jvm.MethodName) ∈ TG := tg_5 31 rfl rfl
theorem kw_5_32 : Jvm.Cond.codeWith ({ cls := "BondWarehouseLaw", name := "tryPaper", desc := "(LBondWarehouse;I)I" } : Jvm.MethodName) method_36_code (3 : Nat) (Option.some Jvm.ClassFile.FieldType.int) [((0 : Nat), (5 : Nat), (6 : Nat), (26 : Nat))] ∈ TG := tg_5 32 rfl rfl
theorem kw_5_37 : Jvm.Cond.methodLink "BondWarehouseLaw" (300 : Nat) ({ cls := "BondWarehouseLaw", name := "tryPaperDuty", desc := "(LBondWarehouse;I)I" } : Jvm.MethodName) ∈ TG := tg_5 37 rfl rfl
theorem kw_5_38 : Jvm.Cond.static ({ cls := "BondWarehouseLaw", name := "tryPaperDuty", desc := "(LBondWarehouse;I)I" } : Jvm.MethodName) ∈ TG := tg_5 38 rfl rfl
theorem kw_5_39 : Jvm.Cond.codeWith ({ cls := "BondWarehouseLaw", name := "tryPaperDuty", desc := "(LBondWarehouse;I)I" } : Jvm.MethodName) method_37_code (3 : Nat) (Option.some Jvm.ClassFile.FieldType.int) [((0 : Nat), (5 : Nat), (6 : Nat), (26 : Nat))] ∈ TG := tg_5 39 rfl rfl
theorem kw_5_44 : Jvm.Cond.methodLink "BondWarehouseLaw" (303 : Nat) ({ cls := "BondWarehouseLaw", name := "tryPaperAge", desc := "(LBondWarehouse;I)I" } : Jvm.MethodName) ∈ TG := tg_5 44 rfl rfl
theorem kw_5_45 : Jvm.Cond.static ({ cls := "BondWarehouseLaw", name := "tryPaperAge", desc := "(LBondWarehouse;I)I" } : Jvm.MethodName) ∈ TG := tg_5 45 rfl rfl
theorem kw_5_46 : Jvm.Cond.codeWith ({ cls := "BondWarehouseLaw", name := "tryPaperAge", desc := "(LBondWarehouse;I)I" } : Jvm.MethodName) method_38_code (3 : Nat) (Option.some Jvm.ClassFile.FieldType.int) [((0 : Nat), (5 : Nat), (6 : Nat), (26 : Nat))] ∈ TG := tg_5 46 rfl rfl
theorem kw_5_51 : Jvm.Cond.methodLink "BondWarehouseLaw" (306 : Nat) ({ cls := "BondWarehouseLaw", name := "tryByValue", desc := "(LBondWarehouse;I)I" } : Jvm.MethodName) ∈ TG := tg_5 51 rfl rfl
theorem kw_5_52 : Jvm.Cond.static ({ cls := "BondWarehouseLaw", name := "tryByValue", desc := "(LBondWarehouse;I)I" } : Jvm.MethodName) ∈ TG := tg_5 52 rfl rfl
theorem kw_5_53 : Jvm.Cond.codeWith ({ cls := "BondWarehouseLaw", name := "tryByValue", desc := "(LBondWarehouse;I)I" } : Jvm.MethodName) method_39_code (3 : Nat) (Option.some Jvm.ClassFile.FieldType.int) [((0 : Nat), (5 : Nat), (6 : Nat), (13 : Nat))] ∈ TG := tg_5 53 rfl rfl
theorem kw_5_76 : Jvm.Cond.methodLink "BondWarehouseLaw" (315 : Nat) ({ cls := "BondWarehouseLaw", name := "tryWithdrawn", desc := "(LBondWarehouse;I)I" } : Jvm.MethodName) ∈ TG := tg_5 76 rfl rfl
theorem kw_5_77 : Jvm.Cond.static ({ cls := "BondWarehouseLaw", name := "tryWithdrawn", desc := "(LBondWarehouse;I)I" } : Jvm.MethodName) ∈ TG := tg_5 77 rfl rfl
theorem kw_5_78 : Jvm.Cond.codeWith ({ cls := "BondWarehouseLaw", name := "tryWithdrawn", desc := "(LBondWarehouse;I)I" } : Jvm.MethodName) method_42_code (3 : Nat) (Option.some Jvm.ClassFile.FieldType.int) [((0 : Nat), (5 : Nat), (6 : Nat), (13 : Nat))] ∈ TG := tg_5 78 rfl rfl
theorem kw_5_90 : Jvm.Cond.methodLink "BondWarehouseLaw" (321 : Nat) ({ cls := "BondWarehouseLaw", name := "tryWasted", desc := "(LBondWarehouse;I)I" } : Jvm.MethodName) ∈ TG := tg_5 90 rfl rfl
theorem kw_5_91 : Jvm.Cond.static ({ cls := "BondWarehouseLaw", name := "tryWasted", desc := "(LBondWarehouse;I)I" } : Jvm.MethodName) ∈ TG := tg_5 91 rfl rfl
theorem kw_5_92 : Jvm.Cond.codeWith ({ cls := "BondWarehouseLaw", name := "tryWasted", desc := "(LBondWarehouse;I)I" } : Jvm.MethodName) method_44_code (3 : Nat) (Option.some Jvm.ClassFile.FieldType.int) [((0 : Nat), (5 : Nat), (6 : Nat), (13 : Nat))] ∈ TG := tg_5 92 rfl rfl
theorem kw_5_97 : Jvm.Cond.methodLink "BondWarehouseLaw" (324 : Nat) ({ cls := "BondWarehouseLaw", name := "tryLost", desc := "(LBondWarehouse;I)I" } : Jvm.MethodName) ∈ TG := tg_5 97 rfl rfl
theorem kw_5_98 : Jvm.Cond.static ({ cls := "BondWarehouseLaw", name := "tryLost", desc := "(LBondWarehouse;I)I" } : Jvm.MethodName) ∈ TG := tg_5 98 rfl rfl
theorem kw_5_99 : Jvm.Cond.codeWith ({ cls := "BondWarehouseLaw", name := "tryLost", desc := "(LBondWarehouse;I)I" } : Jvm.MethodName) method_45_code (3 : Nat) (Option.some Jvm.ClassFile.FieldType.int) [((0 : Nat), (5 : Nat), (6 : Nat), (13 : Nat))] ∈ TG := tg_5 99 rfl rfl
theorem kw_5_104 : Jvm.Cond.methodLink "BondWarehouseLaw" (327 : Nat) ({ cls := "BondWarehouseLaw", name := "tryDrawn", desc := "(LBondWarehouse;I)I" } : Jvm.MethodName) ∈ TG := tg_5 104 rfl rfl
theorem kw_5_105 : Jvm.Cond.static ({ cls := "BondWarehouseLaw", name := "tryDrawn", desc := "(LBondWarehouse;I)I" } : Jvm.MethodName) ∈ TG := tg_5 105 rfl rfl
theorem kw_5_106 : Jvm.Cond.codeWith ({ cls := "BondWarehouseLaw", name := "tryDrawn", desc := "(LBondWarehouse;I)I" } : Jvm.MethodName) method_46_code (3 : Nat) (Option.some Jvm.ClassFile.FieldType.int) [((0 : Nat), (5 : Nat), (6 : Nat), (13 : Nat))] ∈ TG := tg_5 106 rfl rfl
theorem kw_5_111 : Jvm.Cond.methodLink "BondWarehouseLaw" (330 : Nat) ({ cls := "BondWarehouseLaw", name := "tryStock", desc := "(LBondWarehouse;I)I" } : Jvm.MethodName) ∈ TG := tg_5 111 rfl rfl
theorem kw_5_112 : Jvm.Cond.static ({ cls := "BondWarehouseLaw", name := "tryStock", desc := "(LBondWarehouse;I)I" } : Jvm.MethodName) ∈ TG := tg_5 112 rfl rfl
theorem kw_5_113 : Jvm.Cond.codeWith ({ cls := "BondWarehouseLaw", name := "tryStock", desc := "(LBondWarehouse;I)I" } : Jvm.MethodName) method_47_code (3 : Nat) (Option.some Jvm.ClassFile.FieldType.int) [((0 : Nat), (5 : Nat), (6 : Nat), (13 : Nat))] ∈ TG := tg_5 113 rfl rfl
theorem kw_5_122 : Jvm.Cond.methodLink "BondWarehouseLaw" (333 : Nat) ({ cls := "BondWarehouseLaw", name := "tryTotals", desc := "(LBondWarehouse;I)I" } : Jvm.MethodName) ∈ TG := tg_5 122 rfl rfl
theorem kw_5_123 : Jvm.Cond.static ({ cls := "BondWarehouseLaw", name := "tryTotals", desc := "(LBondWarehouse;I)I" } : Jvm.MethodName) ∈ TG := tg_5 123 rfl rfl
theorem kw_5_124 : Jvm.Cond.codeWith ({ cls := "BondWarehouseLaw", name := "tryTotals", desc := "(LBondWarehouse;I)I" } : Jvm.MethodName) method_48_code (3 : Nat) (Option.some Jvm.ClassFile.FieldType.int) [((0 : Nat), (5 : Nat), (6 : Nat), (13 : Nat))] ∈ TG := tg_5 124 rfl rfl
theorem kw_5_129 : Jvm.Cond.methodLink "BondWarehouseLaw" (336 : Nat) ({ cls := "BondWarehouseLaw", name := "tryWhyOut", desc := "(LBondWarehouse;II)I" } : Jvm.MethodName) ∈ TG := tg_5 129 rfl rfl
theorem kw_5_130 : Jvm.Cond.static ({ cls := "BondWarehouseLaw", name := "tryWhyOut", desc := "(LBondWarehouse;II)I" } : Jvm.MethodName) ∈ TG := tg_5 130 rfl rfl
theorem kw_5_131 : Jvm.Cond.codeWith ({ cls := "BondWarehouseLaw", name := "tryWhyOut", desc := "(LBondWarehouse;II)I" } : Jvm.MethodName) method_49_code (4 : Nat) (Option.some Jvm.ClassFile.FieldType.int) [((0 : Nat), (6 : Nat), (7 : Nat), (26 : Nat)), ((0 : Nat), (6 : Nat), (11 : Nat), (13 : Nat))] ∈ TG := tg_5 131 rfl rfl
theorem kw_5_137 : Jvm.Cond.methodLink "BondWarehouseLaw" (339 : Nat) ({ cls := "BondWarehouseLaw", name := "tryWhySend", desc := "(LBondWarehouse;II)I" } : Jvm.MethodName) ∈ TG := tg_5 137 rfl rfl
theorem kw_5_138 : Jvm.Cond.static ({ cls := "BondWarehouseLaw", name := "tryWhySend", desc := "(LBondWarehouse;II)I" } : Jvm.MethodName) ∈ TG := tg_5 138 rfl rfl
theorem kw_5_139 : Jvm.Cond.codeWith ({ cls := "BondWarehouseLaw", name := "tryWhySend", desc := "(LBondWarehouse;II)I" } : Jvm.MethodName) method_50_code (4 : Nat) (Option.some Jvm.ClassFile.FieldType.int) [((0 : Nat), (6 : Nat), (7 : Nat), (26 : Nat)), ((0 : Nat), (6 : Nat), (11 : Nat), (13 : Nat))] ∈ TG := tg_5 139 rfl rfl
theorem kw_5_145 : Jvm.Cond.methodLink "BondWarehouseLaw" (342 : Nat) ({ cls := "BondWarehouseLaw", name := "tryWhyMove", desc := "(LBondWarehouse;II)I" } : Jvm.MethodName) ∈ TG := tg_5 145 rfl rfl
theorem kw_5_146 : Jvm.Cond.static ({ cls := "BondWarehouseLaw", name := "tryWhyMove", desc := "(LBondWarehouse;II)I" } : Jvm.MethodName) ∈ TG := tg_5 146 rfl rfl
theorem kw_5_147 : Jvm.Cond.codeWith ({ cls := "BondWarehouseLaw", name := "tryWhyMove", desc := "(LBondWarehouse;II)I" } : Jvm.MethodName) method_51_code (4 : Nat) (Option.some Jvm.ClassFile.FieldType.int) [((0 : Nat), (6 : Nat), (7 : Nat), (26 : Nat))] ∈ TG := tg_5 147 rfl rfl
theorem kw_5_153 : Jvm.Cond.methodLink "BondWarehouseLaw" (345 : Nat) ({ cls := "BondWarehouseLaw", name := "tryWhyDraw", desc := "(LBondWarehouse;II)I" } : Jvm.MethodName) ∈ TG := tg_5 153 rfl rfl
theorem kw_5_154 : Jvm.Cond.static ({ cls := "BondWarehouseLaw", name := "tryWhyDraw", desc := "(LBondWarehouse;II)I" } : Jvm.MethodName) ∈ TG := tg_5 154 rfl rfl
theorem kw_5_155 : Jvm.Cond.codeWith ({ cls := "BondWarehouseLaw", name := "tryWhyDraw", desc := "(LBondWarehouse;II)I" } : Jvm.MethodName) method_52_code (4 : Nat) (Option.some Jvm.ClassFile.FieldType.int) [((0 : Nat), (6 : Nat), (7 : Nat), (26 : Nat)), ((0 : Nat), (6 : Nat), (11 : Nat), (13 : Nat))] ∈ TG := tg_5 155 rfl rfl
theorem kw_5_161 : Jvm.Cond.methodLink "BondWarehouseLaw" (348 : Nat) ({ cls := "BondWarehouseLaw", name := "tryCharge", desc := "(LBondWarehouse;II)I" } : Jvm.MethodName) ∈ TG := tg_5 161 rfl rfl
theorem kw_5_162 : Jvm.Cond.static ({ cls := "BondWarehouseLaw", name := "tryCharge", desc := "(LBondWarehouse;II)I" } : Jvm.MethodName) ∈ TG := tg_5 162 rfl rfl
theorem kw_5_163 : Jvm.Cond.codeWith ({ cls := "BondWarehouseLaw", name := "tryCharge", desc := "(LBondWarehouse;II)I" } : Jvm.MethodName) method_53_code (4 : Nat) (Option.some Jvm.ClassFile.FieldType.int) [((0 : Nat), (6 : Nat), (7 : Nat), (26 : Nat)), ((0 : Nat), (6 : Nat), (11 : Nat), (13 : Nat))] ∈ TG := tg_5 163 rfl rfl
theorem kw_5_170 : Jvm.Cond.methodLink "BondWarehouseLaw" (351 : Nat) ({ cls := "BondWarehouseLaw", name := "tryDrawFor", desc := "(LBondWarehouse;II)I" } : Jvm.MethodName) ∈ TG := tg_5 170 rfl rfl
theorem kw_5_171 : Jvm.Cond.static ({ cls := "BondWarehouseLaw", name := "tryDrawFor", desc := "(LBondWarehouse;II)I" } : Jvm.MethodName) ∈ TG := tg_5 171 rfl rfl
theorem kw_5_172 : Jvm.Cond.codeWith ({ cls := "BondWarehouseLaw", name := "tryDrawFor", desc := "(LBondWarehouse;II)I" } : Jvm.MethodName) method_54_code (4 : Nat) (Option.some Jvm.ClassFile.FieldType.int) [((0 : Nat), (6 : Nat), (7 : Nat), (26 : Nat)), ((0 : Nat), (6 : Nat), (11 : Nat), (13 : Nat))] ∈ TG := tg_5 172 rfl rfl
theorem kw_5_179 : Jvm.Cond.methodLink "BondWarehouseLaw" (354 : Nat) ({ cls := "BondWarehouseLaw", name := "tryLater", desc := "(LBondWarehouse;II)I" } : Jvm.MethodName) ∈ TG := tg_5 179 rfl rfl
theorem kw_5_180 : Jvm.Cond.static ({ cls := "BondWarehouseLaw", name := "tryLater", desc := "(LBondWarehouse;II)I" } : Jvm.MethodName) ∈ TG := tg_5 180 rfl rfl
theorem kw_5_181 : Jvm.Cond.codeWith ({ cls := "BondWarehouseLaw", name := "tryLater", desc := "(LBondWarehouse;II)I" } : Jvm.MethodName) method_55_code (4 : Nat) (Option.some Jvm.ClassFile.FieldType.int) [((0 : Nat), (6 : Nat), (7 : Nat), (26 : Nat)), ((0 : Nat), (6 : Nat), (11 : Nat), (13 : Nat))] ∈ TG := tg_5 181 rfl rfl
theorem kw_5_186 : Jvm.Cond.methodLink "BondWarehouseLaw" (357 : Nat) ({ cls := "BondWarehouseLaw", name := "tryDays", desc := "(LBondWarehouse;I)I" } : Jvm.MethodName) ∈ TG := tg_5 186 rfl rfl
theorem kw_5_187 : Jvm.Cond.static ({ cls := "BondWarehouseLaw", name := "tryDays", desc := "(LBondWarehouse;I)I" } : Jvm.MethodName) ∈ TG := tg_5 187 rfl rfl
theorem kw_5_188 : Jvm.Cond.codeWith ({ cls := "BondWarehouseLaw", name := "tryDays", desc := "(LBondWarehouse;I)I" } : Jvm.MethodName) method_56_code (3 : Nat) (Option.some Jvm.ClassFile.FieldType.int) [((0 : Nat), (5 : Nat), (6 : Nat), (26 : Nat))] ∈ TG := tg_5 188 rfl rfl
theorem kw_5_194 : Jvm.Cond.methodLink "BondWarehouseLaw" (360 : Nat) ({ cls := "BondWarehouseLaw", name := "tryCheapest", desc := "(LBondWarehouse;I)I" } : Jvm.MethodName) ∈ TG := tg_5 194 rfl rfl
theorem kw_5_195 : Jvm.Cond.static ({ cls := "BondWarehouseLaw", name := "tryCheapest", desc := "(LBondWarehouse;I)I" } : Jvm.MethodName) ∈ TG := tg_5 195 rfl rfl
theorem kw_5_196 : Jvm.Cond.codeWith ({ cls := "BondWarehouseLaw", name := "tryCheapest", desc := "(LBondWarehouse;I)I" } : Jvm.MethodName) method_57_code (3 : Nat) (Option.some Jvm.ClassFile.FieldType.int) [((0 : Nat), (5 : Nat), (6 : Nat), (13 : Nat))] ∈ TG := tg_5 196 rfl rfl
theorem kw_5_217 : Jvm.Cond.methodLink "BondWarehouseLaw" (363 : Nat) ({ cls := "BondWarehouseLaw", name := "tryFrom", desc := "(LBondWarehouse;II)I" } : Jvm.MethodName) ∈ TG := tg_5 217 rfl rfl
theorem kw_5_218 : Jvm.Cond.static ({ cls := "BondWarehouseLaw", name := "tryFrom", desc := "(LBondWarehouse;II)I" } : Jvm.MethodName) ∈ TG := tg_5 218 rfl rfl
theorem kw_5_219 : Jvm.Cond.codeWith ({ cls := "BondWarehouseLaw", name := "tryFrom", desc := "(LBondWarehouse;II)I" } : Jvm.MethodName) method_58_code (4 : Nat) (Option.some Jvm.ClassFile.FieldType.int) [((0 : Nat), (6 : Nat), (7 : Nat), (13 : Nat))] ∈ TG := tg_5 219 rfl rfl
theorem kw_5_231 : Jvm.Cond.methodLink "BondWarehouseLaw" (366 : Nat) ({ cls := "BondWarehouseLaw", name := "tryAppend", desc := "(LBondWarehouse;I)I" } : Jvm.MethodName) ∈ TG := tg_5 231 rfl rfl
theorem kw_5_232 : Jvm.Cond.static ({ cls := "BondWarehouseLaw", name := "tryAppend", desc := "(LBondWarehouse;I)I" } : Jvm.MethodName) ∈ TG := tg_5 232 rfl rfl
theorem kw_5_233 : Jvm.Cond.codeWith ({ cls := "BondWarehouseLaw", name := "tryAppend", desc := "(LBondWarehouse;I)I" } : Jvm.MethodName) method_59_code (3 : Nat) (Option.some Jvm.ClassFile.FieldType.int) [((0 : Nat), (5 : Nat), (6 : Nat), (13 : Nat)), ((0 : Nat), (5 : Nat), (10 : Nat), (16 : Nat))] ∈ TG := tg_5 233 rfl rfl
theorem kw_6_3 : Jvm.Cond.methodLink "BondWarehouseLaw" (369 : Nat) ({ cls := "BondWarehouseLaw", name := "tryRun", desc := "(LBondWarehouse;)I" } : Jvm.MethodName) ∈ TG := tg_6 3 rfl rfl
theorem kw_6_4 : Jvm.Cond.static ({ cls := "BondWarehouseLaw", name := "tryRun", desc := "(LBondWarehouse;)I" } : Jvm.MethodName) ∈ TG := tg_6 4 rfl rfl
theorem kw_6_5 : Jvm.Cond.codeWith ({ cls := "BondWarehouseLaw", name := "tryRun", desc := "(LBondWarehouse;)I" } : Jvm.MethodName) method_60_code (2 : Nat) (Option.some Jvm.ClassFile.FieldType.int) [((0 : Nat), (4 : Nat), (5 : Nat), (13 : Nat))] ∈ TG := tg_6 5 rfl rfl
theorem kw_6_93 : Jvm.Cond.methodLink "BondWarehouseLaw" (373 : Nat) ({ cls := "BondWarehouseLaw", name := "tryUndo", desc := "(LBondWarehouse;)I" } : Jvm.MethodName) ∈ TG := tg_6 93 rfl rfl
theorem kw_6_94 : Jvm.Cond.static ({ cls := "BondWarehouseLaw", name := "tryUndo", desc := "(LBondWarehouse;)I" } : Jvm.MethodName) ∈ TG := tg_6 94 rfl rfl
theorem kw_6_95 : Jvm.Cond.codeWith ({ cls := "BondWarehouseLaw", name := "tryUndo", desc := "(LBondWarehouse;)I" } : Jvm.MethodName) method_61_code (2 : Nat) (Option.some Jvm.ClassFile.FieldType.int) [((0 : Nat), (4 : Nat), (5 : Nat), (16 : Nat))] ∈ TG := tg_6 95 rfl rfl
theorem kw_6_105 : Jvm.Cond.methodLink "BondWarehouseLaw" (376 : Nat) ({ cls := "BondWarehouseLaw", name := "tryKeep", desc := "(LBondWarehouse;I)I" } : Jvm.MethodName) ∈ TG := tg_6 105 rfl rfl
theorem kw_6_106 : Jvm.Cond.static ({ cls := "BondWarehouseLaw", name := "tryKeep", desc := "(LBondWarehouse;I)I" } : Jvm.MethodName) ∈ TG := tg_6 106 rfl rfl
theorem kw_6_107 : Jvm.Cond.codeWith ({ cls := "BondWarehouseLaw", name := "tryKeep", desc := "(LBondWarehouse;I)I" } : Jvm.MethodName) method_62_code (3 : Nat) (Option.some Jvm.ClassFile.FieldType.int) [((0 : Nat), (5 : Nat), (6 : Nat), (26 : Nat))] ∈ TG := tg_6 107 rfl rfl
theorem kw_6_120 : Jvm.Cond.methodLink "BondWarehouseLaw" (379 : Nat) ({ cls := "BondWarehouseLaw", name := "tryBack", desc := "(LBondWarehouse;I)I" } : Jvm.MethodName) ∈ TG := tg_6 120 rfl rfl
theorem kw_6_121 : Jvm.Cond.static ({ cls := "BondWarehouseLaw", name := "tryBack", desc := "(LBondWarehouse;I)I" } : Jvm.MethodName) ∈ TG := tg_6 121 rfl rfl
theorem kw_6_122 : Jvm.Cond.codeWith ({ cls := "BondWarehouseLaw", name := "tryBack", desc := "(LBondWarehouse;I)I" } : Jvm.MethodName) method_63_code (3 : Nat) (Option.some Jvm.ClassFile.FieldType.int) [((0 : Nat), (5 : Nat), (6 : Nat), (26 : Nat)), ((0 : Nat), (5 : Nat), (10 : Nat), (16 : Nat))] ∈ TG := tg_6 122 rfl rfl
/-- there are memories that the ghosts speak of -/
def GI (g : Gh) : Prop := ∀ b, ∃ mc, RelN g.2 mc (g.1 b)
theorem q_wi {p : Program} {l : Launch} {e : Env} {R : Room} {s : State} {m : MethodId} {args : Array Value} {below : List Frame} {meth : Method} {c : Code} {cells slots : Nat} {Q : State → Prop} {nL : Nat} {A0 : Nat → Prop} {D : va_G} {cA : Nat → ClassId} {ad : Bool → Nat → Nat → Nat} {Y : Heap → Prop} {g : Gh} {pc : Nat} {lv : List (Nat × Value)} {st : List Value}
    (k : GI g → V p l e R s m args below meth c Q nL A0 cells slots (WY D cA ad Y g) pc lv st) : V p l e R s m args below meth c Q nL A0 cells slots (WY D cA ad Y g) pc lv st :=
  fun H locs ls hP hS hl => k (fun b => (hP.1 b).imp (fun _ h => h.2)) H locs ls hP hS hl
theorem dL_call_0 : decode cL_call 0 = .ok (.iload_n 1, 1) := by decide +kernel
theorem dL_call_1 : decode cL_call 1 = .ok (.tableswitch 581 0 54 #[235, 242, 249, 256, 263, 270, 277, 284, 290, 296, 302, 308, 314, 321, 328, 334, 340, 346, 352, 358, 364, 370, 377, 383, 389, 395, 401, 407, 413, 419, 425, 431, 437, 443, 449, 455, 461, 467, 473, 479, 485, 491, 498, 505, 512, 519, 526, 533, 540, 546, 552, 559, 565, 570, 575], 235) := by decide +kernel
theorem dL_call_236 : decode cL_call 236 = .ok (.aload_n 0, 1) := by decide +kernel
theorem dL_call_237 : decode cL_call 237 = .ok (.iload_n 2, 1) := by decide +kernel
theorem dL_call_238 : decode cL_call 238 = .ok (.iload_n 3, 1) := by decide +kernel
theorem dL_call_239 : decode cL_call 239 = .ok (.invokestatic 209, 3) := by decide +kernel
theorem dL_call_242 : decode cL_call 242 = .ok (.ireturn, 1) := by decide +kernel
theorem dL_call_243 : decode cL_call 243 = .ok (.aload_n 0, 1) := by decide +kernel
theorem dL_call_244 : decode cL_call 244 = .ok (.iload_n 2, 1) := by decide +kernel
theorem dL_call_245 : decode cL_call 245 = .ok (.iload_n 3, 1) := by decide +kernel
theorem dL_call_246 : decode cL_call 246 = .ok (.invokestatic 215, 3) := by decide +kernel
theorem dL_call_249 : decode cL_call 249 = .ok (.ireturn, 1) := by decide +kernel
theorem dL_call_250 : decode cL_call 250 = .ok (.aload_n 0, 1) := by decide +kernel
theorem dL_call_251 : decode cL_call 251 = .ok (.iload_n 2, 1) := by decide +kernel
theorem dL_call_252 : decode cL_call 252 = .ok (.iload_n 3, 1) := by decide +kernel
theorem dL_call_253 : decode cL_call 253 = .ok (.invokestatic 218, 3) := by decide +kernel
theorem dL_call_256 : decode cL_call 256 = .ok (.ireturn, 1) := by decide +kernel
theorem dL_call_257 : decode cL_call 257 = .ok (.aload_n 0, 1) := by decide +kernel
theorem dL_call_258 : decode cL_call 258 = .ok (.iload_n 2, 1) := by decide +kernel
theorem dL_call_259 : decode cL_call 259 = .ok (.iload_n 3, 1) := by decide +kernel
theorem dL_call_260 : decode cL_call 260 = .ok (.invokestatic 221, 3) := by decide +kernel
theorem dL_call_263 : decode cL_call 263 = .ok (.ireturn, 1) := by decide +kernel
theorem dL_call_264 : decode cL_call 264 = .ok (.aload_n 0, 1) := by decide +kernel
theorem dL_call_265 : decode cL_call 265 = .ok (.iload_n 2, 1) := by decide +kernel
theorem dL_call_266 : decode cL_call 266 = .ok (.iload_n 3, 1) := by decide +kernel
theorem dL_call_267 : decode cL_call 267 = .ok (.invokestatic 224, 3) := by decide +kernel
theorem dL_call_270 : decode cL_call 270 = .ok (.ireturn, 1) := by decide +kernel
theorem dL_call_271 : decode cL_call 271 = .ok (.aload_n 0, 1) := by decide +kernel
theorem dL_call_272 : decode cL_call 272 = .ok (.iload_n 2, 1) := by decide +kernel
theorem dL_call_273 : decode cL_call 273 = .ok (.iload_n 3, 1) := by decide +kernel
theorem dL_call_274 : decode cL_call 274 = .ok (.invokestatic 227, 3) := by decide +kernel
theorem dL_call_277 : decode cL_call 277 = .ok (.ireturn, 1) := by decide +kernel
theorem dL_call_278 : decode cL_call 278 = .ok (.aload_n 0, 1) := by decide +kernel
theorem dL_call_279 : decode cL_call 279 = .ok (.iload_n 2, 1) := by decide +kernel
theorem dL_call_280 : decode cL_call 280 = .ok (.iload_n 3, 1) := by decide +kernel
theorem dL_call_281 : decode cL_call 281 = .ok (.invokestatic 230, 3) := by decide +kernel
theorem dL_call_284 : decode cL_call 284 = .ok (.ireturn, 1) := by decide +kernel
theorem dL_call_285 : decode cL_call 285 = .ok (.aload_n 0, 1) := by decide +kernel
theorem dL_call_286 : decode cL_call 286 = .ok (.iload_n 2, 1) := by decide +kernel
theorem dL_call_287 : decode cL_call 287 = .ok (.invokestatic 233, 3) := by decide +kernel
theorem dL_call_290 : decode cL_call 290 = .ok (.ireturn, 1) := by decide +kernel
theorem dL_call_291 : decode cL_call 291 = .ok (.aload_n 0, 1) := by decide +kernel
theorem dL_call_292 : decode cL_call 292 = .ok (.iload_n 2, 1) := by decide +kernel
theorem dL_call_293 : decode cL_call 293 = .ok (.invokestatic 237, 3) := by decide +kernel
theorem dL_call_296 : decode cL_call 296 = .ok (.ireturn, 1) := by decide +kernel
theorem dL_call_297 : decode cL_call 297 = .ok (.aload_n 0, 1) := by decide +kernel
theorem dL_call_298 : decode cL_call 298 = .ok (.iload_n 2, 1) := by decide +kernel
theorem dL_call_299 : decode cL_call 299 = .ok (.invokestatic 240, 3) := by decide +kernel
theorem dL_call_302 : decode cL_call 302 = .ok (.ireturn, 1) := by decide +kernel
theorem dL_call_303 : decode cL_call 303 = .ok (.aload_n 0, 1) := by decide +kernel
theorem dL_call_304 : decode cL_call 304 = .ok (.iload_n 2, 1) := by decide +kernel
theorem dL_call_305 : decode cL_call 305 = .ok (.invokestatic 243, 3) := by decide +kernel
theorem dL_call_308 : decode cL_call 308 = .ok (.ireturn, 1) := by decide +kernel
theorem dL_call_309 : decode cL_call 309 = .ok (.aload_n 0, 1) := by decide +kernel
theorem dL_call_310 : decode cL_call 310 = .ok (.iload_n 2, 1) := by decide +kernel
theorem dL_call_311 : decode cL_call 311 = .ok (.invokestatic 246, 3) := by decide +kernel
theorem dL_call_314 : decode cL_call 314 = .ok (.ireturn, 1) := by decide +kernel
theorem dL_call_315 : decode cL_call 315 = .ok (.aload_n 0, 1) := by decide +kernel
theorem dL_call_316 : decode cL_call 316 = .ok (.iload_n 2, 1) := by decide +kernel
theorem dL_call_317 : decode cL_call 317 = .ok (.iload_n 3, 1) := by decide +kernel
theorem dL_call_318 : decode cL_call 318 = .ok (.invokestatic 249, 3) := by decide +kernel
theorem dL_call_321 : decode cL_call 321 = .ok (.ireturn, 1) := by decide +kernel
theorem dL_call_322 : decode cL_call 322 = .ok (.aload_n 0, 1) := by decide +kernel
theorem dL_call_323 : decode cL_call 323 = .ok (.iload_n 2, 1) := by decide +kernel
theorem dL_call_324 : decode cL_call 324 = .ok (.iload_n 3, 1) := by decide +kernel
theorem dL_call_325 : decode cL_call 325 = .ok (.invokestatic 252, 3) := by decide +kernel
theorem dL_call_328 : decode cL_call 328 = .ok (.ireturn, 1) := by decide +kernel
theorem dL_call_329 : decode cL_call 329 = .ok (.aload_n 0, 1) := by decide +kernel
theorem dL_call_330 : decode cL_call 330 = .ok (.iload_n 2, 1) := by decide +kernel
theorem dL_call_331 : decode cL_call 331 = .ok (.invokestatic 255, 3) := by decide +kernel
theorem dL_call_334 : decode cL_call 334 = .ok (.ireturn, 1) := by decide +kernel
theorem dL_call_335 : decode cL_call 335 = .ok (.aload_n 0, 1) := by decide +kernel
theorem dL_call_336 : decode cL_call 336 = .ok (.iload_n 2, 1) := by decide +kernel
theorem dL_call_337 : decode cL_call 337 = .ok (.invokestatic 258, 3) := by decide +kernel
theorem dL_call_340 : decode cL_call 340 = .ok (.ireturn, 1) := by decide +kernel
theorem dL_call_341 : decode cL_call 341 = .ok (.aload_n 0, 1) := by decide +kernel
theorem dL_call_342 : decode cL_call 342 = .ok (.iload_n 2, 1) := by decide +kernel
theorem dL_call_343 : decode cL_call 343 = .ok (.invokestatic 261, 3) := by decide +kernel
theorem dL_call_346 : decode cL_call 346 = .ok (.ireturn, 1) := by decide +kernel
theorem dL_call_347 : decode cL_call 347 = .ok (.aload_n 0, 1) := by decide +kernel
theorem dL_call_348 : decode cL_call 348 = .ok (.iload_n 2, 1) := by decide +kernel
theorem dL_call_349 : decode cL_call 349 = .ok (.invokestatic 264, 3) := by decide +kernel
theorem dL_call_352 : decode cL_call 352 = .ok (.ireturn, 1) := by decide +kernel
theorem dL_call_353 : decode cL_call 353 = .ok (.aload_n 0, 1) := by decide +kernel
theorem dL_call_354 : decode cL_call 354 = .ok (.iload_n 2, 1) := by decide +kernel
theorem dL_call_355 : decode cL_call 355 = .ok (.invokestatic 267, 3) := by decide +kernel
theorem dL_call_358 : decode cL_call 358 = .ok (.ireturn, 1) := by decide +kernel
theorem dL_call_359 : decode cL_call 359 = .ok (.aload_n 0, 1) := by decide +kernel
theorem dL_call_360 : decode cL_call 360 = .ok (.iload_n 2, 1) := by decide +kernel
theorem dL_call_361 : decode cL_call 361 = .ok (.invokestatic 270, 3) := by decide +kernel
theorem dL_call_364 : decode cL_call 364 = .ok (.ireturn, 1) := by decide +kernel
theorem dL_call_365 : decode cL_call 365 = .ok (.aload_n 0, 1) := by decide +kernel
theorem dL_call_366 : decode cL_call 366 = .ok (.iload_n 2, 1) := by decide +kernel
theorem dL_call_367 : decode cL_call 367 = .ok (.invokestatic 273, 3) := by decide +kernel
theorem dL_call_370 : decode cL_call 370 = .ok (.ireturn, 1) := by decide +kernel
theorem dL_call_371 : decode cL_call 371 = .ok (.aload_n 0, 1) := by decide +kernel
theorem dL_call_372 : decode cL_call 372 = .ok (.iload_n 2, 1) := by decide +kernel
theorem dL_call_373 : decode cL_call 373 = .ok (.iload_n 3, 1) := by decide +kernel
theorem dL_call_374 : decode cL_call 374 = .ok (.invokestatic 276, 3) := by decide +kernel
theorem dL_call_377 : decode cL_call 377 = .ok (.ireturn, 1) := by decide +kernel
theorem dL_call_378 : decode cL_call 378 = .ok (.aload_n 0, 1) := by decide +kernel
theorem dL_call_379 : decode cL_call 379 = .ok (.iload_n 2, 1) := by decide +kernel
theorem dL_call_380 : decode cL_call 380 = .ok (.invokestatic 279, 3) := by decide +kernel
theorem dL_call_383 : decode cL_call 383 = .ok (.ireturn, 1) := by decide +kernel
theorem dL_call_384 : decode cL_call 384 = .ok (.aload_n 0, 1) := by decide +kernel
theorem dL_call_385 : decode cL_call 385 = .ok (.iload_n 2, 1) := by decide +kernel
theorem dL_call_386 : decode cL_call 386 = .ok (.invokestatic 282, 3) := by decide +kernel
theorem dL_call_389 : decode cL_call 389 = .ok (.ireturn, 1) := by decide +kernel
theorem dL_call_390 : decode cL_call 390 = .ok (.aload_n 0, 1) := by decide +kernel
theorem dL_call_391 : decode cL_call 391 = .ok (.iload_n 2, 1) := by decide +kernel
theorem dL_call_392 : decode cL_call 392 = .ok (.invokestatic 285, 3) := by decide +kernel
theorem dL_call_395 : decode cL_call 395 = .ok (.ireturn, 1) := by decide +kernel
theorem dL_call_402 : decode cL_call 402 = .ok (.aload_n 0, 1) := by decide +kernel
theorem dL_call_403 : decode cL_call 403 = .ok (.iload_n 2, 1) := by decide +kernel
theorem dL_call_404 : decode cL_call 404 = .ok (.invokestatic 291, 3) := by decide +kernel
theorem dL_call_407 : decode cL_call 407 = .ok (.ireturn, 1) := by decide +kernel
theorem dL_call_414 : decode cL_call 414 = .ok (.aload_n 0, 1) := by decide +kernel
theorem dL_call_415 : decode cL_call 415 = .ok (.iload_n 2, 1) := by decide +kernel
theorem dL_call_416 : decode cL_call 416 = .ok (.invokestatic 297, 3) := by decide +kernel
theorem dL_call_419 : decode cL_call 419 = .ok (.ireturn, 1) := by decide +kernel
theorem dL_call_420 : decode cL_call 420 = .ok (.aload_n 0, 1) := by decide +kernel
theorem dL_call_421 : decode cL_call 421 = .ok (.iload_n 2, 1) := by decide +kernel
theorem dL_call_422 : decode cL_call 422 = .ok (.invokestatic 300, 3) := by decide +kernel
theorem dL_call_425 : decode cL_call 425 = .ok (.ireturn, 1) := by decide +kernel
theorem dL_call_426 : decode cL_call 426 = .ok (.aload_n 0, 1) := by decide +kernel
theorem dL_call_427 : decode cL_call 427 = .ok (.iload_n 2, 1) := by decide +kernel
theorem dL_call_428 : decode cL_call 428 = .ok (.invokestatic 303, 3) := by decide +kernel
theorem dL_call_431 : decode cL_call 431 = .ok (.ireturn, 1) := by decide +kernel
theorem dL_call_432 : decode cL_call 432 = .ok (.aload_n 0, 1) := by decide +kernel
theorem dL_call_433 : decode cL_call 433 = .ok (.iload_n 2, 1) := by decide +kernel
theorem dL_call_434 : decode cL_call 434 = .ok (.invokestatic 306, 3) := by decide +kernel
theorem dL_call_437 : decode cL_call 437 = .ok (.ireturn, 1) := by decide +kernel
theorem dL_call_450 : decode cL_call 450 = .ok (.aload_n 0, 1) := by decide +kernel
theorem dL_call_451 : decode cL_call 451 = .ok (.iload_n 2, 1) := by decide +kernel
theorem dL_call_452 : decode cL_call 452 = .ok (.invokestatic 315, 3) := by decide +kernel
theorem dL_call_455 : decode cL_call 455 = .ok (.ireturn, 1) := by decide +kernel
theorem dL_call_462 : decode cL_call 462 = .ok (.aload_n 0, 1) := by decide +kernel
theorem dL_call_463 : decode cL_call 463 = .ok (.iload_n 2, 1) := by decide +kernel
theorem dL_call_464 : decode cL_call 464 = .ok (.invokestatic 321, 3) := by decide +kernel
theorem dL_call_467 : decode cL_call 467 = .ok (.ireturn, 1) := by decide +kernel
theorem dL_call_468 : decode cL_call 468 = .ok (.aload_n 0, 1) := by decide +kernel
theorem dL_call_469 : decode cL_call 469 = .ok (.iload_n 2, 1) := by decide +kernel
theorem dL_call_470 : decode cL_call 470 = .ok (.invokestatic 324, 3) := by decide +kernel
theorem dL_call_473 : decode cL_call 473 = .ok (.ireturn, 1) := by decide +kernel
theorem dL_call_474 : decode cL_call 474 = .ok (.aload_n 0, 1) := by decide +kernel
theorem dL_call_475 : decode cL_call 475 = .ok (.iload_n 2, 1) := by decide +kernel
theorem dL_call_476 : decode cL_call 476 = .ok (.invokestatic 327, 3) := by decide +kernel
theorem dL_call_479 : decode cL_call 479 = .ok (.ireturn, 1) := by decide +kernel
theorem dL_call_480 : decode cL_call 480 = .ok (.aload_n 0, 1) := by decide +kernel
theorem dL_call_481 : decode cL_call 481 = .ok (.iload_n 2, 1) := by decide +kernel
theorem dL_call_482 : decode cL_call 482 = .ok (.invokestatic 330, 3) := by decide +kernel
theorem dL_call_485 : decode cL_call 485 = .ok (.ireturn, 1) := by decide +kernel
theorem dL_call_486 : decode cL_call 486 = .ok (.aload_n 0, 1) := by decide +kernel
theorem dL_call_487 : decode cL_call 487 = .ok (.iload_n 2, 1) := by decide +kernel
theorem dL_call_488 : decode cL_call 488 = .ok (.invokestatic 333, 3) := by decide +kernel
theorem dL_call_491 : decode cL_call 491 = .ok (.ireturn, 1) := by decide +kernel
theorem dL_call_492 : decode cL_call 492 = .ok (.aload_n 0, 1) := by decide +kernel
theorem dL_call_493 : decode cL_call 493 = .ok (.iload_n 2, 1) := by decide +kernel
theorem dL_call_494 : decode cL_call 494 = .ok (.iload_n 3, 1) := by decide +kernel
theorem dL_call_495 : decode cL_call 495 = .ok (.invokestatic 336, 3) := by decide +kernel
theorem dL_call_498 : decode cL_call 498 = .ok (.ireturn, 1) := by decide +kernel
theorem dL_call_499 : decode cL_call 499 = .ok (.aload_n 0, 1) := by decide +kernel
theorem dL_call_500 : decode cL_call 500 = .ok (.iload_n 2, 1) := by decide +kernel
theorem dL_call_501 : decode cL_call 501 = .ok (.iload_n 3, 1) := by decide +kernel
theorem dL_call_502 : decode cL_call 502 = .ok (.invokestatic 339, 3) := by decide +kernel
theorem dL_call_505 : decode cL_call 505 = .ok (.ireturn, 1) := by decide +kernel
theorem dL_call_506 : decode cL_call 506 = .ok (.aload_n 0, 1) := by decide +kernel
theorem dL_call_507 : decode cL_call 507 = .ok (.iload_n 2, 1) := by decide +kernel
theorem dL_call_508 : decode cL_call 508 = .ok (.iload_n 3, 1) := by decide +kernel
theorem dL_call_509 : decode cL_call 509 = .ok (.invokestatic 342, 3) := by decide +kernel
theorem dL_call_512 : decode cL_call 512 = .ok (.ireturn, 1) := by decide +kernel
theorem dL_call_513 : decode cL_call 513 = .ok (.aload_n 0, 1) := by decide +kernel
theorem dL_call_514 : decode cL_call 514 = .ok (.iload_n 2, 1) := by decide +kernel
theorem dL_call_515 : decode cL_call 515 = .ok (.iload_n 3, 1) := by decide +kernel
theorem dL_call_516 : decode cL_call 516 = .ok (.invokestatic 345, 3) := by decide +kernel
theorem dL_call_519 : decode cL_call 519 = .ok (.ireturn, 1) := by decide +kernel
theorem dL_call_520 : decode cL_call 520 = .ok (.aload_n 0, 1) := by decide +kernel
theorem dL_call_521 : decode cL_call 521 = .ok (.iload_n 2, 1) := by decide +kernel
theorem dL_call_522 : decode cL_call 522 = .ok (.iload_n 3, 1) := by decide +kernel
theorem dL_call_523 : decode cL_call 523 = .ok (.invokestatic 348, 3) := by decide +kernel
theorem dL_call_526 : decode cL_call 526 = .ok (.ireturn, 1) := by decide +kernel
theorem dL_call_527 : decode cL_call 527 = .ok (.aload_n 0, 1) := by decide +kernel
theorem dL_call_528 : decode cL_call 528 = .ok (.iload_n 2, 1) := by decide +kernel
theorem dL_call_529 : decode cL_call 529 = .ok (.iload_n 3, 1) := by decide +kernel
theorem dL_call_530 : decode cL_call 530 = .ok (.invokestatic 351, 3) := by decide +kernel
theorem dL_call_533 : decode cL_call 533 = .ok (.ireturn, 1) := by decide +kernel
theorem dL_call_534 : decode cL_call 534 = .ok (.aload_n 0, 1) := by decide +kernel
theorem dL_call_535 : decode cL_call 535 = .ok (.iload_n 2, 1) := by decide +kernel
theorem dL_call_536 : decode cL_call 536 = .ok (.iload_n 3, 1) := by decide +kernel
theorem dL_call_537 : decode cL_call 537 = .ok (.invokestatic 354, 3) := by decide +kernel
theorem dL_call_540 : decode cL_call 540 = .ok (.ireturn, 1) := by decide +kernel
theorem dL_call_541 : decode cL_call 541 = .ok (.aload_n 0, 1) := by decide +kernel
theorem dL_call_542 : decode cL_call 542 = .ok (.iload_n 2, 1) := by decide +kernel
theorem dL_call_543 : decode cL_call 543 = .ok (.invokestatic 357, 3) := by decide +kernel
theorem dL_call_546 : decode cL_call 546 = .ok (.ireturn, 1) := by decide +kernel
theorem dL_call_547 : decode cL_call 547 = .ok (.aload_n 0, 1) := by decide +kernel
theorem dL_call_548 : decode cL_call 548 = .ok (.iload_n 2, 1) := by decide +kernel
theorem dL_call_549 : decode cL_call 549 = .ok (.invokestatic 360, 3) := by decide +kernel
theorem dL_call_552 : decode cL_call 552 = .ok (.ireturn, 1) := by decide +kernel
theorem dL_call_553 : decode cL_call 553 = .ok (.aload_n 0, 1) := by decide +kernel
theorem dL_call_554 : decode cL_call 554 = .ok (.iload_n 2, 1) := by decide +kernel
theorem dL_call_555 : decode cL_call 555 = .ok (.iload_n 3, 1) := by decide +kernel
theorem dL_call_556 : decode cL_call 556 = .ok (.invokestatic 363, 3) := by decide +kernel
theorem dL_call_559 : decode cL_call 559 = .ok (.ireturn, 1) := by decide +kernel
theorem dL_call_560 : decode cL_call 560 = .ok (.aload_n 0, 1) := by decide +kernel
theorem dL_call_561 : decode cL_call 561 = .ok (.iload_n 2, 1) := by decide +kernel
theorem dL_call_562 : decode cL_call 562 = .ok (.invokestatic 366, 3) := by decide +kernel
theorem dL_call_565 : decode cL_call 565 = .ok (.ireturn, 1) := by decide +kernel
theorem dL_call_566 : decode cL_call 566 = .ok (.aload_n 0, 1) := by decide +kernel
theorem dL_call_567 : decode cL_call 567 = .ok (.invokestatic 369, 3) := by decide +kernel
theorem dL_call_570 : decode cL_call 570 = .ok (.ireturn, 1) := by decide +kernel
theorem dL_call_571 : decode cL_call 571 = .ok (.aload_n 0, 1) := by decide +kernel
theorem dL_call_572 : decode cL_call 572 = .ok (.invokestatic 373, 3) := by decide +kernel
theorem dL_call_575 : decode cL_call 575 = .ok (.ireturn, 1) := by decide +kernel
theorem dL_call_576 : decode cL_call 576 = .ok (.aload_n 0, 1) := by decide +kernel
theorem dL_call_577 : decode cL_call 577 = .ok (.iload_n 2, 1) := by decide +kernel
theorem dL_call_578 : decode cL_call 578 = .ok (.invokestatic 376, 3) := by decide +kernel
theorem dL_call_581 : decode cL_call 581 = .ok (.ireturn, 1) := by decide +kernel
theorem dL_call_582 : decode cL_call 582 = .ok (.aload_n 0, 1) := by decide +kernel
theorem dL_call_583 : decode cL_call 583 = .ok (.iload_n 2, 1) := by decide +kernel
theorem dL_call_584 : decode cL_call 584 = .ok (.invokestatic 379, 3) := by decide +kernel
theorem dL_call_587 : decode cL_call 587 = .ok (.ireturn, 1) := by decide +kernel
def rm_L_call : Room := { frames := 10, cells := 2, slots := 12, locals := 183 }
theorem hy_L_call : yL_call.cls = RL ∧ yL_call.cls ≠ "java/lang/invoke/MethodHandle" ∧ yL_call.cls ≠ "java/lang/invoke/VarHandle" ∧ (parseMethodDescriptor yL_call.desc).map (fun d => d.parameters.length) = some 5 := by decide +kernel
set_option maxRecDepth 100000 in
set_option maxHeartbeats 4000000 in
theorem k_C_0 {l : Launch} {D : va_G} {cA : Nat → ClassId} {ad : Bool → Nat → Nat → Nat} {A : Bool → Nat → Prop} (ha : AG ad A) (hst : l.stackTraces = false) (o : Bool) (p0 p1 p2 : Int32) (g : Gh) (hk : g.2 + 1 ≤ 2400) : Met l yL_call (.code yL_call cL_call 5 (some .int) :: TG) rm_L_call (PcG D cA ad A [.ref (ad o 0 1), .int 0, .int p0, .int p1, .int p2] g) (QcG D cA ad A (fun r g' => r = (z_tryWithdraw p0 p1 (g.1 o)).1 ∧ g' = gz g o (z_tryWithdraw p0 p1 (g.1 o)).2)) 2 12 (AU A) := by
  refine enterGI pl_L rfl (Nat.le_of_ble_eq_true rfl) ?_
  intro p e s m args below meth c QQ X hW hZ hE
  refine q_iload_n (j := 1) X dL_call_0 rfl rfl ?_
  refine q_tabI (k := 0) (tgt := 236) X dL_call_1 rfl (by decide) (by decide) rfl (by decide) ?_
  refine q_aload_n (j := 0) X dL_call_236 rfl rfl ?_
  refine q_iload_n (j := 2) X dL_call_237 rfl rfl ?_
  refine q_iload_n (j := 3) X dL_call_238 rfl rfl ?_
  refine qG_ownW X hW hZ (fun _ h => h) YT_ok [.ref (ad o 0 1), .int p0, .int p1] [] rfl rfl (Nat.le_of_ble_eq_true rfl) dL_call_239 ⟨(Nat.le_of_ble_eq_true rfl), (Nat.le_of_ble_eq_true rfl)⟩ (k_L_tryWithdraw ha hst o p0 p1 g hk) rfl rfl (gSW kw_3_91 kw_3_92 kw_1_0 kw_3_93) hy_L_tryWithdraw.2 ⟨(Nat.le_of_ble_eq_true rfl), (Nat.le_of_ble_eq_true rfl)⟩ (fun r g9 hq => ?_)
  exact hE _ _ _ _ _ _ dL_call_242 (Nat.le_of_ble_eq_true rfl) (Nat.le_of_ble_eq_true rfl) hq
set_option maxRecDepth 100000 in
set_option maxHeartbeats 4000000 in
theorem k_C_1 {l : Launch} {D : va_G} {cA : Nat → ClassId} {ad : Bool → Nat → Nat → Nat} {A : Bool → Nat → Prop} (ha : AG ad A) (hst : l.stackTraces = false) (o : Bool) (p0 p1 p2 : Int32) (g : Gh) (hk : g.2 + 1 ≤ 2400) : Met l yL_call (.code yL_call cL_call 5 (some .int) :: TG) rm_L_call (PcG D cA ad A [.ref (ad o 0 1), .int 1, .int p0, .int p1, .int p2] g) (QcG D cA ad A (fun r g' => r = (z_trySend p0 p1 (g.1 o)).1 ∧ g' = gz g o (z_trySend p0 p1 (g.1 o)).2)) 2 12 (AU A) := by
  refine enterGI pl_L rfl (Nat.le_of_ble_eq_true rfl) ?_
  intro p e s m args below meth c QQ X hW hZ hE
  refine q_iload_n (j := 1) X dL_call_0 rfl rfl ?_
  refine q_tabI (k := 1) (tgt := 243) X dL_call_1 rfl (by decide) (by decide) rfl (by decide) ?_
  refine q_aload_n (j := 0) X dL_call_243 rfl rfl ?_
  refine q_iload_n (j := 2) X dL_call_244 rfl rfl ?_
  refine q_iload_n (j := 3) X dL_call_245 rfl rfl ?_
  refine qG_ownW X hW hZ (fun _ h => h) YT_ok [.ref (ad o 0 1), .int p0, .int p1] [] rfl rfl (Nat.le_of_ble_eq_true rfl) dL_call_246 ⟨(Nat.le_of_ble_eq_true rfl), (Nat.le_of_ble_eq_true rfl)⟩ (k_L_trySend ha hst o p0 p1 g hk) rfl rfl (gSW kw_3_146 kw_3_147 kw_1_0 kw_3_148) hy_L_trySend.2 ⟨(Nat.le_of_ble_eq_true rfl), (Nat.le_of_ble_eq_true rfl)⟩ (fun r g9 hq => ?_)
  exact hE _ _ _ _ _ _ dL_call_249 (Nat.le_of_ble_eq_true rfl) (Nat.le_of_ble_eq_true rfl) hq
set_option maxRecDepth 100000 in
set_option maxHeartbeats 4000000 in
theorem k_C_2 {l : Launch} {D : va_G} {cA : Nat → ClassId} {ad : Bool → Nat → Nat → Nat} {A : Bool → Nat → Prop} (ha : AG ad A) (hst : l.stackTraces = false) (o : Bool) (p0 p1 p2 : Int32) (g : Gh) (hk : g.2 + 1 ≤ 2400) : Met l yL_call (.code yL_call cL_call 5 (some .int) :: TG) rm_L_call (PcG D cA ad A [.ref (ad o 0 1), .int 2, .int p0, .int p1, .int p2] g) (QcG D cA ad A (fun r g' => r = (z_tryDraw p0 p1 (g.1 o)).1 ∧ g' = gz g o (z_tryDraw p0 p1 (g.1 o)).2)) 2 12 (AU A) := by
  refine enterGI pl_L rfl (Nat.le_of_ble_eq_true rfl) ?_
  intro p e s m args below meth c QQ X hW hZ hE
  refine q_iload_n (j := 1) X dL_call_0 rfl rfl ?_
  refine q_tabI (k := 2) (tgt := 250) X dL_call_1 rfl (by decide) (by decide) rfl (by decide) ?_
  refine q_aload_n (j := 0) X dL_call_250 rfl rfl ?_
  refine q_iload_n (j := 2) X dL_call_251 rfl rfl ?_
  refine q_iload_n (j := 3) X dL_call_252 rfl rfl ?_
  refine qG_ownW X hW hZ (fun _ h => h) YT_ok [.ref (ad o 0 1), .int p0, .int p1] [] rfl rfl (Nat.le_of_ble_eq_true rfl) dL_call_253 ⟨(Nat.le_of_ble_eq_true rfl), (Nat.le_of_ble_eq_true rfl)⟩ (k_L_tryDraw ha hst o p0 p1 g hk) rfl rfl (gSW kw_3_165 kw_3_166 kw_1_0 kw_3_167) hy_L_tryDraw.2 ⟨(Nat.le_of_ble_eq_true rfl), (Nat.le_of_ble_eq_true rfl)⟩ (fun r g9 hq => ?_)
  exact hE _ _ _ _ _ _ dL_call_256 (Nat.le_of_ble_eq_true rfl) (Nat.le_of_ble_eq_true rfl) hq
set_option maxRecDepth 100000 in
set_option maxHeartbeats 4000000 in
theorem k_C_3 {l : Launch} {D : va_G} {cA : Nat → ClassId} {ad : Bool → Nat → Nat → Nat} {A : Bool → Nat → Prop} (ha : AG ad A) (hst : l.stackTraces = false) (o : Bool) (p0 p1 p2 : Int32) (g : Gh) (hk : g.2 + 1 ≤ 2400) : Met l yL_call (.code yL_call cL_call 5 (some .int) :: TG) rm_L_call (PcG D cA ad A [.ref (ad o 0 1), .int 3, .int p0, .int p1, .int p2] g) (QcG D cA ad A (fun r g' => r = (z_tryMove p0 p1 (g.1 o)).1 ∧ g' = gz g o (z_tryMove p0 p1 (g.1 o)).2)) 2 12 (AU A) := by
  refine enterGI pl_L rfl (Nat.le_of_ble_eq_true rfl) ?_
  intro p e s m args below meth c QQ X hW hZ hE
  refine q_iload_n (j := 1) X dL_call_0 rfl rfl ?_
  refine q_tabI (k := 3) (tgt := 257) X dL_call_1 rfl (by decide) (by decide) rfl (by decide) ?_
  refine q_aload_n (j := 0) X dL_call_257 rfl rfl ?_
  refine q_iload_n (j := 2) X dL_call_258 rfl rfl ?_
  refine q_iload_n (j := 3) X dL_call_259 rfl rfl ?_
  refine qG_ownW X hW hZ (fun _ h => h) YT_ok [.ref (ad o 0 1), .int p0, .int p1] [] rfl rfl (Nat.le_of_ble_eq_true rfl) dL_call_260 ⟨(Nat.le_of_ble_eq_true rfl), (Nat.le_of_ble_eq_true rfl)⟩ (k_L_tryMove ha hst o p0 p1 g hk) rfl rfl (gSW kw_3_196 kw_3_197 kw_1_0 kw_3_198) hy_L_tryMove.2 ⟨(Nat.le_of_ble_eq_true rfl), (Nat.le_of_ble_eq_true rfl)⟩ (fun r g9 hq => ?_)
  exact hE _ _ _ _ _ _ dL_call_263 (Nat.le_of_ble_eq_true rfl) (Nat.le_of_ble_eq_true rfl) hq
set_option maxRecDepth 100000 in
set_option maxHeartbeats 4000000 in
theorem k_C_4 {l : Launch} {D : va_G} {cA : Nat → ClassId} {ad : Bool → Nat → Nat → Nat} {A : Bool → Nat → Prop} (ha : AG ad A) (hst : l.stackTraces = false) (o : Bool) (p0 p1 p2 : Int32) (g : Gh) (hk : g.2 + 1 ≤ 2400) : Met l yL_call (.code yL_call cL_call 5 (some .int) :: TG) rm_L_call (PcG D cA ad A [.ref (ad o 0 1), .int 4, .int p0, .int p1, .int p2] g) (QcG D cA ad A (fun r g' => r = (z_trySplit p0 p1 (g.1 o)).1 ∧ g' = gz g o (z_trySplit p0 p1 (g.1 o)).2)) 2 12 (AU A) := by
  refine enterGI pl_L rfl (Nat.le_of_ble_eq_true rfl) ?_
  intro p e s m args below meth c QQ X hW hZ hE
  refine q_iload_n (j := 1) X dL_call_0 rfl rfl ?_
  refine q_tabI (k := 4) (tgt := 264) X dL_call_1 rfl (by decide) (by decide) rfl (by decide) ?_
  refine q_aload_n (j := 0) X dL_call_264 rfl rfl ?_
  refine q_iload_n (j := 2) X dL_call_265 rfl rfl ?_
  refine q_iload_n (j := 3) X dL_call_266 rfl rfl ?_
  refine qG_ownW X hW hZ (fun _ h => h) YT_ok [.ref (ad o 0 1), .int p0, .int p1] [] rfl rfl (Nat.le_of_ble_eq_true rfl) dL_call_267 ⟨(Nat.le_of_ble_eq_true rfl), (Nat.le_of_ble_eq_true rfl)⟩ (k_L_trySplit ha hst o p0 p1 g hk) rfl rfl (gSW kw_3_212 kw_3_213 kw_1_0 kw_3_214) hy_L_trySplit.2 ⟨(Nat.le_of_ble_eq_true rfl), (Nat.le_of_ble_eq_true rfl)⟩ (fun r g9 hq => ?_)
  exact hE _ _ _ _ _ _ dL_call_270 (Nat.le_of_ble_eq_true rfl) (Nat.le_of_ble_eq_true rfl) hq
set_option maxRecDepth 100000 in
set_option maxHeartbeats 4000000 in
theorem k_C_5 {l : Launch} {D : va_G} {cA : Nat → ClassId} {ad : Bool → Nat → Nat → Nat} {A : Bool → Nat → Prop} (ha : AG ad A) (hst : l.stackTraces = false) (o : Bool) (p0 p1 p2 : Int32) (g : Gh) (hk : g.2 + 1 ≤ 2400) : Met l yL_call (.code yL_call cL_call 5 (some .int) :: TG) rm_L_call (PcG D cA ad A [.ref (ad o 0 1), .int 5, .int p0, .int p1, .int p2] g) (QcG D cA ad A (fun r g' => r = (z_tryMerge p0 p1 (g.1 o)).1 ∧ g' = gz g o (z_tryMerge p0 p1 (g.1 o)).2)) 2 12 (AU A) := by
  refine enterGI pl_L rfl (Nat.le_of_ble_eq_true rfl) ?_
  intro p e s m args below meth c QQ X hW hZ hE
  refine q_iload_n (j := 1) X dL_call_0 rfl rfl ?_
  refine q_tabI (k := 5) (tgt := 271) X dL_call_1 rfl (by decide) (by decide) rfl (by decide) ?_
  refine q_aload_n (j := 0) X dL_call_271 rfl rfl ?_
  refine q_iload_n (j := 2) X dL_call_272 rfl rfl ?_
  refine q_iload_n (j := 3) X dL_call_273 rfl rfl ?_
  refine qG_ownW X hW hZ (fun _ h => h) YT_ok [.ref (ad o 0 1), .int p0, .int p1] [] rfl rfl (Nat.le_of_ble_eq_true rfl) dL_call_274 ⟨(Nat.le_of_ble_eq_true rfl), (Nat.le_of_ble_eq_true rfl)⟩ (k_L_tryMerge ha hst o p0 p1 g hk) rfl rfl (gSW kw_3_227 kw_3_228 kw_1_0 kw_3_229) hy_L_tryMerge.2 ⟨(Nat.le_of_ble_eq_true rfl), (Nat.le_of_ble_eq_true rfl)⟩ (fun r g9 hq => ?_)
  exact hE _ _ _ _ _ _ dL_call_277 (Nat.le_of_ble_eq_true rfl) (Nat.le_of_ble_eq_true rfl) hq
set_option maxRecDepth 100000 in
set_option maxHeartbeats 4000000 in
theorem k_C_6 {l : Launch} {D : va_G} {cA : Nat → ClassId} {ad : Bool → Nat → Nat → Nat} {A : Bool → Nat → Prop} (ha : AG ad A) (hst : l.stackTraces = false) (o : Bool) (p0 p1 p2 : Int32) (g : Gh) (hk : g.2 + 1 ≤ 2400) : Met l yL_call (.code yL_call cL_call 5 (some .int) :: TG) rm_L_call (PcG D cA ad A [.ref (ad o 0 1), .int 6, .int p0, .int p1, .int p2] g) (QcG D cA ad A (fun r g' => r = (z_tryWeigh p0 p1 (g.1 o)).1 ∧ g' = gz g o (z_tryWeigh p0 p1 (g.1 o)).2)) 2 12 (AU A) := by
  refine enterGI pl_L rfl (Nat.le_of_ble_eq_true rfl) ?_
  intro p e s m args below meth c QQ X hW hZ hE
  refine q_iload_n (j := 1) X dL_call_0 rfl rfl ?_
  refine q_tabI (k := 6) (tgt := 278) X dL_call_1 rfl (by decide) (by decide) rfl (by decide) ?_
  refine q_aload_n (j := 0) X dL_call_278 rfl rfl ?_
  refine q_iload_n (j := 2) X dL_call_279 rfl rfl ?_
  refine q_iload_n (j := 3) X dL_call_280 rfl rfl ?_
  refine qG_ownW X hW hZ (fun _ h => h) YT_ok [.ref (ad o 0 1), .int p0, .int p1] [] rfl rfl (Nat.le_of_ble_eq_true rfl) dL_call_281 ⟨(Nat.le_of_ble_eq_true rfl), (Nat.le_of_ble_eq_true rfl)⟩ (k_L_tryWeigh ha hst o p0 p1 g hk) rfl rfl (gSW kw_4_10 kw_4_11 kw_1_0 kw_4_12) hy_L_tryWeigh.2 ⟨(Nat.le_of_ble_eq_true rfl), (Nat.le_of_ble_eq_true rfl)⟩ (fun r g9 hq => ?_)
  exact hE _ _ _ _ _ _ dL_call_284 (Nat.le_of_ble_eq_true rfl) (Nat.le_of_ble_eq_true rfl) hq
set_option maxRecDepth 100000 in
set_option maxHeartbeats 4000000 in
theorem k_C_7 {l : Launch} {D : va_G} {cA : Nat → ClassId} {ad : Bool → Nat → Nat → Nat} {A : Bool → Nat → Prop} (ha : AG ad A) (hst : l.stackTraces = false) (o : Bool) (p0 p1 p2 : Int32) (g : Gh) (hk : g.2 + 1 ≤ 2400) : Met l yL_call (.code yL_call cL_call 5 (some .int) :: TG) rm_L_call (PcG D cA ad A [.ref (ad o 0 1), .int 7, .int p0, .int p1, .int p2] g) (QcG D cA ad A (fun r g' => r = (z_tryLock p0 (g.1 o)).1 ∧ g' = gz g o (z_tryLock p0 (g.1 o)).2)) 2 12 (AU A) := by
  refine enterGI pl_L rfl (Nat.le_of_ble_eq_true rfl) ?_
  intro p e s m args below meth c QQ X hW hZ hE
  refine q_iload_n (j := 1) X dL_call_0 rfl rfl ?_
  refine q_tabI (k := 7) (tgt := 285) X dL_call_1 rfl (by decide) (by decide) rfl (by decide) ?_
  refine q_aload_n (j := 0) X dL_call_285 rfl rfl ?_
  refine q_iload_n (j := 2) X dL_call_286 rfl rfl ?_
  refine qG_ownW X hW hZ (fun _ h => h) YT_ok [.ref (ad o 0 1), .int p0] [] rfl rfl (Nat.le_of_ble_eq_true rfl) dL_call_287 ⟨(Nat.le_of_ble_eq_true rfl), (Nat.le_of_ble_eq_true rfl)⟩ (k_L_tryLock ha hst o p0 g hk) rfl rfl (gSW kw_4_41 kw_4_42 kw_1_0 kw_4_43) hy_L_tryLock.2 ⟨(Nat.le_of_ble_eq_true rfl), (Nat.le_of_ble_eq_true rfl)⟩ (fun r g9 hq => ?_)
  exact hE _ _ _ _ _ _ dL_call_290 (Nat.le_of_ble_eq_true rfl) (Nat.le_of_ble_eq_true rfl) hq
set_option maxRecDepth 100000 in
set_option maxHeartbeats 4000000 in
theorem k_C_8 {l : Launch} {D : va_G} {cA : Nat → ClassId} {ad : Bool → Nat → Nat → Nat} {A : Bool → Nat → Prop} (ha : AG ad A) (hst : l.stackTraces = false) (o : Bool) (p0 p1 p2 : Int32) (g : Gh) (hk : g.2 + 1 ≤ 2400) : Met l yL_call (.code yL_call cL_call 5 (some .int) :: TG) rm_L_call (PcG D cA ad A [.ref (ad o 0 1), .int 8, .int p0, .int p1, .int p2] g) (QcG D cA ad A (fun r g' => r = (z_tryOpen p0 (g.1 o)).1 ∧ g' = gz g o (z_tryOpen p0 (g.1 o)).2)) 2 12 (AU A) := by
  refine enterGI pl_L rfl (Nat.le_of_ble_eq_true rfl) ?_
  intro p e s m args below meth c QQ X hW hZ hE
  refine q_iload_n (j := 1) X dL_call_0 rfl rfl ?_
  refine q_tabI (k := 8) (tgt := 291) X dL_call_1 rfl (by decide) (by decide) rfl (by decide) ?_
  refine q_aload_n (j := 0) X dL_call_291 rfl rfl ?_
  refine q_iload_n (j := 2) X dL_call_292 rfl rfl ?_
  refine qG_ownW X hW hZ (fun _ h => h) YT_ok [.ref (ad o 0 1), .int p0] [] rfl rfl (Nat.le_of_ble_eq_true rfl) dL_call_293 ⟨(Nat.le_of_ble_eq_true rfl), (Nat.le_of_ble_eq_true rfl)⟩ (k_L_tryOpen ha hst o p0 g hk) rfl rfl (gSW kw_4_52 kw_4_53 kw_1_0 kw_4_54) hy_L_tryOpen.2 ⟨(Nat.le_of_ble_eq_true rfl), (Nat.le_of_ble_eq_true rfl)⟩ (fun r g9 hq => ?_)
  exact hE _ _ _ _ _ _ dL_call_296 (Nat.le_of_ble_eq_true rfl) (Nat.le_of_ble_eq_true rfl) hq
set_option maxRecDepth 100000 in
set_option maxHeartbeats 4000000 in
theorem k_C_9 {l : Launch} {D : va_G} {cA : Nat → ClassId} {ad : Bool → Nat → Nat → Nat} {A : Bool → Nat → Prop} (ha : AG ad A) (hst : l.stackTraces = false) (o : Bool) (p0 p1 p2 : Int32) (g : Gh) (hk : g.2 + 1 ≤ 2400) : Met l yL_call (.code yL_call cL_call 5 (some .int) :: TG) rm_L_call (PcG D cA ad A [.ref (ad o 0 1), .int 9, .int p0, .int p1, .int p2] g) (QcG D cA ad A (fun r g' => r = (z_tryBreak p0 (g.1 o)).1 ∧ g' = gz g o (z_tryBreak p0 (g.1 o)).2)) 2 12 (AU A) := by
  refine enterGI pl_L rfl (Nat.le_of_ble_eq_true rfl) ?_
  intro p e s m args below meth c QQ X hW hZ hE
  refine q_iload_n (j := 1) X dL_call_0 rfl rfl ?_
  refine q_tabI (k := 9) (tgt := 297) X dL_call_1 rfl (by decide) (by decide) rfl (by decide) ?_
  refine q_aload_n (j := 0) X dL_call_297 rfl rfl ?_
  refine q_iload_n (j := 2) X dL_call_298 rfl rfl ?_
  refine qG_ownW X hW hZ (fun _ h => h) YT_ok [.ref (ad o 0 1), .int p0] [] rfl rfl (Nat.le_of_ble_eq_true rfl) dL_call_299 ⟨(Nat.le_of_ble_eq_true rfl), (Nat.le_of_ble_eq_true rfl)⟩ (k_L_tryBreak ha hst o p0 g hk) rfl rfl (gSW kw_4_63 kw_4_64 kw_1_0 kw_4_65) hy_L_tryBreak.2 ⟨(Nat.le_of_ble_eq_true rfl), (Nat.le_of_ble_eq_true rfl)⟩ (fun r g9 hq => ?_)
  exact hE _ _ _ _ _ _ dL_call_302 (Nat.le_of_ble_eq_true rfl) (Nat.le_of_ble_eq_true rfl) hq
set_option maxRecDepth 100000 in
set_option maxHeartbeats 4000000 in
theorem k_C_10 {l : Launch} {D : va_G} {cA : Nat → ClassId} {ad : Bool → Nat → Nat → Nat} {A : Bool → Nat → Prop} (ha : AG ad A) (hst : l.stackTraces = false) (o : Bool) (p0 p1 p2 : Int32) (g : Gh) (hk : g.2 + 1 ≤ 2400) : Met l yL_call (.code yL_call cL_call 5 (some .int) :: TG) rm_L_call (PcG D cA ad A [.ref (ad o 0 1), .int 10, .int p0, .int p1, .int p2] g) (QcG D cA ad A (fun r g' => r = (z_tryPay p0 (g.1 o)).1 ∧ g' = gz g o (z_tryPay p0 (g.1 o)).2)) 2 12 (AU A) := by
  refine enterGI pl_L rfl (Nat.le_of_ble_eq_true rfl) ?_
  intro p e s m args below meth c QQ X hW hZ hE
  refine q_iload_n (j := 1) X dL_call_0 rfl rfl ?_
  refine q_tabI (k := 10) (tgt := 303) X dL_call_1 rfl (by decide) (by decide) rfl (by decide) ?_
  refine q_aload_n (j := 0) X dL_call_303 rfl rfl ?_
  refine q_iload_n (j := 2) X dL_call_304 rfl rfl ?_
  refine qG_ownW X hW hZ (fun _ h => h) YT_ok [.ref (ad o 0 1), .int p0] [] rfl rfl (Nat.le_of_ble_eq_true rfl) dL_call_305 ⟨(Nat.le_of_ble_eq_true rfl), (Nat.le_of_ble_eq_true rfl)⟩ (k_L_tryPay ha hst o p0 g hk) rfl rfl (gSW kw_4_74 kw_4_75 kw_1_0 kw_4_76) hy_L_tryPay.2 ⟨(Nat.le_of_ble_eq_true rfl), (Nat.le_of_ble_eq_true rfl)⟩ (fun r g9 hq => ?_)
  exact hE _ _ _ _ _ _ dL_call_308 (Nat.le_of_ble_eq_true rfl) (Nat.le_of_ble_eq_true rfl) hq
set_option maxRecDepth 100000 in
set_option maxHeartbeats 4000000 in
theorem k_C_11 {l : Launch} {D : va_G} {cA : Nat → ClassId} {ad : Bool → Nat → Nat → Nat} {A : Bool → Nat → Prop} (ha : AG ad A) (hst : l.stackTraces = false) (o : Bool) (p0 p1 p2 : Int32) (g : Gh) (hk : g.2 + 1 ≤ 2400) : Met l yL_call (.code yL_call cL_call 5 (some .int) :: TG) rm_L_call (PcG D cA ad A [.ref (ad o 0 1), .int 11, .int p0, .int p1, .int p2] g) (QcG D cA ad A (fun r g' => r = (z_trySetBond p0 (g.1 o)).1 ∧ g' = gz g o (z_trySetBond p0 (g.1 o)).2)) 2 12 (AU A) := by
  refine enterGI pl_L rfl (Nat.le_of_ble_eq_true rfl) ?_
  intro p e s m args below meth c QQ X hW hZ hE
  refine q_iload_n (j := 1) X dL_call_0 rfl rfl ?_
  refine q_tabI (k := 11) (tgt := 309) X dL_call_1 rfl (by decide) (by decide) rfl (by decide) ?_
  refine q_aload_n (j := 0) X dL_call_309 rfl rfl ?_
  refine q_iload_n (j := 2) X dL_call_310 rfl rfl ?_
  refine qG_ownW X hW hZ (fun _ h => h) YT_ok [.ref (ad o 0 1), .int p0] [] rfl rfl (Nat.le_of_ble_eq_true rfl) dL_call_311 ⟨(Nat.le_of_ble_eq_true rfl), (Nat.le_of_ble_eq_true rfl)⟩ (k_L_trySetBond ha hst o p0 g hk) rfl rfl (gSW kw_4_95 kw_4_96 kw_1_0 kw_4_97) hy_L_trySetBond.2 ⟨(Nat.le_of_ble_eq_true rfl), (Nat.le_of_ble_eq_true rfl)⟩ (fun r g9 hq => ?_)
  exact hE _ _ _ _ _ _ dL_call_314 (Nat.le_of_ble_eq_true rfl) (Nat.le_of_ble_eq_true rfl) hq
set_option maxRecDepth 100000 in
set_option maxHeartbeats 4000000 in
theorem k_C_12 {l : Launch} {D : va_G} {cA : Nat → ClassId} {ad : Bool → Nat → Nat → Nat} {A : Bool → Nat → Prop} (ha : AG ad A) (hst : l.stackTraces = false) (o : Bool) (p0 p1 p2 : Int32) (g : Gh) (hk : g.2 + 1 ≤ 2400) : Met l yL_call (.code yL_call cL_call 5 (some .int) :: TG) rm_L_call (PcG D cA ad A [.ref (ad o 0 1), .int 12, .int p0, .int p1, .int p2] g) (QcG D cA ad A (fun r g' => r = (z_trySetValue p0 p1 (g.1 o)).1 ∧ g' = gz g o (z_trySetValue p0 p1 (g.1 o)).2)) 2 12 (AU A) := by
  refine enterGI pl_L rfl (Nat.le_of_ble_eq_true rfl) ?_
  intro p e s m args below meth c QQ X hW hZ hE
  refine q_iload_n (j := 1) X dL_call_0 rfl rfl ?_
  refine q_tabI (k := 12) (tgt := 315) X dL_call_1 rfl (by decide) (by decide) rfl (by decide) ?_
  refine q_aload_n (j := 0) X dL_call_315 rfl rfl ?_
  refine q_iload_n (j := 2) X dL_call_316 rfl rfl ?_
  refine q_iload_n (j := 3) X dL_call_317 rfl rfl ?_
  refine qG_ownW X hW hZ (fun _ h => h) YT_ok [.ref (ad o 0 1), .int p0, .int p1] [] rfl rfl (Nat.le_of_ble_eq_true rfl) dL_call_318 ⟨(Nat.le_of_ble_eq_true rfl), (Nat.le_of_ble_eq_true rfl)⟩ (k_L_trySetValue ha hst o p0 p1 g hk) rfl rfl (gSW kw_4_108 kw_4_109 kw_1_0 kw_4_110) hy_L_trySetValue.2 ⟨(Nat.le_of_ble_eq_true rfl), (Nat.le_of_ble_eq_true rfl)⟩ (fun r g9 hq => ?_)
  exact hE _ _ _ _ _ _ dL_call_321 (Nat.le_of_ble_eq_true rfl) (Nat.le_of_ble_eq_true rfl) hq
set_option maxRecDepth 100000 in
set_option maxHeartbeats 4000000 in
theorem k_C_13 {l : Launch} {D : va_G} {cA : Nat → ClassId} {ad : Bool → Nat → Nat → Nat} {A : Bool → Nat → Prop} (ha : AG ad A) (hst : l.stackTraces = false) (o : Bool) (p0 p1 p2 : Int32) (g : Gh) (hk : g.2 + 1 ≤ 2400) : Met l yL_call (.code yL_call cL_call 5 (some .int) :: TG) rm_L_call (PcG D cA ad A [.ref (ad o 0 1), .int 13, .int p0, .int p1, .int p2] g) (QcG D cA ad A (fun r g' => r = (z_trySetWeight p0 p1 (g.1 o)).1 ∧ g' = gz g o (z_trySetWeight p0 p1 (g.1 o)).2)) 2 12 (AU A) := by
  refine enterGI pl_L rfl (Nat.le_of_ble_eq_true rfl) ?_
  intro p e s m args below meth c QQ X hW hZ hE
  refine q_iload_n (j := 1) X dL_call_0 rfl rfl ?_
  refine q_tabI (k := 13) (tgt := 322) X dL_call_1 rfl (by decide) (by decide) rfl (by decide) ?_
  refine q_aload_n (j := 0) X dL_call_322 rfl rfl ?_
  refine q_iload_n (j := 2) X dL_call_323 rfl rfl ?_
  refine q_iload_n (j := 3) X dL_call_324 rfl rfl ?_
  refine qG_ownW X hW hZ (fun _ h => h) YT_ok [.ref (ad o 0 1), .int p0, .int p1] [] rfl rfl (Nat.le_of_ble_eq_true rfl) dL_call_325 ⟨(Nat.le_of_ble_eq_true rfl), (Nat.le_of_ble_eq_true rfl)⟩ (k_L_trySetWeight ha hst o p0 p1 g hk) rfl rfl (gSW kw_4_119 kw_4_120 kw_1_0 kw_4_121) hy_L_trySetWeight.2 ⟨(Nat.le_of_ble_eq_true rfl), (Nat.le_of_ble_eq_true rfl)⟩ (fun r g9 hq => ?_)
  exact hE _ _ _ _ _ _ dL_call_328 (Nat.le_of_ble_eq_true rfl) (Nat.le_of_ble_eq_true rfl) hq
set_option maxRecDepth 100000 in
set_option maxHeartbeats 4000000 in
theorem k_C_14 {l : Launch} {D : va_G} {cA : Nat → ClassId} {ad : Bool → Nat → Nat → Nat} {A : Bool → Nat → Prop} (ha : AG ad A) (hst : l.stackTraces = false) (o : Bool) (p0 p1 p2 : Int32) (g : Gh) (hk : g.2 + 1 ≤ 2400) : Met l yL_call (.code yL_call cL_call 5 (some .int) :: TG) rm_L_call (PcG D cA ad A [.ref (ad o 0 1), .int 14, .int p0, .int p1, .int p2] g) (QcG D cA ad A (fun r g' => r = (z_tryPass p0 (g.1 o)).1 ∧ g' = gz g o (z_tryPass p0 (g.1 o)).2)) 2 12 (AU A) := by
  refine enterGI pl_L rfl (Nat.le_of_ble_eq_true rfl) ?_
  intro p e s m args below meth c QQ X hW hZ hE
  refine q_iload_n (j := 1) X dL_call_0 rfl rfl ?_
  refine q_tabI (k := 14) (tgt := 329) X dL_call_1 rfl (by decide) (by decide) rfl (by decide) ?_
  refine q_aload_n (j := 0) X dL_call_329 rfl rfl ?_
  refine q_iload_n (j := 2) X dL_call_330 rfl rfl ?_
  refine qG_ownW X hW hZ (fun _ h => h) YT_ok [.ref (ad o 0 1), .int p0] [] rfl rfl (Nat.le_of_ble_eq_true rfl) dL_call_331 ⟨(Nat.le_of_ble_eq_true rfl), (Nat.le_of_ble_eq_true rfl)⟩ (k_L_tryPass ha hst o p0 g hk) rfl rfl (gSW kw_4_130 kw_4_131 kw_1_0 kw_4_132) hy_L_tryPass.2 ⟨(Nat.le_of_ble_eq_true rfl), (Nat.le_of_ble_eq_true rfl)⟩ (fun r g9 hq => ?_)
  exact hE _ _ _ _ _ _ dL_call_334 (Nat.le_of_ble_eq_true rfl) (Nat.le_of_ble_eq_true rfl) hq
set_option maxRecDepth 100000 in
set_option maxHeartbeats 4000000 in
theorem k_C_15 {l : Launch} {D : va_G} {cA : Nat → ClassId} {ad : Bool → Nat → Nat → Nat} {A : Bool → Nat → Prop} (ha : AG ad A) (hst : l.stackTraces = false) (o : Bool) (p0 p1 p2 : Int32) (g : Gh) (hk : g.2 ≤ 2400) : Met l yL_call (.code yL_call cL_call 5 (some .int) :: TG) rm_L_call (PcG D cA ad A [.ref (ad o 0 1), .int 15, .int p0, .int p1, .int p2] g) (QcG D cA ad A (fun r g' => r = y_tryAt p0 (g.1 o) ∧ g' = g)) 2 12 (AU A) := by
  refine enterGI pl_L rfl (Nat.le_of_ble_eq_true rfl) ?_
  intro p e s m args below meth c QQ X hW hZ hE
  refine q_iload_n (j := 1) X dL_call_0 rfl rfl ?_
  refine q_tabI (k := 15) (tgt := 335) X dL_call_1 rfl (by decide) (by decide) rfl (by decide) ?_
  refine q_aload_n (j := 0) X dL_call_335 rfl rfl ?_
  refine q_iload_n (j := 2) X dL_call_336 rfl rfl ?_
  refine qG_ownW X hW hZ (fun _ h => h) YT_ok [.ref (ad o 0 1), .int p0] [] rfl rfl (Nat.le_of_ble_eq_true rfl) dL_call_337 ⟨(Nat.le_of_ble_eq_true rfl), (Nat.le_of_ble_eq_true rfl)⟩ (k_L_tryAt ha hst o p0 g hk) rfl rfl (gSW kw_4_146 kw_4_147 kw_1_0 kw_4_148) hy_L_tryAt.2 ⟨(Nat.le_of_ble_eq_true rfl), (Nat.le_of_ble_eq_true rfl)⟩ (fun r g9 hq => ?_)
  exact hE _ _ _ _ _ _ dL_call_340 (Nat.le_of_ble_eq_true rfl) (Nat.le_of_ble_eq_true rfl) hq
set_option maxRecDepth 100000 in
set_option maxHeartbeats 4000000 in
theorem k_C_16 {l : Launch} {D : va_G} {cA : Nat → ClassId} {ad : Bool → Nat → Nat → Nat} {A : Bool → Nat → Prop} (ha : AG ad A) (hst : l.stackTraces = false) (o : Bool) (p0 p1 p2 : Int32) (g : Gh) (hk : g.2 ≤ 2400) : Met l yL_call (.code yL_call cL_call 5 (some .int) :: TG) rm_L_call (PcG D cA ad A [.ref (ad o 0 1), .int 16, .int p0, .int p1, .int p2] g) (QcG D cA ad A (fun r g' => r = y_tryKind p0 (g.1 o) ∧ g' = g)) 2 12 (AU A) := by
  refine enterGI pl_L rfl (Nat.le_of_ble_eq_true rfl) ?_
  intro p e s m args below meth c QQ X hW hZ hE
  refine q_iload_n (j := 1) X dL_call_0 rfl rfl ?_
  refine q_tabI (k := 16) (tgt := 341) X dL_call_1 rfl (by decide) (by decide) rfl (by decide) ?_
  refine q_aload_n (j := 0) X dL_call_341 rfl rfl ?_
  refine q_iload_n (j := 2) X dL_call_342 rfl rfl ?_
  refine qG_ownW X hW hZ (fun _ h => h) YT_ok [.ref (ad o 0 1), .int p0] [] rfl rfl (Nat.le_of_ble_eq_true rfl) dL_call_343 ⟨(Nat.le_of_ble_eq_true rfl), (Nat.le_of_ble_eq_true rfl)⟩ (k_L_tryKind ha hst o p0 g hk) rfl rfl (gSW kw_4_154 kw_4_155 kw_1_0 kw_4_156) hy_L_tryKind.2 ⟨(Nat.le_of_ble_eq_true rfl), (Nat.le_of_ble_eq_true rfl)⟩ (fun r g9 hq => ?_)
  exact hE _ _ _ _ _ _ dL_call_346 (Nat.le_of_ble_eq_true rfl) (Nat.le_of_ble_eq_true rfl) hq
set_option maxRecDepth 100000 in
set_option maxHeartbeats 4000000 in
theorem k_C_17 {l : Launch} {D : va_G} {cA : Nat → ClassId} {ad : Bool → Nat → Nat → Nat} {A : Bool → Nat → Prop} (ha : AG ad A) (hst : l.stackTraces = false) (o : Bool) (p0 p1 p2 : Int32) (g : Gh) (hk : g.2 ≤ 2400) : Met l yL_call (.code yL_call cL_call 5 (some .int) :: TG) rm_L_call (PcG D cA ad A [.ref (ad o 0 1), .int 17, .int p0, .int p1, .int p2] g) (QcG D cA ad A (fun r g' => r = y_tryWeight p0 (g.1 o) ∧ g' = g)) 2 12 (AU A) := by
  refine enterGI pl_L rfl (Nat.le_of_ble_eq_true rfl) ?_
  intro p e s m args below meth c QQ X hW hZ hE
  refine q_iload_n (j := 1) X dL_call_0 rfl rfl ?_
  refine q_tabI (k := 17) (tgt := 347) X dL_call_1 rfl (by decide) (by decide) rfl (by decide) ?_
  refine q_aload_n (j := 0) X dL_call_347 rfl rfl ?_
  refine q_iload_n (j := 2) X dL_call_348 rfl rfl ?_
  refine qG_ownW X hW hZ (fun _ h => h) YT_ok [.ref (ad o 0 1), .int p0] [] rfl rfl (Nat.le_of_ble_eq_true rfl) dL_call_349 ⟨(Nat.le_of_ble_eq_true rfl), (Nat.le_of_ble_eq_true rfl)⟩ (k_L_tryWeight ha hst o p0 g hk) rfl rfl (gSW kw_4_167 kw_4_168 kw_1_0 kw_4_169) hy_L_tryWeight.2 ⟨(Nat.le_of_ble_eq_true rfl), (Nat.le_of_ble_eq_true rfl)⟩ (fun r g9 hq => ?_)
  exact hE _ _ _ _ _ _ dL_call_352 (Nat.le_of_ble_eq_true rfl) (Nat.le_of_ble_eq_true rfl) hq
set_option maxRecDepth 100000 in
set_option maxHeartbeats 4000000 in
theorem k_C_18 {l : Launch} {D : va_G} {cA : Nat → ClassId} {ad : Bool → Nat → Nat → Nat} {A : Bool → Nat → Prop} (ha : AG ad A) (hst : l.stackTraces = false) (o : Bool) (p0 p1 p2 : Int32) (g : Gh) (hk : g.2 ≤ 2400) : Met l yL_call (.code yL_call cL_call 5 (some .int) :: TG) rm_L_call (PcG D cA ad A [.ref (ad o 0 1), .int 18, .int p0, .int p1, .int p2] g) (QcG D cA ad A (fun r g' => r = y_tryValue p0 (g.1 o) ∧ g' = g)) 2 12 (AU A) := by
  refine enterGI pl_L rfl (Nat.le_of_ble_eq_true rfl) ?_
  intro p e s m args below meth c QQ X hW hZ hE
  refine q_iload_n (j := 1) X dL_call_0 rfl rfl ?_
  refine q_tabI (k := 18) (tgt := 353) X dL_call_1 rfl (by decide) (by decide) rfl (by decide) ?_
  refine q_aload_n (j := 0) X dL_call_353 rfl rfl ?_
  refine q_iload_n (j := 2) X dL_call_354 rfl rfl ?_
  refine qG_ownW X hW hZ (fun _ h => h) YT_ok [.ref (ad o 0 1), .int p0] [] rfl rfl (Nat.le_of_ble_eq_true rfl) dL_call_355 ⟨(Nat.le_of_ble_eq_true rfl), (Nat.le_of_ble_eq_true rfl)⟩ (k_L_tryValue ha hst o p0 g hk) rfl rfl (gSW kw_4_174 kw_4_175 kw_1_0 kw_4_176) hy_L_tryValue.2 ⟨(Nat.le_of_ble_eq_true rfl), (Nat.le_of_ble_eq_true rfl)⟩ (fun r g9 hq => ?_)
  exact hE _ _ _ _ _ _ dL_call_358 (Nat.le_of_ble_eq_true rfl) (Nat.le_of_ble_eq_true rfl) hq
set_option maxRecDepth 100000 in
set_option maxHeartbeats 4000000 in
theorem k_C_19 {l : Launch} {D : va_G} {cA : Nat → ClassId} {ad : Bool → Nat → Nat → Nat} {A : Bool → Nat → Prop} (ha : AG ad A) (hst : l.stackTraces = false) (o : Bool) (p0 p1 p2 : Int32) (g : Gh) (hk : g.2 ≤ 2400) : Met l yL_call (.code yL_call cL_call 5 (some .int) :: TG) rm_L_call (PcG D cA ad A [.ref (ad o 0 1), .int 19, .int p0, .int p1, .int p2] g) (QcG D cA ad A (fun r g' => r = y_tryChamber p0 (g.1 o) ∧ g' = g)) 2 12 (AU A) := by
  refine enterGI pl_L rfl (Nat.le_of_ble_eq_true rfl) ?_
  intro p e s m args below meth c QQ X hW hZ hE
  refine q_iload_n (j := 1) X dL_call_0 rfl rfl ?_
  refine q_tabI (k := 19) (tgt := 359) X dL_call_1 rfl (by decide) (by decide) rfl (by decide) ?_
  refine q_aload_n (j := 0) X dL_call_359 rfl rfl ?_
  refine q_iload_n (j := 2) X dL_call_360 rfl rfl ?_
  refine qG_ownW X hW hZ (fun _ h => h) YT_ok [.ref (ad o 0 1), .int p0] [] rfl rfl (Nat.le_of_ble_eq_true rfl) dL_call_361 ⟨(Nat.le_of_ble_eq_true rfl), (Nat.le_of_ble_eq_true rfl)⟩ (k_L_tryChamber ha hst o p0 g hk) rfl rfl (gSW kw_4_181 kw_4_182 kw_1_0 kw_4_183) hy_L_tryChamber.2 ⟨(Nat.le_of_ble_eq_true rfl), (Nat.le_of_ble_eq_true rfl)⟩ (fun r g9 hq => ?_)
  exact hE _ _ _ _ _ _ dL_call_364 (Nat.le_of_ble_eq_true rfl) (Nat.le_of_ble_eq_true rfl) hq
set_option maxRecDepth 100000 in
set_option maxHeartbeats 4000000 in
theorem k_C_20 {l : Launch} {D : va_G} {cA : Nat → ClassId} {ad : Bool → Nat → Nat → Nat} {A : Bool → Nat → Prop} (ha : AG ad A) (hst : l.stackTraces = false) (o : Bool) (p0 p1 p2 : Int32) (g : Gh) (hk : g.2 ≤ 2400) : Met l yL_call (.code yL_call cL_call 5 (some .int) :: TG) rm_L_call (PcG D cA ad A [.ref (ad o 0 1), .int 20, .int p0, .int p1, .int p2] g) (QcG D cA ad A (fun r g' => r = y_tryAge p0 (g.1 o) ∧ g' = g)) 2 12 (AU A) := by
  refine enterGI pl_L rfl (Nat.le_of_ble_eq_true rfl) ?_
  intro p e s m args below meth c QQ X hW hZ hE
  refine q_iload_n (j := 1) X dL_call_0 rfl rfl ?_
  refine q_tabI (k := 20) (tgt := 365) X dL_call_1 rfl (by decide) (by decide) rfl (by decide) ?_
  refine q_aload_n (j := 0) X dL_call_365 rfl rfl ?_
  refine q_iload_n (j := 2) X dL_call_366 rfl rfl ?_
  refine qG_ownW X hW hZ (fun _ h => h) YT_ok [.ref (ad o 0 1), .int p0] [] rfl rfl (Nat.le_of_ble_eq_true rfl) dL_call_367 ⟨(Nat.le_of_ble_eq_true rfl), (Nat.le_of_ble_eq_true rfl)⟩ (k_L_tryAge ha hst o p0 g hk) rfl rfl (gSW kw_4_188 kw_4_189 kw_1_0 kw_4_190) hy_L_tryAge.2 ⟨(Nat.le_of_ble_eq_true rfl), (Nat.le_of_ble_eq_true rfl)⟩ (fun r g9 hq => ?_)
  exact hE _ _ _ _ _ _ dL_call_370 (Nat.le_of_ble_eq_true rfl) (Nat.le_of_ble_eq_true rfl) hq
set_option maxRecDepth 100000 in
set_option maxHeartbeats 4000000 in
theorem k_C_21 {l : Launch} {D : va_G} {cA : Nat → ClassId} {ad : Bool → Nat → Nat → Nat} {A : Bool → Nat → Prop} (ha : AG ad A) (hst : l.stackTraces = false) (o : Bool) (p0 p1 p2 : Int32) (g : Gh) (hk : g.2 ≤ 2400) : Met l yL_call (.code yL_call cL_call 5 (some .int) :: TG) rm_L_call (PcG D cA ad A [.ref (ad o 0 1), .int 21, .int p0, .int p1, .int p2] g) (QcG D cA ad A (fun r g' => r = y_tryPart p0 p1 (g.1 o) ∧ g' = g)) 2 12 (AU A) := by
  refine enterGI pl_L rfl (Nat.le_of_ble_eq_true rfl) ?_
  intro p e s m args below meth c QQ X hW hZ hE
  refine q_iload_n (j := 1) X dL_call_0 rfl rfl ?_
  refine q_tabI (k := 21) (tgt := 371) X dL_call_1 rfl (by decide) (by decide) rfl (by decide) ?_
  refine q_aload_n (j := 0) X dL_call_371 rfl rfl ?_
  refine q_iload_n (j := 2) X dL_call_372 rfl rfl ?_
  refine q_iload_n (j := 3) X dL_call_373 rfl rfl ?_
  refine qG_ownW X hW hZ (fun _ h => h) YT_ok [.ref (ad o 0 1), .int p0, .int p1] [] rfl rfl (Nat.le_of_ble_eq_true rfl) dL_call_374 ⟨(Nat.le_of_ble_eq_true rfl), (Nat.le_of_ble_eq_true rfl)⟩ (k_L_tryPart ha hst o p0 p1 g hk) rfl rfl (gSW kw_4_196 kw_4_197 kw_1_0 kw_4_198) hy_L_tryPart.2 ⟨(Nat.le_of_ble_eq_true rfl), (Nat.le_of_ble_eq_true rfl)⟩ (fun r g9 hq => ?_)
  exact hE _ _ _ _ _ _ dL_call_377 (Nat.le_of_ble_eq_true rfl) (Nat.le_of_ble_eq_true rfl) hq
set_option maxRecDepth 100000 in
set_option maxHeartbeats 4000000 in
theorem k_C_22 {l : Launch} {D : va_G} {cA : Nat → ClassId} {ad : Bool → Nat → Nat → Nat} {A : Bool → Nat → Prop} (ha : AG ad A) (hst : l.stackTraces = false) (o : Bool) (p0 p1 p2 : Int32) (g : Gh) (hk : g.2 ≤ 2400) : Met l yL_call (.code yL_call cL_call 5 (some .int) :: TG) rm_L_call (PcG D cA ad A [.ref (ad o 0 1), .int 22, .int p0, .int p1, .int p2] g) (QcG D cA ad A (fun r g' => r = y_tryDuty p0 (g.1 o) ∧ g' = g)) 2 12 (AU A) := by
  refine enterGI pl_L rfl (Nat.le_of_ble_eq_true rfl) ?_
  intro p e s m args below meth c QQ X hW hZ hE
  refine q_iload_n (j := 1) X dL_call_0 rfl rfl ?_
  refine q_tabI (k := 22) (tgt := 378) X dL_call_1 rfl (by decide) (by decide) rfl (by decide) ?_
  refine q_aload_n (j := 0) X dL_call_378 rfl rfl ?_
  refine q_iload_n (j := 2) X dL_call_379 rfl rfl ?_
  refine qG_ownW X hW hZ (fun _ h => h) YT_ok [.ref (ad o 0 1), .int p0] [] rfl rfl (Nat.le_of_ble_eq_true rfl) dL_call_380 ⟨(Nat.le_of_ble_eq_true rfl), (Nat.le_of_ble_eq_true rfl)⟩ (k_L_tryDuty ha hst o p0 g hk) rfl rfl (gSW kw_4_207 kw_4_208 kw_1_0 kw_4_209) hy_L_tryDuty.2 ⟨(Nat.le_of_ble_eq_true rfl), (Nat.le_of_ble_eq_true rfl)⟩ (fun r g9 hq => ?_)
  exact hE _ _ _ _ _ _ dL_call_383 (Nat.le_of_ble_eq_true rfl) (Nat.le_of_ble_eq_true rfl) hq
set_option maxRecDepth 100000 in
set_option maxHeartbeats 4000000 in
theorem k_C_23 {l : Launch} {D : va_G} {cA : Nat → ClassId} {ad : Bool → Nat → Nat → Nat} {A : Bool → Nat → Prop} (ha : AG ad A) (hst : l.stackTraces = false) (o : Bool) (p0 p1 p2 : Int32) (g : Gh) (hk : g.2 ≤ 2400) : Met l yL_call (.code yL_call cL_call 5 (some .int) :: TG) rm_L_call (PcG D cA ad A [.ref (ad o 0 1), .int 23, .int p0, .int p1, .int p2] g) (QcG D cA ad A (fun r g' => r = y_tryAllowed p0 (g.1 o) ∧ g' = g)) 2 12 (AU A) := by
  refine enterGI pl_L rfl (Nat.le_of_ble_eq_true rfl) ?_
  intro p e s m args below meth c QQ X hW hZ hE
  refine q_iload_n (j := 1) X dL_call_0 rfl rfl ?_
  refine q_tabI (k := 23) (tgt := 384) X dL_call_1 rfl (by decide) (by decide) rfl (by decide) ?_
  refine q_aload_n (j := 0) X dL_call_384 rfl rfl ?_
  refine q_iload_n (j := 2) X dL_call_385 rfl rfl ?_
  refine qG_ownW X hW hZ (fun _ h => h) YT_ok [.ref (ad o 0 1), .int p0] [] rfl rfl (Nat.le_of_ble_eq_true rfl) dL_call_386 ⟨(Nat.le_of_ble_eq_true rfl), (Nat.le_of_ble_eq_true rfl)⟩ (k_L_tryAllowed ha hst o p0 g hk) rfl rfl (gSW kw_4_215 kw_4_216 kw_1_0 kw_4_217) hy_L_tryAllowed.2 ⟨(Nat.le_of_ble_eq_true rfl), (Nat.le_of_ble_eq_true rfl)⟩ (fun r g9 hq => ?_)
  exact hE _ _ _ _ _ _ dL_call_389 (Nat.le_of_ble_eq_true rfl) (Nat.le_of_ble_eq_true rfl) hq
set_option maxRecDepth 100000 in
set_option maxHeartbeats 4000000 in
theorem k_C_24 {l : Launch} {D : va_G} {cA : Nat → ClassId} {ad : Bool → Nat → Nat → Nat} {A : Bool → Nat → Prop} (ha : AG ad A) (hst : l.stackTraces = false) (o : Bool) (p0 p1 p2 : Int32) (g : Gh) (hk : g.2 ≤ 2400) : Met l yL_call (.code yL_call cL_call 5 (some .int) :: TG) rm_L_call (PcG D cA ad A [.ref (ad o 0 1), .int 24, .int p0, .int p1, .int p2] g) (QcG D cA ad A (fun r g' => r = y_trySeal p0 (g.1 o) ∧ g' = g)) 2 12 (AU A) := by
  refine enterGI pl_L rfl (Nat.le_of_ble_eq_true rfl) ?_
  intro p e s m args below meth c QQ X hW hZ hE
  refine q_iload_n (j := 1) X dL_call_0 rfl rfl ?_
  refine q_tabI (k := 24) (tgt := 390) X dL_call_1 rfl (by decide) (by decide) rfl (by decide) ?_
  refine q_aload_n (j := 0) X dL_call_390 rfl rfl ?_
  refine q_iload_n (j := 2) X dL_call_391 rfl rfl ?_
  refine qG_ownW X hW hZ (fun _ h => h) YT_ok [.ref (ad o 0 1), .int p0] [] rfl rfl (Nat.le_of_ble_eq_true rfl) dL_call_392 ⟨(Nat.le_of_ble_eq_true rfl), (Nat.le_of_ble_eq_true rfl)⟩ (k_L_trySeal ha hst o p0 g hk) rfl rfl (gSW kw_4_223 kw_4_224 kw_1_0 kw_4_225) hy_L_trySeal.2 ⟨(Nat.le_of_ble_eq_true rfl), (Nat.le_of_ble_eq_true rfl)⟩ (fun r g9 hq => ?_)
  exact hE _ _ _ _ _ _ dL_call_395 (Nat.le_of_ble_eq_true rfl) (Nat.le_of_ble_eq_true rfl) hq
set_option maxRecDepth 100000 in
set_option maxHeartbeats 4000000 in
theorem k_C_26 {l : Launch} {D : va_G} {cA : Nat → ClassId} {ad : Bool → Nat → Nat → Nat} {A : Bool → Nat → Prop} (ha : AG ad A) (hst : l.stackTraces = false) (o : Bool) (p0 p1 p2 : Int32) (g : Gh) (hk : g.2 ≤ 2400) : Met l yL_call (.code yL_call cL_call 5 (some .int) :: TG) rm_L_call (PcG D cA ad A [.ref (ad o 0 1), .int 26, .int p0, .int p1, .int p2] g) (QcG D cA ad A (fun r g' => r = y_tryRoom p0 (g.1 o) ∧ g' = g)) 2 12 (AU A) := by
  refine enterGI pl_L rfl (Nat.le_of_ble_eq_true rfl) ?_
  intro p e s m args below meth c QQ X hW hZ hE
  refine q_iload_n (j := 1) X dL_call_0 rfl rfl ?_
  refine q_tabI (k := 26) (tgt := 402) X dL_call_1 rfl (by decide) (by decide) rfl (by decide) ?_
  refine q_aload_n (j := 0) X dL_call_402 rfl rfl ?_
  refine q_iload_n (j := 2) X dL_call_403 rfl rfl ?_
  refine qG_ownW X hW hZ (fun _ h => h) YT_ok [.ref (ad o 0 1), .int p0] [] rfl rfl (Nat.le_of_ble_eq_true rfl) dL_call_404 ⟨(Nat.le_of_ble_eq_true rfl), (Nat.le_of_ble_eq_true rfl)⟩ (k_L_tryRoom ha hst o p0 g hk) rfl rfl (gSW kw_5_9 kw_5_10 kw_1_0 kw_5_11) hy_L_tryRoom.2 ⟨(Nat.le_of_ble_eq_true rfl), (Nat.le_of_ble_eq_true rfl)⟩ (fun r g9 hq => ?_)
  exact hE _ _ _ _ _ _ dL_call_407 (Nat.le_of_ble_eq_true rfl) (Nat.le_of_ble_eq_true rfl) hq
set_option maxRecDepth 100000 in
set_option maxHeartbeats 4000000 in
theorem k_C_28 {l : Launch} {D : va_G} {cA : Nat → ClassId} {ad : Bool → Nat → Nat → Nat} {A : Bool → Nat → Prop} (ha : AG ad A) (hst : l.stackTraces = false) (o : Bool) (p0 p1 p2 : Int32) (g : Gh) (hk : g.2 ≤ 2400) : Met l yL_call (.code yL_call cL_call 5 (some .int) :: TG) rm_L_call (PcG D cA ad A [.ref (ad o 0 1), .int 28, .int p0, .int p1, .int p2] g) (QcG D cA ad A (fun r g' => r = y_tryPaper p0 (g.1 o) ∧ g' = g)) 2 12 (AU A) := by
  refine enterGI pl_L rfl (Nat.le_of_ble_eq_true rfl) ?_
  intro p e s m args below meth c QQ X hW hZ hE
  refine q_iload_n (j := 1) X dL_call_0 rfl rfl ?_
  refine q_tabI (k := 28) (tgt := 414) X dL_call_1 rfl (by decide) (by decide) rfl (by decide) ?_
  refine q_aload_n (j := 0) X dL_call_414 rfl rfl ?_
  refine q_iload_n (j := 2) X dL_call_415 rfl rfl ?_
  refine qG_ownW X hW hZ (fun _ h => h) YT_ok [.ref (ad o 0 1), .int p0] [] rfl rfl (Nat.le_of_ble_eq_true rfl) dL_call_416 ⟨(Nat.le_of_ble_eq_true rfl), (Nat.le_of_ble_eq_true rfl)⟩ (k_L_tryPaper ha hst o p0 g hk) rfl rfl (gSW kw_5_30 kw_5_31 kw_1_0 kw_5_32) hy_L_tryPaper.2 ⟨(Nat.le_of_ble_eq_true rfl), (Nat.le_of_ble_eq_true rfl)⟩ (fun r g9 hq => ?_)
  exact hE _ _ _ _ _ _ dL_call_419 (Nat.le_of_ble_eq_true rfl) (Nat.le_of_ble_eq_true rfl) hq
set_option maxRecDepth 100000 in
set_option maxHeartbeats 4000000 in
theorem k_C_29 {l : Launch} {D : va_G} {cA : Nat → ClassId} {ad : Bool → Nat → Nat → Nat} {A : Bool → Nat → Prop} (ha : AG ad A) (hst : l.stackTraces = false) (o : Bool) (p0 p1 p2 : Int32) (g : Gh) (hk : g.2 ≤ 2400) : Met l yL_call (.code yL_call cL_call 5 (some .int) :: TG) rm_L_call (PcG D cA ad A [.ref (ad o 0 1), .int 29, .int p0, .int p1, .int p2] g) (QcG D cA ad A (fun r g' => r = y_tryPaperDuty p0 (g.1 o) ∧ g' = g)) 2 12 (AU A) := by
  refine enterGI pl_L rfl (Nat.le_of_ble_eq_true rfl) ?_
  intro p e s m args below meth c QQ X hW hZ hE
  refine q_iload_n (j := 1) X dL_call_0 rfl rfl ?_
  refine q_tabI (k := 29) (tgt := 420) X dL_call_1 rfl (by decide) (by decide) rfl (by decide) ?_
  refine q_aload_n (j := 0) X dL_call_420 rfl rfl ?_
  refine q_iload_n (j := 2) X dL_call_421 rfl rfl ?_
  refine qG_ownW X hW hZ (fun _ h => h) YT_ok [.ref (ad o 0 1), .int p0] [] rfl rfl (Nat.le_of_ble_eq_true rfl) dL_call_422 ⟨(Nat.le_of_ble_eq_true rfl), (Nat.le_of_ble_eq_true rfl)⟩ (k_L_tryPaperDuty ha hst o p0 g hk) rfl rfl (gSW kw_5_37 kw_5_38 kw_1_0 kw_5_39) hy_L_tryPaperDuty.2 ⟨(Nat.le_of_ble_eq_true rfl), (Nat.le_of_ble_eq_true rfl)⟩ (fun r g9 hq => ?_)
  exact hE _ _ _ _ _ _ dL_call_425 (Nat.le_of_ble_eq_true rfl) (Nat.le_of_ble_eq_true rfl) hq
set_option maxRecDepth 100000 in
set_option maxHeartbeats 4000000 in
theorem k_C_30 {l : Launch} {D : va_G} {cA : Nat → ClassId} {ad : Bool → Nat → Nat → Nat} {A : Bool → Nat → Prop} (ha : AG ad A) (hst : l.stackTraces = false) (o : Bool) (p0 p1 p2 : Int32) (g : Gh) (hk : g.2 ≤ 2400) : Met l yL_call (.code yL_call cL_call 5 (some .int) :: TG) rm_L_call (PcG D cA ad A [.ref (ad o 0 1), .int 30, .int p0, .int p1, .int p2] g) (QcG D cA ad A (fun r g' => r = y_tryPaperAge p0 (g.1 o) ∧ g' = g)) 2 12 (AU A) := by
  refine enterGI pl_L rfl (Nat.le_of_ble_eq_true rfl) ?_
  intro p e s m args below meth c QQ X hW hZ hE
  refine q_iload_n (j := 1) X dL_call_0 rfl rfl ?_
  refine q_tabI (k := 30) (tgt := 426) X dL_call_1 rfl (by decide) (by decide) rfl (by decide) ?_
  refine q_aload_n (j := 0) X dL_call_426 rfl rfl ?_
  refine q_iload_n (j := 2) X dL_call_427 rfl rfl ?_
  refine qG_ownW X hW hZ (fun _ h => h) YT_ok [.ref (ad o 0 1), .int p0] [] rfl rfl (Nat.le_of_ble_eq_true rfl) dL_call_428 ⟨(Nat.le_of_ble_eq_true rfl), (Nat.le_of_ble_eq_true rfl)⟩ (k_L_tryPaperAge ha hst o p0 g hk) rfl rfl (gSW kw_5_44 kw_5_45 kw_1_0 kw_5_46) hy_L_tryPaperAge.2 ⟨(Nat.le_of_ble_eq_true rfl), (Nat.le_of_ble_eq_true rfl)⟩ (fun r g9 hq => ?_)
  exact hE _ _ _ _ _ _ dL_call_431 (Nat.le_of_ble_eq_true rfl) (Nat.le_of_ble_eq_true rfl) hq
set_option maxRecDepth 100000 in
set_option maxHeartbeats 4000000 in
theorem k_C_31 {l : Launch} {D : va_G} {cA : Nat → ClassId} {ad : Bool → Nat → Nat → Nat} {A : Bool → Nat → Prop} (ha : AG ad A) (hst : l.stackTraces = false) (o : Bool) (p0 p1 p2 : Int32) (g : Gh) (hk : g.2 ≤ 2400) : Met l yL_call (.code yL_call cL_call 5 (some .int) :: TG) rm_L_call (PcG D cA ad A [.ref (ad o 0 1), .int 31, .int p0, .int p1, .int p2] g) (QcG D cA ad A (fun r g' => r = y_tryByValue p0 (g.1 o) ∧ g' = g)) 2 12 (AU A) := by
  refine enterGI pl_L rfl (Nat.le_of_ble_eq_true rfl) ?_
  intro p e s m args below meth c QQ X hW hZ hE
  refine q_iload_n (j := 1) X dL_call_0 rfl rfl ?_
  refine q_tabI (k := 31) (tgt := 432) X dL_call_1 rfl (by decide) (by decide) rfl (by decide) ?_
  refine q_aload_n (j := 0) X dL_call_432 rfl rfl ?_
  refine q_iload_n (j := 2) X dL_call_433 rfl rfl ?_
  refine qG_ownW X hW hZ (fun _ h => h) YT_ok [.ref (ad o 0 1), .int p0] [] rfl rfl (Nat.le_of_ble_eq_true rfl) dL_call_434 ⟨(Nat.le_of_ble_eq_true rfl), (Nat.le_of_ble_eq_true rfl)⟩ (k_L_tryByValue ha hst o p0 g hk) rfl rfl (gSW kw_5_51 kw_5_52 kw_1_0 kw_5_53) hy_L_tryByValue.2 ⟨(Nat.le_of_ble_eq_true rfl), (Nat.le_of_ble_eq_true rfl)⟩ (fun r g9 hq => ?_)
  exact hE _ _ _ _ _ _ dL_call_437 (Nat.le_of_ble_eq_true rfl) (Nat.le_of_ble_eq_true rfl) hq
set_option maxRecDepth 100000 in
set_option maxHeartbeats 4000000 in
theorem k_C_34 {l : Launch} {D : va_G} {cA : Nat → ClassId} {ad : Bool → Nat → Nat → Nat} {A : Bool → Nat → Prop} (ha : AG ad A) (hst : l.stackTraces = false) (o : Bool) (p0 p1 p2 : Int32) (g : Gh) (hk : g.2 ≤ 2400) : Met l yL_call (.code yL_call cL_call 5 (some .int) :: TG) rm_L_call (PcG D cA ad A [.ref (ad o 0 1), .int 34, .int p0, .int p1, .int p2] g) (QcG D cA ad A (fun r g' => r = y_tryWithdrawn p0 (g.1 o) ∧ g' = g)) 2 12 (AU A) := by
  refine enterGI pl_L rfl (Nat.le_of_ble_eq_true rfl) ?_
  intro p e s m args below meth c QQ X hW hZ hE
  refine q_iload_n (j := 1) X dL_call_0 rfl rfl ?_
  refine q_tabI (k := 34) (tgt := 450) X dL_call_1 rfl (by decide) (by decide) rfl (by decide) ?_
  refine q_aload_n (j := 0) X dL_call_450 rfl rfl ?_
  refine q_iload_n (j := 2) X dL_call_451 rfl rfl ?_
  refine qG_ownW X hW hZ (fun _ h => h) YT_ok [.ref (ad o 0 1), .int p0] [] rfl rfl (Nat.le_of_ble_eq_true rfl) dL_call_452 ⟨(Nat.le_of_ble_eq_true rfl), (Nat.le_of_ble_eq_true rfl)⟩ (k_L_tryWithdrawn ha hst o p0 g hk) rfl rfl (gSW kw_5_76 kw_5_77 kw_1_0 kw_5_78) hy_L_tryWithdrawn.2 ⟨(Nat.le_of_ble_eq_true rfl), (Nat.le_of_ble_eq_true rfl)⟩ (fun r g9 hq => ?_)
  exact hE _ _ _ _ _ _ dL_call_455 (Nat.le_of_ble_eq_true rfl) (Nat.le_of_ble_eq_true rfl) hq
set_option maxRecDepth 100000 in
set_option maxHeartbeats 4000000 in
theorem k_C_36 {l : Launch} {D : va_G} {cA : Nat → ClassId} {ad : Bool → Nat → Nat → Nat} {A : Bool → Nat → Prop} (ha : AG ad A) (hst : l.stackTraces = false) (o : Bool) (p0 p1 p2 : Int32) (g : Gh) (hk : g.2 ≤ 2400) : Met l yL_call (.code yL_call cL_call 5 (some .int) :: TG) rm_L_call (PcG D cA ad A [.ref (ad o 0 1), .int 36, .int p0, .int p1, .int p2] g) (QcG D cA ad A (fun r g' => r = y_tryWasted p0 (g.1 o) ∧ g' = g)) 2 12 (AU A) := by
  refine enterGI pl_L rfl (Nat.le_of_ble_eq_true rfl) ?_
  intro p e s m args below meth c QQ X hW hZ hE
  refine q_iload_n (j := 1) X dL_call_0 rfl rfl ?_
  refine q_tabI (k := 36) (tgt := 462) X dL_call_1 rfl (by decide) (by decide) rfl (by decide) ?_
  refine q_aload_n (j := 0) X dL_call_462 rfl rfl ?_
  refine q_iload_n (j := 2) X dL_call_463 rfl rfl ?_
  refine qG_ownW X hW hZ (fun _ h => h) YT_ok [.ref (ad o 0 1), .int p0] [] rfl rfl (Nat.le_of_ble_eq_true rfl) dL_call_464 ⟨(Nat.le_of_ble_eq_true rfl), (Nat.le_of_ble_eq_true rfl)⟩ (k_L_tryWasted ha hst o p0 g hk) rfl rfl (gSW kw_5_90 kw_5_91 kw_1_0 kw_5_92) hy_L_tryWasted.2 ⟨(Nat.le_of_ble_eq_true rfl), (Nat.le_of_ble_eq_true rfl)⟩ (fun r g9 hq => ?_)
  exact hE _ _ _ _ _ _ dL_call_467 (Nat.le_of_ble_eq_true rfl) (Nat.le_of_ble_eq_true rfl) hq
set_option maxRecDepth 100000 in
set_option maxHeartbeats 4000000 in
theorem k_C_37 {l : Launch} {D : va_G} {cA : Nat → ClassId} {ad : Bool → Nat → Nat → Nat} {A : Bool → Nat → Prop} (ha : AG ad A) (hst : l.stackTraces = false) (o : Bool) (p0 p1 p2 : Int32) (g : Gh) (hk : g.2 ≤ 2400) : Met l yL_call (.code yL_call cL_call 5 (some .int) :: TG) rm_L_call (PcG D cA ad A [.ref (ad o 0 1), .int 37, .int p0, .int p1, .int p2] g) (QcG D cA ad A (fun r g' => r = y_tryLost p0 (g.1 o) ∧ g' = g)) 2 12 (AU A) := by
  refine enterGI pl_L rfl (Nat.le_of_ble_eq_true rfl) ?_
  intro p e s m args below meth c QQ X hW hZ hE
  refine q_iload_n (j := 1) X dL_call_0 rfl rfl ?_
  refine q_tabI (k := 37) (tgt := 468) X dL_call_1 rfl (by decide) (by decide) rfl (by decide) ?_
  refine q_aload_n (j := 0) X dL_call_468 rfl rfl ?_
  refine q_iload_n (j := 2) X dL_call_469 rfl rfl ?_
  refine qG_ownW X hW hZ (fun _ h => h) YT_ok [.ref (ad o 0 1), .int p0] [] rfl rfl (Nat.le_of_ble_eq_true rfl) dL_call_470 ⟨(Nat.le_of_ble_eq_true rfl), (Nat.le_of_ble_eq_true rfl)⟩ (k_L_tryLost ha hst o p0 g hk) rfl rfl (gSW kw_5_97 kw_5_98 kw_1_0 kw_5_99) hy_L_tryLost.2 ⟨(Nat.le_of_ble_eq_true rfl), (Nat.le_of_ble_eq_true rfl)⟩ (fun r g9 hq => ?_)
  exact hE _ _ _ _ _ _ dL_call_473 (Nat.le_of_ble_eq_true rfl) (Nat.le_of_ble_eq_true rfl) hq
set_option maxRecDepth 100000 in
set_option maxHeartbeats 4000000 in
theorem k_C_38 {l : Launch} {D : va_G} {cA : Nat → ClassId} {ad : Bool → Nat → Nat → Nat} {A : Bool → Nat → Prop} (ha : AG ad A) (hst : l.stackTraces = false) (o : Bool) (p0 p1 p2 : Int32) (g : Gh) (hk : g.2 ≤ 2400) : Met l yL_call (.code yL_call cL_call 5 (some .int) :: TG) rm_L_call (PcG D cA ad A [.ref (ad o 0 1), .int 38, .int p0, .int p1, .int p2] g) (QcG D cA ad A (fun r g' => r = y_tryDrawn p0 (g.1 o) ∧ g' = g)) 2 12 (AU A) := by
  refine enterGI pl_L rfl (Nat.le_of_ble_eq_true rfl) ?_
  intro p e s m args below meth c QQ X hW hZ hE
  refine q_iload_n (j := 1) X dL_call_0 rfl rfl ?_
  refine q_tabI (k := 38) (tgt := 474) X dL_call_1 rfl (by decide) (by decide) rfl (by decide) ?_
  refine q_aload_n (j := 0) X dL_call_474 rfl rfl ?_
  refine q_iload_n (j := 2) X dL_call_475 rfl rfl ?_
  refine qG_ownW X hW hZ (fun _ h => h) YT_ok [.ref (ad o 0 1), .int p0] [] rfl rfl (Nat.le_of_ble_eq_true rfl) dL_call_476 ⟨(Nat.le_of_ble_eq_true rfl), (Nat.le_of_ble_eq_true rfl)⟩ (k_L_tryDrawn ha hst o p0 g hk) rfl rfl (gSW kw_5_104 kw_5_105 kw_1_0 kw_5_106) hy_L_tryDrawn.2 ⟨(Nat.le_of_ble_eq_true rfl), (Nat.le_of_ble_eq_true rfl)⟩ (fun r g9 hq => ?_)
  exact hE _ _ _ _ _ _ dL_call_479 (Nat.le_of_ble_eq_true rfl) (Nat.le_of_ble_eq_true rfl) hq
set_option maxRecDepth 100000 in
set_option maxHeartbeats 4000000 in
theorem k_C_39 {l : Launch} {D : va_G} {cA : Nat → ClassId} {ad : Bool → Nat → Nat → Nat} {A : Bool → Nat → Prop} (ha : AG ad A) (hst : l.stackTraces = false) (o : Bool) (p0 p1 p2 : Int32) (g : Gh) (hk : g.2 ≤ 2400) : Met l yL_call (.code yL_call cL_call 5 (some .int) :: TG) rm_L_call (PcG D cA ad A [.ref (ad o 0 1), .int 39, .int p0, .int p1, .int p2] g) (QcG D cA ad A (fun r g' => r = y_tryStock p0 (g.1 o) ∧ g' = g)) 2 12 (AU A) := by
  refine enterGI pl_L rfl (Nat.le_of_ble_eq_true rfl) ?_
  intro p e s m args below meth c QQ X hW hZ hE
  refine q_iload_n (j := 1) X dL_call_0 rfl rfl ?_
  refine q_tabI (k := 39) (tgt := 480) X dL_call_1 rfl (by decide) (by decide) rfl (by decide) ?_
  refine q_aload_n (j := 0) X dL_call_480 rfl rfl ?_
  refine q_iload_n (j := 2) X dL_call_481 rfl rfl ?_
  refine qG_ownW X hW hZ (fun _ h => h) YT_ok [.ref (ad o 0 1), .int p0] [] rfl rfl (Nat.le_of_ble_eq_true rfl) dL_call_482 ⟨(Nat.le_of_ble_eq_true rfl), (Nat.le_of_ble_eq_true rfl)⟩ (k_L_tryStock ha hst o p0 g hk) rfl rfl (gSW kw_5_111 kw_5_112 kw_1_0 kw_5_113) hy_L_tryStock.2 ⟨(Nat.le_of_ble_eq_true rfl), (Nat.le_of_ble_eq_true rfl)⟩ (fun r g9 hq => ?_)
  exact hE _ _ _ _ _ _ dL_call_485 (Nat.le_of_ble_eq_true rfl) (Nat.le_of_ble_eq_true rfl) hq
set_option maxRecDepth 100000 in
set_option maxHeartbeats 4000000 in
theorem k_C_40 {l : Launch} {D : va_G} {cA : Nat → ClassId} {ad : Bool → Nat → Nat → Nat} {A : Bool → Nat → Prop} (ha : AG ad A) (hst : l.stackTraces = false) (o : Bool) (p0 p1 p2 : Int32) (g : Gh) (hk : g.2 ≤ 2400) : Met l yL_call (.code yL_call cL_call 5 (some .int) :: TG) rm_L_call (PcG D cA ad A [.ref (ad o 0 1), .int 40, .int p0, .int p1, .int p2] g) (QcG D cA ad A (fun r g' => r = y_tryTotals p0 (g.1 o) ∧ g' = g)) 2 12 (AU A) := by
  refine enterGI pl_L rfl (Nat.le_of_ble_eq_true rfl) ?_
  intro p e s m args below meth c QQ X hW hZ hE
  refine q_iload_n (j := 1) X dL_call_0 rfl rfl ?_
  refine q_tabI (k := 40) (tgt := 486) X dL_call_1 rfl (by decide) (by decide) rfl (by decide) ?_
  refine q_aload_n (j := 0) X dL_call_486 rfl rfl ?_
  refine q_iload_n (j := 2) X dL_call_487 rfl rfl ?_
  refine qG_ownW X hW hZ (fun _ h => h) YT_ok [.ref (ad o 0 1), .int p0] [] rfl rfl (Nat.le_of_ble_eq_true rfl) dL_call_488 ⟨(Nat.le_of_ble_eq_true rfl), (Nat.le_of_ble_eq_true rfl)⟩ (k_L_tryTotals ha hst o p0 g hk) rfl rfl (gSW kw_5_122 kw_5_123 kw_1_0 kw_5_124) hy_L_tryTotals.2 ⟨(Nat.le_of_ble_eq_true rfl), (Nat.le_of_ble_eq_true rfl)⟩ (fun r g9 hq => ?_)
  exact hE _ _ _ _ _ _ dL_call_491 (Nat.le_of_ble_eq_true rfl) (Nat.le_of_ble_eq_true rfl) hq
set_option maxRecDepth 100000 in
set_option maxHeartbeats 4000000 in
theorem k_C_41 {l : Launch} {D : va_G} {cA : Nat → ClassId} {ad : Bool → Nat → Nat → Nat} {A : Bool → Nat → Prop} (ha : AG ad A) (hst : l.stackTraces = false) (o : Bool) (p0 p1 p2 : Int32) (g : Gh) (hk : g.2 ≤ 2400) : Met l yL_call (.code yL_call cL_call 5 (some .int) :: TG) rm_L_call (PcG D cA ad A [.ref (ad o 0 1), .int 41, .int p0, .int p1, .int p2] g) (QcG D cA ad A (fun r g' => r = y_tryWhyOut p0 p1 (g.1 o) ∧ g' = g)) 2 12 (AU A) := by
  refine enterGI pl_L rfl (Nat.le_of_ble_eq_true rfl) ?_
  intro p e s m args below meth c QQ X hW hZ hE
  refine q_iload_n (j := 1) X dL_call_0 rfl rfl ?_
  refine q_tabI (k := 41) (tgt := 492) X dL_call_1 rfl (by decide) (by decide) rfl (by decide) ?_
  refine q_aload_n (j := 0) X dL_call_492 rfl rfl ?_
  refine q_iload_n (j := 2) X dL_call_493 rfl rfl ?_
  refine q_iload_n (j := 3) X dL_call_494 rfl rfl ?_
  refine qG_ownW X hW hZ (fun _ h => h) YT_ok [.ref (ad o 0 1), .int p0, .int p1] [] rfl rfl (Nat.le_of_ble_eq_true rfl) dL_call_495 ⟨(Nat.le_of_ble_eq_true rfl), (Nat.le_of_ble_eq_true rfl)⟩ (k_L_tryWhyOut ha hst o p0 p1 g hk) rfl rfl (gSW kw_5_129 kw_5_130 kw_1_0 kw_5_131) hy_L_tryWhyOut.2 ⟨(Nat.le_of_ble_eq_true rfl), (Nat.le_of_ble_eq_true rfl)⟩ (fun r g9 hq => ?_)
  exact hE _ _ _ _ _ _ dL_call_498 (Nat.le_of_ble_eq_true rfl) (Nat.le_of_ble_eq_true rfl) hq
set_option maxRecDepth 100000 in
set_option maxHeartbeats 4000000 in
theorem k_C_42 {l : Launch} {D : va_G} {cA : Nat → ClassId} {ad : Bool → Nat → Nat → Nat} {A : Bool → Nat → Prop} (ha : AG ad A) (hst : l.stackTraces = false) (o : Bool) (p0 p1 p2 : Int32) (g : Gh) (hk : g.2 ≤ 2400) : Met l yL_call (.code yL_call cL_call 5 (some .int) :: TG) rm_L_call (PcG D cA ad A [.ref (ad o 0 1), .int 42, .int p0, .int p1, .int p2] g) (QcG D cA ad A (fun r g' => r = y_tryWhySend p0 p1 (g.1 o) ∧ g' = g)) 2 12 (AU A) := by
  refine enterGI pl_L rfl (Nat.le_of_ble_eq_true rfl) ?_
  intro p e s m args below meth c QQ X hW hZ hE
  refine q_iload_n (j := 1) X dL_call_0 rfl rfl ?_
  refine q_tabI (k := 42) (tgt := 499) X dL_call_1 rfl (by decide) (by decide) rfl (by decide) ?_
  refine q_aload_n (j := 0) X dL_call_499 rfl rfl ?_
  refine q_iload_n (j := 2) X dL_call_500 rfl rfl ?_
  refine q_iload_n (j := 3) X dL_call_501 rfl rfl ?_
  refine qG_ownW X hW hZ (fun _ h => h) YT_ok [.ref (ad o 0 1), .int p0, .int p1] [] rfl rfl (Nat.le_of_ble_eq_true rfl) dL_call_502 ⟨(Nat.le_of_ble_eq_true rfl), (Nat.le_of_ble_eq_true rfl)⟩ (k_L_tryWhySend ha hst o p0 p1 g hk) rfl rfl (gSW kw_5_137 kw_5_138 kw_1_0 kw_5_139) hy_L_tryWhySend.2 ⟨(Nat.le_of_ble_eq_true rfl), (Nat.le_of_ble_eq_true rfl)⟩ (fun r g9 hq => ?_)
  exact hE _ _ _ _ _ _ dL_call_505 (Nat.le_of_ble_eq_true rfl) (Nat.le_of_ble_eq_true rfl) hq
set_option maxRecDepth 100000 in
set_option maxHeartbeats 4000000 in
theorem k_C_43 {l : Launch} {D : va_G} {cA : Nat → ClassId} {ad : Bool → Nat → Nat → Nat} {A : Bool → Nat → Prop} (ha : AG ad A) (hst : l.stackTraces = false) (o : Bool) (p0 p1 p2 : Int32) (g : Gh) (hk : g.2 ≤ 2400) : Met l yL_call (.code yL_call cL_call 5 (some .int) :: TG) rm_L_call (PcG D cA ad A [.ref (ad o 0 1), .int 43, .int p0, .int p1, .int p2] g) (QcG D cA ad A (fun r g' => r = y_tryWhyMove p0 p1 (g.1 o) ∧ g' = g)) 2 12 (AU A) := by
  refine enterGI pl_L rfl (Nat.le_of_ble_eq_true rfl) ?_
  intro p e s m args below meth c QQ X hW hZ hE
  refine q_iload_n (j := 1) X dL_call_0 rfl rfl ?_
  refine q_tabI (k := 43) (tgt := 506) X dL_call_1 rfl (by decide) (by decide) rfl (by decide) ?_
  refine q_aload_n (j := 0) X dL_call_506 rfl rfl ?_
  refine q_iload_n (j := 2) X dL_call_507 rfl rfl ?_
  refine q_iload_n (j := 3) X dL_call_508 rfl rfl ?_
  refine qG_ownW X hW hZ (fun _ h => h) YT_ok [.ref (ad o 0 1), .int p0, .int p1] [] rfl rfl (Nat.le_of_ble_eq_true rfl) dL_call_509 ⟨(Nat.le_of_ble_eq_true rfl), (Nat.le_of_ble_eq_true rfl)⟩ (k_L_tryWhyMove ha hst o p0 p1 g hk) rfl rfl (gSW kw_5_145 kw_5_146 kw_1_0 kw_5_147) hy_L_tryWhyMove.2 ⟨(Nat.le_of_ble_eq_true rfl), (Nat.le_of_ble_eq_true rfl)⟩ (fun r g9 hq => ?_)
  exact hE _ _ _ _ _ _ dL_call_512 (Nat.le_of_ble_eq_true rfl) (Nat.le_of_ble_eq_true rfl) hq
set_option maxRecDepth 100000 in
set_option maxHeartbeats 4000000 in
theorem k_C_44 {l : Launch} {D : va_G} {cA : Nat → ClassId} {ad : Bool → Nat → Nat → Nat} {A : Bool → Nat → Prop} (ha : AG ad A) (hst : l.stackTraces = false) (o : Bool) (p0 p1 p2 : Int32) (g : Gh) (hk : g.2 ≤ 2400) : Met l yL_call (.code yL_call cL_call 5 (some .int) :: TG) rm_L_call (PcG D cA ad A [.ref (ad o 0 1), .int 44, .int p0, .int p1, .int p2] g) (QcG D cA ad A (fun r g' => r = y_tryWhyDraw p0 p1 (g.1 o) ∧ g' = g)) 2 12 (AU A) := by
  refine enterGI pl_L rfl (Nat.le_of_ble_eq_true rfl) ?_
  intro p e s m args below meth c QQ X hW hZ hE
  refine q_iload_n (j := 1) X dL_call_0 rfl rfl ?_
  refine q_tabI (k := 44) (tgt := 513) X dL_call_1 rfl (by decide) (by decide) rfl (by decide) ?_
  refine q_aload_n (j := 0) X dL_call_513 rfl rfl ?_
  refine q_iload_n (j := 2) X dL_call_514 rfl rfl ?_
  refine q_iload_n (j := 3) X dL_call_515 rfl rfl ?_
  refine qG_ownW X hW hZ (fun _ h => h) YT_ok [.ref (ad o 0 1), .int p0, .int p1] [] rfl rfl (Nat.le_of_ble_eq_true rfl) dL_call_516 ⟨(Nat.le_of_ble_eq_true rfl), (Nat.le_of_ble_eq_true rfl)⟩ (k_L_tryWhyDraw ha hst o p0 p1 g hk) rfl rfl (gSW kw_5_153 kw_5_154 kw_1_0 kw_5_155) hy_L_tryWhyDraw.2 ⟨(Nat.le_of_ble_eq_true rfl), (Nat.le_of_ble_eq_true rfl)⟩ (fun r g9 hq => ?_)
  exact hE _ _ _ _ _ _ dL_call_519 (Nat.le_of_ble_eq_true rfl) (Nat.le_of_ble_eq_true rfl) hq
set_option maxRecDepth 100000 in
set_option maxHeartbeats 4000000 in
theorem k_C_45 {l : Launch} {D : va_G} {cA : Nat → ClassId} {ad : Bool → Nat → Nat → Nat} {A : Bool → Nat → Prop} (ha : AG ad A) (hst : l.stackTraces = false) (o : Bool) (p0 p1 p2 : Int32) (g : Gh) (hk : g.2 ≤ 2400) : Met l yL_call (.code yL_call cL_call 5 (some .int) :: TG) rm_L_call (PcG D cA ad A [.ref (ad o 0 1), .int 45, .int p0, .int p1, .int p2] g) (QcG D cA ad A (fun r g' => r = y_tryCharge p0 p1 (g.1 o) ∧ g' = g)) 2 12 (AU A) := by
  refine enterGI pl_L rfl (Nat.le_of_ble_eq_true rfl) ?_
  intro p e s m args below meth c QQ X hW hZ hE
  refine q_iload_n (j := 1) X dL_call_0 rfl rfl ?_
  refine q_tabI (k := 45) (tgt := 520) X dL_call_1 rfl (by decide) (by decide) rfl (by decide) ?_
  refine q_aload_n (j := 0) X dL_call_520 rfl rfl ?_
  refine q_iload_n (j := 2) X dL_call_521 rfl rfl ?_
  refine q_iload_n (j := 3) X dL_call_522 rfl rfl ?_
  refine qG_ownW X hW hZ (fun _ h => h) YT_ok [.ref (ad o 0 1), .int p0, .int p1] [] rfl rfl (Nat.le_of_ble_eq_true rfl) dL_call_523 ⟨(Nat.le_of_ble_eq_true rfl), (Nat.le_of_ble_eq_true rfl)⟩ (k_L_tryCharge ha hst o p0 p1 g hk) rfl rfl (gSW kw_5_161 kw_5_162 kw_1_0 kw_5_163) hy_L_tryCharge.2 ⟨(Nat.le_of_ble_eq_true rfl), (Nat.le_of_ble_eq_true rfl)⟩ (fun r g9 hq => ?_)
  exact hE _ _ _ _ _ _ dL_call_526 (Nat.le_of_ble_eq_true rfl) (Nat.le_of_ble_eq_true rfl) hq
set_option maxRecDepth 100000 in
set_option maxHeartbeats 4000000 in
theorem k_C_46 {l : Launch} {D : va_G} {cA : Nat → ClassId} {ad : Bool → Nat → Nat → Nat} {A : Bool → Nat → Prop} (ha : AG ad A) (hst : l.stackTraces = false) (o : Bool) (p0 p1 p2 : Int32) (g : Gh) (hk : g.2 ≤ 2400) : Met l yL_call (.code yL_call cL_call 5 (some .int) :: TG) rm_L_call (PcG D cA ad A [.ref (ad o 0 1), .int 46, .int p0, .int p1, .int p2] g) (QcG D cA ad A (fun r g' => r = y_tryDrawFor p0 p1 (g.1 o) ∧ g' = g)) 2 12 (AU A) := by
  refine enterGI pl_L rfl (Nat.le_of_ble_eq_true rfl) ?_
  intro p e s m args below meth c QQ X hW hZ hE
  refine q_iload_n (j := 1) X dL_call_0 rfl rfl ?_
  refine q_tabI (k := 46) (tgt := 527) X dL_call_1 rfl (by decide) (by decide) rfl (by decide) ?_
  refine q_aload_n (j := 0) X dL_call_527 rfl rfl ?_
  refine q_iload_n (j := 2) X dL_call_528 rfl rfl ?_
  refine q_iload_n (j := 3) X dL_call_529 rfl rfl ?_
  refine qG_ownW X hW hZ (fun _ h => h) YT_ok [.ref (ad o 0 1), .int p0, .int p1] [] rfl rfl (Nat.le_of_ble_eq_true rfl) dL_call_530 ⟨(Nat.le_of_ble_eq_true rfl), (Nat.le_of_ble_eq_true rfl)⟩ (k_L_tryDrawFor ha hst o p0 p1 g hk) rfl rfl (gSW kw_5_170 kw_5_171 kw_1_0 kw_5_172) hy_L_tryDrawFor.2 ⟨(Nat.le_of_ble_eq_true rfl), (Nat.le_of_ble_eq_true rfl)⟩ (fun r g9 hq => ?_)
  exact hE _ _ _ _ _ _ dL_call_533 (Nat.le_of_ble_eq_true rfl) (Nat.le_of_ble_eq_true rfl) hq
set_option maxRecDepth 100000 in
set_option maxHeartbeats 4000000 in
theorem k_C_47 {l : Launch} {D : va_G} {cA : Nat → ClassId} {ad : Bool → Nat → Nat → Nat} {A : Bool → Nat → Prop} (ha : AG ad A) (hst : l.stackTraces = false) (o : Bool) (p0 p1 p2 : Int32) (g : Gh) (hk : g.2 ≤ 2400) : Met l yL_call (.code yL_call cL_call 5 (some .int) :: TG) rm_L_call (PcG D cA ad A [.ref (ad o 0 1), .int 47, .int p0, .int p1, .int p2] g) (QcG D cA ad A (fun r g' => r = y_tryLater p0 p1 (g.1 o) ∧ g' = g)) 2 12 (AU A) := by
  refine enterGI pl_L rfl (Nat.le_of_ble_eq_true rfl) ?_
  intro p e s m args below meth c QQ X hW hZ hE
  refine q_iload_n (j := 1) X dL_call_0 rfl rfl ?_
  refine q_tabI (k := 47) (tgt := 534) X dL_call_1 rfl (by decide) (by decide) rfl (by decide) ?_
  refine q_aload_n (j := 0) X dL_call_534 rfl rfl ?_
  refine q_iload_n (j := 2) X dL_call_535 rfl rfl ?_
  refine q_iload_n (j := 3) X dL_call_536 rfl rfl ?_
  refine qG_ownW X hW hZ (fun _ h => h) YT_ok [.ref (ad o 0 1), .int p0, .int p1] [] rfl rfl (Nat.le_of_ble_eq_true rfl) dL_call_537 ⟨(Nat.le_of_ble_eq_true rfl), (Nat.le_of_ble_eq_true rfl)⟩ (k_L_tryLater ha hst o p0 p1 g hk) rfl rfl (gSW kw_5_179 kw_5_180 kw_1_0 kw_5_181) hy_L_tryLater.2 ⟨(Nat.le_of_ble_eq_true rfl), (Nat.le_of_ble_eq_true rfl)⟩ (fun r g9 hq => ?_)
  exact hE _ _ _ _ _ _ dL_call_540 (Nat.le_of_ble_eq_true rfl) (Nat.le_of_ble_eq_true rfl) hq
set_option maxRecDepth 100000 in
set_option maxHeartbeats 4000000 in
theorem k_C_48 {l : Launch} {D : va_G} {cA : Nat → ClassId} {ad : Bool → Nat → Nat → Nat} {A : Bool → Nat → Prop} (ha : AG ad A) (hst : l.stackTraces = false) (o : Bool) (p0 p1 p2 : Int32) (g : Gh) (hk : g.2 ≤ 2400) : Met l yL_call (.code yL_call cL_call 5 (some .int) :: TG) rm_L_call (PcG D cA ad A [.ref (ad o 0 1), .int 48, .int p0, .int p1, .int p2] g) (QcG D cA ad A (fun r g' => r = y_tryDays p0 (g.1 o) ∧ g' = g)) 2 12 (AU A) := by
  refine enterGI pl_L rfl (Nat.le_of_ble_eq_true rfl) ?_
  intro p e s m args below meth c QQ X hW hZ hE
  refine q_iload_n (j := 1) X dL_call_0 rfl rfl ?_
  refine q_tabI (k := 48) (tgt := 541) X dL_call_1 rfl (by decide) (by decide) rfl (by decide) ?_
  refine q_aload_n (j := 0) X dL_call_541 rfl rfl ?_
  refine q_iload_n (j := 2) X dL_call_542 rfl rfl ?_
  refine qG_ownW X hW hZ (fun _ h => h) YT_ok [.ref (ad o 0 1), .int p0] [] rfl rfl (Nat.le_of_ble_eq_true rfl) dL_call_543 ⟨(Nat.le_of_ble_eq_true rfl), (Nat.le_of_ble_eq_true rfl)⟩ (k_L_tryDays ha hst o p0 g hk) rfl rfl (gSW kw_5_186 kw_5_187 kw_1_0 kw_5_188) hy_L_tryDays.2 ⟨(Nat.le_of_ble_eq_true rfl), (Nat.le_of_ble_eq_true rfl)⟩ (fun r g9 hq => ?_)
  exact hE _ _ _ _ _ _ dL_call_546 (Nat.le_of_ble_eq_true rfl) (Nat.le_of_ble_eq_true rfl) hq
set_option maxRecDepth 100000 in
set_option maxHeartbeats 4000000 in
theorem k_C_49 {l : Launch} {D : va_G} {cA : Nat → ClassId} {ad : Bool → Nat → Nat → Nat} {A : Bool → Nat → Prop} (ha : AG ad A) (hst : l.stackTraces = false) (o : Bool) (p0 p1 p2 : Int32) (g : Gh) (hk : g.2 ≤ 2400) : Met l yL_call (.code yL_call cL_call 5 (some .int) :: TG) rm_L_call (PcG D cA ad A [.ref (ad o 0 1), .int 49, .int p0, .int p1, .int p2] g) (QcG D cA ad A (fun r g' => r = y_tryCheapest p0 (g.1 o) ∧ g' = g)) 2 12 (AU A) := by
  refine enterGI pl_L rfl (Nat.le_of_ble_eq_true rfl) ?_
  intro p e s m args below meth c QQ X hW hZ hE
  refine q_iload_n (j := 1) X dL_call_0 rfl rfl ?_
  refine q_tabI (k := 49) (tgt := 547) X dL_call_1 rfl (by decide) (by decide) rfl (by decide) ?_
  refine q_aload_n (j := 0) X dL_call_547 rfl rfl ?_
  refine q_iload_n (j := 2) X dL_call_548 rfl rfl ?_
  refine qG_ownW X hW hZ (fun _ h => h) YT_ok [.ref (ad o 0 1), .int p0] [] rfl rfl (Nat.le_of_ble_eq_true rfl) dL_call_549 ⟨(Nat.le_of_ble_eq_true rfl), (Nat.le_of_ble_eq_true rfl)⟩ (k_L_tryCheapest ha hst o p0 g hk) rfl rfl (gSW kw_5_194 kw_5_195 kw_1_0 kw_5_196) hy_L_tryCheapest.2 ⟨(Nat.le_of_ble_eq_true rfl), (Nat.le_of_ble_eq_true rfl)⟩ (fun r g9 hq => ?_)
  exact hE _ _ _ _ _ _ dL_call_552 (Nat.le_of_ble_eq_true rfl) (Nat.le_of_ble_eq_true rfl) hq
set_option maxRecDepth 100000 in
set_option maxHeartbeats 4000000 in
theorem k_C_50 {l : Launch} {D : va_G} {cA : Nat → ClassId} {ad : Bool → Nat → Nat → Nat} {A : Bool → Nat → Prop} (ha : AG ad A) (hst : l.stackTraces = false) (o : Bool) (p0 p1 p2 : Int32) (g : Gh) (hk : g.2 ≤ 2400) : Met l yL_call (.code yL_call cL_call 5 (some .int) :: TG) rm_L_call (PcG D cA ad A [.ref (ad o 0 1), .int 50, .int p0, .int p1, .int p2] g) (QcG D cA ad A (fun r g' => r = y_tryFrom p0 p1 (g.1 o) ∧ g' = g)) 2 12 (AU A) := by
  refine enterGI pl_L rfl (Nat.le_of_ble_eq_true rfl) ?_
  intro p e s m args below meth c QQ X hW hZ hE
  refine q_iload_n (j := 1) X dL_call_0 rfl rfl ?_
  refine q_tabI (k := 50) (tgt := 553) X dL_call_1 rfl (by decide) (by decide) rfl (by decide) ?_
  refine q_aload_n (j := 0) X dL_call_553 rfl rfl ?_
  refine q_iload_n (j := 2) X dL_call_554 rfl rfl ?_
  refine q_iload_n (j := 3) X dL_call_555 rfl rfl ?_
  refine qG_ownW X hW hZ (fun _ h => h) YT_ok [.ref (ad o 0 1), .int p0, .int p1] [] rfl rfl (Nat.le_of_ble_eq_true rfl) dL_call_556 ⟨(Nat.le_of_ble_eq_true rfl), (Nat.le_of_ble_eq_true rfl)⟩ (k_L_tryFrom ha hst o p0 p1 g hk) rfl rfl (gSW kw_5_217 kw_5_218 kw_1_0 kw_5_219) hy_L_tryFrom.2 ⟨(Nat.le_of_ble_eq_true rfl), (Nat.le_of_ble_eq_true rfl)⟩ (fun r g9 hq => ?_)
  exact hE _ _ _ _ _ _ dL_call_559 (Nat.le_of_ble_eq_true rfl) (Nat.le_of_ble_eq_true rfl) hq
set_option maxRecDepth 100000 in
set_option maxHeartbeats 4000000 in
theorem k_C_51 {l : Launch} {D : va_G} {cA : Nat → ClassId} {ad : Bool → Nat → Nat → Nat} {A : Bool → Nat → Prop} (ha : AG ad A) (hst : l.stackTraces = false) (o : Bool) (p0 p1 p2 : Int32) (g : Gh) (hk : g.2 ≤ 2400) (hp : ¬ (33 ≤ p0 ∧ p0 ≤ 126)) : Met l yL_call (.code yL_call cL_call 5 (some .int) :: TG) rm_L_call (PcG D cA ad A [.ref (ad o 0 1), .int 51, .int p0, .int p1, .int p2] g) (QcG D cA ad A (fun r g' => r = -9999002 ∧ g' = g)) 2 12 (AU A) := by
  refine enterGI pl_L rfl (Nat.le_of_ble_eq_true rfl) ?_
  intro p e s m args below meth c QQ X hW hZ hE
  refine q_iload_n (j := 1) X dL_call_0 rfl rfl ?_
  refine q_tabI (k := 51) (tgt := 560) X dL_call_1 rfl (by decide) (by decide) rfl (by decide) ?_
  refine q_aload_n (j := 0) X dL_call_560 rfl rfl ?_
  refine q_iload_n (j := 2) X dL_call_561 rfl rfl ?_
  refine qG_ownW X hW hZ (fun _ h => h) YT_ok [.ref (ad o 0 1), .int p0] [] rfl rfl (Nat.le_of_ble_eq_true rfl) dL_call_562 ⟨(Nat.le_of_ble_eq_true rfl), (Nat.le_of_ble_eq_true rfl)⟩ (k_L_tryAppend ha hst o p0 g hk hp) rfl rfl (gSW kw_5_231 kw_5_232 kw_1_0 kw_5_233) hy_L_tryAppend.2 ⟨(Nat.le_of_ble_eq_true rfl), (Nat.le_of_ble_eq_true rfl)⟩ (fun r g9 hq => ?_)
  exact hE _ _ _ _ _ _ dL_call_565 (Nat.le_of_ble_eq_true rfl) (Nat.le_of_ble_eq_true rfl) hq
set_option maxRecDepth 100000 in
set_option maxHeartbeats 4000000 in
theorem k_C_52 {l : Launch} {D : va_G} {cA : Nat → ClassId} {ad : Bool → Nat → Nat → Nat} {A : Bool → Nat → Prop} (ha : AG ad A) (hst : l.stackTraces = false) (o : Bool) (p0 p1 p2 : Int32) (g : Gh) (hk : g.2 ≤ 2400) : Met l yL_call (.code yL_call cL_call 5 (some .int) :: TG) rm_L_call (PcG D cA ad A [.ref (ad o 0 1), .int 52, .int p0, .int p1, .int p2] g) (QcG D cA ad A (fun r g' => r = -9999002 ∧ g' = g)) 2 12 (AU A) := by
  refine enterGI pl_L rfl (Nat.le_of_ble_eq_true rfl) ?_
  intro p e s m args below meth c QQ X hW hZ hE
  refine q_iload_n (j := 1) X dL_call_0 rfl rfl ?_
  refine q_tabI (k := 52) (tgt := 566) X dL_call_1 rfl (by decide) (by decide) rfl (by decide) ?_
  refine q_aload_n (j := 0) X dL_call_566 rfl rfl ?_
  refine qG_ownW X hW hZ (fun _ h => h) YT_ok [.ref (ad o 0 1)] [] rfl rfl (Nat.le_of_ble_eq_true rfl) dL_call_567 ⟨(Nat.le_of_ble_eq_true rfl), (Nat.le_of_ble_eq_true rfl)⟩ (k_L_tryRun ha hst o g hk) rfl rfl (gSW kw_6_3 kw_6_4 kw_1_0 kw_6_5) hy_L_tryRun.2 ⟨(Nat.le_of_ble_eq_true rfl), (Nat.le_of_ble_eq_true rfl)⟩ (fun r g9 hq => ?_)
  exact hE _ _ _ _ _ _ dL_call_570 (Nat.le_of_ble_eq_true rfl) (Nat.le_of_ble_eq_true rfl) hq
set_option maxRecDepth 100000 in
set_option maxHeartbeats 4000000 in
theorem k_C_53 {l : Launch} {D : va_G} {cA : Nat → ClassId} {ad : Bool → Nat → Nat → Nat} {A : Bool → Nat → Prop} (ha : AG ad A) (hst : l.stackTraces = false) (o : Bool) (p0 p1 p2 : Int32) (g : Gh) (hk : g.2 + 1 ≤ 2400) : Met l yL_call (.code yL_call cL_call 5 (some .int) :: TG) rm_L_call (PcG D cA ad A [.ref (ad o 0 1), .int 53, .int p0, .int p1, .int p2] g) (QcG D cA ad A (fun r g' => r = (z_tryUndo (g.1 o)).1 ∧ g' = gz g o (z_tryUndo (g.1 o)).2)) 2 12 (AU A) := by
  refine enterGI pl_L rfl (Nat.le_of_ble_eq_true rfl) ?_
  intro p e s m args below meth c QQ X hW hZ hE
  refine q_iload_n (j := 1) X dL_call_0 rfl rfl ?_
  refine q_tabI (k := 53) (tgt := 571) X dL_call_1 rfl (by decide) (by decide) rfl (by decide) ?_
  refine q_aload_n (j := 0) X dL_call_571 rfl rfl ?_
  refine qG_ownW X hW hZ (fun _ h => h) YT_ok [.ref (ad o 0 1)] [] rfl rfl (Nat.le_of_ble_eq_true rfl) dL_call_572 ⟨(Nat.le_of_ble_eq_true rfl), (Nat.le_of_ble_eq_true rfl)⟩ (k_L_tryUndo ha hst o g hk) rfl rfl (gSW kw_6_93 kw_6_94 kw_1_0 kw_6_95) hy_L_tryUndo.2 ⟨(Nat.le_of_ble_eq_true rfl), (Nat.le_of_ble_eq_true rfl)⟩ (fun r g9 hq => ?_)
  exact hE _ _ _ _ _ _ dL_call_575 (Nat.le_of_ble_eq_true rfl) (Nat.le_of_ble_eq_true rfl) hq
set_option maxRecDepth 100000 in
set_option maxHeartbeats 4000000 in
theorem k_C_54 {l : Launch} {D : va_G} {cA : Nat → ClassId} {ad : Bool → Nat → Nat → Nat} {A : Bool → Nat → Prop} (ha : AG ad A) (hst : l.stackTraces = false) (o : Bool) (p0 p1 p2 : Int32) (g : Gh) (hk : g.2 + 1 ≤ 2400) : Met l yL_call (.code yL_call cL_call 5 (some .int) :: TG) rm_L_call (PcG D cA ad A [.ref (ad o 0 1), .int 54, .int p0, .int p1, .int p2] g) (QcG D cA ad A (fun r g' => r = (z_tryKeep p0 (g.1 o)).1 ∧ g' = gz g o (z_tryKeep p0 (g.1 o)).2)) 2 12 (AU A) := by
  refine enterGI pl_L rfl (Nat.le_of_ble_eq_true rfl) ?_
  intro p e s m args below meth c QQ X hW hZ hE
  refine q_iload_n (j := 1) X dL_call_0 rfl rfl ?_
  refine q_tabI (k := 54) (tgt := 576) X dL_call_1 rfl (by decide) (by decide) rfl (by decide) ?_
  refine q_aload_n (j := 0) X dL_call_576 rfl rfl ?_
  refine q_iload_n (j := 2) X dL_call_577 rfl rfl ?_
  refine qG_ownW X hW hZ (fun _ h => h) YT_ok [.ref (ad o 0 1), .int p0] [] rfl rfl (Nat.le_of_ble_eq_true rfl) dL_call_578 ⟨(Nat.le_of_ble_eq_true rfl), (Nat.le_of_ble_eq_true rfl)⟩ (k_L_tryKeep ha hst o p0 g hk) rfl rfl (gSW kw_6_105 kw_6_106 kw_1_0 kw_6_107) hy_L_tryKeep.2 ⟨(Nat.le_of_ble_eq_true rfl), (Nat.le_of_ble_eq_true rfl)⟩ (fun r g9 hq => ?_)
  exact hE _ _ _ _ _ _ dL_call_581 (Nat.le_of_ble_eq_true rfl) (Nat.le_of_ble_eq_true rfl) hq
set_option maxRecDepth 100000 in
set_option maxHeartbeats 4000000 in
theorem k_C_55 {l : Launch} {D : va_G} {cA : Nat → ClassId} {ad : Bool → Nat → Nat → Nat} {A : Bool → Nat → Prop} (ha : AG ad A) (hst : l.stackTraces = false) (o : Bool) (p0 p1 p2 : Int32) (g : Gh) (hk : g.2 + 1 ≤ 2400) : Met l yL_call (.code yL_call cL_call 5 (some .int) :: TG) rm_L_call (PcG D cA ad A [.ref (ad o 0 1), .int 55, .int p0, .int p1, .int p2] g) (QcG D cA ad A (fun r g' => r = (z_tryBack p0 (g.1 o)).1 ∧ g' = gz g o (z_tryBack p0 (g.1 o)).2)) 2 12 (AU A) := by
  refine enterGI pl_L rfl (Nat.le_of_ble_eq_true rfl) ?_
  intro p e s m args below meth c QQ X hW hZ hE
  refine q_iload_n (j := 1) X dL_call_0 rfl rfl ?_
  refine q_tabD (ks := [0, 1, 2, 3, 4, 5, 6, 7, 8, 9, 10, 11, 12, 13, 14, 15, 16, 17, 18, 19, 20, 21, 22, 23, 24, 25, 26, 27, 28, 29, 30, 31, 32, 33, 34, 35, 36, 37, 38, 39, 40, 41, 42, 43, 44, 45, 46, 47, 48, 49, 50, 51, 52, 53, 54]) (tgt := 582) X dL_call_1 (by decide) (by decide +kernel) (by decide) ?_
  refine q_aload_n (j := 0) X dL_call_582 rfl rfl ?_
  refine q_iload_n (j := 2) X dL_call_583 rfl rfl ?_
  refine qG_ownW X hW hZ (fun _ h => h) YT_ok [.ref (ad o 0 1), .int p0] [] rfl rfl (Nat.le_of_ble_eq_true rfl) dL_call_584 ⟨(Nat.le_of_ble_eq_true rfl), (Nat.le_of_ble_eq_true rfl)⟩ (k_L_tryBack ha hst o p0 g hk) rfl rfl (gSW kw_6_120 kw_6_121 kw_1_0 kw_6_122) hy_L_tryBack.2 ⟨(Nat.le_of_ble_eq_true rfl), (Nat.le_of_ble_eq_true rfl)⟩ (fun r g9 hq => ?_)
  exact hE _ _ _ _ _ _ dL_call_587 (Nat.le_of_ble_eq_true rfl) (Nat.le_of_ble_eq_true rfl) hq
