def xU (k : Nat) : Int32 := nI (k - 2)
theorem pl_L : plainName RL = true := by decide +kernel
theorem kw_3_70 : Jvm.Cond.methodLink "BondWarehouseLaw" (7 : Nat) ({ cls := "BondWarehouse", name := "enter", desc := "(IIII)I" } : Jvm.MethodName) ∈ TG := tg_3 70 rfl rfl
theorem kw_3_71 : Jvm.Cond.instanceMethod ({ cls := "BondWarehouse", name := "enter", desc := "(IIII)I" } : Jvm.MethodName) ∈ TG := tg_3 71 rfl rfl
theorem kw_3_72 : Jvm.Cond.selects "BondWarehouse" ({ cls := "BondWarehouse", name := "enter", desc := "(IIII)I" } : Jvm.MethodName) ({ cls := "BondWarehouse", name := "enter", desc := "(IIII)I" } : Jvm.MethodName) ∈ TG := tg_3 72 rfl rfl
theorem kw_3_73 : Jvm.Cond.code ({ cls := "BondWarehouse", name := "enter", desc := "(IIII)I" } : Jvm.MethodName) prog_1_method_2_code (5 : Nat) (Option.some Jvm.ClassFile.FieldType.int) ∈ TG := tg_3 73 rfl rfl
theorem kw_3_68 : Jvm.Cond.classLink "BondWarehouseLaw" (13 : Nat) "java/lang/IllegalArgumentException" ∈ TG := tg_3 68 rfl rfl
theorem kw_3_69 : Jvm.Cond.classLink "BondWarehouseLaw" (15 : Nat) "java/lang/IllegalStateException" ∈ TG := tg_3 69 rfl rfl
theorem kw_3_238 : Jvm.Cond.methodLink "BondWarehouseLaw" (17 : Nat) ({ cls := "BondWarehouse", name := "withdraw", desc := "(II)I" } : Jvm.MethodName) ∈ TG := tg_3 238 rfl rfl
theorem kw_3_239 : Jvm.Cond.instanceMethod ({ cls := "BondWarehouse", name := "withdraw", desc := "(II)I" } : Jvm.MethodName) ∈ TG := tg_3 239 rfl rfl
theorem kw_4_0 : Jvm.Cond.selects "BondWarehouse" ({ cls := "BondWarehouse", name := "withdraw", desc := "(II)I" } : Jvm.MethodName) ({ cls := "BondWarehouse", name := "withdraw", desc := "(II)I" } : Jvm.MethodName) ∈ TG := tg_4 0 rfl rfl
theorem kw_4_1 : Jvm.Cond.code ({ cls := "BondWarehouse", name := "withdraw", desc := "(II)I" } : Jvm.MethodName) prog_1_method_3_code (3 : Nat) (Option.some Jvm.ClassFile.FieldType.int) ∈ TG := tg_4 1 rfl rfl
theorem kw_3_237 : Jvm.Cond.classLink "BondWarehouseLaw" (21 : Nat) "java/lang/IndexOutOfBoundsException" ∈ TG := tg_3 237 rfl rfl
theorem kw_4_48 : Jvm.Cond.methodLink "BondWarehouseLaw" (23 : Nat) ({ cls := "BondWarehouse", name := "sendAbroad", desc := "(II)I" } : Jvm.MethodName) ∈ TG := tg_4 48 rfl rfl
theorem kw_4_49 : Jvm.Cond.instanceMethod ({ cls := "BondWarehouse", name := "sendAbroad", desc := "(II)I" } : Jvm.MethodName) ∈ TG := tg_4 49 rfl rfl
theorem kw_4_50 : Jvm.Cond.selects "BondWarehouse" ({ cls := "BondWarehouse", name := "sendAbroad", desc := "(II)I" } : Jvm.MethodName) ({ cls := "BondWarehouse", name := "sendAbroad", desc := "(II)I" } : Jvm.MethodName) ∈ TG := tg_4 50 rfl rfl
theorem kw_4_51 : Jvm.Cond.code ({ cls := "BondWarehouse", name := "sendAbroad", desc := "(II)I" } : Jvm.MethodName) prog_1_method_4_code (3 : Nat) (Option.some Jvm.ClassFile.FieldType.int) ∈ TG := tg_4 51 rfl rfl
theorem kw_4_63 : Jvm.Cond.methodLink "BondWarehouseLaw" (26 : Nat) ({ cls := "BondWarehouse", name := "drawBack", desc := "(II)I" } : Jvm.MethodName) ∈ TG := tg_4 63 rfl rfl
theorem kw_4_64 : Jvm.Cond.instanceMethod ({ cls := "BondWarehouse", name := "drawBack", desc := "(II)I" } : Jvm.MethodName) ∈ TG := tg_4 64 rfl rfl
theorem kw_4_65 : Jvm.Cond.selects "BondWarehouse" ({ cls := "BondWarehouse", name := "drawBack", desc := "(II)I" } : Jvm.MethodName) ({ cls := "BondWarehouse", name := "drawBack", desc := "(II)I" } : Jvm.MethodName) ∈ TG := tg_4 65 rfl rfl
theorem kw_4_66 : Jvm.Cond.code ({ cls := "BondWarehouse", name := "drawBack", desc := "(II)I" } : Jvm.MethodName) prog_1_method_5_code (3 : Nat) (Option.some Jvm.ClassFile.FieldType.int) ∈ TG := tg_4 66 rfl rfl
theorem kw_4_93 : Jvm.Cond.methodLink "BondWarehouseLaw" (29 : Nat) ({ cls := "BondWarehouse", name := "move", desc := "(II)I" } : Jvm.MethodName) ∈ TG := tg_4 93 rfl rfl
theorem kw_4_94 : Jvm.Cond.instanceMethod ({ cls := "BondWarehouse", name := "move", desc := "(II)I" } : Jvm.MethodName) ∈ TG := tg_4 94 rfl rfl
theorem kw_4_95 : Jvm.Cond.selects "BondWarehouse" ({ cls := "BondWarehouse", name := "move", desc := "(II)I" } : Jvm.MethodName) ({ cls := "BondWarehouse", name := "move", desc := "(II)I" } : Jvm.MethodName) ∈ TG := tg_4 95 rfl rfl
theorem kw_4_96 : Jvm.Cond.code ({ cls := "BondWarehouse", name := "move", desc := "(II)I" } : Jvm.MethodName) prog_1_method_6_code (3 : Nat) (Option.some Jvm.ClassFile.FieldType.int) ∈ TG := tg_4 96 rfl rfl
theorem kw_4_109 : Jvm.Cond.methodLink "BondWarehouseLaw" (32 : Nat) ({ cls := "BondWarehouse", name := "split", desc := "(II)I" } : Jvm.MethodName) ∈ TG := tg_4 109 rfl rfl
theorem kw_4_110 : Jvm.Cond.instanceMethod ({ cls := "BondWarehouse", name := "split", desc := "(II)I" } : Jvm.MethodName) ∈ TG := tg_4 110 rfl rfl
theorem kw_4_111 : Jvm.Cond.selects "BondWarehouse" ({ cls := "BondWarehouse", name := "split", desc := "(II)I" } : Jvm.MethodName) ({ cls := "BondWarehouse", name := "split", desc := "(II)I" } : Jvm.MethodName) ∈ TG := tg_4 111 rfl rfl
theorem kw_4_112 : Jvm.Cond.code ({ cls := "BondWarehouse", name := "split", desc := "(II)I" } : Jvm.MethodName) prog_1_method_7_code (3 : Nat) (Option.some Jvm.ClassFile.FieldType.int) ∈ TG := tg_4 112 rfl rfl
theorem kw_4_124 : Jvm.Cond.methodLink "BondWarehouseLaw" (35 : Nat) ({ cls := "BondWarehouse", name := "merge", desc := "(II)I" } : Jvm.MethodName) ∈ TG := tg_4 124 rfl rfl
theorem kw_4_125 : Jvm.Cond.instanceMethod ({ cls := "BondWarehouse", name := "merge", desc := "(II)I" } : Jvm.MethodName) ∈ TG := tg_4 125 rfl rfl
theorem kw_4_126 : Jvm.Cond.selects "BondWarehouse" ({ cls := "BondWarehouse", name := "merge", desc := "(II)I" } : Jvm.MethodName) ({ cls := "BondWarehouse", name := "merge", desc := "(II)I" } : Jvm.MethodName) ∈ TG := tg_4 126 rfl rfl
theorem kw_4_127 : Jvm.Cond.code ({ cls := "BondWarehouse", name := "merge", desc := "(II)I" } : Jvm.MethodName) prog_1_method_8_code (3 : Nat) (Option.some Jvm.ClassFile.FieldType.int) ∈ TG := tg_4 127 rfl rfl
theorem kw_4_147 : Jvm.Cond.methodLink "BondWarehouseLaw" (38 : Nat) ({ cls := "BondWarehouse", name := "weigh", desc := "(II)I" } : Jvm.MethodName) ∈ TG := tg_4 147 rfl rfl
theorem kw_4_148 : Jvm.Cond.instanceMethod ({ cls := "BondWarehouse", name := "weigh", desc := "(II)I" } : Jvm.MethodName) ∈ TG := tg_4 148 rfl rfl
theorem kw_4_149 : Jvm.Cond.selects "BondWarehouse" ({ cls := "BondWarehouse", name := "weigh", desc := "(II)I" } : Jvm.MethodName) ({ cls := "BondWarehouse", name := "weigh", desc := "(II)I" } : Jvm.MethodName) ∈ TG := tg_4 149 rfl rfl
theorem kw_4_150 : Jvm.Cond.code ({ cls := "BondWarehouse", name := "weigh", desc := "(II)I" } : Jvm.MethodName) prog_1_method_9_code (3 : Nat) (Option.some Jvm.ClassFile.FieldType.int) ∈ TG := tg_4 150 rfl rfl
theorem kw_4_178 : Jvm.Cond.methodLink "BondWarehouseLaw" (41 : Nat) ({ cls := "BondWarehouse", name := "lock", desc := "(I)I" } : Jvm.MethodName) ∈ TG := tg_4 178 rfl rfl
theorem kw_4_179 : Jvm.Cond.instanceMethod ({ cls := "BondWarehouse", name := "lock", desc := "(I)I" } : Jvm.MethodName) ∈ TG := tg_4 179 rfl rfl
theorem kw_4_180 : Jvm.Cond.selects "BondWarehouse" ({ cls := "BondWarehouse", name := "lock", desc := "(I)I" } : Jvm.MethodName) ({ cls := "BondWarehouse", name := "lock", desc := "(I)I" } : Jvm.MethodName) ∈ TG := tg_4 180 rfl rfl
theorem kw_4_181 : Jvm.Cond.code ({ cls := "BondWarehouse", name := "lock", desc := "(I)I" } : Jvm.MethodName) prog_1_method_10_code (2 : Nat) (Option.some Jvm.ClassFile.FieldType.int) ∈ TG := tg_4 181 rfl rfl
theorem kw_4_189 : Jvm.Cond.methodLink "BondWarehouseLaw" (45 : Nat) ({ cls := "BondWarehouse", name := "open", desc := "(I)I" } : Jvm.MethodName) ∈ TG := tg_4 189 rfl rfl
theorem kw_4_190 : Jvm.Cond.instanceMethod ({ cls := "BondWarehouse", name := "open", desc := "(I)I" } : Jvm.MethodName) ∈ TG := tg_4 190 rfl rfl
theorem kw_4_191 : Jvm.Cond.selects "BondWarehouse" ({ cls := "BondWarehouse", name := "open", desc := "(I)I" } : Jvm.MethodName) ({ cls := "BondWarehouse", name := "open", desc := "(I)I" } : Jvm.MethodName) ∈ TG := tg_4 191 rfl rfl
theorem kw_4_192 : Jvm.Cond.code ({ cls := "BondWarehouse", name := "open", desc := "(I)I" } : Jvm.MethodName) prog_1_method_11_code (2 : Nat) (Option.some Jvm.ClassFile.FieldType.int) ∈ TG := tg_4 192 rfl rfl
theorem kw_4_200 : Jvm.Cond.methodLink "BondWarehouseLaw" (48 : Nat) ({ cls := "BondWarehouse", name := "breakSeal", desc := "(I)I" } : Jvm.MethodName) ∈ TG := tg_4 200 rfl rfl
theorem kw_4_201 : Jvm.Cond.instanceMethod ({ cls := "BondWarehouse", name := "breakSeal", desc := "(I)I" } : Jvm.MethodName) ∈ TG := tg_4 201 rfl rfl
theorem kw_4_202 : Jvm.Cond.selects "BondWarehouse" ({ cls := "BondWarehouse", name := "breakSeal", desc := "(I)I" } : Jvm.MethodName) ({ cls := "BondWarehouse", name := "breakSeal", desc := "(I)I" } : Jvm.MethodName) ∈ TG := tg_4 202 rfl rfl
theorem kw_4_203 : Jvm.Cond.code ({ cls := "BondWarehouse", name := "breakSeal", desc := "(I)I" } : Jvm.MethodName) prog_1_method_12_code (2 : Nat) (Option.some Jvm.ClassFile.FieldType.int) ∈ TG := tg_4 203 rfl rfl
theorem kw_4_211 : Jvm.Cond.methodLink "BondWarehouseLaw" (51 : Nat) ({ cls := "BondWarehouse", name := "deposit", desc := "(I)I" } : Jvm.MethodName) ∈ TG := tg_4 211 rfl rfl
theorem kw_4_212 : Jvm.Cond.instanceMethod ({ cls := "BondWarehouse", name := "deposit", desc := "(I)I" } : Jvm.MethodName) ∈ TG := tg_4 212 rfl rfl
theorem kw_4_213 : Jvm.Cond.selects "BondWarehouse" ({ cls := "BondWarehouse", name := "deposit", desc := "(I)I" } : Jvm.MethodName) ({ cls := "BondWarehouse", name := "deposit", desc := "(I)I" } : Jvm.MethodName) ∈ TG := tg_4 213 rfl rfl
theorem kw_4_214 : Jvm.Cond.code ({ cls := "BondWarehouse", name := "deposit", desc := "(I)I" } : Jvm.MethodName) prog_1_method_13_code (2 : Nat) (Option.some Jvm.ClassFile.FieldType.int) ∈ TG := tg_4 214 rfl rfl
theorem kw_4_232 : Jvm.Cond.methodLink "BondWarehouseLaw" (54 : Nat) ({ cls := "BondWarehouse", name := "setBond", desc := "(I)I" } : Jvm.MethodName) ∈ TG := tg_4 232 rfl rfl
theorem kw_4_233 : Jvm.Cond.instanceMethod ({ cls := "BondWarehouse", name := "setBond", desc := "(I)I" } : Jvm.MethodName) ∈ TG := tg_4 233 rfl rfl
theorem kw_4_234 : Jvm.Cond.selects "BondWarehouse" ({ cls := "BondWarehouse", name := "setBond", desc := "(I)I" } : Jvm.MethodName) ({ cls := "BondWarehouse", name := "setBond", desc := "(I)I" } : Jvm.MethodName) ∈ TG := tg_4 234 rfl rfl
theorem kw_4_235 : Jvm.Cond.code ({ cls := "BondWarehouse", name := "setBond", desc := "(I)I" } : Jvm.MethodName) prog_1_method_14_code (2 : Nat) (Option.some Jvm.ClassFile.FieldType.int) ∈ TG := tg_4 235 rfl rfl
theorem kw_5_5 : Jvm.Cond.methodLink "BondWarehouseLaw" (57 : Nat) ({ cls := "BondWarehouse", name := "setRateByValue", desc := "(II)I" } : Jvm.MethodName) ∈ TG := tg_5 5 rfl rfl
theorem kw_5_6 : Jvm.Cond.instanceMethod ({ cls := "BondWarehouse", name := "setRateByValue", desc := "(II)I" } : Jvm.MethodName) ∈ TG := tg_5 6 rfl rfl
theorem kw_5_7 : Jvm.Cond.selects "BondWarehouse" ({ cls := "BondWarehouse", name := "setRateByValue", desc := "(II)I" } : Jvm.MethodName) ({ cls := "BondWarehouse", name := "setRateByValue", desc := "(II)I" } : Jvm.MethodName) ∈ TG := tg_5 7 rfl rfl
theorem kw_5_8 : Jvm.Cond.code ({ cls := "BondWarehouse", name := "setRateByValue", desc := "(II)I" } : Jvm.MethodName) prog_1_method_15_code (3 : Nat) (Option.some Jvm.ClassFile.FieldType.int) ∈ TG := tg_5 8 rfl rfl
theorem kw_5_16 : Jvm.Cond.methodLink "BondWarehouseLaw" (60 : Nat) ({ cls := "BondWarehouse", name := "setRateByWeight", desc := "(II)I" } : Jvm.MethodName) ∈ TG := tg_5 16 rfl rfl
theorem kw_5_17 : Jvm.Cond.instanceMethod ({ cls := "BondWarehouse", name := "setRateByWeight", desc := "(II)I" } : Jvm.MethodName) ∈ TG := tg_5 17 rfl rfl
theorem kw_5_18 : Jvm.Cond.selects "BondWarehouse" ({ cls := "BondWarehouse", name := "setRateByWeight", desc := "(II)I" } : Jvm.MethodName) ({ cls := "BondWarehouse", name := "setRateByWeight", desc := "(II)I" } : Jvm.MethodName) ∈ TG := tg_5 18 rfl rfl
theorem kw_5_19 : Jvm.Cond.code ({ cls := "BondWarehouse", name := "setRateByWeight", desc := "(II)I" } : Jvm.MethodName) prog_1_method_16_code (3 : Nat) (Option.some Jvm.ClassFile.FieldType.int) ∈ TG := tg_5 19 rfl rfl
theorem kw_5_27 : Jvm.Cond.methodLink "BondWarehouseLaw" (63 : Nat) ({ cls := "BondWarehouse", name := "pass", desc := "(I)I" } : Jvm.MethodName) ∈ TG := tg_5 27 rfl rfl
theorem kw_5_28 : Jvm.Cond.instanceMethod ({ cls := "BondWarehouse", name := "pass", desc := "(I)I" } : Jvm.MethodName) ∈ TG := tg_5 28 rfl rfl
theorem kw_5_29 : Jvm.Cond.selects "BondWarehouse" ({ cls := "BondWarehouse", name := "pass", desc := "(I)I" } : Jvm.MethodName) ({ cls := "BondWarehouse", name := "pass", desc := "(I)I" } : Jvm.MethodName) ∈ TG := tg_5 29 rfl rfl
theorem kw_5_30 : Jvm.Cond.code ({ cls := "BondWarehouse", name := "pass", desc := "(I)I" } : Jvm.MethodName) prog_1_method_17_code (2 : Nat) (Option.some Jvm.ClassFile.FieldType.int) ∈ TG := tg_5 30 rfl rfl
theorem kw_5_43 : Jvm.Cond.methodLink "BondWarehouseLaw" (66 : Nat) ({ cls := "BondWarehouse", name := "entryAt", desc := "(I)I" } : Jvm.MethodName) ∈ TG := tg_5 43 rfl rfl
theorem kw_5_44 : Jvm.Cond.instanceMethod ({ cls := "BondWarehouse", name := "entryAt", desc := "(I)I" } : Jvm.MethodName) ∈ TG := tg_5 44 rfl rfl
theorem kw_5_45 : Jvm.Cond.selects "BondWarehouse" ({ cls := "BondWarehouse", name := "entryAt", desc := "(I)I" } : Jvm.MethodName) ({ cls := "BondWarehouse", name := "entryAt", desc := "(I)I" } : Jvm.MethodName) ∈ TG := tg_5 45 rfl rfl
theorem kw_5_46 : Jvm.Cond.code ({ cls := "BondWarehouse", name := "entryAt", desc := "(I)I" } : Jvm.MethodName) prog_1_method_22_code (2 : Nat) (Option.some Jvm.ClassFile.FieldType.int) ∈ TG := tg_5 46 rfl rfl
theorem kw_5_51 : Jvm.Cond.methodLink "BondWarehouseLaw" (69 : Nat) ({ cls := "BondWarehouse", name := "kindOf", desc := "(I)I" } : Jvm.MethodName) ∈ TG := tg_5 51 rfl rfl
theorem kw_5_52 : Jvm.Cond.instanceMethod ({ cls := "BondWarehouse", name := "kindOf", desc := "(I)I" } : Jvm.MethodName) ∈ TG := tg_5 52 rfl rfl
theorem kw_5_53 : Jvm.Cond.selects "BondWarehouse" ({ cls := "BondWarehouse", name := "kindOf", desc := "(I)I" } : Jvm.MethodName) ({ cls := "BondWarehouse", name := "kindOf", desc := "(I)I" } : Jvm.MethodName) ∈ TG := tg_5 53 rfl rfl
theorem kw_5_54 : Jvm.Cond.code ({ cls := "BondWarehouse", name := "kindOf", desc := "(I)I" } : Jvm.MethodName) prog_1_method_23_code (2 : Nat) (Option.some Jvm.ClassFile.FieldType.int) ∈ TG := tg_5 54 rfl rfl
theorem kw_5_63 : Jvm.Cond.methodLink "BondWarehouseLaw" (72 : Nat) ({ cls := "BondWarehouse", name := "weightOf", desc := "(I)I" } : Jvm.MethodName) ∈ TG := tg_5 63 rfl rfl
theorem kw_5_64 : Jvm.Cond.instanceMethod ({ cls := "BondWarehouse", name := "weightOf", desc := "(I)I" } : Jvm.MethodName) ∈ TG := tg_5 64 rfl rfl
theorem kw_5_65 : Jvm.Cond.selects "BondWarehouse" ({ cls := "BondWarehouse", name := "weightOf", desc := "(I)I" } : Jvm.MethodName) ({ cls := "BondWarehouse", name := "weightOf", desc := "(I)I" } : Jvm.MethodName) ∈ TG := tg_5 65 rfl rfl
theorem kw_5_66 : Jvm.Cond.code ({ cls := "BondWarehouse", name := "weightOf", desc := "(I)I" } : Jvm.MethodName) prog_1_method_24_code (2 : Nat) (Option.some Jvm.ClassFile.FieldType.int) ∈ TG := tg_5 66 rfl rfl
theorem kw_5_70 : Jvm.Cond.methodLink "BondWarehouseLaw" (75 : Nat) ({ cls := "BondWarehouse", name := "valueOf", desc := "(I)I" } : Jvm.MethodName) ∈ TG := tg_5 70 rfl rfl
theorem kw_5_71 : Jvm.Cond.instanceMethod ({ cls := "BondWarehouse", name := "valueOf", desc := "(I)I" } : Jvm.MethodName) ∈ TG := tg_5 71 rfl rfl
theorem kw_5_72 : Jvm.Cond.selects "BondWarehouse" ({ cls := "BondWarehouse", name := "valueOf", desc := "(I)I" } : Jvm.MethodName) ({ cls := "BondWarehouse", name := "valueOf", desc := "(I)I" } : Jvm.MethodName) ∈ TG := tg_5 72 rfl rfl
theorem kw_5_73 : Jvm.Cond.code ({ cls := "BondWarehouse", name := "valueOf", desc := "(I)I" } : Jvm.MethodName) prog_1_method_25_code (2 : Nat) (Option.some Jvm.ClassFile.FieldType.int) ∈ TG := tg_5 73 rfl rfl
theorem kw_5_77 : Jvm.Cond.methodLink "BondWarehouseLaw" (78 : Nat) ({ cls := "BondWarehouse", name := "chamberOf", desc := "(I)I" } : Jvm.MethodName) ∈ TG := tg_5 77 rfl rfl
theorem kw_5_78 : Jvm.Cond.instanceMethod ({ cls := "BondWarehouse", name := "chamberOf", desc := "(I)I" } : Jvm.MethodName) ∈ TG := tg_5 78 rfl rfl
theorem kw_5_79 : Jvm.Cond.selects "BondWarehouse" ({ cls := "BondWarehouse", name := "chamberOf", desc := "(I)I" } : Jvm.MethodName) ({ cls := "BondWarehouse", name := "chamberOf", desc := "(I)I" } : Jvm.MethodName) ∈ TG := tg_5 79 rfl rfl
theorem kw_5_80 : Jvm.Cond.code ({ cls := "BondWarehouse", name := "chamberOf", desc := "(I)I" } : Jvm.MethodName) prog_1_method_26_code (2 : Nat) (Option.some Jvm.ClassFile.FieldType.int) ∈ TG := tg_5 80 rfl rfl
theorem kw_5_84 : Jvm.Cond.methodLink "BondWarehouseLaw" (81 : Nat) ({ cls := "BondWarehouse", name := "ageOf", desc := "(I)I" } : Jvm.MethodName) ∈ TG := tg_5 84 rfl rfl
theorem kw_5_85 : Jvm.Cond.instanceMethod ({ cls := "BondWarehouse", name := "ageOf", desc := "(I)I" } : Jvm.MethodName) ∈ TG := tg_5 85 rfl rfl
theorem kw_5_86 : Jvm.Cond.selects "BondWarehouse" ({ cls := "BondWarehouse", name := "ageOf", desc := "(I)I" } : Jvm.MethodName) ({ cls := "BondWarehouse", name := "ageOf", desc := "(I)I" } : Jvm.MethodName) ∈ TG := tg_5 86 rfl rfl
theorem kw_5_87 : Jvm.Cond.code ({ cls := "BondWarehouse", name := "ageOf", desc := "(I)I" } : Jvm.MethodName) prog_1_method_27_code (2 : Nat) (Option.some Jvm.ClassFile.FieldType.int) ∈ TG := tg_5 87 rfl rfl
theorem kw_5_92 : Jvm.Cond.methodLink "BondWarehouseLaw" (84 : Nat) ({ cls := "BondWarehouse", name := "isProved", desc := "(I)Z" } : Jvm.MethodName) ∈ TG := tg_5 92 rfl rfl
theorem kw_5_93 : Jvm.Cond.instanceMethod ({ cls := "BondWarehouse", name := "isProved", desc := "(I)Z" } : Jvm.MethodName) ∈ TG := tg_5 93 rfl rfl
theorem kw_5_94 : Jvm.Cond.selects "BondWarehouse" ({ cls := "BondWarehouse", name := "isProved", desc := "(I)Z" } : Jvm.MethodName) ({ cls := "BondWarehouse", name := "isProved", desc := "(I)Z" } : Jvm.MethodName) ∈ TG := tg_5 94 rfl rfl
theorem kw_5_95 : Jvm.Cond.code ({ cls := "BondWarehouse", name := "isProved", desc := "(I)Z" } : Jvm.MethodName) prog_1_method_28_code (2 : Nat) (Option.some Jvm.ClassFile.FieldType.boolean) ∈ TG := tg_5 95 rfl rfl
theorem kw_5_99 : Jvm.Cond.methodLink "BondWarehouseLaw" (88 : Nat) ({ cls := "BondWarehouse", name := "isOverdue", desc := "(I)Z" } : Jvm.MethodName) ∈ TG := tg_5 99 rfl rfl
theorem kw_5_100 : Jvm.Cond.instanceMethod ({ cls := "BondWarehouse", name := "isOverdue", desc := "(I)Z" } : Jvm.MethodName) ∈ TG := tg_5 100 rfl rfl
theorem kw_5_101 : Jvm.Cond.selects "BondWarehouse" ({ cls := "BondWarehouse", name := "isOverdue", desc := "(I)Z" } : Jvm.MethodName) ({ cls := "BondWarehouse", name := "isOverdue", desc := "(I)Z" } : Jvm.MethodName) ∈ TG := tg_5 101 rfl rfl
theorem kw_5_102 : Jvm.Cond.code ({ cls := "BondWarehouse", name := "isOverdue", desc := "(I)Z" } : Jvm.MethodName) prog_1_method_29_code (2 : Nat) (Option.some Jvm.ClassFile.FieldType.boolean) ∈ TG := tg_5 102 rfl rfl
theorem kw_5_107 : Jvm.Cond.methodLink "BondWarehouseLaw" (91 : Nat) ({ cls := "BondWarehouse", name := "dutyOfPart", desc := "(II)I" } : Jvm.MethodName) ∈ TG := tg_5 107 rfl rfl
theorem kw_5_108 : Jvm.Cond.instanceMethod ({ cls := "BondWarehouse", name := "dutyOfPart", desc := "(II)I" } : Jvm.MethodName) ∈ TG := tg_5 108 rfl rfl
theorem kw_5_109 : Jvm.Cond.selects "BondWarehouse" ({ cls := "BondWarehouse", name := "dutyOfPart", desc := "(II)I" } : Jvm.MethodName) ({ cls := "BondWarehouse", name := "dutyOfPart", desc := "(II)I" } : Jvm.MethodName) ∈ TG := tg_5 109 rfl rfl
theorem kw_5_110 : Jvm.Cond.code ({ cls := "BondWarehouse", name := "dutyOfPart", desc := "(II)I" } : Jvm.MethodName) prog_1_method_30_code (4 : Nat) (Option.some Jvm.ClassFile.FieldType.int) ∈ TG := tg_5 110 rfl rfl
theorem kw_5_118 : Jvm.Cond.methodLink "BondWarehouseLaw" (94 : Nat) ({ cls := "BondWarehouse", name := "dutyOf", desc := "(I)I" } : Jvm.MethodName) ∈ TG := tg_5 118 rfl rfl
theorem kw_5_119 : Jvm.Cond.instanceMethod ({ cls := "BondWarehouse", name := "dutyOf", desc := "(I)I" } : Jvm.MethodName) ∈ TG := tg_5 119 rfl rfl
theorem kw_5_120 : Jvm.Cond.selects "BondWarehouse" ({ cls := "BondWarehouse", name := "dutyOf", desc := "(I)I" } : Jvm.MethodName) ({ cls := "BondWarehouse", name := "dutyOf", desc := "(I)I" } : Jvm.MethodName) ∈ TG := tg_5 120 rfl rfl
theorem kw_5_121 : Jvm.Cond.code ({ cls := "BondWarehouse", name := "dutyOf", desc := "(I)I" } : Jvm.MethodName) prog_1_method_31_code (3 : Nat) (Option.some Jvm.ClassFile.FieldType.int) ∈ TG := tg_5 121 rfl rfl
theorem kw_5_126 : Jvm.Cond.methodLink "BondWarehouseLaw" (97 : Nat) ({ cls := "BondWarehouse", name := "allowedWaste", desc := "(I)I" } : Jvm.MethodName) ∈ TG := tg_5 126 rfl rfl
theorem kw_5_127 : Jvm.Cond.instanceMethod ({ cls := "BondWarehouse", name := "allowedWaste", desc := "(I)I" } : Jvm.MethodName) ∈ TG := tg_5 127 rfl rfl
theorem kw_5_128 : Jvm.Cond.selects "BondWarehouse" ({ cls := "BondWarehouse", name := "allowedWaste", desc := "(I)I" } : Jvm.MethodName) ({ cls := "BondWarehouse", name := "allowedWaste", desc := "(I)I" } : Jvm.MethodName) ∈ TG := tg_5 128 rfl rfl
theorem kw_5_129 : Jvm.Cond.code ({ cls := "BondWarehouse", name := "allowedWaste", desc := "(I)I" } : Jvm.MethodName) prog_1_method_32_code (2 : Nat) (Option.some Jvm.ClassFile.FieldType.int) ∈ TG := tg_5 129 rfl rfl
theorem kw_5_134 : Jvm.Cond.methodLink "BondWarehouseLaw" (100 : Nat) ({ cls := "BondWarehouse", name := "isLocked", desc := "(I)Z" } : Jvm.MethodName) ∈ TG := tg_5 134 rfl rfl
theorem kw_5_135 : Jvm.Cond.instanceMethod ({ cls := "BondWarehouse", name := "isLocked", desc := "(I)Z" } : Jvm.MethodName) ∈ TG := tg_5 135 rfl rfl
theorem kw_5_136 : Jvm.Cond.selects "BondWarehouse" ({ cls := "BondWarehouse", name := "isLocked", desc := "(I)Z" } : Jvm.MethodName) ({ cls := "BondWarehouse", name := "isLocked", desc := "(I)Z" } : Jvm.MethodName) ∈ TG := tg_5 136 rfl rfl
theorem kw_5_137 : Jvm.Cond.code ({ cls := "BondWarehouse", name := "isLocked", desc := "(I)Z" } : Jvm.MethodName) prog_1_method_34_code (2 : Nat) (Option.some Jvm.ClassFile.FieldType.boolean) ∈ TG := tg_5 137 rfl rfl
theorem kw_5_150 : Jvm.Cond.methodLink "BondWarehouseLaw" (103 : Nat) ({ cls := "BondWarehouse", name := "sealOf", desc := "(I)I" } : Jvm.MethodName) ∈ TG := tg_5 150 rfl rfl
theorem kw_5_151 : Jvm.Cond.instanceMethod ({ cls := "BondWarehouse", name := "sealOf", desc := "(I)I" } : Jvm.MethodName) ∈ TG := tg_5 151 rfl rfl
theorem kw_5_152 : Jvm.Cond.selects "BondWarehouse" ({ cls := "BondWarehouse", name := "sealOf", desc := "(I)I" } : Jvm.MethodName) ({ cls := "BondWarehouse", name := "sealOf", desc := "(I)I" } : Jvm.MethodName) ∈ TG := tg_5 152 rfl rfl
theorem kw_5_153 : Jvm.Cond.code ({ cls := "BondWarehouse", name := "sealOf", desc := "(I)I" } : Jvm.MethodName) prog_1_method_35_code (2 : Nat) (Option.some Jvm.ClassFile.FieldType.int) ∈ TG := tg_5 153 rfl rfl
theorem kw_5_157 : Jvm.Cond.methodLink "BondWarehouseLaw" (106 : Nat) ({ cls := "BondWarehouse", name := "isSealBroken", desc := "(I)Z" } : Jvm.MethodName) ∈ TG := tg_5 157 rfl rfl
theorem kw_5_158 : Jvm.Cond.instanceMethod ({ cls := "BondWarehouse", name := "isSealBroken", desc := "(I)Z" } : Jvm.MethodName) ∈ TG := tg_5 158 rfl rfl
theorem kw_5_159 : Jvm.Cond.selects "BondWarehouse" ({ cls := "BondWarehouse", name := "isSealBroken", desc := "(I)Z" } : Jvm.MethodName) ({ cls := "BondWarehouse", name := "isSealBroken", desc := "(I)Z" } : Jvm.MethodName) ∈ TG := tg_5 159 rfl rfl
theorem kw_5_160 : Jvm.Cond.code ({ cls := "BondWarehouse", name := "isSealBroken", desc := "(I)Z" } : Jvm.MethodName) prog_1_method_36_code (2 : Nat) (Option.some Jvm.ClassFile.FieldType.boolean) ∈ TG := tg_5 160 rfl rfl
theorem kw_5_164 : Jvm.Cond.methodLink "BondWarehouseLaw" (109 : Nat) ({ cls := "BondWarehouse", name := "entriesIn", desc := "(I)I" } : Jvm.MethodName) ∈ TG := tg_5 164 rfl rfl
theorem kw_5_165 : Jvm.Cond.instanceMethod ({ cls := "BondWarehouse", name := "entriesIn", desc := "(I)I" } : Jvm.MethodName) ∈ TG := tg_5 165 rfl rfl
theorem kw_5_166 : Jvm.Cond.selects "BondWarehouse" ({ cls := "BondWarehouse", name := "entriesIn", desc := "(I)I" } : Jvm.MethodName) ({ cls := "BondWarehouse", name := "entriesIn", desc := "(I)I" } : Jvm.MethodName) ∈ TG := tg_5 166 rfl rfl
theorem kw_5_167 : Jvm.Cond.code ({ cls := "BondWarehouse", name := "entriesIn", desc := "(I)I" } : Jvm.MethodName) prog_1_method_37_code (2 : Nat) (Option.some Jvm.ClassFile.FieldType.int) ∈ TG := tg_5 167 rfl rfl
theorem kw_5_175 : Jvm.Cond.methodLink "BondWarehouseLaw" (112 : Nat) ({ cls := "BondWarehouse", name := "roomIn", desc := "(I)I" } : Jvm.MethodName) ∈ TG := tg_5 175 rfl rfl
theorem kw_5_176 : Jvm.Cond.instanceMethod ({ cls := "BondWarehouse", name := "roomIn", desc := "(I)I" } : Jvm.MethodName) ∈ TG := tg_5 176 rfl rfl
theorem kw_5_177 : Jvm.Cond.selects "BondWarehouse" ({ cls := "BondWarehouse", name := "roomIn", desc := "(I)I" } : Jvm.MethodName) ({ cls := "BondWarehouse", name := "roomIn", desc := "(I)I" } : Jvm.MethodName) ∈ TG := tg_5 177 rfl rfl
theorem kw_5_178 : Jvm.Cond.code ({ cls := "BondWarehouse", name := "roomIn", desc := "(I)I" } : Jvm.MethodName) prog_1_method_38_code (2 : Nat) (Option.some Jvm.ClassFile.FieldType.int) ∈ TG := tg_5 178 rfl rfl
theorem kw_5_183 : Jvm.Cond.methodLink "BondWarehouseLaw" (115 : Nat) ({ cls := "BondWarehouse", name := "receiptKind", desc := "(I)I" } : Jvm.MethodName) ∈ TG := tg_5 183 rfl rfl
theorem kw_5_184 : Jvm.Cond.instanceMethod ({ cls := "BondWarehouse", name := "receiptKind", desc := "(I)I" } : Jvm.MethodName) ∈ TG := tg_5 184 rfl rfl
theorem kw_5_185 : Jvm.Cond.selects "BondWarehouse" ({ cls := "BondWarehouse", name := "receiptKind", desc := "(I)I" } : Jvm.MethodName) ({ cls := "BondWarehouse", name := "receiptKind", desc := "(I)I" } : Jvm.MethodName) ∈ TG := tg_5 185 rfl rfl
theorem kw_5_186 : Jvm.Cond.code ({ cls := "BondWarehouse", name := "receiptKind", desc := "(I)I" } : Jvm.MethodName) prog_1_method_40_code (2 : Nat) (Option.some Jvm.ClassFile.FieldType.int) ∈ TG := tg_5 186 rfl rfl
theorem kw_5_196 : Jvm.Cond.methodLink "BondWarehouseLaw" (118 : Nat) ({ cls := "BondWarehouse", name := "receiptWeight", desc := "(I)I" } : Jvm.MethodName) ∈ TG := tg_5 196 rfl rfl
theorem kw_5_197 : Jvm.Cond.instanceMethod ({ cls := "BondWarehouse", name := "receiptWeight", desc := "(I)I" } : Jvm.MethodName) ∈ TG := tg_5 197 rfl rfl
theorem kw_5_198 : Jvm.Cond.selects "BondWarehouse" ({ cls := "BondWarehouse", name := "receiptWeight", desc := "(I)I" } : Jvm.MethodName) ({ cls := "BondWarehouse", name := "receiptWeight", desc := "(I)I" } : Jvm.MethodName) ∈ TG := tg_5 198 rfl rfl
theorem kw_5_199 : Jvm.Cond.code ({ cls := "BondWarehouse", name := "receiptWeight", desc := "(I)I" } : Jvm.MethodName) prog_1_method_41_code (2 : Nat) (Option.some Jvm.ClassFile.FieldType.int) ∈ TG := tg_5 199 rfl rfl
theorem kw_5_203 : Jvm.Cond.methodLink "BondWarehouseLaw" (121 : Nat) ({ cls := "BondWarehouse", name := "receiptDuty", desc := "(I)I" } : Jvm.MethodName) ∈ TG := tg_5 203 rfl rfl
theorem kw_5_204 : Jvm.Cond.instanceMethod ({ cls := "BondWarehouse", name := "receiptDuty", desc := "(I)I" } : Jvm.MethodName) ∈ TG := tg_5 204 rfl rfl
theorem kw_5_205 : Jvm.Cond.selects "BondWarehouse" ({ cls := "BondWarehouse", name := "receiptDuty", desc := "(I)I" } : Jvm.MethodName) ({ cls := "BondWarehouse", name := "receiptDuty", desc := "(I)I" } : Jvm.MethodName) ∈ TG := tg_5 205 rfl rfl
theorem kw_5_206 : Jvm.Cond.code ({ cls := "BondWarehouse", name := "receiptDuty", desc := "(I)I" } : Jvm.MethodName) prog_1_method_42_code (2 : Nat) (Option.some Jvm.ClassFile.FieldType.int) ∈ TG := tg_5 206 rfl rfl
theorem kw_5_210 : Jvm.Cond.methodLink "BondWarehouseLaw" (124 : Nat) ({ cls := "BondWarehouse", name := "receiptAge", desc := "(I)I" } : Jvm.MethodName) ∈ TG := tg_5 210 rfl rfl
theorem kw_5_211 : Jvm.Cond.instanceMethod ({ cls := "BondWarehouse", name := "receiptAge", desc := "(I)I" } : Jvm.MethodName) ∈ TG := tg_5 211 rfl rfl
theorem kw_5_212 : Jvm.Cond.selects "BondWarehouse" ({ cls := "BondWarehouse", name := "receiptAge", desc := "(I)I" } : Jvm.MethodName) ({ cls := "BondWarehouse", name := "receiptAge", desc := "(I)I" } : Jvm.MethodName) ∈ TG := tg_5 212 rfl rfl
theorem kw_5_213 : Jvm.Cond.code ({ cls := "BondWarehouse", name := "receiptAge", desc := "(I)I" } : Jvm.MethodName) prog_1_method_43_code (2 : Nat) (Option.some Jvm.ClassFile.FieldType.int) ∈ TG := tg_5 213 rfl rfl
theorem kw_5_217 : Jvm.Cond.methodLink "BondWarehouseLaw" (127 : Nat) ({ cls := "BondWarehouse", name := "rateByValue", desc := "(I)I" } : Jvm.MethodName) ∈ TG := tg_5 217 rfl rfl
theorem kw_5_218 : Jvm.Cond.instanceMethod ({ cls := "BondWarehouse", name := "rateByValue", desc := "(I)I" } : Jvm.MethodName) ∈ TG := tg_5 218 rfl rfl
theorem kw_5_219 : Jvm.Cond.selects "BondWarehouse" ({ cls := "BondWarehouse", name := "rateByValue", desc := "(I)I" } : Jvm.MethodName) ({ cls := "BondWarehouse", name := "rateByValue", desc := "(I)I" } : Jvm.MethodName) ∈ TG := tg_5 219 rfl rfl
theorem kw_5_220 : Jvm.Cond.code ({ cls := "BondWarehouse", name := "rateByValue", desc := "(I)I" } : Jvm.MethodName) prog_1_method_44_code (2 : Nat) (Option.some Jvm.ClassFile.FieldType.int) ∈ TG := tg_5 220 rfl rfl
theorem kw_5_228 : Jvm.Cond.methodLink "BondWarehouseLaw" (130 : Nat) ({ cls := "BondWarehouse", name := "rateByWeight", desc := "(I)I" } : Jvm.MethodName) ∈ TG := tg_5 228 rfl rfl
theorem kw_5_229 : Jvm.Cond.instanceMethod ({ cls := "BondWarehouse", name := "rateByWeight", desc := "(I)I" } : Jvm.MethodName) ∈ TG := tg_5 229 rfl rfl
theorem kw_5_230 : Jvm.Cond.selects "BondWarehouse" ({ cls := "BondWarehouse", name := "rateByWeight", desc := "(I)I" } : Jvm.MethodName) ({ cls := "BondWarehouse", name := "rateByWeight", desc := "(I)I" } : Jvm.MethodName) ∈ TG := tg_5 230 rfl rfl
theorem kw_5_231 : Jvm.Cond.code ({ cls := "BondWarehouse", name := "rateByWeight", desc := "(I)I" } : Jvm.MethodName) prog_1_method_45_code (2 : Nat) (Option.some Jvm.ClassFile.FieldType.int) ∈ TG := tg_5 231 rfl rfl
theorem kw_5_235 : Jvm.Cond.methodLink "BondWarehouseLaw" (133 : Nat) ({ cls := "BondWarehouse", name := "entered", desc := "(I)I" } : Jvm.MethodName) ∈ TG := tg_5 235 rfl rfl
theorem kw_5_236 : Jvm.Cond.instanceMethod ({ cls := "BondWarehouse", name := "entered", desc := "(I)I" } : Jvm.MethodName) ∈ TG := tg_5 236 rfl rfl
theorem kw_5_237 : Jvm.Cond.selects "BondWarehouse" ({ cls := "BondWarehouse", name := "entered", desc := "(I)I" } : Jvm.MethodName) ({ cls := "BondWarehouse", name := "entered", desc := "(I)I" } : Jvm.MethodName) ∈ TG := tg_5 237 rfl rfl
theorem kw_5_238 : Jvm.Cond.code ({ cls := "BondWarehouse", name := "entered", desc := "(I)I" } : Jvm.MethodName) prog_1_method_56_code (2 : Nat) (Option.some Jvm.ClassFile.FieldType.int) ∈ TG := tg_5 238 rfl rfl
theorem kw_6_2 : Jvm.Cond.methodLink "BondWarehouseLaw" (136 : Nat) ({ cls := "BondWarehouse", name := "withdrawn", desc := "(I)I" } : Jvm.MethodName) ∈ TG := tg_6 2 rfl rfl
theorem kw_6_3 : Jvm.Cond.instanceMethod ({ cls := "BondWarehouse", name := "withdrawn", desc := "(I)I" } : Jvm.MethodName) ∈ TG := tg_6 3 rfl rfl
theorem kw_6_4 : Jvm.Cond.selects "BondWarehouse" ({ cls := "BondWarehouse", name := "withdrawn", desc := "(I)I" } : Jvm.MethodName) ({ cls := "BondWarehouse", name := "withdrawn", desc := "(I)I" } : Jvm.MethodName) ∈ TG := tg_6 4 rfl rfl
theorem kw_6_5 : Jvm.Cond.code ({ cls := "BondWarehouse", name := "withdrawn", desc := "(I)I" } : Jvm.MethodName) prog_1_method_57_code (2 : Nat) (Option.some Jvm.ClassFile.FieldType.int) ∈ TG := tg_6 5 rfl rfl
theorem kw_6_9 : Jvm.Cond.methodLink "BondWarehouseLaw" (139 : Nat) ({ cls := "BondWarehouse", name := "sentAbroad", desc := "(I)I" } : Jvm.MethodName) ∈ TG := tg_6 9 rfl rfl
theorem kw_6_10 : Jvm.Cond.instanceMethod ({ cls := "BondWarehouse", name := "sentAbroad", desc := "(I)I" } : Jvm.MethodName) ∈ TG := tg_6 10 rfl rfl
theorem kw_6_11 : Jvm.Cond.selects "BondWarehouse" ({ cls := "BondWarehouse", name := "sentAbroad", desc := "(I)I" } : Jvm.MethodName) ({ cls := "BondWarehouse", name := "sentAbroad", desc := "(I)I" } : Jvm.MethodName) ∈ TG := tg_6 11 rfl rfl
theorem kw_6_12 : Jvm.Cond.code ({ cls := "BondWarehouse", name := "sentAbroad", desc := "(I)I" } : Jvm.MethodName) prog_1_method_58_code (2 : Nat) (Option.some Jvm.ClassFile.FieldType.int) ∈ TG := tg_6 12 rfl rfl
theorem kw_6_16 : Jvm.Cond.methodLink "BondWarehouseLaw" (142 : Nat) ({ cls := "BondWarehouse", name := "wasted", desc := "(I)I" } : Jvm.MethodName) ∈ TG := tg_6 16 rfl rfl
theorem kw_6_17 : Jvm.Cond.instanceMethod ({ cls := "BondWarehouse", name := "wasted", desc := "(I)I" } : Jvm.MethodName) ∈ TG := tg_6 17 rfl rfl
theorem kw_6_18 : Jvm.Cond.selects "BondWarehouse" ({ cls := "BondWarehouse", name := "wasted", desc := "(I)I" } : Jvm.MethodName) ({ cls := "BondWarehouse", name := "wasted", desc := "(I)I" } : Jvm.MethodName) ∈ TG := tg_6 18 rfl rfl
theorem kw_6_19 : Jvm.Cond.code ({ cls := "BondWarehouse", name := "wasted", desc := "(I)I" } : Jvm.MethodName) prog_1_method_59_code (2 : Nat) (Option.some Jvm.ClassFile.FieldType.int) ∈ TG := tg_6 19 rfl rfl
theorem kw_6_23 : Jvm.Cond.methodLink "BondWarehouseLaw" (145 : Nat) ({ cls := "BondWarehouse", name := "lost", desc := "(I)I" } : Jvm.MethodName) ∈ TG := tg_6 23 rfl rfl
theorem kw_6_24 : Jvm.Cond.instanceMethod ({ cls := "BondWarehouse", name := "lost", desc := "(I)I" } : Jvm.MethodName) ∈ TG := tg_6 24 rfl rfl
theorem kw_6_25 : Jvm.Cond.selects "BondWarehouse" ({ cls := "BondWarehouse", name := "lost", desc := "(I)I" } : Jvm.MethodName) ({ cls := "BondWarehouse", name := "lost", desc := "(I)I" } : Jvm.MethodName) ∈ TG := tg_6 25 rfl rfl
theorem kw_6_26 : Jvm.Cond.code ({ cls := "BondWarehouse", name := "lost", desc := "(I)I" } : Jvm.MethodName) prog_1_method_60_code (2 : Nat) (Option.some Jvm.ClassFile.FieldType.int) ∈ TG := tg_6 26 rfl rfl
theorem kw_6_30 : Jvm.Cond.methodLink "BondWarehouseLaw" (148 : Nat) ({ cls := "BondWarehouse", name := "drawnBack", desc := "(I)I" } : Jvm.MethodName) ∈ TG := tg_6 30 rfl rfl
theorem kw_6_31 : Jvm.Cond.instanceMethod ({ cls := "BondWarehouse", name := "drawnBack", desc := "(I)I" } : Jvm.MethodName) ∈ TG := tg_6 31 rfl rfl
theorem kw_6_32 : Jvm.Cond.selects "BondWarehouse" ({ cls := "BondWarehouse", name := "drawnBack", desc := "(I)I" } : Jvm.MethodName) ({ cls := "BondWarehouse", name := "drawnBack", desc := "(I)I" } : Jvm.MethodName) ∈ TG := tg_6 32 rfl rfl
theorem kw_6_33 : Jvm.Cond.code ({ cls := "BondWarehouse", name := "drawnBack", desc := "(I)I" } : Jvm.MethodName) prog_1_method_61_code (2 : Nat) (Option.some Jvm.ClassFile.FieldType.int) ∈ TG := tg_6 33 rfl rfl
theorem kw_6_37 : Jvm.Cond.methodLink "BondWarehouseLaw" (151 : Nat) ({ cls := "BondWarehouse", name := "stockByEntries", desc := "(I)I" } : Jvm.MethodName) ∈ TG := tg_6 37 rfl rfl
theorem kw_6_38 : Jvm.Cond.instanceMethod ({ cls := "BondWarehouse", name := "stockByEntries", desc := "(I)I" } : Jvm.MethodName) ∈ TG := tg_6 38 rfl rfl
theorem kw_6_39 : Jvm.Cond.selects "BondWarehouse" ({ cls := "BondWarehouse", name := "stockByEntries", desc := "(I)I" } : Jvm.MethodName) ({ cls := "BondWarehouse", name := "stockByEntries", desc := "(I)I" } : Jvm.MethodName) ∈ TG := tg_6 39 rfl rfl
theorem kw_6_40 : Jvm.Cond.code ({ cls := "BondWarehouse", name := "stockByEntries", desc := "(I)I" } : Jvm.MethodName) prog_1_method_62_code (2 : Nat) (Option.some Jvm.ClassFile.FieldType.int) ∈ TG := tg_6 40 rfl rfl
theorem kw_6_48 : Jvm.Cond.methodLink "BondWarehouseLaw" (154 : Nat) ({ cls := "BondWarehouse", name := "stockByTotals", desc := "(I)I" } : Jvm.MethodName) ∈ TG := tg_6 48 rfl rfl
theorem kw_6_49 : Jvm.Cond.instanceMethod ({ cls := "BondWarehouse", name := "stockByTotals", desc := "(I)I" } : Jvm.MethodName) ∈ TG := tg_6 49 rfl rfl
theorem kw_6_50 : Jvm.Cond.selects "BondWarehouse" ({ cls := "BondWarehouse", name := "stockByTotals", desc := "(I)I" } : Jvm.MethodName) ({ cls := "BondWarehouse", name := "stockByTotals", desc := "(I)I" } : Jvm.MethodName) ∈ TG := tg_6 50 rfl rfl
theorem kw_6_51 : Jvm.Cond.code ({ cls := "BondWarehouse", name := "stockByTotals", desc := "(I)I" } : Jvm.MethodName) prog_1_method_63_code (3 : Nat) (Option.some Jvm.ClassFile.FieldType.int) ∈ TG := tg_6 51 rfl rfl
theorem kw_6_55 : Jvm.Cond.methodLink "BondWarehouseLaw" (157 : Nat) ({ cls := "BondWarehouse", name := "whyNoEntry", desc := "(IIII)I" } : Jvm.MethodName) ∈ TG := tg_6 55 rfl rfl
theorem kw_6_56 : Jvm.Cond.instanceMethod ({ cls := "BondWarehouse", name := "whyNoEntry", desc := "(IIII)I" } : Jvm.MethodName) ∈ TG := tg_6 56 rfl rfl
theorem kw_6_57 : Jvm.Cond.selects "BondWarehouse" ({ cls := "BondWarehouse", name := "whyNoEntry", desc := "(IIII)I" } : Jvm.MethodName) ({ cls := "BondWarehouse", name := "whyNoEntry", desc := "(IIII)I" } : Jvm.MethodName) ∈ TG := tg_6 57 rfl rfl
theorem kw_6_58 : Jvm.Cond.code ({ cls := "BondWarehouse", name := "whyNoEntry", desc := "(IIII)I" } : Jvm.MethodName) prog_1_method_64_code (5 : Nat) (Option.some Jvm.ClassFile.FieldType.int) ∈ TG := tg_6 58 rfl rfl
theorem kw_6_64 : Jvm.Cond.methodLink "BondWarehouseLaw" (160 : Nat) ({ cls := "BondWarehouse", name := "whyNoWithdrawal", desc := "(II)I" } : Jvm.MethodName) ∈ TG := tg_6 64 rfl rfl
theorem kw_6_65 : Jvm.Cond.instanceMethod ({ cls := "BondWarehouse", name := "whyNoWithdrawal", desc := "(II)I" } : Jvm.MethodName) ∈ TG := tg_6 65 rfl rfl
theorem kw_6_66 : Jvm.Cond.selects "BondWarehouse" ({ cls := "BondWarehouse", name := "whyNoWithdrawal", desc := "(II)I" } : Jvm.MethodName) ({ cls := "BondWarehouse", name := "whyNoWithdrawal", desc := "(II)I" } : Jvm.MethodName) ∈ TG := tg_6 66 rfl rfl
theorem kw_6_67 : Jvm.Cond.code ({ cls := "BondWarehouse", name := "whyNoWithdrawal", desc := "(II)I" } : Jvm.MethodName) prog_1_method_65_code (4 : Nat) (Option.some Jvm.ClassFile.FieldType.int) ∈ TG := tg_6 67 rfl rfl
theorem kw_6_72 : Jvm.Cond.methodLink "BondWarehouseLaw" (163 : Nat) ({ cls := "BondWarehouse", name := "whyNoExport", desc := "(II)I" } : Jvm.MethodName) ∈ TG := tg_6 72 rfl rfl
theorem kw_6_73 : Jvm.Cond.instanceMethod ({ cls := "BondWarehouse", name := "whyNoExport", desc := "(II)I" } : Jvm.MethodName) ∈ TG := tg_6 73 rfl rfl
theorem kw_6_74 : Jvm.Cond.selects "BondWarehouse" ({ cls := "BondWarehouse", name := "whyNoExport", desc := "(II)I" } : Jvm.MethodName) ({ cls := "BondWarehouse", name := "whyNoExport", desc := "(II)I" } : Jvm.MethodName) ∈ TG := tg_6 74 rfl rfl
theorem kw_6_75 : Jvm.Cond.code ({ cls := "BondWarehouse", name := "whyNoExport", desc := "(II)I" } : Jvm.MethodName) prog_1_method_66_code (4 : Nat) (Option.some Jvm.ClassFile.FieldType.int) ∈ TG := tg_6 75 rfl rfl
theorem kw_6_80 : Jvm.Cond.methodLink "BondWarehouseLaw" (166 : Nat) ({ cls := "BondWarehouse", name := "whyNoMove", desc := "(II)I" } : Jvm.MethodName) ∈ TG := tg_6 80 rfl rfl
theorem kw_6_81 : Jvm.Cond.instanceMethod ({ cls := "BondWarehouse", name := "whyNoMove", desc := "(II)I" } : Jvm.MethodName) ∈ TG := tg_6 81 rfl rfl
theorem kw_6_82 : Jvm.Cond.selects "BondWarehouse" ({ cls := "BondWarehouse", name := "whyNoMove", desc := "(II)I" } : Jvm.MethodName) ({ cls := "BondWarehouse", name := "whyNoMove", desc := "(II)I" } : Jvm.MethodName) ∈ TG := tg_6 82 rfl rfl
theorem kw_6_83 : Jvm.Cond.code ({ cls := "BondWarehouse", name := "whyNoMove", desc := "(II)I" } : Jvm.MethodName) prog_1_method_67_code (4 : Nat) (Option.some Jvm.ClassFile.FieldType.int) ∈ TG := tg_6 83 rfl rfl
theorem kw_6_88 : Jvm.Cond.methodLink "BondWarehouseLaw" (169 : Nat) ({ cls := "BondWarehouse", name := "whyNoDrawback", desc := "(II)I" } : Jvm.MethodName) ∈ TG := tg_6 88 rfl rfl
theorem kw_6_89 : Jvm.Cond.instanceMethod ({ cls := "BondWarehouse", name := "whyNoDrawback", desc := "(II)I" } : Jvm.MethodName) ∈ TG := tg_6 89 rfl rfl
theorem kw_6_90 : Jvm.Cond.selects "BondWarehouse" ({ cls := "BondWarehouse", name := "whyNoDrawback", desc := "(II)I" } : Jvm.MethodName) ({ cls := "BondWarehouse", name := "whyNoDrawback", desc := "(II)I" } : Jvm.MethodName) ∈ TG := tg_6 90 rfl rfl
theorem kw_6_91 : Jvm.Cond.code ({ cls := "BondWarehouse", name := "whyNoDrawback", desc := "(II)I" } : Jvm.MethodName) prog_1_method_68_code (4 : Nat) (Option.some Jvm.ClassFile.FieldType.int) ∈ TG := tg_6 91 rfl rfl
theorem kw_6_96 : Jvm.Cond.methodLink "BondWarehouseLaw" (172 : Nat) ({ cls := "BondWarehouse", name := "chargeIfWeighed", desc := "(II)I" } : Jvm.MethodName) ∈ TG := tg_6 96 rfl rfl
theorem kw_6_97 : Jvm.Cond.instanceMethod ({ cls := "BondWarehouse", name := "chargeIfWeighed", desc := "(II)I" } : Jvm.MethodName) ∈ TG := tg_6 97 rfl rfl
theorem kw_6_98 : Jvm.Cond.selects "BondWarehouse" ({ cls := "BondWarehouse", name := "chargeIfWeighed", desc := "(II)I" } : Jvm.MethodName) ({ cls := "BondWarehouse", name := "chargeIfWeighed", desc := "(II)I" } : Jvm.MethodName) ∈ TG := tg_6 98 rfl rfl
theorem kw_6_99 : Jvm.Cond.code ({ cls := "BondWarehouse", name := "chargeIfWeighed", desc := "(II)I" } : Jvm.MethodName) prog_1_method_69_code (4 : Nat) (Option.some Jvm.ClassFile.FieldType.int) ∈ TG := tg_6 99 rfl rfl
theorem kw_6_105 : Jvm.Cond.methodLink "BondWarehouseLaw" (175 : Nat) ({ cls := "BondWarehouse", name := "drawbackFor", desc := "(II)I" } : Jvm.MethodName) ∈ TG := tg_6 105 rfl rfl
theorem kw_6_106 : Jvm.Cond.instanceMethod ({ cls := "BondWarehouse", name := "drawbackFor", desc := "(II)I" } : Jvm.MethodName) ∈ TG := tg_6 106 rfl rfl
theorem kw_6_107 : Jvm.Cond.selects "BondWarehouse" ({ cls := "BondWarehouse", name := "drawbackFor", desc := "(II)I" } : Jvm.MethodName) ({ cls := "BondWarehouse", name := "drawbackFor", desc := "(II)I" } : Jvm.MethodName) ∈ TG := tg_6 107 rfl rfl
theorem kw_6_108 : Jvm.Cond.code ({ cls := "BondWarehouse", name := "drawbackFor", desc := "(II)I" } : Jvm.MethodName) prog_1_method_70_code (4 : Nat) (Option.some Jvm.ClassFile.FieldType.int) ∈ TG := tg_6 108 rfl rfl
theorem kw_6_114 : Jvm.Cond.methodLink "BondWarehouseLaw" (178 : Nat) ({ cls := "BondWarehouse", name := "dutyLater", desc := "(II)I" } : Jvm.MethodName) ∈ TG := tg_6 114 rfl rfl
theorem kw_6_115 : Jvm.Cond.instanceMethod ({ cls := "BondWarehouse", name := "dutyLater", desc := "(II)I" } : Jvm.MethodName) ∈ TG := tg_6 115 rfl rfl
theorem kw_6_116 : Jvm.Cond.selects "BondWarehouse" ({ cls := "BondWarehouse", name := "dutyLater", desc := "(II)I" } : Jvm.MethodName) ({ cls := "BondWarehouse", name := "dutyLater", desc := "(II)I" } : Jvm.MethodName) ∈ TG := tg_6 116 rfl rfl
theorem kw_6_117 : Jvm.Cond.code ({ cls := "BondWarehouse", name := "dutyLater", desc := "(II)I" } : Jvm.MethodName) prog_1_method_71_code (4 : Nat) (Option.some Jvm.ClassFile.FieldType.int) ∈ TG := tg_6 117 rfl rfl
theorem kw_6_121 : Jvm.Cond.methodLink "BondWarehouseLaw" (181 : Nat) ({ cls := "BondWarehouse", name := "daysToOverdue", desc := "(I)I" } : Jvm.MethodName) ∈ TG := tg_6 121 rfl rfl
theorem kw_6_122 : Jvm.Cond.instanceMethod ({ cls := "BondWarehouse", name := "daysToOverdue", desc := "(I)I" } : Jvm.MethodName) ∈ TG := tg_6 122 rfl rfl
theorem kw_6_123 : Jvm.Cond.selects "BondWarehouse" ({ cls := "BondWarehouse", name := "daysToOverdue", desc := "(I)I" } : Jvm.MethodName) ({ cls := "BondWarehouse", name := "daysToOverdue", desc := "(I)I" } : Jvm.MethodName) ∈ TG := tg_6 123 rfl rfl
theorem kw_6_124 : Jvm.Cond.code ({ cls := "BondWarehouse", name := "daysToOverdue", desc := "(I)I" } : Jvm.MethodName) prog_1_method_72_code (2 : Nat) (Option.some Jvm.ClassFile.FieldType.int) ∈ TG := tg_6 124 rfl rfl
theorem kw_6_129 : Jvm.Cond.methodLink "BondWarehouseLaw" (184 : Nat) ({ cls := "BondWarehouse", name := "cheapestEntry", desc := "(I)I" } : Jvm.MethodName) ∈ TG := tg_6 129 rfl rfl
theorem kw_6_130 : Jvm.Cond.instanceMethod ({ cls := "BondWarehouse", name := "cheapestEntry", desc := "(I)I" } : Jvm.MethodName) ∈ TG := tg_6 130 rfl rfl
theorem kw_6_131 : Jvm.Cond.selects "BondWarehouse" ({ cls := "BondWarehouse", name := "cheapestEntry", desc := "(I)I" } : Jvm.MethodName) ({ cls := "BondWarehouse", name := "cheapestEntry", desc := "(I)I" } : Jvm.MethodName) ∈ TG := tg_6 131 rfl rfl
theorem kw_6_132 : Jvm.Cond.code ({ cls := "BondWarehouse", name := "cheapestEntry", desc := "(I)I" } : Jvm.MethodName) prog_1_method_74_code (2 : Nat) (Option.some Jvm.ClassFile.FieldType.int) ∈ TG := tg_6 132 rfl rfl
theorem kw_6_145 : Jvm.Cond.methodLink "BondWarehouseLaw" (187 : Nat) ({ cls := "BondWarehouse", name := "dutyFromCheapest", desc := "(II)I" } : Jvm.MethodName) ∈ TG := tg_6 145 rfl rfl
theorem kw_6_146 : Jvm.Cond.instanceMethod ({ cls := "BondWarehouse", name := "dutyFromCheapest", desc := "(II)I" } : Jvm.MethodName) ∈ TG := tg_6 146 rfl rfl
theorem kw_6_147 : Jvm.Cond.selects "BondWarehouse" ({ cls := "BondWarehouse", name := "dutyFromCheapest", desc := "(II)I" } : Jvm.MethodName) ({ cls := "BondWarehouse", name := "dutyFromCheapest", desc := "(II)I" } : Jvm.MethodName) ∈ TG := tg_6 147 rfl rfl
theorem kw_6_148 : Jvm.Cond.code ({ cls := "BondWarehouse", name := "dutyFromCheapest", desc := "(II)I" } : Jvm.MethodName) prog_1_method_75_code (3 : Nat) (Option.some Jvm.ClassFile.FieldType.int) ∈ TG := tg_6 148 rfl rfl
theorem kw_6_158 : Jvm.Cond.methodLink "BondWarehouseLaw" (190 : Nat) ({ cls := "BondWarehouse", name := "append", desc := "(I)I" } : Jvm.MethodName) ∈ TG := tg_6 158 rfl rfl
theorem kw_6_159 : Jvm.Cond.instanceMethod ({ cls := "BondWarehouse", name := "append", desc := "(I)I" } : Jvm.MethodName) ∈ TG := tg_6 159 rfl rfl
theorem kw_6_160 : Jvm.Cond.selects "BondWarehouse" ({ cls := "BondWarehouse", name := "append", desc := "(I)I" } : Jvm.MethodName) ({ cls := "BondWarehouse", name := "append", desc := "(I)I" } : Jvm.MethodName) ∈ TG := tg_6 160 rfl rfl
theorem kw_6_161 : Jvm.Cond.code ({ cls := "BondWarehouse", name := "append", desc := "(I)I" } : Jvm.MethodName) prog_1_method_77_code (2 : Nat) (Option.some Jvm.ClassFile.FieldType.int) ∈ TG := tg_6 161 rfl rfl
theorem kw_6_170 : Jvm.Cond.methodLink "BondWarehouseLaw" (193 : Nat) ({ cls := "BondWarehouse", name := "run", desc := "()I" } : Jvm.MethodName) ∈ TG := tg_6 170 rfl rfl
theorem kw_6_171 : Jvm.Cond.instanceMethod ({ cls := "BondWarehouse", name := "run", desc := "()I" } : Jvm.MethodName) ∈ TG := tg_6 171 rfl rfl
theorem kw_6_172 : Jvm.Cond.selects "BondWarehouse" ({ cls := "BondWarehouse", name := "run", desc := "()I" } : Jvm.MethodName) ({ cls := "BondWarehouse", name := "run", desc := "()I" } : Jvm.MethodName) ∈ TG := tg_6 172 rfl rfl
theorem kw_6_173 : Jvm.Cond.code ({ cls := "BondWarehouse", name := "run", desc := "()I" } : Jvm.MethodName) prog_1_method_80_code (4 : Nat) (Option.some Jvm.ClassFile.FieldType.int) ∈ TG := tg_6 173 rfl rfl
theorem kw_6_208 : Jvm.Cond.methodLink "BondWarehouseLaw" (197 : Nat) ({ cls := "BondWarehouse", name := "undo", desc := "()I" } : Jvm.MethodName) ∈ TG := tg_6 208 rfl rfl
theorem kw_6_209 : Jvm.Cond.instanceMethod ({ cls := "BondWarehouse", name := "undo", desc := "()I" } : Jvm.MethodName) ∈ TG := tg_6 209 rfl rfl
theorem kw_6_210 : Jvm.Cond.selects "BondWarehouse" ({ cls := "BondWarehouse", name := "undo", desc := "()I" } : Jvm.MethodName) ({ cls := "BondWarehouse", name := "undo", desc := "()I" } : Jvm.MethodName) ∈ TG := tg_6 210 rfl rfl
theorem kw_6_211 : Jvm.Cond.code ({ cls := "BondWarehouse", name := "undo", desc := "()I" } : Jvm.MethodName) prog_1_method_81_code (1 : Nat) (Option.some Jvm.ClassFile.FieldType.int) ∈ TG := tg_6 211 rfl rfl
theorem kw_6_220 : Jvm.Cond.methodLink "BondWarehouseLaw" (200 : Nat) ({ cls := "BondWarehouse", name := "keep", desc := "(I)I" } : Jvm.MethodName) ∈ TG := tg_6 220 rfl rfl
theorem kw_6_221 : Jvm.Cond.instanceMethod ({ cls := "BondWarehouse", name := "keep", desc := "(I)I" } : Jvm.MethodName) ∈ TG := tg_6 221 rfl rfl
theorem kw_6_222 : Jvm.Cond.selects "BondWarehouse" ({ cls := "BondWarehouse", name := "keep", desc := "(I)I" } : Jvm.MethodName) ({ cls := "BondWarehouse", name := "keep", desc := "(I)I" } : Jvm.MethodName) ∈ TG := tg_6 222 rfl rfl
theorem kw_6_223 : Jvm.Cond.code ({ cls := "BondWarehouse", name := "keep", desc := "(I)I" } : Jvm.MethodName) prog_1_method_83_code (2 : Nat) (Option.some Jvm.ClassFile.FieldType.int) ∈ TG := tg_6 223 rfl rfl
theorem kw_6_235 : Jvm.Cond.methodLink "BondWarehouseLaw" (203 : Nat) ({ cls := "BondWarehouse", name := "goBack", desc := "(I)I" } : Jvm.MethodName) ∈ TG := tg_6 235 rfl rfl
theorem kw_6_236 : Jvm.Cond.instanceMethod ({ cls := "BondWarehouse", name := "goBack", desc := "(I)I" } : Jvm.MethodName) ∈ TG := tg_6 236 rfl rfl
theorem kw_6_237 : Jvm.Cond.selects "BondWarehouse" ({ cls := "BondWarehouse", name := "goBack", desc := "(I)I" } : Jvm.MethodName) ({ cls := "BondWarehouse", name := "goBack", desc := "(I)I" } : Jvm.MethodName) ∈ TG := tg_6 237 rfl rfl
theorem kw_6_238 : Jvm.Cond.code ({ cls := "BondWarehouse", name := "goBack", desc := "(I)I" } : Jvm.MethodName) prog_1_method_84_code (2 : Nat) (Option.some Jvm.ClassFile.FieldType.int) ∈ TG := tg_6 238 rfl rfl
theorem dL_enter_0 : decode cL_enter 0 = .ok (.aload 5, 2) := by decide +kernel
theorem dL_enter_2 : decode cL_enter 2 = .ok (.iconst 0, 1) := by decide +kernel
theorem dL_enter_3 : decode cL_enter 3 = .ok (.aload_n 0, 1) := by decide +kernel
theorem dL_enter_4 : decode cL_enter 4 = .ok (.iload_n 1, 1) := by decide +kernel
theorem dL_enter_5 : decode cL_enter 5 = .ok (.iload_n 2, 1) := by decide +kernel
theorem dL_enter_6 : decode cL_enter 6 = .ok (.iload_n 3, 1) := by decide +kernel
theorem dL_enter_7 : decode cL_enter 7 = .ok (.iload 4, 2) := by decide +kernel
theorem dL_enter_9 : decode cL_enter 9 = .ok (.invokevirtual 7, 3) := by decide +kernel
theorem dL_enter_12 : decode cL_enter 12 = .ok (.i2l, 1) := by decide +kernel
theorem dL_enter_13 : decode cL_enter 13 = .ok (.lastore, 1) := by decide +kernel
theorem dL_enter_14 : decode cL_enter 14 = .ok (.goto 11, 3) := by decide +kernel
theorem dL_enter_17 : decode cL_enter 17 = .ok (.astore 6, 2) := by decide +kernel
theorem dL_enter_19 : decode cL_enter 19 = .ok (.iconst 1, 1) := by decide +kernel
theorem dL_enter_20 : decode cL_enter 20 = .ok (.ireturn, 1) := by decide +kernel
theorem dL_enter_21 : decode cL_enter 21 = .ok (.astore 6, 2) := by decide +kernel
theorem dL_enter_23 : decode cL_enter 23 = .ok (.iconst 2, 1) := by decide +kernel
theorem dL_enter_24 : decode cL_enter 24 = .ok (.ireturn, 1) := by decide +kernel
theorem dL_enter_25 : decode cL_enter 25 = .ok (.iconst 0, 1) := by decide +kernel
theorem dL_enter_26 : decode cL_enter 26 = .ok (.ireturn, 1) := by decide +kernel
def rm_L_enter : Room := { frames := 8, cells := 2, slots := 12, locals := 141 }
set_option maxRecDepth 100000 in
set_option maxHeartbeats 4000000 in
theorem k_L_enter {l : Launch} {D : va_G} {cA : Nat → ClassId} {ad : Nat → Nat → Nat} {A : Nat → Prop} {ob : Nat} {cO : ClassId} (ax : Ax ad GC A) (hob : ¬ A ob) (hst : l.stackTraces = false) (p0 : Int32) (p1 : Int32) (p2 : Int32) (p3 : Int32) (mm : Mm) (v : Int64) (Q9 : Int32 → Mm → Prop) (X9 : Nat → Mm → Prop) (h : w_X9_enter p0 p1 p2 p3 mm Q9 X9) (hX : ∀ k0 m1, X9 k0 m1 → oK [2, 3] k0) : Met l yL_enter (.codeWith yL_enter cL_enter 7 (some .int) [(0, 14, 17, 13), (0, 14, 21, 15)] :: TG) rm_L_enter (PcL D cA ad A ob cO [.ref (ad 0 1), .int p0, .int p1, .int p2, .int p3, .ref ob] mm v) (QcL D cA ad A ob cO (QW tlI xB Q9 X9)) 2 12 (AW A ob) := by
  refine enterL pl_L rfl (Nat.le_of_ble_eq_true rfl) ?_
  intro p e s m args below meth c QQ X htab hW hZ hE
  refine q_aload (j := 5) X dL_enter_0 rfl ?_
  refine q_iconst X dL_enter_2 rfl ?_
  refine q_aload_n (j := 0) X dL_enter_3 rfl rfl ?_
  refine q_iload_n (j := 1) X dL_enter_4 rfl rfl ?_
  refine q_iload_n (j := 2) X dL_enter_5 rfl rfl ?_
  refine q_iload_n (j := 3) X dL_enter_6 rfl rfl ?_
  refine q_iload (j := 4) X dL_enter_7 rfl ?_
  refine qW_call X hW hZ hob [.int p0, .int p1, .int p2, .int p3] [.int 0, .ref ob] rfl rfl (Nat.le_of_ble_eq_true rfl) dL_enter_9 ⟨(Nat.le_of_ble_eq_true rfl), (Nat.le_of_ble_eq_true rfl)⟩ (c_X9_enter ax hst p0 p1 p2 p3 mm Q9 X9 h) rfl rfl (gV kw_3_70 kw_3_71 kw_3_72 kw_1_1 kw_3_73) hy_X9_enter ⟨(Nat.le_of_ble_eq_true rfl), (Nat.le_of_ble_eq_true rfl)⟩ (fun k0 m1 hx => ?_) (fun r m1 hq => ?_)
  · have hk := hX _ _ hx
    unfold oK at hk
    simp only [List.mem_cons, List.not_mem_nil, or_false] at hk
    rcases hk with rfl | rfl
    · skip
      refine ⟨17, by decide, Ct1 (k1 := 2) htab rfl (by decide) (by decide) (X.2.2.2.2 _ kw_3_68), fun q => ?_⟩
      refine q_astore X dL_enter_17 (Nat.le_of_ble_eq_true rfl) rfl ?_
      refine q_iconst X dL_enter_19 rfl ?_
      exact hE _ _ _ _ _ _ _ dL_enter_20 (Nat.le_of_ble_eq_true rfl) (Nat.le_of_ble_eq_true rfl) (Or.inr ⟨by decide, 2, rfl, hx⟩)
    · skip
      refine ⟨21, by decide, Ct2 (k1 := 2) (k2 := 3) htab rfl (by decide) (by decide) (by decide) (X.2.2.2.2 _ kw_3_68) (X.2.2.2.2 _ kw_3_69) hW.2.2.2.2, fun q => ?_⟩
      refine q_astore X dL_enter_21 (Nat.le_of_ble_eq_true rfl) rfl ?_
      refine q_iconst X dL_enter_23 rfl ?_
      exact hE _ _ _ _ _ _ _ dL_enter_24 (Nat.le_of_ble_eq_true rfl) (Nat.le_of_ble_eq_true rfl) (Or.inr ⟨by decide, 3, rfl, hx⟩)
  · refine q_i2l X dL_enter_12 ?_
    refine qW_last X hW hob ax dL_enter_13 ?_
    refine q_goto X dL_enter_14 rfl ?_
    refine q_iconst X dL_enter_25 rfl ?_
    exact hE _ _ _ _ _ _ _ dL_enter_26 (Nat.le_of_ble_eq_true rfl) (Nat.le_of_ble_eq_true rfl) (Or.inl ⟨rfl, r, rfl, hq⟩)
theorem dL_withdraw_0 : decode cL_withdraw 0 = .ok (.aload_n 3, 1) := by decide +kernel
theorem dL_withdraw_1 : decode cL_withdraw 1 = .ok (.iconst 0, 1) := by decide +kernel
theorem dL_withdraw_2 : decode cL_withdraw 2 = .ok (.aload_n 0, 1) := by decide +kernel
theorem dL_withdraw_3 : decode cL_withdraw 3 = .ok (.iload_n 1, 1) := by decide +kernel
theorem dL_withdraw_4 : decode cL_withdraw 4 = .ok (.iload_n 2, 1) := by decide +kernel
theorem dL_withdraw_5 : decode cL_withdraw 5 = .ok (.invokevirtual 17, 3) := by decide +kernel
theorem dL_withdraw_8 : decode cL_withdraw 8 = .ok (.i2l, 1) := by decide +kernel
theorem dL_withdraw_9 : decode cL_withdraw 9 = .ok (.lastore, 1) := by decide +kernel
theorem dL_withdraw_10 : decode cL_withdraw 10 = .ok (.goto 15, 3) := by decide +kernel
theorem dL_withdraw_13 : decode cL_withdraw 13 = .ok (.astore 4, 2) := by decide +kernel
theorem dL_withdraw_15 : decode cL_withdraw 15 = .ok (.iconst 1, 1) := by decide +kernel
theorem dL_withdraw_16 : decode cL_withdraw 16 = .ok (.ireturn, 1) := by decide +kernel
theorem dL_withdraw_17 : decode cL_withdraw 17 = .ok (.astore 4, 2) := by decide +kernel
theorem dL_withdraw_19 : decode cL_withdraw 19 = .ok (.iconst 2, 1) := by decide +kernel
theorem dL_withdraw_20 : decode cL_withdraw 20 = .ok (.ireturn, 1) := by decide +kernel
theorem dL_withdraw_21 : decode cL_withdraw 21 = .ok (.astore 4, 2) := by decide +kernel
theorem dL_withdraw_23 : decode cL_withdraw 23 = .ok (.iconst 3, 1) := by decide +kernel
theorem dL_withdraw_24 : decode cL_withdraw 24 = .ok (.ireturn, 1) := by decide +kernel
theorem dL_withdraw_25 : decode cL_withdraw 25 = .ok (.iconst 0, 1) := by decide +kernel
theorem dL_withdraw_26 : decode cL_withdraw 26 = .ok (.ireturn, 1) := by decide +kernel
def rm_L_withdraw : Room := { frames := 8, cells := 2, slots := 12, locals := 132 }
set_option maxRecDepth 100000 in
set_option maxHeartbeats 4000000 in
theorem k_L_withdraw {l : Launch} {D : va_G} {cA : Nat → ClassId} {ad : Nat → Nat → Nat} {A : Nat → Prop} {ob : Nat} {cO : ClassId} (ax : Ax ad GC A) (hob : ¬ A ob) (hst : l.stackTraces = false) (p0 : Int32) (p1 : Int32) (mm : Mm) (v : Int64) (Q9 : Int32 → Mm → Prop) (X9 : Nat → Mm → Prop) (h : w_X9_withdraw p0 p1 mm Q9 X9) (hX : ∀ k0 m1, X9 k0 m1 → oK [1, 2, 3] k0) : Met l yL_withdraw (.codeWith yL_withdraw cL_withdraw 5 (some .int) [(0, 10, 13, 21), (0, 10, 17, 13), (0, 10, 21, 15)] :: TG) rm_L_withdraw (PcL D cA ad A ob cO [.ref (ad 0 1), .int p0, .int p1, .ref ob] mm v) (QcL D cA ad A ob cO (QW tlI xA Q9 X9)) 2 12 (AW A ob) := by
  refine enterL pl_L rfl (Nat.le_of_ble_eq_true rfl) ?_
  intro p e s m args below meth c QQ X htab hW hZ hE
  refine q_aload_n (j := 3) X dL_withdraw_0 rfl rfl ?_
  refine q_iconst X dL_withdraw_1 rfl ?_
  refine q_aload_n (j := 0) X dL_withdraw_2 rfl rfl ?_
  refine q_iload_n (j := 1) X dL_withdraw_3 rfl rfl ?_
  refine q_iload_n (j := 2) X dL_withdraw_4 rfl rfl ?_
  refine qW_call X hW hZ hob [.int p0, .int p1] [.int 0, .ref ob] rfl rfl (Nat.le_of_ble_eq_true rfl) dL_withdraw_5 ⟨(Nat.le_of_ble_eq_true rfl), (Nat.le_of_ble_eq_true rfl)⟩ (c_X9_withdraw ax hst p0 p1 mm Q9 X9 h) rfl rfl (gV kw_3_238 kw_3_239 kw_4_0 kw_1_1 kw_4_1) hy_X9_withdraw ⟨(Nat.le_of_ble_eq_true rfl), (Nat.le_of_ble_eq_true rfl)⟩ (fun k0 m1 hx => ?_) (fun r m1 hq => ?_)
  · have hk := hX _ _ hx
    unfold oK at hk
    simp only [List.mem_cons, List.not_mem_nil, or_false] at hk
    rcases hk with rfl | rfl | rfl
    · skip
      refine ⟨13, by decide, Ct1 (k1 := 1) htab rfl (by decide) (by decide) (X.2.2.2.2 _ kw_3_237), fun q => ?_⟩
      refine q_astore X dL_withdraw_13 (Nat.le_of_ble_eq_true rfl) rfl ?_
      refine q_iconst X dL_withdraw_15 rfl ?_
      exact hE _ _ _ _ _ _ _ dL_withdraw_16 (Nat.le_of_ble_eq_true rfl) (Nat.le_of_ble_eq_true rfl) (Or.inr ⟨by decide, 1, rfl, hx⟩)
    · skip
      refine ⟨17, by decide, Ct2 (k1 := 1) (k2 := 2) htab rfl (by decide) (by decide) (by decide) (X.2.2.2.2 _ kw_3_237) (X.2.2.2.2 _ kw_3_68) hW.2.2.1, fun q => ?_⟩
      refine q_astore X dL_withdraw_17 (Nat.le_of_ble_eq_true rfl) rfl ?_
      refine q_iconst X dL_withdraw_19 rfl ?_
      exact hE _ _ _ _ _ _ _ dL_withdraw_20 (Nat.le_of_ble_eq_true rfl) (Nat.le_of_ble_eq_true rfl) (Or.inr ⟨by decide, 2, rfl, hx⟩)
    · skip
      refine ⟨21, by decide, Ct3 (k1 := 1) (k2 := 2) (k3 := 3) htab rfl (by decide) (by decide) (by decide) (by decide) (X.2.2.2.2 _ kw_3_237) (X.2.2.2.2 _ kw_3_68) (X.2.2.2.2 _ kw_3_69) hW.2.2.2.1 hW.2.2.2.2, fun q => ?_⟩
      refine q_astore X dL_withdraw_21 (Nat.le_of_ble_eq_true rfl) rfl ?_
      refine q_iconst X dL_withdraw_23 rfl ?_
      exact hE _ _ _ _ _ _ _ dL_withdraw_24 (Nat.le_of_ble_eq_true rfl) (Nat.le_of_ble_eq_true rfl) (Or.inr ⟨by decide, 3, rfl, hx⟩)
  · refine q_i2l X dL_withdraw_8 ?_
    refine qW_last X hW hob ax dL_withdraw_9 ?_
    refine q_goto X dL_withdraw_10 rfl ?_
    refine q_iconst X dL_withdraw_25 rfl ?_
    exact hE _ _ _ _ _ _ _ dL_withdraw_26 (Nat.le_of_ble_eq_true rfl) (Nat.le_of_ble_eq_true rfl) (Or.inl ⟨rfl, r, rfl, hq⟩)
theorem dL_sendAbroad_0 : decode cL_sendAbroad 0 = .ok (.aload_n 3, 1) := by decide +kernel
theorem dL_sendAbroad_1 : decode cL_sendAbroad 1 = .ok (.iconst 0, 1) := by decide +kernel
theorem dL_sendAbroad_2 : decode cL_sendAbroad 2 = .ok (.aload_n 0, 1) := by decide +kernel
theorem dL_sendAbroad_3 : decode cL_sendAbroad 3 = .ok (.iload_n 1, 1) := by decide +kernel
theorem dL_sendAbroad_4 : decode cL_sendAbroad 4 = .ok (.iload_n 2, 1) := by decide +kernel
theorem dL_sendAbroad_5 : decode cL_sendAbroad 5 = .ok (.invokevirtual 23, 3) := by decide +kernel
theorem dL_sendAbroad_8 : decode cL_sendAbroad 8 = .ok (.i2l, 1) := by decide +kernel
theorem dL_sendAbroad_9 : decode cL_sendAbroad 9 = .ok (.lastore, 1) := by decide +kernel
theorem dL_sendAbroad_10 : decode cL_sendAbroad 10 = .ok (.goto 15, 3) := by decide +kernel
theorem dL_sendAbroad_13 : decode cL_sendAbroad 13 = .ok (.astore 4, 2) := by decide +kernel
theorem dL_sendAbroad_15 : decode cL_sendAbroad 15 = .ok (.iconst 1, 1) := by decide +kernel
theorem dL_sendAbroad_16 : decode cL_sendAbroad 16 = .ok (.ireturn, 1) := by decide +kernel
theorem dL_sendAbroad_17 : decode cL_sendAbroad 17 = .ok (.astore 4, 2) := by decide +kernel
theorem dL_sendAbroad_19 : decode cL_sendAbroad 19 = .ok (.iconst 2, 1) := by decide +kernel
theorem dL_sendAbroad_20 : decode cL_sendAbroad 20 = .ok (.ireturn, 1) := by decide +kernel
theorem dL_sendAbroad_21 : decode cL_sendAbroad 21 = .ok (.astore 4, 2) := by decide +kernel
theorem dL_sendAbroad_23 : decode cL_sendAbroad 23 = .ok (.iconst 3, 1) := by decide +kernel
theorem dL_sendAbroad_24 : decode cL_sendAbroad 24 = .ok (.ireturn, 1) := by decide +kernel
theorem dL_sendAbroad_25 : decode cL_sendAbroad 25 = .ok (.iconst 0, 1) := by decide +kernel
theorem dL_sendAbroad_26 : decode cL_sendAbroad 26 = .ok (.ireturn, 1) := by decide +kernel
def rm_L_sendAbroad : Room := { frames := 8, cells := 2, slots := 12, locals := 132 }
set_option maxRecDepth 100000 in
set_option maxHeartbeats 4000000 in
theorem k_L_sendAbroad {l : Launch} {D : va_G} {cA : Nat → ClassId} {ad : Nat → Nat → Nat} {A : Nat → Prop} {ob : Nat} {cO : ClassId} (ax : Ax ad GC A) (hob : ¬ A ob) (hst : l.stackTraces = false) (p0 : Int32) (p1 : Int32) (mm : Mm) (v : Int64) (Q9 : Int32 → Mm → Prop) (X9 : Nat → Mm → Prop) (h : w_X9_sendAbroad p0 p1 mm Q9 X9) (hX : ∀ k0 m1, X9 k0 m1 → oK [1, 2, 3] k0) : Met l yL_sendAbroad (.codeWith yL_sendAbroad cL_sendAbroad 5 (some .int) [(0, 10, 13, 21), (0, 10, 17, 13), (0, 10, 21, 15)] :: TG) rm_L_sendAbroad (PcL D cA ad A ob cO [.ref (ad 0 1), .int p0, .int p1, .ref ob] mm v) (QcL D cA ad A ob cO (QW tlI xA Q9 X9)) 2 12 (AW A ob) := by
  refine enterL pl_L rfl (Nat.le_of_ble_eq_true rfl) ?_
  intro p e s m args below meth c QQ X htab hW hZ hE
  refine q_aload_n (j := 3) X dL_sendAbroad_0 rfl rfl ?_
  refine q_iconst X dL_sendAbroad_1 rfl ?_
  refine q_aload_n (j := 0) X dL_sendAbroad_2 rfl rfl ?_
  refine q_iload_n (j := 1) X dL_sendAbroad_3 rfl rfl ?_
  refine q_iload_n (j := 2) X dL_sendAbroad_4 rfl rfl ?_
  refine qW_call X hW hZ hob [.int p0, .int p1] [.int 0, .ref ob] rfl rfl (Nat.le_of_ble_eq_true rfl) dL_sendAbroad_5 ⟨(Nat.le_of_ble_eq_true rfl), (Nat.le_of_ble_eq_true rfl)⟩ (c_X9_sendAbroad ax hst p0 p1 mm Q9 X9 h) rfl rfl (gV kw_4_48 kw_4_49 kw_4_50 kw_1_1 kw_4_51) hy_X9_sendAbroad ⟨(Nat.le_of_ble_eq_true rfl), (Nat.le_of_ble_eq_true rfl)⟩ (fun k0 m1 hx => ?_) (fun r m1 hq => ?_)
  · have hk := hX _ _ hx
    unfold oK at hk
    simp only [List.mem_cons, List.not_mem_nil, or_false] at hk
    rcases hk with rfl | rfl | rfl
    · skip
      refine ⟨13, by decide, Ct1 (k1 := 1) htab rfl (by decide) (by decide) (X.2.2.2.2 _ kw_3_237), fun q => ?_⟩
      refine q_astore X dL_sendAbroad_13 (Nat.le_of_ble_eq_true rfl) rfl ?_
      refine q_iconst X dL_sendAbroad_15 rfl ?_
      exact hE _ _ _ _ _ _ _ dL_sendAbroad_16 (Nat.le_of_ble_eq_true rfl) (Nat.le_of_ble_eq_true rfl) (Or.inr ⟨by decide, 1, rfl, hx⟩)
    · skip
      refine ⟨17, by decide, Ct2 (k1 := 1) (k2 := 2) htab rfl (by decide) (by decide) (by decide) (X.2.2.2.2 _ kw_3_237) (X.2.2.2.2 _ kw_3_68) hW.2.2.1, fun q => ?_⟩
      refine q_astore X dL_sendAbroad_17 (Nat.le_of_ble_eq_true rfl) rfl ?_
      refine q_iconst X dL_sendAbroad_19 rfl ?_
      exact hE _ _ _ _ _ _ _ dL_sendAbroad_20 (Nat.le_of_ble_eq_true rfl) (Nat.le_of_ble_eq_true rfl) (Or.inr ⟨by decide, 2, rfl, hx⟩)
    · skip
      refine ⟨21, by decide, Ct3 (k1 := 1) (k2 := 2) (k3 := 3) htab rfl (by decide) (by decide) (by decide) (by decide) (X.2.2.2.2 _ kw_3_237) (X.2.2.2.2 _ kw_3_68) (X.2.2.2.2 _ kw_3_69) hW.2.2.2.1 hW.2.2.2.2, fun q => ?_⟩
      refine q_astore X dL_sendAbroad_21 (Nat.le_of_ble_eq_true rfl) rfl ?_
      refine q_iconst X dL_sendAbroad_23 rfl ?_
      exact hE _ _ _ _ _ _ _ dL_sendAbroad_24 (Nat.le_of_ble_eq_true rfl) (Nat.le_of_ble_eq_true rfl) (Or.inr ⟨by decide, 3, rfl, hx⟩)
  · refine q_i2l X dL_sendAbroad_8 ?_
    refine qW_last X hW hob ax dL_sendAbroad_9 ?_
    refine q_goto X dL_sendAbroad_10 rfl ?_
    refine q_iconst X dL_sendAbroad_25 rfl ?_
    exact hE _ _ _ _ _ _ _ dL_sendAbroad_26 (Nat.le_of_ble_eq_true rfl) (Nat.le_of_ble_eq_true rfl) (Or.inl ⟨rfl, r, rfl, hq⟩)
theorem dL_drawBack_0 : decode cL_drawBack 0 = .ok (.aload_n 3, 1) := by decide +kernel
theorem dL_drawBack_1 : decode cL_drawBack 1 = .ok (.iconst 0, 1) := by decide +kernel
theorem dL_drawBack_2 : decode cL_drawBack 2 = .ok (.aload_n 0, 1) := by decide +kernel
theorem dL_drawBack_3 : decode cL_drawBack 3 = .ok (.iload_n 1, 1) := by decide +kernel
theorem dL_drawBack_4 : decode cL_drawBack 4 = .ok (.iload_n 2, 1) := by decide +kernel
theorem dL_drawBack_5 : decode cL_drawBack 5 = .ok (.invokevirtual 26, 3) := by decide +kernel
theorem dL_drawBack_8 : decode cL_drawBack 8 = .ok (.i2l, 1) := by decide +kernel
theorem dL_drawBack_9 : decode cL_drawBack 9 = .ok (.lastore, 1) := by decide +kernel
theorem dL_drawBack_10 : decode cL_drawBack 10 = .ok (.goto 15, 3) := by decide +kernel
theorem dL_drawBack_13 : decode cL_drawBack 13 = .ok (.astore 4, 2) := by decide +kernel
theorem dL_drawBack_15 : decode cL_drawBack 15 = .ok (.iconst 1, 1) := by decide +kernel
theorem dL_drawBack_16 : decode cL_drawBack 16 = .ok (.ireturn, 1) := by decide +kernel
theorem dL_drawBack_17 : decode cL_drawBack 17 = .ok (.astore 4, 2) := by decide +kernel
theorem dL_drawBack_19 : decode cL_drawBack 19 = .ok (.iconst 2, 1) := by decide +kernel
theorem dL_drawBack_20 : decode cL_drawBack 20 = .ok (.ireturn, 1) := by decide +kernel
theorem dL_drawBack_21 : decode cL_drawBack 21 = .ok (.astore 4, 2) := by decide +kernel
theorem dL_drawBack_23 : decode cL_drawBack 23 = .ok (.iconst 3, 1) := by decide +kernel
theorem dL_drawBack_24 : decode cL_drawBack 24 = .ok (.ireturn, 1) := by decide +kernel
theorem dL_drawBack_25 : decode cL_drawBack 25 = .ok (.iconst 0, 1) := by decide +kernel
theorem dL_drawBack_26 : decode cL_drawBack 26 = .ok (.ireturn, 1) := by decide +kernel
def rm_L_drawBack : Room := { frames := 8, cells := 2, slots := 12, locals := 132 }
set_option maxRecDepth 100000 in
set_option maxHeartbeats 4000000 in
theorem k_L_drawBack {l : Launch} {D : va_G} {cA : Nat → ClassId} {ad : Nat → Nat → Nat} {A : Nat → Prop} {ob : Nat} {cO : ClassId} (ax : Ax ad GC A) (hob : ¬ A ob) (hst : l.stackTraces = false) (p0 : Int32) (p1 : Int32) (mm : Mm) (v : Int64) (Q9 : Int32 → Mm → Prop) (X9 : Nat → Mm → Prop) (h : w_X9_drawBack p0 p1 mm Q9 X9) (hX : ∀ k0 m1, X9 k0 m1 → oK [1, 2, 3] k0) : Met l yL_drawBack (.codeWith yL_drawBack cL_drawBack 5 (some .int) [(0, 10, 13, 21), (0, 10, 17, 13), (0, 10, 21, 15)] :: TG) rm_L_drawBack (PcL D cA ad A ob cO [.ref (ad 0 1), .int p0, .int p1, .ref ob] mm v) (QcL D cA ad A ob cO (QW tlI xA Q9 X9)) 2 12 (AW A ob) := by
  refine enterL pl_L rfl (Nat.le_of_ble_eq_true rfl) ?_
  intro p e s m args below meth c QQ X htab hW hZ hE
  refine q_aload_n (j := 3) X dL_drawBack_0 rfl rfl ?_
  refine q_iconst X dL_drawBack_1 rfl ?_
  refine q_aload_n (j := 0) X dL_drawBack_2 rfl rfl ?_
  refine q_iload_n (j := 1) X dL_drawBack_3 rfl rfl ?_
  refine q_iload_n (j := 2) X dL_drawBack_4 rfl rfl ?_
  refine qW_call X hW hZ hob [.int p0, .int p1] [.int 0, .ref ob] rfl rfl (Nat.le_of_ble_eq_true rfl) dL_drawBack_5 ⟨(Nat.le_of_ble_eq_true rfl), (Nat.le_of_ble_eq_true rfl)⟩ (c_X9_drawBack ax hst p0 p1 mm Q9 X9 h) rfl rfl (gV kw_4_63 kw_4_64 kw_4_65 kw_1_1 kw_4_66) hy_X9_drawBack ⟨(Nat.le_of_ble_eq_true rfl), (Nat.le_of_ble_eq_true rfl)⟩ (fun k0 m1 hx => ?_) (fun r m1 hq => ?_)
  · have hk := hX _ _ hx
    unfold oK at hk
    simp only [List.mem_cons, List.not_mem_nil, or_false] at hk
    rcases hk with rfl | rfl | rfl
    · skip
      refine ⟨13, by decide, Ct1 (k1 := 1) htab rfl (by decide) (by decide) (X.2.2.2.2 _ kw_3_237), fun q => ?_⟩
      refine q_astore X dL_drawBack_13 (Nat.le_of_ble_eq_true rfl) rfl ?_
      refine q_iconst X dL_drawBack_15 rfl ?_
      exact hE _ _ _ _ _ _ _ dL_drawBack_16 (Nat.le_of_ble_eq_true rfl) (Nat.le_of_ble_eq_true rfl) (Or.inr ⟨by decide, 1, rfl, hx⟩)
    · skip
      refine ⟨17, by decide, Ct2 (k1 := 1) (k2 := 2) htab rfl (by decide) (by decide) (by decide) (X.2.2.2.2 _ kw_3_237) (X.2.2.2.2 _ kw_3_68) hW.2.2.1, fun q => ?_⟩
      refine q_astore X dL_drawBack_17 (Nat.le_of_ble_eq_true rfl) rfl ?_
      refine q_iconst X dL_drawBack_19 rfl ?_
      exact hE _ _ _ _ _ _ _ dL_drawBack_20 (Nat.le_of_ble_eq_true rfl) (Nat.le_of_ble_eq_true rfl) (Or.inr ⟨by decide, 2, rfl, hx⟩)
    · skip
      refine ⟨21, by decide, Ct3 (k1 := 1) (k2 := 2) (k3 := 3) htab rfl (by decide) (by decide) (by decide) (by decide) (X.2.2.2.2 _ kw_3_237) (X.2.2.2.2 _ kw_3_68) (X.2.2.2.2 _ kw_3_69) hW.2.2.2.1 hW.2.2.2.2, fun q => ?_⟩
      refine q_astore X dL_drawBack_21 (Nat.le_of_ble_eq_true rfl) rfl ?_
      refine q_iconst X dL_drawBack_23 rfl ?_
      exact hE _ _ _ _ _ _ _ dL_drawBack_24 (Nat.le_of_ble_eq_true rfl) (Nat.le_of_ble_eq_true rfl) (Or.inr ⟨by decide, 3, rfl, hx⟩)
  · refine q_i2l X dL_drawBack_8 ?_
    refine qW_last X hW hob ax dL_drawBack_9 ?_
    refine q_goto X dL_drawBack_10 rfl ?_
    refine q_iconst X dL_drawBack_25 rfl ?_
    exact hE _ _ _ _ _ _ _ dL_drawBack_26 (Nat.le_of_ble_eq_true rfl) (Nat.le_of_ble_eq_true rfl) (Or.inl ⟨rfl, r, rfl, hq⟩)
theorem dL_move_0 : decode cL_move 0 = .ok (.aload_n 3, 1) := by decide +kernel
theorem dL_move_1 : decode cL_move 1 = .ok (.iconst 0, 1) := by decide +kernel
theorem dL_move_2 : decode cL_move 2 = .ok (.aload_n 0, 1) := by decide +kernel
theorem dL_move_3 : decode cL_move 3 = .ok (.iload_n 1, 1) := by decide +kernel
theorem dL_move_4 : decode cL_move 4 = .ok (.iload_n 2, 1) := by decide +kernel
theorem dL_move_5 : decode cL_move 5 = .ok (.invokevirtual 29, 3) := by decide +kernel
theorem dL_move_8 : decode cL_move 8 = .ok (.i2l, 1) := by decide +kernel
theorem dL_move_9 : decode cL_move 9 = .ok (.lastore, 1) := by decide +kernel
theorem dL_move_10 : decode cL_move 10 = .ok (.goto 11, 3) := by decide +kernel
theorem dL_move_13 : decode cL_move 13 = .ok (.astore 4, 2) := by decide +kernel
theorem dL_move_15 : decode cL_move 15 = .ok (.iconst 1, 1) := by decide +kernel
theorem dL_move_16 : decode cL_move 16 = .ok (.ireturn, 1) := by decide +kernel
theorem dL_move_17 : decode cL_move 17 = .ok (.astore 4, 2) := by decide +kernel
theorem dL_move_19 : decode cL_move 19 = .ok (.iconst 2, 1) := by decide +kernel
theorem dL_move_20 : decode cL_move 20 = .ok (.ireturn, 1) := by decide +kernel
theorem dL_move_21 : decode cL_move 21 = .ok (.iconst 0, 1) := by decide +kernel
theorem dL_move_22 : decode cL_move 22 = .ok (.ireturn, 1) := by decide +kernel
def rm_L_move : Room := { frames := 8, cells := 2, slots := 12, locals := 132 }
set_option maxRecDepth 100000 in
set_option maxHeartbeats 4000000 in
theorem k_L_move {l : Launch} {D : va_G} {cA : Nat → ClassId} {ad : Nat → Nat → Nat} {A : Nat → Prop} {ob : Nat} {cO : ClassId} (ax : Ax ad GC A) (hob : ¬ A ob) (hst : l.stackTraces = false) (p0 : Int32) (p1 : Int32) (mm : Mm) (v : Int64) (Q9 : Int32 → Mm → Prop) (X9 : Nat → Mm → Prop) (h : w_X9_move p0 p1 mm Q9 X9) (hX : ∀ k0 m1, X9 k0 m1 → oK [1, 3] k0) : Met l yL_move (.codeWith yL_move cL_move 5 (some .int) [(0, 10, 13, 21), (0, 10, 17, 15)] :: TG) rm_L_move (PcL D cA ad A ob cO [.ref (ad 0 1), .int p0, .int p1, .ref ob] mm v) (QcL D cA ad A ob cO (QW tlI xC Q9 X9)) 2 12 (AW A ob) := by
  refine enterL pl_L rfl (Nat.le_of_ble_eq_true rfl) ?_
  intro p e s m args below meth c QQ X htab hW hZ hE
  refine q_aload_n (j := 3) X dL_move_0 rfl rfl ?_
  refine q_iconst X dL_move_1 rfl ?_
  refine q_aload_n (j := 0) X dL_move_2 rfl rfl ?_
  refine q_iload_n (j := 1) X dL_move_3 rfl rfl ?_
  refine q_iload_n (j := 2) X dL_move_4 rfl rfl ?_
  refine qW_call X hW hZ hob [.int p0, .int p1] [.int 0, .ref ob] rfl rfl (Nat.le_of_ble_eq_true rfl) dL_move_5 ⟨(Nat.le_of_ble_eq_true rfl), (Nat.le_of_ble_eq_true rfl)⟩ (c_X9_move ax hst p0 p1 mm Q9 X9 h) rfl rfl (gV kw_4_93 kw_4_94 kw_4_95 kw_1_1 kw_4_96) hy_X9_move ⟨(Nat.le_of_ble_eq_true rfl), (Nat.le_of_ble_eq_true rfl)⟩ (fun k0 m1 hx => ?_) (fun r m1 hq => ?_)
  · have hk := hX _ _ hx
    unfold oK at hk
    simp only [List.mem_cons, List.not_mem_nil, or_false] at hk
    rcases hk with rfl | rfl
    · skip
      refine ⟨13, by decide, Ct1 (k1 := 1) htab rfl (by decide) (by decide) (X.2.2.2.2 _ kw_3_237), fun q => ?_⟩
      refine q_astore X dL_move_13 (Nat.le_of_ble_eq_true rfl) rfl ?_
      refine q_iconst X dL_move_15 rfl ?_
      exact hE _ _ _ _ _ _ _ dL_move_16 (Nat.le_of_ble_eq_true rfl) (Nat.le_of_ble_eq_true rfl) (Or.inr ⟨by decide, 1, rfl, hx⟩)
    · skip
      refine ⟨17, by decide, Ct2 (k1 := 1) (k2 := 3) htab rfl (by decide) (by decide) (by decide) (X.2.2.2.2 _ kw_3_237) (X.2.2.2.2 _ kw_3_69) hW.2.2.2.1, fun q => ?_⟩
      refine q_astore X dL_move_17 (Nat.le_of_ble_eq_true rfl) rfl ?_
      refine q_iconst X dL_move_19 rfl ?_
      exact hE _ _ _ _ _ _ _ dL_move_20 (Nat.le_of_ble_eq_true rfl) (Nat.le_of_ble_eq_true rfl) (Or.inr ⟨by decide, 3, rfl, hx⟩)
  · refine q_i2l X dL_move_8 ?_
    refine qW_last X hW hob ax dL_move_9 ?_
    refine q_goto X dL_move_10 rfl ?_
    refine q_iconst X dL_move_21 rfl ?_
    exact hE _ _ _ _ _ _ _ dL_move_22 (Nat.le_of_ble_eq_true rfl) (Nat.le_of_ble_eq_true rfl) (Or.inl ⟨rfl, r, rfl, hq⟩)
theorem dL_split_0 : decode cL_split 0 = .ok (.aload_n 3, 1) := by decide +kernel
theorem dL_split_1 : decode cL_split 1 = .ok (.iconst 0, 1) := by decide +kernel
theorem dL_split_2 : decode cL_split 2 = .ok (.aload_n 0, 1) := by decide +kernel
theorem dL_split_3 : decode cL_split 3 = .ok (.iload_n 1, 1) := by decide +kernel
theorem dL_split_4 : decode cL_split 4 = .ok (.iload_n 2, 1) := by decide +kernel
theorem dL_split_5 : decode cL_split 5 = .ok (.invokevirtual 32, 3) := by decide +kernel
theorem dL_split_8 : decode cL_split 8 = .ok (.i2l, 1) := by decide +kernel
theorem dL_split_9 : decode cL_split 9 = .ok (.lastore, 1) := by decide +kernel
theorem dL_split_10 : decode cL_split 10 = .ok (.goto 15, 3) := by decide +kernel
theorem dL_split_13 : decode cL_split 13 = .ok (.astore 4, 2) := by decide +kernel
theorem dL_split_15 : decode cL_split 15 = .ok (.iconst 1, 1) := by decide +kernel
theorem dL_split_16 : decode cL_split 16 = .ok (.ireturn, 1) := by decide +kernel
theorem dL_split_17 : decode cL_split 17 = .ok (.astore 4, 2) := by decide +kernel
theorem dL_split_19 : decode cL_split 19 = .ok (.iconst 2, 1) := by decide +kernel
theorem dL_split_20 : decode cL_split 20 = .ok (.ireturn, 1) := by decide +kernel
theorem dL_split_21 : decode cL_split 21 = .ok (.astore 4, 2) := by decide +kernel
theorem dL_split_23 : decode cL_split 23 = .ok (.iconst 3, 1) := by decide +kernel
theorem dL_split_24 : decode cL_split 24 = .ok (.ireturn, 1) := by decide +kernel
theorem dL_split_25 : decode cL_split 25 = .ok (.iconst 0, 1) := by decide +kernel
theorem dL_split_26 : decode cL_split 26 = .ok (.ireturn, 1) := by decide +kernel
def rm_L_split : Room := { frames := 8, cells := 2, slots := 12, locals := 132 }
set_option maxRecDepth 100000 in
set_option maxHeartbeats 4000000 in
theorem k_L_split {l : Launch} {D : va_G} {cA : Nat → ClassId} {ad : Nat → Nat → Nat} {A : Nat → Prop} {ob : Nat} {cO : ClassId} (ax : Ax ad GC A) (hob : ¬ A ob) (hst : l.stackTraces = false) (p0 : Int32) (p1 : Int32) (mm : Mm) (v : Int64) (Q9 : Int32 → Mm → Prop) (X9 : Nat → Mm → Prop) (h : w_X9_split p0 p1 mm Q9 X9) (hX : ∀ k0 m1, X9 k0 m1 → oK [1, 2, 3] k0) : Met l yL_split (.codeWith yL_split cL_split 5 (some .int) [(0, 10, 13, 21), (0, 10, 17, 13), (0, 10, 21, 15)] :: TG) rm_L_split (PcL D cA ad A ob cO [.ref (ad 0 1), .int p0, .int p1, .ref ob] mm v) (QcL D cA ad A ob cO (QW tlI xA Q9 X9)) 2 12 (AW A ob) := by
  refine enterL pl_L rfl (Nat.le_of_ble_eq_true rfl) ?_
  intro p e s m args below meth c QQ X htab hW hZ hE
  refine q_aload_n (j := 3) X dL_split_0 rfl rfl ?_
  refine q_iconst X dL_split_1 rfl ?_
  refine q_aload_n (j := 0) X dL_split_2 rfl rfl ?_
  refine q_iload_n (j := 1) X dL_split_3 rfl rfl ?_
  refine q_iload_n (j := 2) X dL_split_4 rfl rfl ?_
  refine qW_call X hW hZ hob [.int p0, .int p1] [.int 0, .ref ob] rfl rfl (Nat.le_of_ble_eq_true rfl) dL_split_5 ⟨(Nat.le_of_ble_eq_true rfl), (Nat.le_of_ble_eq_true rfl)⟩ (c_X9_split ax hst p0 p1 mm Q9 X9 h) rfl rfl (gV kw_4_109 kw_4_110 kw_4_111 kw_1_1 kw_4_112) hy_X9_split ⟨(Nat.le_of_ble_eq_true rfl), (Nat.le_of_ble_eq_true rfl)⟩ (fun k0 m1 hx => ?_) (fun r m1 hq => ?_)
  · have hk := hX _ _ hx
    unfold oK at hk
    simp only [List.mem_cons, List.not_mem_nil, or_false] at hk
    rcases hk with rfl | rfl | rfl
    · skip
      refine ⟨13, by decide, Ct1 (k1 := 1) htab rfl (by decide) (by decide) (X.2.2.2.2 _ kw_3_237), fun q => ?_⟩
      refine q_astore X dL_split_13 (Nat.le_of_ble_eq_true rfl) rfl ?_
      refine q_iconst X dL_split_15 rfl ?_
      exact hE _ _ _ _ _ _ _ dL_split_16 (Nat.le_of_ble_eq_true rfl) (Nat.le_of_ble_eq_true rfl) (Or.inr ⟨by decide, 1, rfl, hx⟩)
    · skip
      refine ⟨17, by decide, Ct2 (k1 := 1) (k2 := 2) htab rfl (by decide) (by decide) (by decide) (X.2.2.2.2 _ kw_3_237) (X.2.2.2.2 _ kw_3_68) hW.2.2.1, fun q => ?_⟩
      refine q_astore X dL_split_17 (Nat.le_of_ble_eq_true rfl) rfl ?_
      refine q_iconst X dL_split_19 rfl ?_
      exact hE _ _ _ _ _ _ _ dL_split_20 (Nat.le_of_ble_eq_true rfl) (Nat.le_of_ble_eq_true rfl) (Or.inr ⟨by decide, 2, rfl, hx⟩)
    · skip
      refine ⟨21, by decide, Ct3 (k1 := 1) (k2 := 2) (k3 := 3) htab rfl (by decide) (by decide) (by decide) (by decide) (X.2.2.2.2 _ kw_3_237) (X.2.2.2.2 _ kw_3_68) (X.2.2.2.2 _ kw_3_69) hW.2.2.2.1 hW.2.2.2.2, fun q => ?_⟩
      refine q_astore X dL_split_21 (Nat.le_of_ble_eq_true rfl) rfl ?_
      refine q_iconst X dL_split_23 rfl ?_
      exact hE _ _ _ _ _ _ _ dL_split_24 (Nat.le_of_ble_eq_true rfl) (Nat.le_of_ble_eq_true rfl) (Or.inr ⟨by decide, 3, rfl, hx⟩)
  · refine q_i2l X dL_split_8 ?_
    refine qW_last X hW hob ax dL_split_9 ?_
    refine q_goto X dL_split_10 rfl ?_
    refine q_iconst X dL_split_25 rfl ?_
    exact hE _ _ _ _ _ _ _ dL_split_26 (Nat.le_of_ble_eq_true rfl) (Nat.le_of_ble_eq_true rfl) (Or.inl ⟨rfl, r, rfl, hq⟩)
theorem dL_merge_0 : decode cL_merge 0 = .ok (.aload_n 3, 1) := by decide +kernel
theorem dL_merge_1 : decode cL_merge 1 = .ok (.iconst 0, 1) := by decide +kernel
theorem dL_merge_2 : decode cL_merge 2 = .ok (.aload_n 0, 1) := by decide +kernel
theorem dL_merge_3 : decode cL_merge 3 = .ok (.iload_n 1, 1) := by decide +kernel
theorem dL_merge_4 : decode cL_merge 4 = .ok (.iload_n 2, 1) := by decide +kernel
theorem dL_merge_5 : decode cL_merge 5 = .ok (.invokevirtual 35, 3) := by decide +kernel
theorem dL_merge_8 : decode cL_merge 8 = .ok (.i2l, 1) := by decide +kernel
theorem dL_merge_9 : decode cL_merge 9 = .ok (.lastore, 1) := by decide +kernel
theorem dL_merge_10 : decode cL_merge 10 = .ok (.goto 15, 3) := by decide +kernel
theorem dL_merge_13 : decode cL_merge 13 = .ok (.astore 4, 2) := by decide +kernel
theorem dL_merge_15 : decode cL_merge 15 = .ok (.iconst 1, 1) := by decide +kernel
theorem dL_merge_16 : decode cL_merge 16 = .ok (.ireturn, 1) := by decide +kernel
theorem dL_merge_17 : decode cL_merge 17 = .ok (.astore 4, 2) := by decide +kernel
theorem dL_merge_19 : decode cL_merge 19 = .ok (.iconst 2, 1) := by decide +kernel
theorem dL_merge_20 : decode cL_merge 20 = .ok (.ireturn, 1) := by decide +kernel
theorem dL_merge_21 : decode cL_merge 21 = .ok (.astore 4, 2) := by decide +kernel
theorem dL_merge_23 : decode cL_merge 23 = .ok (.iconst 3, 1) := by decide +kernel
theorem dL_merge_24 : decode cL_merge 24 = .ok (.ireturn, 1) := by decide +kernel
theorem dL_merge_25 : decode cL_merge 25 = .ok (.iconst 0, 1) := by decide +kernel
theorem dL_merge_26 : decode cL_merge 26 = .ok (.ireturn, 1) := by decide +kernel
def rm_L_merge : Room := { frames := 8, cells := 2, slots := 12, locals := 132 }
set_option maxRecDepth 100000 in
set_option maxHeartbeats 4000000 in
theorem k_L_merge {l : Launch} {D : va_G} {cA : Nat → ClassId} {ad : Nat → Nat → Nat} {A : Nat → Prop} {ob : Nat} {cO : ClassId} (ax : Ax ad GC A) (hob : ¬ A ob) (hst : l.stackTraces = false) (p0 : Int32) (p1 : Int32) (mm : Mm) (v : Int64) (Q9 : Int32 → Mm → Prop) (X9 : Nat → Mm → Prop) (h : w_X9_merge p0 p1 mm Q9 X9) (hX : ∀ k0 m1, X9 k0 m1 → oK [1, 2, 3] k0) : Met l yL_merge (.codeWith yL_merge cL_merge 5 (some .int) [(0, 10, 13, 21), (0, 10, 17, 13), (0, 10, 21, 15)] :: TG) rm_L_merge (PcL D cA ad A ob cO [.ref (ad 0 1), .int p0, .int p1, .ref ob] mm v) (QcL D cA ad A ob cO (QW tlI xA Q9 X9)) 2 12 (AW A ob) := by
  refine enterL pl_L rfl (Nat.le_of_ble_eq_true rfl) ?_
  intro p e s m args below meth c QQ X htab hW hZ hE
  refine q_aload_n (j := 3) X dL_merge_0 rfl rfl ?_
  refine q_iconst X dL_merge_1 rfl ?_
  refine q_aload_n (j := 0) X dL_merge_2 rfl rfl ?_
  refine q_iload_n (j := 1) X dL_merge_3 rfl rfl ?_
  refine q_iload_n (j := 2) X dL_merge_4 rfl rfl ?_
  refine qW_call X hW hZ hob [.int p0, .int p1] [.int 0, .ref ob] rfl rfl (Nat.le_of_ble_eq_true rfl) dL_merge_5 ⟨(Nat.le_of_ble_eq_true rfl), (Nat.le_of_ble_eq_true rfl)⟩ (c_X9_merge ax hst p0 p1 mm Q9 X9 h) rfl rfl (gV kw_4_124 kw_4_125 kw_4_126 kw_1_1 kw_4_127) hy_X9_merge ⟨(Nat.le_of_ble_eq_true rfl), (Nat.le_of_ble_eq_true rfl)⟩ (fun k0 m1 hx => ?_) (fun r m1 hq => ?_)
  · have hk := hX _ _ hx
    unfold oK at hk
    simp only [List.mem_cons, List.not_mem_nil, or_false] at hk
    rcases hk with rfl | rfl | rfl
    · skip
      refine ⟨13, by decide, Ct1 (k1 := 1) htab rfl (by decide) (by decide) (X.2.2.2.2 _ kw_3_237), fun q => ?_⟩
      refine q_astore X dL_merge_13 (Nat.le_of_ble_eq_true rfl) rfl ?_
      refine q_iconst X dL_merge_15 rfl ?_
      exact hE _ _ _ _ _ _ _ dL_merge_16 (Nat.le_of_ble_eq_true rfl) (Nat.le_of_ble_eq_true rfl) (Or.inr ⟨by decide, 1, rfl, hx⟩)
    · skip
      refine ⟨17, by decide, Ct2 (k1 := 1) (k2 := 2) htab rfl (by decide) (by decide) (by decide) (X.2.2.2.2 _ kw_3_237) (X.2.2.2.2 _ kw_3_68) hW.2.2.1, fun q => ?_⟩
      refine q_astore X dL_merge_17 (Nat.le_of_ble_eq_true rfl) rfl ?_
      refine q_iconst X dL_merge_19 rfl ?_
      exact hE _ _ _ _ _ _ _ dL_merge_20 (Nat.le_of_ble_eq_true rfl) (Nat.le_of_ble_eq_true rfl) (Or.inr ⟨by decide, 2, rfl, hx⟩)
    · skip
      refine ⟨21, by decide, Ct3 (k1 := 1) (k2 := 2) (k3 := 3) htab rfl (by decide) (by decide) (by decide) (by decide) (X.2.2.2.2 _ kw_3_237) (X.2.2.2.2 _ kw_3_68) (X.2.2.2.2 _ kw_3_69) hW.2.2.2.1 hW.2.2.2.2, fun q => ?_⟩
      refine q_astore X dL_merge_21 (Nat.le_of_ble_eq_true rfl) rfl ?_
      refine q_iconst X dL_merge_23 rfl ?_
      exact hE _ _ _ _ _ _ _ dL_merge_24 (Nat.le_of_ble_eq_true rfl) (Nat.le_of_ble_eq_true rfl) (Or.inr ⟨by decide, 3, rfl, hx⟩)
  · refine q_i2l X dL_merge_8 ?_
    refine qW_last X hW hob ax dL_merge_9 ?_
    refine q_goto X dL_merge_10 rfl ?_
    refine q_iconst X dL_merge_25 rfl ?_
    exact hE _ _ _ _ _ _ _ dL_merge_26 (Nat.le_of_ble_eq_true rfl) (Nat.le_of_ble_eq_true rfl) (Or.inl ⟨rfl, r, rfl, hq⟩)
theorem dL_weigh_0 : decode cL_weigh 0 = .ok (.aload_n 3, 1) := by decide +kernel
theorem dL_weigh_1 : decode cL_weigh 1 = .ok (.iconst 0, 1) := by decide +kernel
theorem dL_weigh_2 : decode cL_weigh 2 = .ok (.aload_n 0, 1) := by decide +kernel
theorem dL_weigh_3 : decode cL_weigh 3 = .ok (.iload_n 1, 1) := by decide +kernel
theorem dL_weigh_4 : decode cL_weigh 4 = .ok (.iload_n 2, 1) := by decide +kernel
theorem dL_weigh_5 : decode cL_weigh 5 = .ok (.invokevirtual 38, 3) := by decide +kernel
theorem dL_weigh_8 : decode cL_weigh 8 = .ok (.i2l, 1) := by decide +kernel
theorem dL_weigh_9 : decode cL_weigh 9 = .ok (.lastore, 1) := by decide +kernel
theorem dL_weigh_10 : decode cL_weigh 10 = .ok (.goto 15, 3) := by decide +kernel
theorem dL_weigh_13 : decode cL_weigh 13 = .ok (.astore 4, 2) := by decide +kernel
theorem dL_weigh_15 : decode cL_weigh 15 = .ok (.iconst 1, 1) := by decide +kernel
theorem dL_weigh_16 : decode cL_weigh 16 = .ok (.ireturn, 1) := by decide +kernel
theorem dL_weigh_17 : decode cL_weigh 17 = .ok (.astore 4, 2) := by decide +kernel
theorem dL_weigh_19 : decode cL_weigh 19 = .ok (.iconst 2, 1) := by decide +kernel
theorem dL_weigh_20 : decode cL_weigh 20 = .ok (.ireturn, 1) := by decide +kernel
theorem dL_weigh_21 : decode cL_weigh 21 = .ok (.astore 4, 2) := by decide +kernel
theorem dL_weigh_23 : decode cL_weigh 23 = .ok (.iconst 3, 1) := by decide +kernel
theorem dL_weigh_24 : decode cL_weigh 24 = .ok (.ireturn, 1) := by decide +kernel
theorem dL_weigh_25 : decode cL_weigh 25 = .ok (.iconst 0, 1) := by decide +kernel
theorem dL_weigh_26 : decode cL_weigh 26 = .ok (.ireturn, 1) := by decide +kernel
def rm_L_weigh : Room := { frames := 8, cells := 2, slots := 12, locals := 132 }
set_option maxRecDepth 100000 in
set_option maxHeartbeats 4000000 in
theorem k_L_weigh {l : Launch} {D : va_G} {cA : Nat → ClassId} {ad : Nat → Nat → Nat} {A : Nat → Prop} {ob : Nat} {cO : ClassId} (ax : Ax ad GC A) (hob : ¬ A ob) (hst : l.stackTraces = false) (p0 : Int32) (p1 : Int32) (mm : Mm) (v : Int64) (Q9 : Int32 → Mm → Prop) (X9 : Nat → Mm → Prop) (h : w_X9_weigh p0 p1 mm Q9 X9) (hX : ∀ k0 m1, X9 k0 m1 → oK [1, 2, 3] k0) : Met l yL_weigh (.codeWith yL_weigh cL_weigh 5 (some .int) [(0, 10, 13, 21), (0, 10, 17, 13), (0, 10, 21, 15)] :: TG) rm_L_weigh (PcL D cA ad A ob cO [.ref (ad 0 1), .int p0, .int p1, .ref ob] mm v) (QcL D cA ad A ob cO (QW tlI xA Q9 X9)) 2 12 (AW A ob) := by
  refine enterL pl_L rfl (Nat.le_of_ble_eq_true rfl) ?_
  intro p e s m args below meth c QQ X htab hW hZ hE
  refine q_aload_n (j := 3) X dL_weigh_0 rfl rfl ?_
  refine q_iconst X dL_weigh_1 rfl ?_
  refine q_aload_n (j := 0) X dL_weigh_2 rfl rfl ?_
  refine q_iload_n (j := 1) X dL_weigh_3 rfl rfl ?_
  refine q_iload_n (j := 2) X dL_weigh_4 rfl rfl ?_
  refine qW_call X hW hZ hob [.int p0, .int p1] [.int 0, .ref ob] rfl rfl (Nat.le_of_ble_eq_true rfl) dL_weigh_5 ⟨(Nat.le_of_ble_eq_true rfl), (Nat.le_of_ble_eq_true rfl)⟩ (c_X9_weigh ax hst p0 p1 mm Q9 X9 h) rfl rfl (gV kw_4_147 kw_4_148 kw_4_149 kw_1_1 kw_4_150) hy_X9_weigh ⟨(Nat.le_of_ble_eq_true rfl), (Nat.le_of_ble_eq_true rfl)⟩ (fun k0 m1 hx => ?_) (fun r m1 hq => ?_)
  · have hk := hX _ _ hx
    unfold oK at hk
    simp only [List.mem_cons, List.not_mem_nil, or_false] at hk
    rcases hk with rfl | rfl | rfl
    · skip
      refine ⟨13, by decide, Ct1 (k1 := 1) htab rfl (by decide) (by decide) (X.2.2.2.2 _ kw_3_237), fun q => ?_⟩
      refine q_astore X dL_weigh_13 (Nat.le_of_ble_eq_true rfl) rfl ?_
      refine q_iconst X dL_weigh_15 rfl ?_
      exact hE _ _ _ _ _ _ _ dL_weigh_16 (Nat.le_of_ble_eq_true rfl) (Nat.le_of_ble_eq_true rfl) (Or.inr ⟨by decide, 1, rfl, hx⟩)
    · skip
      refine ⟨17, by decide, Ct2 (k1 := 1) (k2 := 2) htab rfl (by decide) (by decide) (by decide) (X.2.2.2.2 _ kw_3_237) (X.2.2.2.2 _ kw_3_68) hW.2.2.1, fun q => ?_⟩
      refine q_astore X dL_weigh_17 (Nat.le_of_ble_eq_true rfl) rfl ?_
      refine q_iconst X dL_weigh_19 rfl ?_
      exact hE _ _ _ _ _ _ _ dL_weigh_20 (Nat.le_of_ble_eq_true rfl) (Nat.le_of_ble_eq_true rfl) (Or.inr ⟨by decide, 2, rfl, hx⟩)
    · skip
      refine ⟨21, by decide, Ct3 (k1 := 1) (k2 := 2) (k3 := 3) htab rfl (by decide) (by decide) (by decide) (by decide) (X.2.2.2.2 _ kw_3_237) (X.2.2.2.2 _ kw_3_68) (X.2.2.2.2 _ kw_3_69) hW.2.2.2.1 hW.2.2.2.2, fun q => ?_⟩
      refine q_astore X dL_weigh_21 (Nat.le_of_ble_eq_true rfl) rfl ?_
      refine q_iconst X dL_weigh_23 rfl ?_
      exact hE _ _ _ _ _ _ _ dL_weigh_24 (Nat.le_of_ble_eq_true rfl) (Nat.le_of_ble_eq_true rfl) (Or.inr ⟨by decide, 3, rfl, hx⟩)
  · refine q_i2l X dL_weigh_8 ?_
    refine qW_last X hW hob ax dL_weigh_9 ?_
    refine q_goto X dL_weigh_10 rfl ?_
    refine q_iconst X dL_weigh_25 rfl ?_
    exact hE _ _ _ _ _ _ _ dL_weigh_26 (Nat.le_of_ble_eq_true rfl) (Nat.le_of_ble_eq_true rfl) (Or.inl ⟨rfl, r, rfl, hq⟩)
theorem dL_lock_0 : decode cL_lock 0 = .ok (.aload_n 2, 1) := by decide +kernel
theorem dL_lock_1 : decode cL_lock 1 = .ok (.iconst 0, 1) := by decide +kernel
theorem dL_lock_2 : decode cL_lock 2 = .ok (.aload_n 0, 1) := by decide +kernel
theorem dL_lock_3 : decode cL_lock 3 = .ok (.iload_n 1, 1) := by decide +kernel
theorem dL_lock_4 : decode cL_lock 4 = .ok (.invokevirtual 41, 3) := by decide +kernel
theorem dL_lock_7 : decode cL_lock 7 = .ok (.i2l, 1) := by decide +kernel
theorem dL_lock_8 : decode cL_lock 8 = .ok (.lastore, 1) := by decide +kernel
theorem dL_lock_9 : decode cL_lock 9 = .ok (.goto 9, 3) := by decide +kernel
theorem dL_lock_12 : decode cL_lock 12 = .ok (.astore_n 3, 1) := by decide +kernel
theorem dL_lock_13 : decode cL_lock 13 = .ok (.iconst 1, 1) := by decide +kernel
theorem dL_lock_14 : decode cL_lock 14 = .ok (.ireturn, 1) := by decide +kernel
theorem dL_lock_15 : decode cL_lock 15 = .ok (.astore_n 3, 1) := by decide +kernel
theorem dL_lock_16 : decode cL_lock 16 = .ok (.iconst 2, 1) := by decide +kernel
theorem dL_lock_17 : decode cL_lock 17 = .ok (.ireturn, 1) := by decide +kernel
theorem dL_lock_18 : decode cL_lock 18 = .ok (.iconst 0, 1) := by decide +kernel
theorem dL_lock_19 : decode cL_lock 19 = .ok (.ireturn, 1) := by decide +kernel
def rm_L_lock : Room := { frames := 8, cells := 2, slots := 12, locals := 131 }
set_option maxRecDepth 100000 in
set_option maxHeartbeats 4000000 in
theorem k_L_lock {l : Launch} {D : va_G} {cA : Nat → ClassId} {ad : Nat → Nat → Nat} {A : Nat → Prop} {ob : Nat} {cO : ClassId} (ax : Ax ad GC A) (hob : ¬ A ob) (hst : l.stackTraces = false) (p0 : Int32) (mm : Mm) (v : Int64) (Q9 : Int32 → Mm → Prop) (X9 : Nat → Mm → Prop) (h : w_X9_lock p0 mm Q9 X9) (hX : ∀ k0 m1, X9 k0 m1 → oK [1, 3] k0) : Met l yL_lock (.codeWith yL_lock cL_lock 4 (some .int) [(0, 9, 12, 21), (0, 9, 15, 15)] :: TG) rm_L_lock (PcL D cA ad A ob cO [.ref (ad 0 1), .int p0, .ref ob] mm v) (QcL D cA ad A ob cO (QW tlI xC Q9 X9)) 2 12 (AW A ob) := by
  refine enterL pl_L rfl (Nat.le_of_ble_eq_true rfl) ?_
  intro p e s m args below meth c QQ X htab hW hZ hE
  refine q_aload_n (j := 2) X dL_lock_0 rfl rfl ?_
  refine q_iconst X dL_lock_1 rfl ?_
  refine q_aload_n (j := 0) X dL_lock_2 rfl rfl ?_
  refine q_iload_n (j := 1) X dL_lock_3 rfl rfl ?_
  refine qW_call X hW hZ hob [.int p0] [.int 0, .ref ob] rfl rfl (Nat.le_of_ble_eq_true rfl) dL_lock_4 ⟨(Nat.le_of_ble_eq_true rfl), (Nat.le_of_ble_eq_true rfl)⟩ (c_X9_lock ax hst p0 mm Q9 X9 h) rfl rfl (gV kw_4_178 kw_4_179 kw_4_180 kw_1_1 kw_4_181) hy_X9_lock ⟨(Nat.le_of_ble_eq_true rfl), (Nat.le_of_ble_eq_true rfl)⟩ (fun k0 m1 hx => ?_) (fun r m1 hq => ?_)
  · have hk := hX _ _ hx
    unfold oK at hk
    simp only [List.mem_cons, List.not_mem_nil, or_false] at hk
    rcases hk with rfl | rfl
    · skip
      refine ⟨12, by decide, Ct1 (k1 := 1) htab rfl (by decide) (by decide) (X.2.2.2.2 _ kw_3_237), fun q => ?_⟩
      refine q_astore_n X dL_lock_12 rfl (Nat.le_of_ble_eq_true rfl) rfl ?_
      refine q_iconst X dL_lock_13 rfl ?_
      exact hE _ _ _ _ _ _ _ dL_lock_14 (Nat.le_of_ble_eq_true rfl) (Nat.le_of_ble_eq_true rfl) (Or.inr ⟨by decide, 1, rfl, hx⟩)
    · skip
      refine ⟨15, by decide, Ct2 (k1 := 1) (k2 := 3) htab rfl (by decide) (by decide) (by decide) (X.2.2.2.2 _ kw_3_237) (X.2.2.2.2 _ kw_3_69) hW.2.2.2.1, fun q => ?_⟩
      refine q_astore_n X dL_lock_15 rfl (Nat.le_of_ble_eq_true rfl) rfl ?_
      refine q_iconst X dL_lock_16 rfl ?_
      exact hE _ _ _ _ _ _ _ dL_lock_17 (Nat.le_of_ble_eq_true rfl) (Nat.le_of_ble_eq_true rfl) (Or.inr ⟨by decide, 3, rfl, hx⟩)
  · refine q_i2l X dL_lock_7 ?_
    refine qW_last X hW hob ax dL_lock_8 ?_
    refine q_goto X dL_lock_9 rfl ?_
    refine q_iconst X dL_lock_18 rfl ?_
    exact hE _ _ _ _ _ _ _ dL_lock_19 (Nat.le_of_ble_eq_true rfl) (Nat.le_of_ble_eq_true rfl) (Or.inl ⟨rfl, r, rfl, hq⟩)
theorem dL_open_0 : decode cL_open 0 = .ok (.aload_n 2, 1) := by decide +kernel
theorem dL_open_1 : decode cL_open 1 = .ok (.iconst 0, 1) := by decide +kernel
theorem dL_open_2 : decode cL_open 2 = .ok (.aload_n 0, 1) := by decide +kernel
theorem dL_open_3 : decode cL_open 3 = .ok (.iload_n 1, 1) := by decide +kernel
theorem dL_open_4 : decode cL_open 4 = .ok (.invokevirtual 45, 3) := by decide +kernel
theorem dL_open_7 : decode cL_open 7 = .ok (.i2l, 1) := by decide +kernel
theorem dL_open_8 : decode cL_open 8 = .ok (.lastore, 1) := by decide +kernel
theorem dL_open_9 : decode cL_open 9 = .ok (.goto 9, 3) := by decide +kernel
theorem dL_open_12 : decode cL_open 12 = .ok (.astore_n 3, 1) := by decide +kernel
theorem dL_open_13 : decode cL_open 13 = .ok (.iconst 1, 1) := by decide +kernel
theorem dL_open_14 : decode cL_open 14 = .ok (.ireturn, 1) := by decide +kernel
theorem dL_open_15 : decode cL_open 15 = .ok (.astore_n 3, 1) := by decide +kernel
theorem dL_open_16 : decode cL_open 16 = .ok (.iconst 2, 1) := by decide +kernel
theorem dL_open_17 : decode cL_open 17 = .ok (.ireturn, 1) := by decide +kernel
theorem dL_open_18 : decode cL_open 18 = .ok (.iconst 0, 1) := by decide +kernel
theorem dL_open_19 : decode cL_open 19 = .ok (.ireturn, 1) := by decide +kernel
def rm_L_open : Room := { frames := 8, cells := 2, slots := 12, locals := 131 }
set_option maxRecDepth 100000 in
set_option maxHeartbeats 4000000 in
theorem k_L_open {l : Launch} {D : va_G} {cA : Nat → ClassId} {ad : Nat → Nat → Nat} {A : Nat → Prop} {ob : Nat} {cO : ClassId} (ax : Ax ad GC A) (hob : ¬ A ob) (hst : l.stackTraces = false) (p0 : Int32) (mm : Mm) (v : Int64) (Q9 : Int32 → Mm → Prop) (X9 : Nat → Mm → Prop) (h : w_X9_open p0 mm Q9 X9) (hX : ∀ k0 m1, X9 k0 m1 → oK [1, 3] k0) : Met l yL_open (.codeWith yL_open cL_open 4 (some .int) [(0, 9, 12, 21), (0, 9, 15, 15)] :: TG) rm_L_open (PcL D cA ad A ob cO [.ref (ad 0 1), .int p0, .ref ob] mm v) (QcL D cA ad A ob cO (QW tlI xC Q9 X9)) 2 12 (AW A ob) := by
  refine enterL pl_L rfl (Nat.le_of_ble_eq_true rfl) ?_
  intro p e s m args below meth c QQ X htab hW hZ hE
  refine q_aload_n (j := 2) X dL_open_0 rfl rfl ?_
  refine q_iconst X dL_open_1 rfl ?_
  refine q_aload_n (j := 0) X dL_open_2 rfl rfl ?_
  refine q_iload_n (j := 1) X dL_open_3 rfl rfl ?_
  refine qW_call X hW hZ hob [.int p0] [.int 0, .ref ob] rfl rfl (Nat.le_of_ble_eq_true rfl) dL_open_4 ⟨(Nat.le_of_ble_eq_true rfl), (Nat.le_of_ble_eq_true rfl)⟩ (c_X9_open ax hst p0 mm Q9 X9 h) rfl rfl (gV kw_4_189 kw_4_190 kw_4_191 kw_1_1 kw_4_192) hy_X9_open ⟨(Nat.le_of_ble_eq_true rfl), (Nat.le_of_ble_eq_true rfl)⟩ (fun k0 m1 hx => ?_) (fun r m1 hq => ?_)
  · have hk := hX _ _ hx
    unfold oK at hk
    simp only [List.mem_cons, List.not_mem_nil, or_false] at hk
    rcases hk with rfl | rfl
    · skip
      refine ⟨12, by decide, Ct1 (k1 := 1) htab rfl (by decide) (by decide) (X.2.2.2.2 _ kw_3_237), fun q => ?_⟩
      refine q_astore_n X dL_open_12 rfl (Nat.le_of_ble_eq_true rfl) rfl ?_
      refine q_iconst X dL_open_13 rfl ?_
      exact hE _ _ _ _ _ _ _ dL_open_14 (Nat.le_of_ble_eq_true rfl) (Nat.le_of_ble_eq_true rfl) (Or.inr ⟨by decide, 1, rfl, hx⟩)
    · skip
      refine ⟨15, by decide, Ct2 (k1 := 1) (k2 := 3) htab rfl (by decide) (by decide) (by decide) (X.2.2.2.2 _ kw_3_237) (X.2.2.2.2 _ kw_3_69) hW.2.2.2.1, fun q => ?_⟩
      refine q_astore_n X dL_open_15 rfl (Nat.le_of_ble_eq_true rfl) rfl ?_
      refine q_iconst X dL_open_16 rfl ?_
      exact hE _ _ _ _ _ _ _ dL_open_17 (Nat.le_of_ble_eq_true rfl) (Nat.le_of_ble_eq_true rfl) (Or.inr ⟨by decide, 3, rfl, hx⟩)
  · refine q_i2l X dL_open_7 ?_
    refine qW_last X hW hob ax dL_open_8 ?_
    refine q_goto X dL_open_9 rfl ?_
    refine q_iconst X dL_open_18 rfl ?_
    exact hE _ _ _ _ _ _ _ dL_open_19 (Nat.le_of_ble_eq_true rfl) (Nat.le_of_ble_eq_true rfl) (Or.inl ⟨rfl, r, rfl, hq⟩)
theorem dL_breakSeal_0 : decode cL_breakSeal 0 = .ok (.aload_n 2, 1) := by decide +kernel
theorem dL_breakSeal_1 : decode cL_breakSeal 1 = .ok (.iconst 0, 1) := by decide +kernel
theorem dL_breakSeal_2 : decode cL_breakSeal 2 = .ok (.aload_n 0, 1) := by decide +kernel
theorem dL_breakSeal_3 : decode cL_breakSeal 3 = .ok (.iload_n 1, 1) := by decide +kernel
theorem dL_breakSeal_4 : decode cL_breakSeal 4 = .ok (.invokevirtual 48, 3) := by decide +kernel
theorem dL_breakSeal_7 : decode cL_breakSeal 7 = .ok (.i2l, 1) := by decide +kernel
theorem dL_breakSeal_8 : decode cL_breakSeal 8 = .ok (.lastore, 1) := by decide +kernel
theorem dL_breakSeal_9 : decode cL_breakSeal 9 = .ok (.goto 9, 3) := by decide +kernel
theorem dL_breakSeal_12 : decode cL_breakSeal 12 = .ok (.astore_n 3, 1) := by decide +kernel
theorem dL_breakSeal_13 : decode cL_breakSeal 13 = .ok (.iconst 1, 1) := by decide +kernel
theorem dL_breakSeal_14 : decode cL_breakSeal 14 = .ok (.ireturn, 1) := by decide +kernel
theorem dL_breakSeal_15 : decode cL_breakSeal 15 = .ok (.astore_n 3, 1) := by decide +kernel
theorem dL_breakSeal_16 : decode cL_breakSeal 16 = .ok (.iconst 2, 1) := by decide +kernel
theorem dL_breakSeal_17 : decode cL_breakSeal 17 = .ok (.ireturn, 1) := by decide +kernel
theorem dL_breakSeal_18 : decode cL_breakSeal 18 = .ok (.iconst 0, 1) := by decide +kernel
theorem dL_breakSeal_19 : decode cL_breakSeal 19 = .ok (.ireturn, 1) := by decide +kernel
def rm_L_breakSeal : Room := { frames := 8, cells := 2, slots := 12, locals := 131 }
set_option maxRecDepth 100000 in
set_option maxHeartbeats 4000000 in
theorem k_L_breakSeal {l : Launch} {D : va_G} {cA : Nat → ClassId} {ad : Nat → Nat → Nat} {A : Nat → Prop} {ob : Nat} {cO : ClassId} (ax : Ax ad GC A) (hob : ¬ A ob) (hst : l.stackTraces = false) (p0 : Int32) (mm : Mm) (v : Int64) (Q9 : Int32 → Mm → Prop) (X9 : Nat → Mm → Prop) (h : w_X9_breakSeal p0 mm Q9 X9) (hX : ∀ k0 m1, X9 k0 m1 → oK [1, 3] k0) : Met l yL_breakSeal (.codeWith yL_breakSeal cL_breakSeal 4 (some .int) [(0, 9, 12, 21), (0, 9, 15, 15)] :: TG) rm_L_breakSeal (PcL D cA ad A ob cO [.ref (ad 0 1), .int p0, .ref ob] mm v) (QcL D cA ad A ob cO (QW tlI xC Q9 X9)) 2 12 (AW A ob) := by
  refine enterL pl_L rfl (Nat.le_of_ble_eq_true rfl) ?_
  intro p e s m args below meth c QQ X htab hW hZ hE
  refine q_aload_n (j := 2) X dL_breakSeal_0 rfl rfl ?_
  refine q_iconst X dL_breakSeal_1 rfl ?_
  refine q_aload_n (j := 0) X dL_breakSeal_2 rfl rfl ?_
  refine q_iload_n (j := 1) X dL_breakSeal_3 rfl rfl ?_
  refine qW_call X hW hZ hob [.int p0] [.int 0, .ref ob] rfl rfl (Nat.le_of_ble_eq_true rfl) dL_breakSeal_4 ⟨(Nat.le_of_ble_eq_true rfl), (Nat.le_of_ble_eq_true rfl)⟩ (c_X9_breakSeal ax hst p0 mm Q9 X9 h) rfl rfl (gV kw_4_200 kw_4_201 kw_4_202 kw_1_1 kw_4_203) hy_X9_breakSeal ⟨(Nat.le_of_ble_eq_true rfl), (Nat.le_of_ble_eq_true rfl)⟩ (fun k0 m1 hx => ?_) (fun r m1 hq => ?_)
  · have hk := hX _ _ hx
    unfold oK at hk
    simp only [List.mem_cons, List.not_mem_nil, or_false] at hk
    rcases hk with rfl | rfl
    · skip
      refine ⟨12, by decide, Ct1 (k1 := 1) htab rfl (by decide) (by decide) (X.2.2.2.2 _ kw_3_237), fun q => ?_⟩
      refine q_astore_n X dL_breakSeal_12 rfl (Nat.le_of_ble_eq_true rfl) rfl ?_
      refine q_iconst X dL_breakSeal_13 rfl ?_
      exact hE _ _ _ _ _ _ _ dL_breakSeal_14 (Nat.le_of_ble_eq_true rfl) (Nat.le_of_ble_eq_true rfl) (Or.inr ⟨by decide, 1, rfl, hx⟩)
    · skip
      refine ⟨15, by decide, Ct2 (k1 := 1) (k2 := 3) htab rfl (by decide) (by decide) (by decide) (X.2.2.2.2 _ kw_3_237) (X.2.2.2.2 _ kw_3_69) hW.2.2.2.1, fun q => ?_⟩
      refine q_astore_n X dL_breakSeal_15 rfl (Nat.le_of_ble_eq_true rfl) rfl ?_
      refine q_iconst X dL_breakSeal_16 rfl ?_
      exact hE _ _ _ _ _ _ _ dL_breakSeal_17 (Nat.le_of_ble_eq_true rfl) (Nat.le_of_ble_eq_true rfl) (Or.inr ⟨by decide, 3, rfl, hx⟩)
  · refine q_i2l X dL_breakSeal_7 ?_
    refine qW_last X hW hob ax dL_breakSeal_8 ?_
    refine q_goto X dL_breakSeal_9 rfl ?_
    refine q_iconst X dL_breakSeal_18 rfl ?_
    exact hE _ _ _ _ _ _ _ dL_breakSeal_19 (Nat.le_of_ble_eq_true rfl) (Nat.le_of_ble_eq_true rfl) (Or.inl ⟨rfl, r, rfl, hq⟩)
theorem dL_deposit_0 : decode cL_deposit 0 = .ok (.aload_n 2, 1) := by decide +kernel
theorem dL_deposit_1 : decode cL_deposit 1 = .ok (.iconst 0, 1) := by decide +kernel
theorem dL_deposit_2 : decode cL_deposit 2 = .ok (.aload_n 0, 1) := by decide +kernel
theorem dL_deposit_3 : decode cL_deposit 3 = .ok (.iload_n 1, 1) := by decide +kernel
theorem dL_deposit_4 : decode cL_deposit 4 = .ok (.invokevirtual 51, 3) := by decide +kernel
theorem dL_deposit_7 : decode cL_deposit 7 = .ok (.i2l, 1) := by decide +kernel
theorem dL_deposit_8 : decode cL_deposit 8 = .ok (.lastore, 1) := by decide +kernel
theorem dL_deposit_9 : decode cL_deposit 9 = .ok (.goto 9, 3) := by decide +kernel
theorem dL_deposit_12 : decode cL_deposit 12 = .ok (.astore_n 3, 1) := by decide +kernel
theorem dL_deposit_13 : decode cL_deposit 13 = .ok (.iconst 1, 1) := by decide +kernel
theorem dL_deposit_14 : decode cL_deposit 14 = .ok (.ireturn, 1) := by decide +kernel
theorem dL_deposit_15 : decode cL_deposit 15 = .ok (.astore_n 3, 1) := by decide +kernel
theorem dL_deposit_16 : decode cL_deposit 16 = .ok (.iconst 2, 1) := by decide +kernel
theorem dL_deposit_17 : decode cL_deposit 17 = .ok (.ireturn, 1) := by decide +kernel
theorem dL_deposit_18 : decode cL_deposit 18 = .ok (.iconst 0, 1) := by decide +kernel
theorem dL_deposit_19 : decode cL_deposit 19 = .ok (.ireturn, 1) := by decide +kernel
def rm_L_deposit : Room := { frames := 8, cells := 2, slots := 12, locals := 131 }
set_option maxRecDepth 100000 in
set_option maxHeartbeats 4000000 in
theorem k_L_deposit {l : Launch} {D : va_G} {cA : Nat → ClassId} {ad : Nat → Nat → Nat} {A : Nat → Prop} {ob : Nat} {cO : ClassId} (ax : Ax ad GC A) (hob : ¬ A ob) (hst : l.stackTraces = false) (p0 : Int32) (mm : Mm) (v : Int64) (Q9 : Int32 → Mm → Prop) (X9 : Nat → Mm → Prop) (h : w_X9_deposit p0 mm Q9 X9) (hX : ∀ k0 m1, X9 k0 m1 → oK [2, 3] k0) : Met l yL_deposit (.codeWith yL_deposit cL_deposit 4 (some .int) [(0, 9, 12, 13), (0, 9, 15, 15)] :: TG) rm_L_deposit (PcL D cA ad A ob cO [.ref (ad 0 1), .int p0, .ref ob] mm v) (QcL D cA ad A ob cO (QW tlI xB Q9 X9)) 2 12 (AW A ob) := by
  refine enterL pl_L rfl (Nat.le_of_ble_eq_true rfl) ?_
  intro p e s m args below meth c QQ X htab hW hZ hE
  refine q_aload_n (j := 2) X dL_deposit_0 rfl rfl ?_
  refine q_iconst X dL_deposit_1 rfl ?_
  refine q_aload_n (j := 0) X dL_deposit_2 rfl rfl ?_
  refine q_iload_n (j := 1) X dL_deposit_3 rfl rfl ?_
  refine qW_call X hW hZ hob [.int p0] [.int 0, .ref ob] rfl rfl (Nat.le_of_ble_eq_true rfl) dL_deposit_4 ⟨(Nat.le_of_ble_eq_true rfl), (Nat.le_of_ble_eq_true rfl)⟩ (c_X9_deposit ax hst p0 mm Q9 X9 h) rfl rfl (gV kw_4_211 kw_4_212 kw_4_213 kw_1_1 kw_4_214) hy_X9_deposit ⟨(Nat.le_of_ble_eq_true rfl), (Nat.le_of_ble_eq_true rfl)⟩ (fun k0 m1 hx => ?_) (fun r m1 hq => ?_)
  · have hk := hX _ _ hx
    unfold oK at hk
    simp only [List.mem_cons, List.not_mem_nil, or_false] at hk
    rcases hk with rfl | rfl
    · skip
      refine ⟨12, by decide, Ct1 (k1 := 2) htab rfl (by decide) (by decide) (X.2.2.2.2 _ kw_3_68), fun q => ?_⟩
      refine q_astore_n X dL_deposit_12 rfl (Nat.le_of_ble_eq_true rfl) rfl ?_
      refine q_iconst X dL_deposit_13 rfl ?_
      exact hE _ _ _ _ _ _ _ dL_deposit_14 (Nat.le_of_ble_eq_true rfl) (Nat.le_of_ble_eq_true rfl) (Or.inr ⟨by decide, 2, rfl, hx⟩)
    · skip
      refine ⟨15, by decide, Ct2 (k1 := 2) (k2 := 3) htab rfl (by decide) (by decide) (by decide) (X.2.2.2.2 _ kw_3_68) (X.2.2.2.2 _ kw_3_69) hW.2.2.2.2, fun q => ?_⟩
      refine q_astore_n X dL_deposit_15 rfl (Nat.le_of_ble_eq_true rfl) rfl ?_
      refine q_iconst X dL_deposit_16 rfl ?_
      exact hE _ _ _ _ _ _ _ dL_deposit_17 (Nat.le_of_ble_eq_true rfl) (Nat.le_of_ble_eq_true rfl) (Or.inr ⟨by decide, 3, rfl, hx⟩)
  · refine q_i2l X dL_deposit_7 ?_
    refine qW_last X hW hob ax dL_deposit_8 ?_
    refine q_goto X dL_deposit_9 rfl ?_
    refine q_iconst X dL_deposit_18 rfl ?_
    exact hE _ _ _ _ _ _ _ dL_deposit_19 (Nat.le_of_ble_eq_true rfl) (Nat.le_of_ble_eq_true rfl) (Or.inl ⟨rfl, r, rfl, hq⟩)
theorem dL_setBond_0 : decode cL_setBond 0 = .ok (.aload_n 2, 1) := by decide +kernel
theorem dL_setBond_1 : decode cL_setBond 1 = .ok (.iconst 0, 1) := by decide +kernel
theorem dL_setBond_2 : decode cL_setBond 2 = .ok (.aload_n 0, 1) := by decide +kernel
theorem dL_setBond_3 : decode cL_setBond 3 = .ok (.iload_n 1, 1) := by decide +kernel
theorem dL_setBond_4 : decode cL_setBond 4 = .ok (.invokevirtual 54, 3) := by decide +kernel
theorem dL_setBond_7 : decode cL_setBond 7 = .ok (.i2l, 1) := by decide +kernel
theorem dL_setBond_8 : decode cL_setBond 8 = .ok (.lastore, 1) := by decide +kernel
theorem dL_setBond_9 : decode cL_setBond 9 = .ok (.goto 9, 3) := by decide +kernel
theorem dL_setBond_12 : decode cL_setBond 12 = .ok (.astore_n 3, 1) := by decide +kernel
theorem dL_setBond_13 : decode cL_setBond 13 = .ok (.iconst 1, 1) := by decide +kernel
theorem dL_setBond_14 : decode cL_setBond 14 = .ok (.ireturn, 1) := by decide +kernel
theorem dL_setBond_15 : decode cL_setBond 15 = .ok (.astore_n 3, 1) := by decide +kernel
theorem dL_setBond_16 : decode cL_setBond 16 = .ok (.iconst 2, 1) := by decide +kernel
theorem dL_setBond_17 : decode cL_setBond 17 = .ok (.ireturn, 1) := by decide +kernel
theorem dL_setBond_18 : decode cL_setBond 18 = .ok (.iconst 0, 1) := by decide +kernel
theorem dL_setBond_19 : decode cL_setBond 19 = .ok (.ireturn, 1) := by decide +kernel
def rm_L_setBond : Room := { frames := 8, cells := 2, slots := 12, locals := 131 }
set_option maxRecDepth 100000 in
set_option maxHeartbeats 4000000 in
theorem k_L_setBond {l : Launch} {D : va_G} {cA : Nat → ClassId} {ad : Nat → Nat → Nat} {A : Nat → Prop} {ob : Nat} {cO : ClassId} (ax : Ax ad GC A) (hob : ¬ A ob) (hst : l.stackTraces = false) (p0 : Int32) (mm : Mm) (v : Int64) (Q9 : Int32 → Mm → Prop) (X9 : Nat → Mm → Prop) (h : w_X9_setBond p0 mm Q9 X9) (hX : ∀ k0 m1, X9 k0 m1 → oK [2, 3] k0) : Met l yL_setBond (.codeWith yL_setBond cL_setBond 4 (some .int) [(0, 9, 12, 13), (0, 9, 15, 15)] :: TG) rm_L_setBond (PcL D cA ad A ob cO [.ref (ad 0 1), .int p0, .ref ob] mm v) (QcL D cA ad A ob cO (QW tlI xB Q9 X9)) 2 12 (AW A ob) := by
  refine enterL pl_L rfl (Nat.le_of_ble_eq_true rfl) ?_
  intro p e s m args below meth c QQ X htab hW hZ hE
  refine q_aload_n (j := 2) X dL_setBond_0 rfl rfl ?_
  refine q_iconst X dL_setBond_1 rfl ?_
  refine q_aload_n (j := 0) X dL_setBond_2 rfl rfl ?_
  refine q_iload_n (j := 1) X dL_setBond_3 rfl rfl ?_
  refine qW_call X hW hZ hob [.int p0] [.int 0, .ref ob] rfl rfl (Nat.le_of_ble_eq_true rfl) dL_setBond_4 ⟨(Nat.le_of_ble_eq_true rfl), (Nat.le_of_ble_eq_true rfl)⟩ (c_X9_setBond ax hst p0 mm Q9 X9 h) rfl rfl (gV kw_4_232 kw_4_233 kw_4_234 kw_1_1 kw_4_235) hy_X9_setBond ⟨(Nat.le_of_ble_eq_true rfl), (Nat.le_of_ble_eq_true rfl)⟩ (fun k0 m1 hx => ?_) (fun r m1 hq => ?_)
  · have hk := hX _ _ hx
    unfold oK at hk
    simp only [List.mem_cons, List.not_mem_nil, or_false] at hk
    rcases hk with rfl | rfl
    · skip
      refine ⟨12, by decide, Ct1 (k1 := 2) htab rfl (by decide) (by decide) (X.2.2.2.2 _ kw_3_68), fun q => ?_⟩
      refine q_astore_n X dL_setBond_12 rfl (Nat.le_of_ble_eq_true rfl) rfl ?_
      refine q_iconst X dL_setBond_13 rfl ?_
      exact hE _ _ _ _ _ _ _ dL_setBond_14 (Nat.le_of_ble_eq_true rfl) (Nat.le_of_ble_eq_true rfl) (Or.inr ⟨by decide, 2, rfl, hx⟩)
    · skip
      refine ⟨15, by decide, Ct2 (k1 := 2) (k2 := 3) htab rfl (by decide) (by decide) (by decide) (X.2.2.2.2 _ kw_3_68) (X.2.2.2.2 _ kw_3_69) hW.2.2.2.2, fun q => ?_⟩
      refine q_astore_n X dL_setBond_15 rfl (Nat.le_of_ble_eq_true rfl) rfl ?_
      refine q_iconst X dL_setBond_16 rfl ?_
      exact hE _ _ _ _ _ _ _ dL_setBond_17 (Nat.le_of_ble_eq_true rfl) (Nat.le_of_ble_eq_true rfl) (Or.inr ⟨by decide, 3, rfl, hx⟩)
  · refine q_i2l X dL_setBond_7 ?_
    refine qW_last X hW hob ax dL_setBond_8 ?_
    refine q_goto X dL_setBond_9 rfl ?_
    refine q_iconst X dL_setBond_18 rfl ?_
    exact hE _ _ _ _ _ _ _ dL_setBond_19 (Nat.le_of_ble_eq_true rfl) (Nat.le_of_ble_eq_true rfl) (Or.inl ⟨rfl, r, rfl, hq⟩)
theorem dL_setRateByValue_0 : decode cL_setRateByValue 0 = .ok (.aload_n 3, 1) := by decide +kernel
theorem dL_setRateByValue_1 : decode cL_setRateByValue 1 = .ok (.iconst 0, 1) := by decide +kernel
theorem dL_setRateByValue_2 : decode cL_setRateByValue 2 = .ok (.aload_n 0, 1) := by decide +kernel
theorem dL_setRateByValue_3 : decode cL_setRateByValue 3 = .ok (.iload_n 1, 1) := by decide +kernel
theorem dL_setRateByValue_4 : decode cL_setRateByValue 4 = .ok (.iload_n 2, 1) := by decide +kernel
theorem dL_setRateByValue_5 : decode cL_setRateByValue 5 = .ok (.invokevirtual 57, 3) := by decide +kernel
theorem dL_setRateByValue_8 : decode cL_setRateByValue 8 = .ok (.i2l, 1) := by decide +kernel
theorem dL_setRateByValue_9 : decode cL_setRateByValue 9 = .ok (.lastore, 1) := by decide +kernel
theorem dL_setRateByValue_10 : decode cL_setRateByValue 10 = .ok (.goto 7, 3) := by decide +kernel
theorem dL_setRateByValue_13 : decode cL_setRateByValue 13 = .ok (.astore 4, 2) := by decide +kernel
theorem dL_setRateByValue_15 : decode cL_setRateByValue 15 = .ok (.iconst 1, 1) := by decide +kernel
theorem dL_setRateByValue_16 : decode cL_setRateByValue 16 = .ok (.ireturn, 1) := by decide +kernel
theorem dL_setRateByValue_17 : decode cL_setRateByValue 17 = .ok (.iconst 0, 1) := by decide +kernel
theorem dL_setRateByValue_18 : decode cL_setRateByValue 18 = .ok (.ireturn, 1) := by decide +kernel
def rm_L_setRateByValue : Room := { frames := 8, cells := 2, slots := 12, locals := 132 }
set_option maxRecDepth 100000 in
set_option maxHeartbeats 4000000 in
theorem k_L_setRateByValue {l : Launch} {D : va_G} {cA : Nat → ClassId} {ad : Nat → Nat → Nat} {A : Nat → Prop} {ob : Nat} {cO : ClassId} (ax : Ax ad GC A) (hob : ¬ A ob) (hst : l.stackTraces = false) (p0 : Int32) (p1 : Int32) (mm : Mm) (v : Int64) (Q9 : Int32 → Mm → Prop) (X9 : Nat → Mm → Prop) (h : w_X9_setRateByValue p0 p1 mm Q9 X9) (hX : ∀ k0 m1, X9 k0 m1 → oK [2] k0) : Met l yL_setRateByValue (.codeWith yL_setRateByValue cL_setRateByValue 5 (some .int) [(0, 10, 13, 13)] :: TG) rm_L_setRateByValue (PcL D cA ad A ob cO [.ref (ad 0 1), .int p0, .int p1, .ref ob] mm v) (QcL D cA ad A ob cO (QW tlI xB Q9 X9)) 2 12 (AW A ob) := by
  refine enterL pl_L rfl (Nat.le_of_ble_eq_true rfl) ?_
  intro p e s m args below meth c QQ X htab hW hZ hE
  refine q_aload_n (j := 3) X dL_setRateByValue_0 rfl rfl ?_
  refine q_iconst X dL_setRateByValue_1 rfl ?_
  refine q_aload_n (j := 0) X dL_setRateByValue_2 rfl rfl ?_
  refine q_iload_n (j := 1) X dL_setRateByValue_3 rfl rfl ?_
  refine q_iload_n (j := 2) X dL_setRateByValue_4 rfl rfl ?_
  refine qW_call X hW hZ hob [.int p0, .int p1] [.int 0, .ref ob] rfl rfl (Nat.le_of_ble_eq_true rfl) dL_setRateByValue_5 ⟨(Nat.le_of_ble_eq_true rfl), (Nat.le_of_ble_eq_true rfl)⟩ (c_X9_setRateByValue ax hst p0 p1 mm Q9 X9 h) rfl rfl (gV kw_5_5 kw_5_6 kw_5_7 kw_1_1 kw_5_8) hy_X9_setRateByValue ⟨(Nat.le_of_ble_eq_true rfl), (Nat.le_of_ble_eq_true rfl)⟩ (fun k0 m1 hx => ?_) (fun r m1 hq => ?_)
  · have hk := hX _ _ hx
    unfold oK at hk
    simp only [List.mem_cons, List.not_mem_nil, or_false] at hk
    subst hk
    refine ⟨13, by decide, Ct1 (k1 := 2) htab rfl (by decide) (by decide) (X.2.2.2.2 _ kw_3_68), fun q => ?_⟩
    refine q_astore X dL_setRateByValue_13 (Nat.le_of_ble_eq_true rfl) rfl ?_
    refine q_iconst X dL_setRateByValue_15 rfl ?_
    exact hE _ _ _ _ _ _ _ dL_setRateByValue_16 (Nat.le_of_ble_eq_true rfl) (Nat.le_of_ble_eq_true rfl) (Or.inr ⟨by decide, 2, rfl, hx⟩)
  · refine q_i2l X dL_setRateByValue_8 ?_
    refine qW_last X hW hob ax dL_setRateByValue_9 ?_
    refine q_goto X dL_setRateByValue_10 rfl ?_
    refine q_iconst X dL_setRateByValue_17 rfl ?_
    exact hE _ _ _ _ _ _ _ dL_setRateByValue_18 (Nat.le_of_ble_eq_true rfl) (Nat.le_of_ble_eq_true rfl) (Or.inl ⟨rfl, r, rfl, hq⟩)
theorem dL_setRateByWeight_0 : decode cL_setRateByWeight 0 = .ok (.aload_n 3, 1) := by decide +kernel
theorem dL_setRateByWeight_1 : decode cL_setRateByWeight 1 = .ok (.iconst 0, 1) := by decide +kernel
theorem dL_setRateByWeight_2 : decode cL_setRateByWeight 2 = .ok (.aload_n 0, 1) := by decide +kernel
theorem dL_setRateByWeight_3 : decode cL_setRateByWeight 3 = .ok (.iload_n 1, 1) := by decide +kernel
theorem dL_setRateByWeight_4 : decode cL_setRateByWeight 4 = .ok (.iload_n 2, 1) := by decide +kernel
theorem dL_setRateByWeight_5 : decode cL_setRateByWeight 5 = .ok (.invokevirtual 60, 3) := by decide +kernel
theorem dL_setRateByWeight_8 : decode cL_setRateByWeight 8 = .ok (.i2l, 1) := by decide +kernel
theorem dL_setRateByWeight_9 : decode cL_setRateByWeight 9 = .ok (.lastore, 1) := by decide +kernel
theorem dL_setRateByWeight_10 : decode cL_setRateByWeight 10 = .ok (.goto 7, 3) := by decide +kernel
theorem dL_setRateByWeight_13 : decode cL_setRateByWeight 13 = .ok (.astore 4, 2) := by decide +kernel
theorem dL_setRateByWeight_15 : decode cL_setRateByWeight 15 = .ok (.iconst 1, 1) := by decide +kernel
theorem dL_setRateByWeight_16 : decode cL_setRateByWeight 16 = .ok (.ireturn, 1) := by decide +kernel
theorem dL_setRateByWeight_17 : decode cL_setRateByWeight 17 = .ok (.iconst 0, 1) := by decide +kernel
theorem dL_setRateByWeight_18 : decode cL_setRateByWeight 18 = .ok (.ireturn, 1) := by decide +kernel
def rm_L_setRateByWeight : Room := { frames := 8, cells := 2, slots := 12, locals := 132 }
set_option maxRecDepth 100000 in
set_option maxHeartbeats 4000000 in
theorem k_L_setRateByWeight {l : Launch} {D : va_G} {cA : Nat → ClassId} {ad : Nat → Nat → Nat} {A : Nat → Prop} {ob : Nat} {cO : ClassId} (ax : Ax ad GC A) (hob : ¬ A ob) (hst : l.stackTraces = false) (p0 : Int32) (p1 : Int32) (mm : Mm) (v : Int64) (Q9 : Int32 → Mm → Prop) (X9 : Nat → Mm → Prop) (h : w_X9_setRateByWeight p0 p1 mm Q9 X9) (hX : ∀ k0 m1, X9 k0 m1 → oK [2] k0) : Met l yL_setRateByWeight (.codeWith yL_setRateByWeight cL_setRateByWeight 5 (some .int) [(0, 10, 13, 13)] :: TG) rm_L_setRateByWeight (PcL D cA ad A ob cO [.ref (ad 0 1), .int p0, .int p1, .ref ob] mm v) (QcL D cA ad A ob cO (QW tlI xB Q9 X9)) 2 12 (AW A ob) := by
  refine enterL pl_L rfl (Nat.le_of_ble_eq_true rfl) ?_
  intro p e s m args below meth c QQ X htab hW hZ hE
  refine q_aload_n (j := 3) X dL_setRateByWeight_0 rfl rfl ?_
  refine q_iconst X dL_setRateByWeight_1 rfl ?_
  refine q_aload_n (j := 0) X dL_setRateByWeight_2 rfl rfl ?_
  refine q_iload_n (j := 1) X dL_setRateByWeight_3 rfl rfl ?_
  refine q_iload_n (j := 2) X dL_setRateByWeight_4 rfl rfl ?_
  refine qW_call X hW hZ hob [.int p0, .int p1] [.int 0, .ref ob] rfl rfl (Nat.le_of_ble_eq_true rfl) dL_setRateByWeight_5 ⟨(Nat.le_of_ble_eq_true rfl), (Nat.le_of_ble_eq_true rfl)⟩ (c_X9_setRateByWeight ax hst p0 p1 mm Q9 X9 h) rfl rfl (gV kw_5_16 kw_5_17 kw_5_18 kw_1_1 kw_5_19) hy_X9_setRateByWeight ⟨(Nat.le_of_ble_eq_true rfl), (Nat.le_of_ble_eq_true rfl)⟩ (fun k0 m1 hx => ?_) (fun r m1 hq => ?_)
  · have hk := hX _ _ hx
    unfold oK at hk
    simp only [List.mem_cons, List.not_mem_nil, or_false] at hk
    subst hk
    refine ⟨13, by decide, Ct1 (k1 := 2) htab rfl (by decide) (by decide) (X.2.2.2.2 _ kw_3_68), fun q => ?_⟩
    refine q_astore X dL_setRateByWeight_13 (Nat.le_of_ble_eq_true rfl) rfl ?_
    refine q_iconst X dL_setRateByWeight_15 rfl ?_
    exact hE _ _ _ _ _ _ _ dL_setRateByWeight_16 (Nat.le_of_ble_eq_true rfl) (Nat.le_of_ble_eq_true rfl) (Or.inr ⟨by decide, 2, rfl, hx⟩)
  · refine q_i2l X dL_setRateByWeight_8 ?_
    refine qW_last X hW hob ax dL_setRateByWeight_9 ?_
    refine q_goto X dL_setRateByWeight_10 rfl ?_
    refine q_iconst X dL_setRateByWeight_17 rfl ?_
    exact hE _ _ _ _ _ _ _ dL_setRateByWeight_18 (Nat.le_of_ble_eq_true rfl) (Nat.le_of_ble_eq_true rfl) (Or.inl ⟨rfl, r, rfl, hq⟩)
theorem dL_pass_0 : decode cL_pass 0 = .ok (.aload_n 2, 1) := by decide +kernel
theorem dL_pass_1 : decode cL_pass 1 = .ok (.iconst 0, 1) := by decide +kernel
theorem dL_pass_2 : decode cL_pass 2 = .ok (.aload_n 0, 1) := by decide +kernel
theorem dL_pass_3 : decode cL_pass 3 = .ok (.iload_n 1, 1) := by decide +kernel
theorem dL_pass_4 : decode cL_pass 4 = .ok (.invokevirtual 63, 3) := by decide +kernel
theorem dL_pass_7 : decode cL_pass 7 = .ok (.i2l, 1) := by decide +kernel
theorem dL_pass_8 : decode cL_pass 8 = .ok (.lastore, 1) := by decide +kernel
theorem dL_pass_9 : decode cL_pass 9 = .ok (.goto 9, 3) := by decide +kernel
theorem dL_pass_12 : decode cL_pass 12 = .ok (.astore_n 3, 1) := by decide +kernel
theorem dL_pass_13 : decode cL_pass 13 = .ok (.iconst 1, 1) := by decide +kernel
theorem dL_pass_14 : decode cL_pass 14 = .ok (.ireturn, 1) := by decide +kernel
theorem dL_pass_15 : decode cL_pass 15 = .ok (.astore_n 3, 1) := by decide +kernel
theorem dL_pass_16 : decode cL_pass 16 = .ok (.iconst 2, 1) := by decide +kernel
theorem dL_pass_17 : decode cL_pass 17 = .ok (.ireturn, 1) := by decide +kernel
theorem dL_pass_18 : decode cL_pass 18 = .ok (.iconst 0, 1) := by decide +kernel
theorem dL_pass_19 : decode cL_pass 19 = .ok (.ireturn, 1) := by decide +kernel
def rm_L_pass : Room := { frames := 8, cells := 2, slots := 12, locals := 131 }
set_option maxRecDepth 100000 in
set_option maxHeartbeats 4000000 in
theorem k_L_pass {l : Launch} {D : va_G} {cA : Nat → ClassId} {ad : Nat → Nat → Nat} {A : Nat → Prop} {ob : Nat} {cO : ClassId} (ax : Ax ad GC A) (hob : ¬ A ob) (hst : l.stackTraces = false) (p0 : Int32) (mm : Mm) (v : Int64) (Q9 : Int32 → Mm → Prop) (X9 : Nat → Mm → Prop) (h : w_X9_pass p0 mm Q9 X9) (hX : ∀ k0 m1, X9 k0 m1 → oK [2, 3] k0) : Met l yL_pass (.codeWith yL_pass cL_pass 4 (some .int) [(0, 9, 12, 13), (0, 9, 15, 15)] :: TG) rm_L_pass (PcL D cA ad A ob cO [.ref (ad 0 1), .int p0, .ref ob] mm v) (QcL D cA ad A ob cO (QW tlI xB Q9 X9)) 2 12 (AW A ob) := by
  refine enterL pl_L rfl (Nat.le_of_ble_eq_true rfl) ?_
  intro p e s m args below meth c QQ X htab hW hZ hE
  refine q_aload_n (j := 2) X dL_pass_0 rfl rfl ?_
  refine q_iconst X dL_pass_1 rfl ?_
  refine q_aload_n (j := 0) X dL_pass_2 rfl rfl ?_
  refine q_iload_n (j := 1) X dL_pass_3 rfl rfl ?_
  refine qW_call X hW hZ hob [.int p0] [.int 0, .ref ob] rfl rfl (Nat.le_of_ble_eq_true rfl) dL_pass_4 ⟨(Nat.le_of_ble_eq_true rfl), (Nat.le_of_ble_eq_true rfl)⟩ (c_X9_pass ax hst p0 mm Q9 X9 h) rfl rfl (gV kw_5_27 kw_5_28 kw_5_29 kw_1_1 kw_5_30) hy_X9_pass ⟨(Nat.le_of_ble_eq_true rfl), (Nat.le_of_ble_eq_true rfl)⟩ (fun k0 m1 hx => ?_) (fun r m1 hq => ?_)
  · have hk := hX _ _ hx
    unfold oK at hk
    simp only [List.mem_cons, List.not_mem_nil, or_false] at hk
    rcases hk with rfl | rfl
    · skip
      refine ⟨12, by decide, Ct1 (k1 := 2) htab rfl (by decide) (by decide) (X.2.2.2.2 _ kw_3_68), fun q => ?_⟩
      refine q_astore_n X dL_pass_12 rfl (Nat.le_of_ble_eq_true rfl) rfl ?_
      refine q_iconst X dL_pass_13 rfl ?_
      exact hE _ _ _ _ _ _ _ dL_pass_14 (Nat.le_of_ble_eq_true rfl) (Nat.le_of_ble_eq_true rfl) (Or.inr ⟨by decide, 2, rfl, hx⟩)
    · skip
      refine ⟨15, by decide, Ct2 (k1 := 2) (k2 := 3) htab rfl (by decide) (by decide) (by decide) (X.2.2.2.2 _ kw_3_68) (X.2.2.2.2 _ kw_3_69) hW.2.2.2.2, fun q => ?_⟩
      refine q_astore_n X dL_pass_15 rfl (Nat.le_of_ble_eq_true rfl) rfl ?_
      refine q_iconst X dL_pass_16 rfl ?_
      exact hE _ _ _ _ _ _ _ dL_pass_17 (Nat.le_of_ble_eq_true rfl) (Nat.le_of_ble_eq_true rfl) (Or.inr ⟨by decide, 3, rfl, hx⟩)
  · refine q_i2l X dL_pass_7 ?_
    refine qW_last X hW hob ax dL_pass_8 ?_
    refine q_goto X dL_pass_9 rfl ?_
    refine q_iconst X dL_pass_18 rfl ?_
    exact hE _ _ _ _ _ _ _ dL_pass_19 (Nat.le_of_ble_eq_true rfl) (Nat.le_of_ble_eq_true rfl) (Or.inl ⟨rfl, r, rfl, hq⟩)
theorem dL_entryAt_0 : decode cL_entryAt 0 = .ok (.aload_n 2, 1) := by decide +kernel
theorem dL_entryAt_1 : decode cL_entryAt 1 = .ok (.iconst 0, 1) := by decide +kernel
theorem dL_entryAt_2 : decode cL_entryAt 2 = .ok (.aload_n 0, 1) := by decide +kernel
theorem dL_entryAt_3 : decode cL_entryAt 3 = .ok (.iload_n 1, 1) := by decide +kernel
theorem dL_entryAt_4 : decode cL_entryAt 4 = .ok (.invokevirtual 66, 3) := by decide +kernel
theorem dL_entryAt_7 : decode cL_entryAt 7 = .ok (.i2l, 1) := by decide +kernel
theorem dL_entryAt_8 : decode cL_entryAt 8 = .ok (.lastore, 1) := by decide +kernel
theorem dL_entryAt_9 : decode cL_entryAt 9 = .ok (.goto 6, 3) := by decide +kernel
theorem dL_entryAt_12 : decode cL_entryAt 12 = .ok (.astore_n 3, 1) := by decide +kernel
theorem dL_entryAt_13 : decode cL_entryAt 13 = .ok (.iconst 1, 1) := by decide +kernel
theorem dL_entryAt_14 : decode cL_entryAt 14 = .ok (.ireturn, 1) := by decide +kernel
theorem dL_entryAt_15 : decode cL_entryAt 15 = .ok (.iconst 0, 1) := by decide +kernel
theorem dL_entryAt_16 : decode cL_entryAt 16 = .ok (.ireturn, 1) := by decide +kernel
def rm_L_entryAt : Room := { frames := 7, cells := 2, slots := 12, locals := 111 }
set_option maxRecDepth 100000 in
set_option maxHeartbeats 4000000 in
theorem k_L_entryAt {l : Launch} {D : va_G} {cA : Nat → ClassId} {ad : Nat → Nat → Nat} {A : Nat → Prop} {ob : Nat} {cO : ClassId} (ax : Ax ad GC A) (hob : ¬ A ob) (hst : l.stackTraces = false) (p0 : Int32) (mm : Mm) (v : Int64) (Q9 : Int32 → Prop) (X9 : Nat → Mm → Prop) (h : w_X9_entryAt p0 mm Q9 X9) (hX : ∀ k0 m1, X9 k0 m1 → oK [1] k0) : Met l yL_entryAt (.codeWith yL_entryAt cL_entryAt 4 (some .int) [(0, 9, 12, 21)] :: TG) rm_L_entryAt (PcL D cA ad A ob cO [.ref (ad 0 1), .int p0, .ref ob] mm v) (QcL D cA ad A ob cO (QW tlI xA (fun r m' => Q9 r ∧ mm = m') X9)) 2 12 (AW A ob) := by
  refine enterL pl_L rfl (Nat.le_of_ble_eq_true rfl) ?_
  intro p e s m args below meth c QQ X htab hW hZ hE
  refine q_aload_n (j := 2) X dL_entryAt_0 rfl rfl ?_
  refine q_iconst X dL_entryAt_1 rfl ?_
  refine q_aload_n (j := 0) X dL_entryAt_2 rfl rfl ?_
  refine q_iload_n (j := 1) X dL_entryAt_3 rfl rfl ?_
  refine qW_call X hW hZ hob [.int p0] [.int 0, .ref ob] rfl rfl (Nat.le_of_ble_eq_true rfl) dL_entryAt_4 ⟨(Nat.le_of_ble_eq_true rfl), (Nat.le_of_ble_eq_true rfl)⟩ (c_X9_entryAt ax hst p0 mm Q9 X9 h) rfl rfl (gV kw_5_43 kw_5_44 kw_5_45 kw_1_1 kw_5_46) hy_X9_entryAt ⟨(Nat.le_of_ble_eq_true rfl), (Nat.le_of_ble_eq_true rfl)⟩ (fun k0 m1 hx => ?_) (fun r m1 hq => ?_)
  · have hk := hX _ _ hx
    unfold oK at hk
    simp only [List.mem_cons, List.not_mem_nil, or_false] at hk
    subst hk
    refine ⟨12, by decide, Ct1 (k1 := 1) htab rfl (by decide) (by decide) (X.2.2.2.2 _ kw_3_237), fun q => ?_⟩
    refine q_astore_n X dL_entryAt_12 rfl (Nat.le_of_ble_eq_true rfl) rfl ?_
    refine q_iconst X dL_entryAt_13 rfl ?_
    exact hE _ _ _ _ _ _ _ dL_entryAt_14 (Nat.le_of_ble_eq_true rfl) (Nat.le_of_ble_eq_true rfl) (Or.inr ⟨by decide, 1, rfl, hx⟩)
  · refine q_i2l X dL_entryAt_7 ?_
    refine qW_last X hW hob ax dL_entryAt_8 ?_
    refine q_goto X dL_entryAt_9 rfl ?_
    refine q_iconst X dL_entryAt_15 rfl ?_
    exact hE _ _ _ _ _ _ _ dL_entryAt_16 (Nat.le_of_ble_eq_true rfl) (Nat.le_of_ble_eq_true rfl) (Or.inl ⟨rfl, r, rfl, hq⟩)
theorem dL_kindOf_0 : decode cL_kindOf 0 = .ok (.aload_n 2, 1) := by decide +kernel
theorem dL_kindOf_1 : decode cL_kindOf 1 = .ok (.iconst 0, 1) := by decide +kernel
theorem dL_kindOf_2 : decode cL_kindOf 2 = .ok (.aload_n 0, 1) := by decide +kernel
theorem dL_kindOf_3 : decode cL_kindOf 3 = .ok (.iload_n 1, 1) := by decide +kernel
theorem dL_kindOf_4 : decode cL_kindOf 4 = .ok (.invokevirtual 69, 3) := by decide +kernel
theorem dL_kindOf_7 : decode cL_kindOf 7 = .ok (.i2l, 1) := by decide +kernel
theorem dL_kindOf_8 : decode cL_kindOf 8 = .ok (.lastore, 1) := by decide +kernel
theorem dL_kindOf_9 : decode cL_kindOf 9 = .ok (.goto 6, 3) := by decide +kernel
theorem dL_kindOf_12 : decode cL_kindOf 12 = .ok (.astore_n 3, 1) := by decide +kernel
theorem dL_kindOf_13 : decode cL_kindOf 13 = .ok (.iconst 1, 1) := by decide +kernel
theorem dL_kindOf_14 : decode cL_kindOf 14 = .ok (.ireturn, 1) := by decide +kernel
theorem dL_kindOf_15 : decode cL_kindOf 15 = .ok (.iconst 0, 1) := by decide +kernel
theorem dL_kindOf_16 : decode cL_kindOf 16 = .ok (.ireturn, 1) := by decide +kernel
def rm_L_kindOf : Room := { frames := 8, cells := 2, slots := 12, locals := 133 }
set_option maxRecDepth 100000 in
set_option maxHeartbeats 4000000 in
theorem k_L_kindOf {l : Launch} {D : va_G} {cA : Nat → ClassId} {ad : Nat → Nat → Nat} {A : Nat → Prop} {ob : Nat} {cO : ClassId} (ax : Ax ad GC A) (hob : ¬ A ob) (hst : l.stackTraces = false) (p0 : Int32) (mm : Mm) (v : Int64) (Q9 : Int32 → Prop) (X9 : Nat → Mm → Prop) (h : w_X9_kindOf p0 mm Q9 X9) (hX : ∀ k0 m1, X9 k0 m1 → oK [1] k0) : Met l yL_kindOf (.codeWith yL_kindOf cL_kindOf 4 (some .int) [(0, 9, 12, 21)] :: TG) rm_L_kindOf (PcL D cA ad A ob cO [.ref (ad 0 1), .int p0, .ref ob] mm v) (QcL D cA ad A ob cO (QW tlI xA (fun r m' => Q9 r ∧ mm = m') X9)) 2 12 (AW A ob) := by
  refine enterL pl_L rfl (Nat.le_of_ble_eq_true rfl) ?_
  intro p e s m args below meth c QQ X htab hW hZ hE
  refine q_aload_n (j := 2) X dL_kindOf_0 rfl rfl ?_
  refine q_iconst X dL_kindOf_1 rfl ?_
  refine q_aload_n (j := 0) X dL_kindOf_2 rfl rfl ?_
  refine q_iload_n (j := 1) X dL_kindOf_3 rfl rfl ?_
  refine qW_call X hW hZ hob [.int p0] [.int 0, .ref ob] rfl rfl (Nat.le_of_ble_eq_true rfl) dL_kindOf_4 ⟨(Nat.le_of_ble_eq_true rfl), (Nat.le_of_ble_eq_true rfl)⟩ (c_X9_kindOf ax hst p0 mm Q9 X9 h) rfl rfl (gV kw_5_51 kw_5_52 kw_5_53 kw_1_1 kw_5_54) hy_X9_kindOf ⟨(Nat.le_of_ble_eq_true rfl), (Nat.le_of_ble_eq_true rfl)⟩ (fun k0 m1 hx => ?_) (fun r m1 hq => ?_)
  · have hk := hX _ _ hx
    unfold oK at hk
    simp only [List.mem_cons, List.not_mem_nil, or_false] at hk
    subst hk
    refine ⟨12, by decide, Ct1 (k1 := 1) htab rfl (by decide) (by decide) (X.2.2.2.2 _ kw_3_237), fun q => ?_⟩
    refine q_astore_n X dL_kindOf_12 rfl (Nat.le_of_ble_eq_true rfl) rfl ?_
    refine q_iconst X dL_kindOf_13 rfl ?_
    exact hE _ _ _ _ _ _ _ dL_kindOf_14 (Nat.le_of_ble_eq_true rfl) (Nat.le_of_ble_eq_true rfl) (Or.inr ⟨by decide, 1, rfl, hx⟩)
  · refine q_i2l X dL_kindOf_7 ?_
    refine qW_last X hW hob ax dL_kindOf_8 ?_
    refine q_goto X dL_kindOf_9 rfl ?_
    refine q_iconst X dL_kindOf_15 rfl ?_
    exact hE _ _ _ _ _ _ _ dL_kindOf_16 (Nat.le_of_ble_eq_true rfl) (Nat.le_of_ble_eq_true rfl) (Or.inl ⟨rfl, r, rfl, hq⟩)
theorem dL_weightOf_0 : decode cL_weightOf 0 = .ok (.aload_n 2, 1) := by decide +kernel
theorem dL_weightOf_1 : decode cL_weightOf 1 = .ok (.iconst 0, 1) := by decide +kernel
theorem dL_weightOf_2 : decode cL_weightOf 2 = .ok (.aload_n 0, 1) := by decide +kernel
theorem dL_weightOf_3 : decode cL_weightOf 3 = .ok (.iload_n 1, 1) := by decide +kernel
theorem dL_weightOf_4 : decode cL_weightOf 4 = .ok (.invokevirtual 72, 3) := by decide +kernel
theorem dL_weightOf_7 : decode cL_weightOf 7 = .ok (.i2l, 1) := by decide +kernel
theorem dL_weightOf_8 : decode cL_weightOf 8 = .ok (.lastore, 1) := by decide +kernel
theorem dL_weightOf_9 : decode cL_weightOf 9 = .ok (.goto 6, 3) := by decide +kernel
theorem dL_weightOf_12 : decode cL_weightOf 12 = .ok (.astore_n 3, 1) := by decide +kernel
theorem dL_weightOf_13 : decode cL_weightOf 13 = .ok (.iconst 1, 1) := by decide +kernel
theorem dL_weightOf_14 : decode cL_weightOf 14 = .ok (.ireturn, 1) := by decide +kernel
theorem dL_weightOf_15 : decode cL_weightOf 15 = .ok (.iconst 0, 1) := by decide +kernel
theorem dL_weightOf_16 : decode cL_weightOf 16 = .ok (.ireturn, 1) := by decide +kernel
def rm_L_weightOf : Room := { frames := 8, cells := 2, slots := 12, locals := 133 }
set_option maxRecDepth 100000 in
set_option maxHeartbeats 4000000 in
theorem k_L_weightOf {l : Launch} {D : va_G} {cA : Nat → ClassId} {ad : Nat → Nat → Nat} {A : Nat → Prop} {ob : Nat} {cO : ClassId} (ax : Ax ad GC A) (hob : ¬ A ob) (hst : l.stackTraces = false) (p0 : Int32) (mm : Mm) (v : Int64) (Q9 : Int32 → Prop) (X9 : Nat → Mm → Prop) (h : w_X9_weightOf p0 mm Q9 X9) (hX : ∀ k0 m1, X9 k0 m1 → oK [1] k0) : Met l yL_weightOf (.codeWith yL_weightOf cL_weightOf 4 (some .int) [(0, 9, 12, 21)] :: TG) rm_L_weightOf (PcL D cA ad A ob cO [.ref (ad 0 1), .int p0, .ref ob] mm v) (QcL D cA ad A ob cO (QW tlI xA (fun r m' => Q9 r ∧ mm = m') X9)) 2 12 (AW A ob) := by
  refine enterL pl_L rfl (Nat.le_of_ble_eq_true rfl) ?_
  intro p e s m args below meth c QQ X htab hW hZ hE
  refine q_aload_n (j := 2) X dL_weightOf_0 rfl rfl ?_
  refine q_iconst X dL_weightOf_1 rfl ?_
  refine q_aload_n (j := 0) X dL_weightOf_2 rfl rfl ?_
  refine q_iload_n (j := 1) X dL_weightOf_3 rfl rfl ?_
  refine qW_call X hW hZ hob [.int p0] [.int 0, .ref ob] rfl rfl (Nat.le_of_ble_eq_true rfl) dL_weightOf_4 ⟨(Nat.le_of_ble_eq_true rfl), (Nat.le_of_ble_eq_true rfl)⟩ (c_X9_weightOf ax hst p0 mm Q9 X9 h) rfl rfl (gV kw_5_63 kw_5_64 kw_5_65 kw_1_1 kw_5_66) hy_X9_weightOf ⟨(Nat.le_of_ble_eq_true rfl), (Nat.le_of_ble_eq_true rfl)⟩ (fun k0 m1 hx => ?_) (fun r m1 hq => ?_)
  · have hk := hX _ _ hx
    unfold oK at hk
    simp only [List.mem_cons, List.not_mem_nil, or_false] at hk
    subst hk
    refine ⟨12, by decide, Ct1 (k1 := 1) htab rfl (by decide) (by decide) (X.2.2.2.2 _ kw_3_237), fun q => ?_⟩
    refine q_astore_n X dL_weightOf_12 rfl (Nat.le_of_ble_eq_true rfl) rfl ?_
    refine q_iconst X dL_weightOf_13 rfl ?_
    exact hE _ _ _ _ _ _ _ dL_weightOf_14 (Nat.le_of_ble_eq_true rfl) (Nat.le_of_ble_eq_true rfl) (Or.inr ⟨by decide, 1, rfl, hx⟩)
  · refine q_i2l X dL_weightOf_7 ?_
    refine qW_last X hW hob ax dL_weightOf_8 ?_
    refine q_goto X dL_weightOf_9 rfl ?_
    refine q_iconst X dL_weightOf_15 rfl ?_
    exact hE _ _ _ _ _ _ _ dL_weightOf_16 (Nat.le_of_ble_eq_true rfl) (Nat.le_of_ble_eq_true rfl) (Or.inl ⟨rfl, r, rfl, hq⟩)
theorem dL_valueOf_0 : decode cL_valueOf 0 = .ok (.aload_n 2, 1) := by decide +kernel
theorem dL_valueOf_1 : decode cL_valueOf 1 = .ok (.iconst 0, 1) := by decide +kernel
theorem dL_valueOf_2 : decode cL_valueOf 2 = .ok (.aload_n 0, 1) := by decide +kernel
theorem dL_valueOf_3 : decode cL_valueOf 3 = .ok (.iload_n 1, 1) := by decide +kernel
theorem dL_valueOf_4 : decode cL_valueOf 4 = .ok (.invokevirtual 75, 3) := by decide +kernel
theorem dL_valueOf_7 : decode cL_valueOf 7 = .ok (.i2l, 1) := by decide +kernel
theorem dL_valueOf_8 : decode cL_valueOf 8 = .ok (.lastore, 1) := by decide +kernel
theorem dL_valueOf_9 : decode cL_valueOf 9 = .ok (.goto 6, 3) := by decide +kernel
theorem dL_valueOf_12 : decode cL_valueOf 12 = .ok (.astore_n 3, 1) := by decide +kernel
theorem dL_valueOf_13 : decode cL_valueOf 13 = .ok (.iconst 1, 1) := by decide +kernel
theorem dL_valueOf_14 : decode cL_valueOf 14 = .ok (.ireturn, 1) := by decide +kernel
theorem dL_valueOf_15 : decode cL_valueOf 15 = .ok (.iconst 0, 1) := by decide +kernel
theorem dL_valueOf_16 : decode cL_valueOf 16 = .ok (.ireturn, 1) := by decide +kernel
def rm_L_valueOf : Room := { frames := 8, cells := 2, slots := 12, locals := 133 }
set_option maxRecDepth 100000 in
set_option maxHeartbeats 4000000 in
theorem k_L_valueOf {l : Launch} {D : va_G} {cA : Nat → ClassId} {ad : Nat → Nat → Nat} {A : Nat → Prop} {ob : Nat} {cO : ClassId} (ax : Ax ad GC A) (hob : ¬ A ob) (hst : l.stackTraces = false) (p0 : Int32) (mm : Mm) (v : Int64) (Q9 : Int32 → Prop) (X9 : Nat → Mm → Prop) (h : w_X9_valueOf p0 mm Q9 X9) (hX : ∀ k0 m1, X9 k0 m1 → oK [1] k0) : Met l yL_valueOf (.codeWith yL_valueOf cL_valueOf 4 (some .int) [(0, 9, 12, 21)] :: TG) rm_L_valueOf (PcL D cA ad A ob cO [.ref (ad 0 1), .int p0, .ref ob] mm v) (QcL D cA ad A ob cO (QW tlI xA (fun r m' => Q9 r ∧ mm = m') X9)) 2 12 (AW A ob) := by
  refine enterL pl_L rfl (Nat.le_of_ble_eq_true rfl) ?_
  intro p e s m args below meth c QQ X htab hW hZ hE
  refine q_aload_n (j := 2) X dL_valueOf_0 rfl rfl ?_
  refine q_iconst X dL_valueOf_1 rfl ?_
  refine q_aload_n (j := 0) X dL_valueOf_2 rfl rfl ?_
  refine q_iload_n (j := 1) X dL_valueOf_3 rfl rfl ?_
  refine qW_call X hW hZ hob [.int p0] [.int 0, .ref ob] rfl rfl (Nat.le_of_ble_eq_true rfl) dL_valueOf_4 ⟨(Nat.le_of_ble_eq_true rfl), (Nat.le_of_ble_eq_true rfl)⟩ (c_X9_valueOf ax hst p0 mm Q9 X9 h) rfl rfl (gV kw_5_70 kw_5_71 kw_5_72 kw_1_1 kw_5_73) hy_X9_valueOf ⟨(Nat.le_of_ble_eq_true rfl), (Nat.le_of_ble_eq_true rfl)⟩ (fun k0 m1 hx => ?_) (fun r m1 hq => ?_)
  · have hk := hX _ _ hx
    unfold oK at hk
    simp only [List.mem_cons, List.not_mem_nil, or_false] at hk
    subst hk
    refine ⟨12, by decide, Ct1 (k1 := 1) htab rfl (by decide) (by decide) (X.2.2.2.2 _ kw_3_237), fun q => ?_⟩
    refine q_astore_n X dL_valueOf_12 rfl (Nat.le_of_ble_eq_true rfl) rfl ?_
    refine q_iconst X dL_valueOf_13 rfl ?_
    exact hE _ _ _ _ _ _ _ dL_valueOf_14 (Nat.le_of_ble_eq_true rfl) (Nat.le_of_ble_eq_true rfl) (Or.inr ⟨by decide, 1, rfl, hx⟩)
  · refine q_i2l X dL_valueOf_7 ?_
    refine qW_last X hW hob ax dL_valueOf_8 ?_
    refine q_goto X dL_valueOf_9 rfl ?_
    refine q_iconst X dL_valueOf_15 rfl ?_
    exact hE _ _ _ _ _ _ _ dL_valueOf_16 (Nat.le_of_ble_eq_true rfl) (Nat.le_of_ble_eq_true rfl) (Or.inl ⟨rfl, r, rfl, hq⟩)
theorem dL_chamberOf_0 : decode cL_chamberOf 0 = .ok (.aload_n 2, 1) := by decide +kernel
theorem dL_chamberOf_1 : decode cL_chamberOf 1 = .ok (.iconst 0, 1) := by decide +kernel
theorem dL_chamberOf_2 : decode cL_chamberOf 2 = .ok (.aload_n 0, 1) := by decide +kernel
theorem dL_chamberOf_3 : decode cL_chamberOf 3 = .ok (.iload_n 1, 1) := by decide +kernel
theorem dL_chamberOf_4 : decode cL_chamberOf 4 = .ok (.invokevirtual 78, 3) := by decide +kernel
theorem dL_chamberOf_7 : decode cL_chamberOf 7 = .ok (.i2l, 1) := by decide +kernel
theorem dL_chamberOf_8 : decode cL_chamberOf 8 = .ok (.lastore, 1) := by decide +kernel
theorem dL_chamberOf_9 : decode cL_chamberOf 9 = .ok (.goto 6, 3) := by decide +kernel
theorem dL_chamberOf_12 : decode cL_chamberOf 12 = .ok (.astore_n 3, 1) := by decide +kernel
theorem dL_chamberOf_13 : decode cL_chamberOf 13 = .ok (.iconst 1, 1) := by decide +kernel
theorem dL_chamberOf_14 : decode cL_chamberOf 14 = .ok (.ireturn, 1) := by decide +kernel
theorem dL_chamberOf_15 : decode cL_chamberOf 15 = .ok (.iconst 0, 1) := by decide +kernel
theorem dL_chamberOf_16 : decode cL_chamberOf 16 = .ok (.ireturn, 1) := by decide +kernel
def rm_L_chamberOf : Room := { frames := 8, cells := 2, slots := 12, locals := 133 }
set_option maxRecDepth 100000 in
set_option maxHeartbeats 4000000 in
theorem k_L_chamberOf {l : Launch} {D : va_G} {cA : Nat → ClassId} {ad : Nat → Nat → Nat} {A : Nat → Prop} {ob : Nat} {cO : ClassId} (ax : Ax ad GC A) (hob : ¬ A ob) (hst : l.stackTraces = false) (p0 : Int32) (mm : Mm) (v : Int64) (Q9 : Int32 → Prop) (X9 : Nat → Mm → Prop) (h : w_X9_chamberOf p0 mm Q9 X9) (hX : ∀ k0 m1, X9 k0 m1 → oK [1] k0) : Met l yL_chamberOf (.codeWith yL_chamberOf cL_chamberOf 4 (some .int) [(0, 9, 12, 21)] :: TG) rm_L_chamberOf (PcL D cA ad A ob cO [.ref (ad 0 1), .int p0, .ref ob] mm v) (QcL D cA ad A ob cO (QW tlI xA (fun r m' => Q9 r ∧ mm = m') X9)) 2 12 (AW A ob) := by
  refine enterL pl_L rfl (Nat.le_of_ble_eq_true rfl) ?_
  intro p e s m args below meth c QQ X htab hW hZ hE
  refine q_aload_n (j := 2) X dL_chamberOf_0 rfl rfl ?_
  refine q_iconst X dL_chamberOf_1 rfl ?_
  refine q_aload_n (j := 0) X dL_chamberOf_2 rfl rfl ?_
  refine q_iload_n (j := 1) X dL_chamberOf_3 rfl rfl ?_
  refine qW_call X hW hZ hob [.int p0] [.int 0, .ref ob] rfl rfl (Nat.le_of_ble_eq_true rfl) dL_chamberOf_4 ⟨(Nat.le_of_ble_eq_true rfl), (Nat.le_of_ble_eq_true rfl)⟩ (c_X9_chamberOf ax hst p0 mm Q9 X9 h) rfl rfl (gV kw_5_77 kw_5_78 kw_5_79 kw_1_1 kw_5_80) hy_X9_chamberOf ⟨(Nat.le_of_ble_eq_true rfl), (Nat.le_of_ble_eq_true rfl)⟩ (fun k0 m1 hx => ?_) (fun r m1 hq => ?_)
  · have hk := hX _ _ hx
    unfold oK at hk
    simp only [List.mem_cons, List.not_mem_nil, or_false] at hk
    subst hk
    refine ⟨12, by decide, Ct1 (k1 := 1) htab rfl (by decide) (by decide) (X.2.2.2.2 _ kw_3_237), fun q => ?_⟩
    refine q_astore_n X dL_chamberOf_12 rfl (Nat.le_of_ble_eq_true rfl) rfl ?_
    refine q_iconst X dL_chamberOf_13 rfl ?_
    exact hE _ _ _ _ _ _ _ dL_chamberOf_14 (Nat.le_of_ble_eq_true rfl) (Nat.le_of_ble_eq_true rfl) (Or.inr ⟨by decide, 1, rfl, hx⟩)
  · refine q_i2l X dL_chamberOf_7 ?_
    refine qW_last X hW hob ax dL_chamberOf_8 ?_
    refine q_goto X dL_chamberOf_9 rfl ?_
    refine q_iconst X dL_chamberOf_15 rfl ?_
    exact hE _ _ _ _ _ _ _ dL_chamberOf_16 (Nat.le_of_ble_eq_true rfl) (Nat.le_of_ble_eq_true rfl) (Or.inl ⟨rfl, r, rfl, hq⟩)
theorem dL_ageOf_0 : decode cL_ageOf 0 = .ok (.aload_n 2, 1) := by decide +kernel
theorem dL_ageOf_1 : decode cL_ageOf 1 = .ok (.iconst 0, 1) := by decide +kernel
theorem dL_ageOf_2 : decode cL_ageOf 2 = .ok (.aload_n 0, 1) := by decide +kernel
theorem dL_ageOf_3 : decode cL_ageOf 3 = .ok (.iload_n 1, 1) := by decide +kernel
theorem dL_ageOf_4 : decode cL_ageOf 4 = .ok (.invokevirtual 81, 3) := by decide +kernel
theorem dL_ageOf_7 : decode cL_ageOf 7 = .ok (.i2l, 1) := by decide +kernel
theorem dL_ageOf_8 : decode cL_ageOf 8 = .ok (.lastore, 1) := by decide +kernel
theorem dL_ageOf_9 : decode cL_ageOf 9 = .ok (.goto 6, 3) := by decide +kernel
theorem dL_ageOf_12 : decode cL_ageOf 12 = .ok (.astore_n 3, 1) := by decide +kernel
theorem dL_ageOf_13 : decode cL_ageOf 13 = .ok (.iconst 1, 1) := by decide +kernel
theorem dL_ageOf_14 : decode cL_ageOf 14 = .ok (.ireturn, 1) := by decide +kernel
theorem dL_ageOf_15 : decode cL_ageOf 15 = .ok (.iconst 0, 1) := by decide +kernel
theorem dL_ageOf_16 : decode cL_ageOf 16 = .ok (.ireturn, 1) := by decide +kernel
def rm_L_ageOf : Room := { frames := 8, cells := 2, slots := 12, locals := 133 }
set_option maxRecDepth 100000 in
set_option maxHeartbeats 4000000 in
theorem k_L_ageOf {l : Launch} {D : va_G} {cA : Nat → ClassId} {ad : Nat → Nat → Nat} {A : Nat → Prop} {ob : Nat} {cO : ClassId} (ax : Ax ad GC A) (hob : ¬ A ob) (hst : l.stackTraces = false) (p0 : Int32) (mm : Mm) (v : Int64) (Q9 : Int32 → Prop) (X9 : Nat → Mm → Prop) (h : w_X9_ageOf p0 mm Q9 X9) (hX : ∀ k0 m1, X9 k0 m1 → oK [1] k0) : Met l yL_ageOf (.codeWith yL_ageOf cL_ageOf 4 (some .int) [(0, 9, 12, 21)] :: TG) rm_L_ageOf (PcL D cA ad A ob cO [.ref (ad 0 1), .int p0, .ref ob] mm v) (QcL D cA ad A ob cO (QW tlI xA (fun r m' => Q9 r ∧ mm = m') X9)) 2 12 (AW A ob) := by
  refine enterL pl_L rfl (Nat.le_of_ble_eq_true rfl) ?_
  intro p e s m args below meth c QQ X htab hW hZ hE
  refine q_aload_n (j := 2) X dL_ageOf_0 rfl rfl ?_
  refine q_iconst X dL_ageOf_1 rfl ?_
  refine q_aload_n (j := 0) X dL_ageOf_2 rfl rfl ?_
  refine q_iload_n (j := 1) X dL_ageOf_3 rfl rfl ?_
  refine qW_call X hW hZ hob [.int p0] [.int 0, .ref ob] rfl rfl (Nat.le_of_ble_eq_true rfl) dL_ageOf_4 ⟨(Nat.le_of_ble_eq_true rfl), (Nat.le_of_ble_eq_true rfl)⟩ (c_X9_ageOf ax hst p0 mm Q9 X9 h) rfl rfl (gV kw_5_84 kw_5_85 kw_5_86 kw_1_1 kw_5_87) hy_X9_ageOf ⟨(Nat.le_of_ble_eq_true rfl), (Nat.le_of_ble_eq_true rfl)⟩ (fun k0 m1 hx => ?_) (fun r m1 hq => ?_)
  · have hk := hX _ _ hx
    unfold oK at hk
    simp only [List.mem_cons, List.not_mem_nil, or_false] at hk
    subst hk
    refine ⟨12, by decide, Ct1 (k1 := 1) htab rfl (by decide) (by decide) (X.2.2.2.2 _ kw_3_237), fun q => ?_⟩
    refine q_astore_n X dL_ageOf_12 rfl (Nat.le_of_ble_eq_true rfl) rfl ?_
    refine q_iconst X dL_ageOf_13 rfl ?_
    exact hE _ _ _ _ _ _ _ dL_ageOf_14 (Nat.le_of_ble_eq_true rfl) (Nat.le_of_ble_eq_true rfl) (Or.inr ⟨by decide, 1, rfl, hx⟩)
  · refine q_i2l X dL_ageOf_7 ?_
    refine qW_last X hW hob ax dL_ageOf_8 ?_
    refine q_goto X dL_ageOf_9 rfl ?_
    refine q_iconst X dL_ageOf_15 rfl ?_
    exact hE _ _ _ _ _ _ _ dL_ageOf_16 (Nat.le_of_ble_eq_true rfl) (Nat.le_of_ble_eq_true rfl) (Or.inl ⟨rfl, r, rfl, hq⟩)
theorem dL_isProved_0 : decode cL_isProved 0 = .ok (.aload_n 2, 1) := by decide +kernel
theorem dL_isProved_1 : decode cL_isProved 1 = .ok (.iconst 0, 1) := by decide +kernel
theorem dL_isProved_2 : decode cL_isProved 2 = .ok (.aload_n 0, 1) := by decide +kernel
theorem dL_isProved_3 : decode cL_isProved 3 = .ok (.iload_n 1, 1) := by decide +kernel
theorem dL_isProved_4 : decode cL_isProved 4 = .ok (.invokevirtual 84, 3) := by decide +kernel
theorem dL_isProved_7 : decode cL_isProved 7 = .ok (.ifCond .eq 7, 3) := by decide +kernel
theorem dL_isProved_10 : decode cL_isProved 10 = .ok (.lconst 1, 1) := by decide +kernel
theorem dL_isProved_11 : decode cL_isProved 11 = .ok (.goto 4, 3) := by decide +kernel
theorem dL_isProved_14 : decode cL_isProved 14 = .ok (.lconst 0, 1) := by decide +kernel
theorem dL_isProved_15 : decode cL_isProved 15 = .ok (.lastore, 1) := by decide +kernel
theorem dL_isProved_16 : decode cL_isProved 16 = .ok (.goto 6, 3) := by decide +kernel
theorem dL_isProved_19 : decode cL_isProved 19 = .ok (.astore_n 3, 1) := by decide +kernel
theorem dL_isProved_20 : decode cL_isProved 20 = .ok (.iconst 1, 1) := by decide +kernel
theorem dL_isProved_21 : decode cL_isProved 21 = .ok (.ireturn, 1) := by decide +kernel
theorem dL_isProved_22 : decode cL_isProved 22 = .ok (.iconst 0, 1) := by decide +kernel
theorem dL_isProved_23 : decode cL_isProved 23 = .ok (.ireturn, 1) := by decide +kernel
def rm_L_isProved : Room := { frames := 8, cells := 2, slots := 12, locals := 133 }
set_option maxRecDepth 100000 in
set_option maxHeartbeats 4000000 in
theorem k_L_isProved {l : Launch} {D : va_G} {cA : Nat → ClassId} {ad : Nat → Nat → Nat} {A : Nat → Prop} {ob : Nat} {cO : ClassId} (ax : Ax ad GC A) (hob : ¬ A ob) (hst : l.stackTraces = false) (p0 : Int32) (mm : Mm) (v : Int64) (Q9 : Int32 → Prop) (X9 : Nat → Mm → Prop) (h : w_X9_isProved p0 mm Q9 X9) (hX : ∀ k0 m1, X9 k0 m1 → oK [1] k0) : Met l yL_isProved (.codeWith yL_isProved cL_isProved 4 (some .int) [(0, 16, 19, 21)] :: TG) rm_L_isProved (PcL D cA ad A ob cO [.ref (ad 0 1), .int p0, .ref ob] mm v) (QcL D cA ad A ob cO (QW tlB xA (fun r m' => Q9 r ∧ mm = m') X9)) 2 12 (AW A ob) := by
  refine enterL pl_L rfl (Nat.le_of_ble_eq_true rfl) ?_
  intro p e s m args below meth c QQ X htab hW hZ hE
  refine q_aload_n (j := 2) X dL_isProved_0 rfl rfl ?_
  refine q_iconst X dL_isProved_1 rfl ?_
  refine q_aload_n (j := 0) X dL_isProved_2 rfl rfl ?_
  refine q_iload_n (j := 1) X dL_isProved_3 rfl rfl ?_
  refine qW_call X hW hZ hob [.int p0] [.int 0, .ref ob] rfl rfl (Nat.le_of_ble_eq_true rfl) dL_isProved_4 ⟨(Nat.le_of_ble_eq_true rfl), (Nat.le_of_ble_eq_true rfl)⟩ (c_X9_isProved ax hst p0 mm Q9 X9 h) rfl rfl (gV kw_5_92 kw_5_93 kw_5_94 kw_1_1 kw_5_95) hy_X9_isProved ⟨(Nat.le_of_ble_eq_true rfl), (Nat.le_of_ble_eq_true rfl)⟩ (fun k0 m1 hx => ?_) (fun r m1 hq => ?_)
  · have hk := hX _ _ hx
    unfold oK at hk
    simp only [List.mem_cons, List.not_mem_nil, or_false] at hk
    subst hk
    refine ⟨19, by decide, Ct1 (k1 := 1) htab rfl (by decide) (by decide) (X.2.2.2.2 _ kw_3_237), fun q => ?_⟩
    refine q_astore_n X dL_isProved_19 rfl (Nat.le_of_ble_eq_true rfl) rfl ?_
    refine q_iconst X dL_isProved_20 rfl ?_
    exact hE _ _ _ _ _ _ _ dL_isProved_21 (Nat.le_of_ble_eq_true rfl) (Nat.le_of_ble_eq_true rfl) (Or.inr ⟨by decide, 1, rfl, hx⟩)
  · refine q_if_eq X dL_isProved_7 rfl (fun hz => ?_) (fun hz => ?_)
    · refine q_lconst (v := 0) X dL_isProved_14 rfl ?_
      refine qW_last X hW hob ax dL_isProved_15 ?_
      refine q_goto X dL_isProved_16 rfl ?_
      refine q_iconst X dL_isProved_22 rfl ?_
      exact hE _ _ _ _ _ _ _ dL_isProved_23 (Nat.le_of_ble_eq_true rfl) (Nat.le_of_ble_eq_true rfl) (Or.inl ⟨rfl, r, by unfold tlB; rw [if_pos hz], hq⟩)
    · refine q_lconst (v := 1) X dL_isProved_10 rfl ?_
      refine q_goto X dL_isProved_11 rfl ?_
      refine qW_last X hW hob ax dL_isProved_15 ?_
      refine q_goto X dL_isProved_16 rfl ?_
      refine q_iconst X dL_isProved_22 rfl ?_
      exact hE _ _ _ _ _ _ _ dL_isProved_23 (Nat.le_of_ble_eq_true rfl) (Nat.le_of_ble_eq_true rfl) (Or.inl ⟨rfl, r, by unfold tlB; rw [if_neg hz], hq⟩)
theorem dL_isOverdue_0 : decode cL_isOverdue 0 = .ok (.aload_n 2, 1) := by decide +kernel
theorem dL_isOverdue_1 : decode cL_isOverdue 1 = .ok (.iconst 0, 1) := by decide +kernel
theorem dL_isOverdue_2 : decode cL_isOverdue 2 = .ok (.aload_n 0, 1) := by decide +kernel
theorem dL_isOverdue_3 : decode cL_isOverdue 3 = .ok (.iload_n 1, 1) := by decide +kernel
theorem dL_isOverdue_4 : decode cL_isOverdue 4 = .ok (.invokevirtual 88, 3) := by decide +kernel
theorem dL_isOverdue_7 : decode cL_isOverdue 7 = .ok (.ifCond .eq 7, 3) := by decide +kernel
theorem dL_isOverdue_10 : decode cL_isOverdue 10 = .ok (.lconst 1, 1) := by decide +kernel
theorem dL_isOverdue_11 : decode cL_isOverdue 11 = .ok (.goto 4, 3) := by decide +kernel
theorem dL_isOverdue_14 : decode cL_isOverdue 14 = .ok (.lconst 0, 1) := by decide +kernel
theorem dL_isOverdue_15 : decode cL_isOverdue 15 = .ok (.lastore, 1) := by decide +kernel
theorem dL_isOverdue_16 : decode cL_isOverdue 16 = .ok (.goto 6, 3) := by decide +kernel
theorem dL_isOverdue_19 : decode cL_isOverdue 19 = .ok (.astore_n 3, 1) := by decide +kernel
theorem dL_isOverdue_20 : decode cL_isOverdue 20 = .ok (.iconst 1, 1) := by decide +kernel
theorem dL_isOverdue_21 : decode cL_isOverdue 21 = .ok (.ireturn, 1) := by decide +kernel
theorem dL_isOverdue_22 : decode cL_isOverdue 22 = .ok (.iconst 0, 1) := by decide +kernel
theorem dL_isOverdue_23 : decode cL_isOverdue 23 = .ok (.ireturn, 1) := by decide +kernel
def rm_L_isOverdue : Room := { frames := 8, cells := 2, slots := 12, locals := 133 }
set_option maxRecDepth 100000 in
set_option maxHeartbeats 4000000 in
theorem k_L_isOverdue {l : Launch} {D : va_G} {cA : Nat → ClassId} {ad : Nat → Nat → Nat} {A : Nat → Prop} {ob : Nat} {cO : ClassId} (ax : Ax ad GC A) (hob : ¬ A ob) (hst : l.stackTraces = false) (p0 : Int32) (mm : Mm) (v : Int64) (Q9 : Int32 → Prop) (X9 : Nat → Mm → Prop) (h : w_X9_isOverdue p0 mm Q9 X9) (hX : ∀ k0 m1, X9 k0 m1 → oK [1] k0) : Met l yL_isOverdue (.codeWith yL_isOverdue cL_isOverdue 4 (some .int) [(0, 16, 19, 21)] :: TG) rm_L_isOverdue (PcL D cA ad A ob cO [.ref (ad 0 1), .int p0, .ref ob] mm v) (QcL D cA ad A ob cO (QW tlB xA (fun r m' => Q9 r ∧ mm = m') X9)) 2 12 (AW A ob) := by
  refine enterL pl_L rfl (Nat.le_of_ble_eq_true rfl) ?_
  intro p e s m args below meth c QQ X htab hW hZ hE
  refine q_aload_n (j := 2) X dL_isOverdue_0 rfl rfl ?_
  refine q_iconst X dL_isOverdue_1 rfl ?_
  refine q_aload_n (j := 0) X dL_isOverdue_2 rfl rfl ?_
  refine q_iload_n (j := 1) X dL_isOverdue_3 rfl rfl ?_
  refine qW_call X hW hZ hob [.int p0] [.int 0, .ref ob] rfl rfl (Nat.le_of_ble_eq_true rfl) dL_isOverdue_4 ⟨(Nat.le_of_ble_eq_true rfl), (Nat.le_of_ble_eq_true rfl)⟩ (c_X9_isOverdue ax hst p0 mm Q9 X9 h) rfl rfl (gV kw_5_99 kw_5_100 kw_5_101 kw_1_1 kw_5_102) hy_X9_isOverdue ⟨(Nat.le_of_ble_eq_true rfl), (Nat.le_of_ble_eq_true rfl)⟩ (fun k0 m1 hx => ?_) (fun r m1 hq => ?_)
  · have hk := hX _ _ hx
    unfold oK at hk
    simp only [List.mem_cons, List.not_mem_nil, or_false] at hk
    subst hk
    refine ⟨19, by decide, Ct1 (k1 := 1) htab rfl (by decide) (by decide) (X.2.2.2.2 _ kw_3_237), fun q => ?_⟩
    refine q_astore_n X dL_isOverdue_19 rfl (Nat.le_of_ble_eq_true rfl) rfl ?_
    refine q_iconst X dL_isOverdue_20 rfl ?_
    exact hE _ _ _ _ _ _ _ dL_isOverdue_21 (Nat.le_of_ble_eq_true rfl) (Nat.le_of_ble_eq_true rfl) (Or.inr ⟨by decide, 1, rfl, hx⟩)
  · refine q_if_eq X dL_isOverdue_7 rfl (fun hz => ?_) (fun hz => ?_)
    · refine q_lconst (v := 0) X dL_isOverdue_14 rfl ?_
      refine qW_last X hW hob ax dL_isOverdue_15 ?_
      refine q_goto X dL_isOverdue_16 rfl ?_
      refine q_iconst X dL_isOverdue_22 rfl ?_
      exact hE _ _ _ _ _ _ _ dL_isOverdue_23 (Nat.le_of_ble_eq_true rfl) (Nat.le_of_ble_eq_true rfl) (Or.inl ⟨rfl, r, by unfold tlB; rw [if_pos hz], hq⟩)
    · refine q_lconst (v := 1) X dL_isOverdue_10 rfl ?_
      refine q_goto X dL_isOverdue_11 rfl ?_
      refine qW_last X hW hob ax dL_isOverdue_15 ?_
      refine q_goto X dL_isOverdue_16 rfl ?_
      refine q_iconst X dL_isOverdue_22 rfl ?_
      exact hE _ _ _ _ _ _ _ dL_isOverdue_23 (Nat.le_of_ble_eq_true rfl) (Nat.le_of_ble_eq_true rfl) (Or.inl ⟨rfl, r, by unfold tlB; rw [if_neg hz], hq⟩)
theorem dL_dutyOfPart_0 : decode cL_dutyOfPart 0 = .ok (.aload_n 3, 1) := by decide +kernel
theorem dL_dutyOfPart_1 : decode cL_dutyOfPart 1 = .ok (.iconst 0, 1) := by decide +kernel
theorem dL_dutyOfPart_2 : decode cL_dutyOfPart 2 = .ok (.aload_n 0, 1) := by decide +kernel
theorem dL_dutyOfPart_3 : decode cL_dutyOfPart 3 = .ok (.iload_n 1, 1) := by decide +kernel
theorem dL_dutyOfPart_4 : decode cL_dutyOfPart 4 = .ok (.iload_n 2, 1) := by decide +kernel
theorem dL_dutyOfPart_5 : decode cL_dutyOfPart 5 = .ok (.invokevirtual 91, 3) := by decide +kernel
theorem dL_dutyOfPart_8 : decode cL_dutyOfPart 8 = .ok (.i2l, 1) := by decide +kernel
theorem dL_dutyOfPart_9 : decode cL_dutyOfPart 9 = .ok (.lastore, 1) := by decide +kernel
theorem dL_dutyOfPart_10 : decode cL_dutyOfPart 10 = .ok (.goto 11, 3) := by decide +kernel
theorem dL_dutyOfPart_13 : decode cL_dutyOfPart 13 = .ok (.astore 4, 2) := by decide +kernel
theorem dL_dutyOfPart_15 : decode cL_dutyOfPart 15 = .ok (.iconst 1, 1) := by decide +kernel
theorem dL_dutyOfPart_16 : decode cL_dutyOfPart 16 = .ok (.ireturn, 1) := by decide +kernel
theorem dL_dutyOfPart_17 : decode cL_dutyOfPart 17 = .ok (.astore 4, 2) := by decide +kernel
theorem dL_dutyOfPart_19 : decode cL_dutyOfPart 19 = .ok (.iconst 2, 1) := by decide +kernel
theorem dL_dutyOfPart_20 : decode cL_dutyOfPart 20 = .ok (.ireturn, 1) := by decide +kernel
theorem dL_dutyOfPart_21 : decode cL_dutyOfPart 21 = .ok (.iconst 0, 1) := by decide +kernel
theorem dL_dutyOfPart_22 : decode cL_dutyOfPart 22 = .ok (.ireturn, 1) := by decide +kernel
def rm_L_dutyOfPart : Room := { frames := 8, cells := 2, slots := 12, locals := 135 }
set_option maxRecDepth 100000 in
set_option maxHeartbeats 4000000 in
theorem k_L_dutyOfPart {l : Launch} {D : va_G} {cA : Nat → ClassId} {ad : Nat → Nat → Nat} {A : Nat → Prop} {ob : Nat} {cO : ClassId} (ax : Ax ad GC A) (hob : ¬ A ob) (hst : l.stackTraces = false) (p0 : Int32) (p1 : Int32) (mm : Mm) (v : Int64) (Q9 : Int32 → Prop) (X9 : Nat → Mm → Prop) (h : w_X9_dutyOfPart p0 p1 mm Q9 X9) (hX : ∀ k0 m1, X9 k0 m1 → oK [1, 2] k0) : Met l yL_dutyOfPart (.codeWith yL_dutyOfPart cL_dutyOfPart 5 (some .int) [(0, 10, 13, 21), (0, 10, 17, 13)] :: TG) rm_L_dutyOfPart (PcL D cA ad A ob cO [.ref (ad 0 1), .int p0, .int p1, .ref ob] mm v) (QcL D cA ad A ob cO (QW tlI xA (fun r m' => Q9 r ∧ mm = m') X9)) 2 12 (AW A ob) := by
  refine enterL pl_L rfl (Nat.le_of_ble_eq_true rfl) ?_
  intro p e s m args below meth c QQ X htab hW hZ hE
  refine q_aload_n (j := 3) X dL_dutyOfPart_0 rfl rfl ?_
  refine q_iconst X dL_dutyOfPart_1 rfl ?_
  refine q_aload_n (j := 0) X dL_dutyOfPart_2 rfl rfl ?_
  refine q_iload_n (j := 1) X dL_dutyOfPart_3 rfl rfl ?_
  refine q_iload_n (j := 2) X dL_dutyOfPart_4 rfl rfl ?_
  refine qW_call X hW hZ hob [.int p0, .int p1] [.int 0, .ref ob] rfl rfl (Nat.le_of_ble_eq_true rfl) dL_dutyOfPart_5 ⟨(Nat.le_of_ble_eq_true rfl), (Nat.le_of_ble_eq_true rfl)⟩ (c_X9_dutyOfPart ax hst p0 p1 mm Q9 X9 h) rfl rfl (gV kw_5_107 kw_5_108 kw_5_109 kw_1_1 kw_5_110) hy_X9_dutyOfPart ⟨(Nat.le_of_ble_eq_true rfl), (Nat.le_of_ble_eq_true rfl)⟩ (fun k0 m1 hx => ?_) (fun r m1 hq => ?_)
  · have hk := hX _ _ hx
    unfold oK at hk
    simp only [List.mem_cons, List.not_mem_nil, or_false] at hk
    rcases hk with rfl | rfl
    · skip
      refine ⟨13, by decide, Ct1 (k1 := 1) htab rfl (by decide) (by decide) (X.2.2.2.2 _ kw_3_237), fun q => ?_⟩
      refine q_astore X dL_dutyOfPart_13 (Nat.le_of_ble_eq_true rfl) rfl ?_
      refine q_iconst X dL_dutyOfPart_15 rfl ?_
      exact hE _ _ _ _ _ _ _ dL_dutyOfPart_16 (Nat.le_of_ble_eq_true rfl) (Nat.le_of_ble_eq_true rfl) (Or.inr ⟨by decide, 1, rfl, hx⟩)
    · skip
      refine ⟨17, by decide, Ct2 (k1 := 1) (k2 := 2) htab rfl (by decide) (by decide) (by decide) (X.2.2.2.2 _ kw_3_237) (X.2.2.2.2 _ kw_3_68) hW.2.2.1, fun q => ?_⟩
      refine q_astore X dL_dutyOfPart_17 (Nat.le_of_ble_eq_true rfl) rfl ?_
      refine q_iconst X dL_dutyOfPart_19 rfl ?_
      exact hE _ _ _ _ _ _ _ dL_dutyOfPart_20 (Nat.le_of_ble_eq_true rfl) (Nat.le_of_ble_eq_true rfl) (Or.inr ⟨by decide, 2, rfl, hx⟩)
  · refine q_i2l X dL_dutyOfPart_8 ?_
    refine qW_last X hW hob ax dL_dutyOfPart_9 ?_
    refine q_goto X dL_dutyOfPart_10 rfl ?_
    refine q_iconst X dL_dutyOfPart_21 rfl ?_
    exact hE _ _ _ _ _ _ _ dL_dutyOfPart_22 (Nat.le_of_ble_eq_true rfl) (Nat.le_of_ble_eq_true rfl) (Or.inl ⟨rfl, r, rfl, hq⟩)
theorem dL_dutyOf_0 : decode cL_dutyOf 0 = .ok (.aload_n 2, 1) := by decide +kernel
theorem dL_dutyOf_1 : decode cL_dutyOf 1 = .ok (.iconst 0, 1) := by decide +kernel
theorem dL_dutyOf_2 : decode cL_dutyOf 2 = .ok (.aload_n 0, 1) := by decide +kernel
theorem dL_dutyOf_3 : decode cL_dutyOf 3 = .ok (.iload_n 1, 1) := by decide +kernel
theorem dL_dutyOf_4 : decode cL_dutyOf 4 = .ok (.invokevirtual 94, 3) := by decide +kernel
theorem dL_dutyOf_7 : decode cL_dutyOf 7 = .ok (.i2l, 1) := by decide +kernel
theorem dL_dutyOf_8 : decode cL_dutyOf 8 = .ok (.lastore, 1) := by decide +kernel
theorem dL_dutyOf_9 : decode cL_dutyOf 9 = .ok (.goto 6, 3) := by decide +kernel
theorem dL_dutyOf_12 : decode cL_dutyOf 12 = .ok (.astore_n 3, 1) := by decide +kernel
theorem dL_dutyOf_13 : decode cL_dutyOf 13 = .ok (.iconst 1, 1) := by decide +kernel
theorem dL_dutyOf_14 : decode cL_dutyOf 14 = .ok (.ireturn, 1) := by decide +kernel
theorem dL_dutyOf_15 : decode cL_dutyOf 15 = .ok (.iconst 0, 1) := by decide +kernel
theorem dL_dutyOf_16 : decode cL_dutyOf 16 = .ok (.ireturn, 1) := by decide +kernel
def rm_L_dutyOf : Room := { frames := 8, cells := 2, slots := 12, locals := 134 }
set_option maxRecDepth 100000 in
set_option maxHeartbeats 4000000 in
theorem k_L_dutyOf {l : Launch} {D : va_G} {cA : Nat → ClassId} {ad : Nat → Nat → Nat} {A : Nat → Prop} {ob : Nat} {cO : ClassId} (ax : Ax ad GC A) (hob : ¬ A ob) (hst : l.stackTraces = false) (p0 : Int32) (mm : Mm) (v : Int64) (Q9 : Int32 → Prop) (X9 : Nat → Mm → Prop) (h : w_X9_dutyOf p0 mm Q9 X9) (hX : ∀ k0 m1, X9 k0 m1 → oK [1] k0) : Met l yL_dutyOf (.codeWith yL_dutyOf cL_dutyOf 4 (some .int) [(0, 9, 12, 21)] :: TG) rm_L_dutyOf (PcL D cA ad A ob cO [.ref (ad 0 1), .int p0, .ref ob] mm v) (QcL D cA ad A ob cO (QW tlI xA (fun r m' => Q9 r ∧ mm = m') X9)) 2 12 (AW A ob) := by
  refine enterL pl_L rfl (Nat.le_of_ble_eq_true rfl) ?_
  intro p e s m args below meth c QQ X htab hW hZ hE
  refine q_aload_n (j := 2) X dL_dutyOf_0 rfl rfl ?_
  refine q_iconst X dL_dutyOf_1 rfl ?_
  refine q_aload_n (j := 0) X dL_dutyOf_2 rfl rfl ?_
  refine q_iload_n (j := 1) X dL_dutyOf_3 rfl rfl ?_
  refine qW_call X hW hZ hob [.int p0] [.int 0, .ref ob] rfl rfl (Nat.le_of_ble_eq_true rfl) dL_dutyOf_4 ⟨(Nat.le_of_ble_eq_true rfl), (Nat.le_of_ble_eq_true rfl)⟩ (c_X9_dutyOf ax hst p0 mm Q9 X9 h) rfl rfl (gV kw_5_118 kw_5_119 kw_5_120 kw_1_1 kw_5_121) hy_X9_dutyOf ⟨(Nat.le_of_ble_eq_true rfl), (Nat.le_of_ble_eq_true rfl)⟩ (fun k0 m1 hx => ?_) (fun r m1 hq => ?_)
  · have hk := hX _ _ hx
    unfold oK at hk
    simp only [List.mem_cons, List.not_mem_nil, or_false] at hk
    subst hk
    refine ⟨12, by decide, Ct1 (k1 := 1) htab rfl (by decide) (by decide) (X.2.2.2.2 _ kw_3_237), fun q => ?_⟩
    refine q_astore_n X dL_dutyOf_12 rfl (Nat.le_of_ble_eq_true rfl) rfl ?_
    refine q_iconst X dL_dutyOf_13 rfl ?_
    exact hE _ _ _ _ _ _ _ dL_dutyOf_14 (Nat.le_of_ble_eq_true rfl) (Nat.le_of_ble_eq_true rfl) (Or.inr ⟨by decide, 1, rfl, hx⟩)
  · refine q_i2l X dL_dutyOf_7 ?_
    refine qW_last X hW hob ax dL_dutyOf_8 ?_
    refine q_goto X dL_dutyOf_9 rfl ?_
    refine q_iconst X dL_dutyOf_15 rfl ?_
    exact hE _ _ _ _ _ _ _ dL_dutyOf_16 (Nat.le_of_ble_eq_true rfl) (Nat.le_of_ble_eq_true rfl) (Or.inl ⟨rfl, r, rfl, hq⟩)
theorem dL_allowedWaste_0 : decode cL_allowedWaste 0 = .ok (.aload_n 2, 1) := by decide +kernel
theorem dL_allowedWaste_1 : decode cL_allowedWaste 1 = .ok (.iconst 0, 1) := by decide +kernel
theorem dL_allowedWaste_2 : decode cL_allowedWaste 2 = .ok (.aload_n 0, 1) := by decide +kernel
theorem dL_allowedWaste_3 : decode cL_allowedWaste 3 = .ok (.iload_n 1, 1) := by decide +kernel
theorem dL_allowedWaste_4 : decode cL_allowedWaste 4 = .ok (.invokevirtual 97, 3) := by decide +kernel
theorem dL_allowedWaste_7 : decode cL_allowedWaste 7 = .ok (.i2l, 1) := by decide +kernel
theorem dL_allowedWaste_8 : decode cL_allowedWaste 8 = .ok (.lastore, 1) := by decide +kernel
theorem dL_allowedWaste_9 : decode cL_allowedWaste 9 = .ok (.goto 6, 3) := by decide +kernel
theorem dL_allowedWaste_12 : decode cL_allowedWaste 12 = .ok (.astore_n 3, 1) := by decide +kernel
theorem dL_allowedWaste_13 : decode cL_allowedWaste 13 = .ok (.iconst 1, 1) := by decide +kernel
theorem dL_allowedWaste_14 : decode cL_allowedWaste 14 = .ok (.ireturn, 1) := by decide +kernel
theorem dL_allowedWaste_15 : decode cL_allowedWaste 15 = .ok (.iconst 0, 1) := by decide +kernel
theorem dL_allowedWaste_16 : decode cL_allowedWaste 16 = .ok (.ireturn, 1) := by decide +kernel
def rm_L_allowedWaste : Room := { frames := 8, cells := 2, slots := 12, locals := 133 }
set_option maxRecDepth 100000 in
set_option maxHeartbeats 4000000 in
theorem k_L_allowedWaste {l : Launch} {D : va_G} {cA : Nat → ClassId} {ad : Nat → Nat → Nat} {A : Nat → Prop} {ob : Nat} {cO : ClassId} (ax : Ax ad GC A) (hob : ¬ A ob) (hst : l.stackTraces = false) (p0 : Int32) (mm : Mm) (v : Int64) (Q9 : Int32 → Prop) (X9 : Nat → Mm → Prop) (h : w_X9_allowedWaste p0 mm Q9 X9) (hX : ∀ k0 m1, X9 k0 m1 → oK [1] k0) : Met l yL_allowedWaste (.codeWith yL_allowedWaste cL_allowedWaste 4 (some .int) [(0, 9, 12, 21)] :: TG) rm_L_allowedWaste (PcL D cA ad A ob cO [.ref (ad 0 1), .int p0, .ref ob] mm v) (QcL D cA ad A ob cO (QW tlI xA (fun r m' => Q9 r ∧ mm = m') X9)) 2 12 (AW A ob) := by
  refine enterL pl_L rfl (Nat.le_of_ble_eq_true rfl) ?_
  intro p e s m args below meth c QQ X htab hW hZ hE
  refine q_aload_n (j := 2) X dL_allowedWaste_0 rfl rfl ?_
  refine q_iconst X dL_allowedWaste_1 rfl ?_
  refine q_aload_n (j := 0) X dL_allowedWaste_2 rfl rfl ?_
  refine q_iload_n (j := 1) X dL_allowedWaste_3 rfl rfl ?_
  refine qW_call X hW hZ hob [.int p0] [.int 0, .ref ob] rfl rfl (Nat.le_of_ble_eq_true rfl) dL_allowedWaste_4 ⟨(Nat.le_of_ble_eq_true rfl), (Nat.le_of_ble_eq_true rfl)⟩ (c_X9_allowedWaste ax hst p0 mm Q9 X9 h) rfl rfl (gV kw_5_126 kw_5_127 kw_5_128 kw_1_1 kw_5_129) hy_X9_allowedWaste ⟨(Nat.le_of_ble_eq_true rfl), (Nat.le_of_ble_eq_true rfl)⟩ (fun k0 m1 hx => ?_) (fun r m1 hq => ?_)
  · have hk := hX _ _ hx
    unfold oK at hk
    simp only [List.mem_cons, List.not_mem_nil, or_false] at hk
    subst hk
    refine ⟨12, by decide, Ct1 (k1 := 1) htab rfl (by decide) (by decide) (X.2.2.2.2 _ kw_3_237), fun q => ?_⟩
    refine q_astore_n X dL_allowedWaste_12 rfl (Nat.le_of_ble_eq_true rfl) rfl ?_
    refine q_iconst X dL_allowedWaste_13 rfl ?_
    exact hE _ _ _ _ _ _ _ dL_allowedWaste_14 (Nat.le_of_ble_eq_true rfl) (Nat.le_of_ble_eq_true rfl) (Or.inr ⟨by decide, 1, rfl, hx⟩)
  · refine q_i2l X dL_allowedWaste_7 ?_
    refine qW_last X hW hob ax dL_allowedWaste_8 ?_
    refine q_goto X dL_allowedWaste_9 rfl ?_
    refine q_iconst X dL_allowedWaste_15 rfl ?_
    exact hE _ _ _ _ _ _ _ dL_allowedWaste_16 (Nat.le_of_ble_eq_true rfl) (Nat.le_of_ble_eq_true rfl) (Or.inl ⟨rfl, r, rfl, hq⟩)
theorem dL_isLocked_0 : decode cL_isLocked 0 = .ok (.aload_n 2, 1) := by decide +kernel
theorem dL_isLocked_1 : decode cL_isLocked 1 = .ok (.iconst 0, 1) := by decide +kernel
theorem dL_isLocked_2 : decode cL_isLocked 2 = .ok (.aload_n 0, 1) := by decide +kernel
theorem dL_isLocked_3 : decode cL_isLocked 3 = .ok (.iload_n 1, 1) := by decide +kernel
theorem dL_isLocked_4 : decode cL_isLocked 4 = .ok (.invokevirtual 100, 3) := by decide +kernel
theorem dL_isLocked_7 : decode cL_isLocked 7 = .ok (.ifCond .eq 7, 3) := by decide +kernel
theorem dL_isLocked_10 : decode cL_isLocked 10 = .ok (.lconst 1, 1) := by decide +kernel
theorem dL_isLocked_11 : decode cL_isLocked 11 = .ok (.goto 4, 3) := by decide +kernel
theorem dL_isLocked_14 : decode cL_isLocked 14 = .ok (.lconst 0, 1) := by decide +kernel
theorem dL_isLocked_15 : decode cL_isLocked 15 = .ok (.lastore, 1) := by decide +kernel
theorem dL_isLocked_16 : decode cL_isLocked 16 = .ok (.goto 6, 3) := by decide +kernel
theorem dL_isLocked_19 : decode cL_isLocked 19 = .ok (.astore_n 3, 1) := by decide +kernel
theorem dL_isLocked_20 : decode cL_isLocked 20 = .ok (.iconst 1, 1) := by decide +kernel
theorem dL_isLocked_21 : decode cL_isLocked 21 = .ok (.ireturn, 1) := by decide +kernel
theorem dL_isLocked_22 : decode cL_isLocked 22 = .ok (.iconst 0, 1) := by decide +kernel
theorem dL_isLocked_23 : decode cL_isLocked 23 = .ok (.ireturn, 1) := by decide +kernel
def rm_L_isLocked : Room := { frames := 9, cells := 2, slots := 12, locals := 152 }
set_option maxRecDepth 100000 in
set_option maxHeartbeats 4000000 in
theorem k_L_isLocked {l : Launch} {D : va_G} {cA : Nat → ClassId} {ad : Nat → Nat → Nat} {A : Nat → Prop} {ob : Nat} {cO : ClassId} (ax : Ax ad GC A) (hob : ¬ A ob) (hst : l.stackTraces = false) (p0 : Int32) (mm : Mm) (v : Int64) (Q9 : Int32 → Prop) (X9 : Nat → Mm → Prop) (h : w_X9_isLocked p0 mm Q9 X9) (hX : ∀ k0 m1, X9 k0 m1 → oK [1] k0) : Met l yL_isLocked (.codeWith yL_isLocked cL_isLocked 4 (some .int) [(0, 16, 19, 21)] :: TG) rm_L_isLocked (PcL D cA ad A ob cO [.ref (ad 0 1), .int p0, .ref ob] mm v) (QcL D cA ad A ob cO (QW tlB xA (fun r m' => Q9 r ∧ mm = m') X9)) 2 12 (AW A ob) := by
  refine enterL pl_L rfl (Nat.le_of_ble_eq_true rfl) ?_
  intro p e s m args below meth c QQ X htab hW hZ hE
  refine q_aload_n (j := 2) X dL_isLocked_0 rfl rfl ?_
  refine q_iconst X dL_isLocked_1 rfl ?_
  refine q_aload_n (j := 0) X dL_isLocked_2 rfl rfl ?_
  refine q_iload_n (j := 1) X dL_isLocked_3 rfl rfl ?_
  refine qW_call X hW hZ hob [.int p0] [.int 0, .ref ob] rfl rfl (Nat.le_of_ble_eq_true rfl) dL_isLocked_4 ⟨(Nat.le_of_ble_eq_true rfl), (Nat.le_of_ble_eq_true rfl)⟩ (c_X9_isLocked ax hst p0 mm Q9 X9 h) rfl rfl (gV kw_5_134 kw_5_135 kw_5_136 kw_1_1 kw_5_137) hy_X9_isLocked ⟨(Nat.le_of_ble_eq_true rfl), (Nat.le_of_ble_eq_true rfl)⟩ (fun k0 m1 hx => ?_) (fun r m1 hq => ?_)
  · have hk := hX _ _ hx
    unfold oK at hk
    simp only [List.mem_cons, List.not_mem_nil, or_false] at hk
    subst hk
    refine ⟨19, by decide, Ct1 (k1 := 1) htab rfl (by decide) (by decide) (X.2.2.2.2 _ kw_3_237), fun q => ?_⟩
    refine q_astore_n X dL_isLocked_19 rfl (Nat.le_of_ble_eq_true rfl) rfl ?_
    refine q_iconst X dL_isLocked_20 rfl ?_
    exact hE _ _ _ _ _ _ _ dL_isLocked_21 (Nat.le_of_ble_eq_true rfl) (Nat.le_of_ble_eq_true rfl) (Or.inr ⟨by decide, 1, rfl, hx⟩)
  · refine q_if_eq X dL_isLocked_7 rfl (fun hz => ?_) (fun hz => ?_)
    · refine q_lconst (v := 0) X dL_isLocked_14 rfl ?_
      refine qW_last X hW hob ax dL_isLocked_15 ?_
      refine q_goto X dL_isLocked_16 rfl ?_
      refine q_iconst X dL_isLocked_22 rfl ?_
      exact hE _ _ _ _ _ _ _ dL_isLocked_23 (Nat.le_of_ble_eq_true rfl) (Nat.le_of_ble_eq_true rfl) (Or.inl ⟨rfl, r, by unfold tlB; rw [if_pos hz], hq⟩)
    · refine q_lconst (v := 1) X dL_isLocked_10 rfl ?_
      refine q_goto X dL_isLocked_11 rfl ?_
      refine qW_last X hW hob ax dL_isLocked_15 ?_
      refine q_goto X dL_isLocked_16 rfl ?_
      refine q_iconst X dL_isLocked_22 rfl ?_
      exact hE _ _ _ _ _ _ _ dL_isLocked_23 (Nat.le_of_ble_eq_true rfl) (Nat.le_of_ble_eq_true rfl) (Or.inl ⟨rfl, r, by unfold tlB; rw [if_neg hz], hq⟩)
theorem dL_sealOf_0 : decode cL_sealOf 0 = .ok (.aload_n 2, 1) := by decide +kernel
theorem dL_sealOf_1 : decode cL_sealOf 1 = .ok (.iconst 0, 1) := by decide +kernel
theorem dL_sealOf_2 : decode cL_sealOf 2 = .ok (.aload_n 0, 1) := by decide +kernel
theorem dL_sealOf_3 : decode cL_sealOf 3 = .ok (.iload_n 1, 1) := by decide +kernel
theorem dL_sealOf_4 : decode cL_sealOf 4 = .ok (.invokevirtual 103, 3) := by decide +kernel
theorem dL_sealOf_7 : decode cL_sealOf 7 = .ok (.i2l, 1) := by decide +kernel
theorem dL_sealOf_8 : decode cL_sealOf 8 = .ok (.lastore, 1) := by decide +kernel
theorem dL_sealOf_9 : decode cL_sealOf 9 = .ok (.goto 6, 3) := by decide +kernel
theorem dL_sealOf_12 : decode cL_sealOf 12 = .ok (.astore_n 3, 1) := by decide +kernel
theorem dL_sealOf_13 : decode cL_sealOf 13 = .ok (.iconst 1, 1) := by decide +kernel
theorem dL_sealOf_14 : decode cL_sealOf 14 = .ok (.ireturn, 1) := by decide +kernel
theorem dL_sealOf_15 : decode cL_sealOf 15 = .ok (.iconst 0, 1) := by decide +kernel
theorem dL_sealOf_16 : decode cL_sealOf 16 = .ok (.ireturn, 1) := by decide +kernel
def rm_L_sealOf : Room := { frames := 9, cells := 2, slots := 12, locals := 152 }
set_option maxRecDepth 100000 in
set_option maxHeartbeats 4000000 in
theorem k_L_sealOf {l : Launch} {D : va_G} {cA : Nat → ClassId} {ad : Nat → Nat → Nat} {A : Nat → Prop} {ob : Nat} {cO : ClassId} (ax : Ax ad GC A) (hob : ¬ A ob) (hst : l.stackTraces = false) (p0 : Int32) (mm : Mm) (v : Int64) (Q9 : Int32 → Prop) (X9 : Nat → Mm → Prop) (h : w_X9_sealOf p0 mm Q9 X9) (hX : ∀ k0 m1, X9 k0 m1 → oK [1] k0) : Met l yL_sealOf (.codeWith yL_sealOf cL_sealOf 4 (some .int) [(0, 9, 12, 21)] :: TG) rm_L_sealOf (PcL D cA ad A ob cO [.ref (ad 0 1), .int p0, .ref ob] mm v) (QcL D cA ad A ob cO (QW tlI xA (fun r m' => Q9 r ∧ mm = m') X9)) 2 12 (AW A ob) := by
  refine enterL pl_L rfl (Nat.le_of_ble_eq_true rfl) ?_
  intro p e s m args below meth c QQ X htab hW hZ hE
  refine q_aload_n (j := 2) X dL_sealOf_0 rfl rfl ?_
  refine q_iconst X dL_sealOf_1 rfl ?_
  refine q_aload_n (j := 0) X dL_sealOf_2 rfl rfl ?_
  refine q_iload_n (j := 1) X dL_sealOf_3 rfl rfl ?_
  refine qW_call X hW hZ hob [.int p0] [.int 0, .ref ob] rfl rfl (Nat.le_of_ble_eq_true rfl) dL_sealOf_4 ⟨(Nat.le_of_ble_eq_true rfl), (Nat.le_of_ble_eq_true rfl)⟩ (c_X9_sealOf ax hst p0 mm Q9 X9 h) rfl rfl (gV kw_5_150 kw_5_151 kw_5_152 kw_1_1 kw_5_153) hy_X9_sealOf ⟨(Nat.le_of_ble_eq_true rfl), (Nat.le_of_ble_eq_true rfl)⟩ (fun k0 m1 hx => ?_) (fun r m1 hq => ?_)
  · have hk := hX _ _ hx
    unfold oK at hk
    simp only [List.mem_cons, List.not_mem_nil, or_false] at hk
    subst hk
    refine ⟨12, by decide, Ct1 (k1 := 1) htab rfl (by decide) (by decide) (X.2.2.2.2 _ kw_3_237), fun q => ?_⟩
    refine q_astore_n X dL_sealOf_12 rfl (Nat.le_of_ble_eq_true rfl) rfl ?_
    refine q_iconst X dL_sealOf_13 rfl ?_
    exact hE _ _ _ _ _ _ _ dL_sealOf_14 (Nat.le_of_ble_eq_true rfl) (Nat.le_of_ble_eq_true rfl) (Or.inr ⟨by decide, 1, rfl, hx⟩)
  · refine q_i2l X dL_sealOf_7 ?_
    refine qW_last X hW hob ax dL_sealOf_8 ?_
    refine q_goto X dL_sealOf_9 rfl ?_
    refine q_iconst X dL_sealOf_15 rfl ?_
    exact hE _ _ _ _ _ _ _ dL_sealOf_16 (Nat.le_of_ble_eq_true rfl) (Nat.le_of_ble_eq_true rfl) (Or.inl ⟨rfl, r, rfl, hq⟩)
theorem dL_isSealBroken_0 : decode cL_isSealBroken 0 = .ok (.aload_n 2, 1) := by decide +kernel
theorem dL_isSealBroken_1 : decode cL_isSealBroken 1 = .ok (.iconst 0, 1) := by decide +kernel
theorem dL_isSealBroken_2 : decode cL_isSealBroken 2 = .ok (.aload_n 0, 1) := by decide +kernel
theorem dL_isSealBroken_3 : decode cL_isSealBroken 3 = .ok (.iload_n 1, 1) := by decide +kernel
theorem dL_isSealBroken_4 : decode cL_isSealBroken 4 = .ok (.invokevirtual 106, 3) := by decide +kernel
theorem dL_isSealBroken_7 : decode cL_isSealBroken 7 = .ok (.ifCond .eq 7, 3) := by decide +kernel
theorem dL_isSealBroken_10 : decode cL_isSealBroken 10 = .ok (.lconst 1, 1) := by decide +kernel
theorem dL_isSealBroken_11 : decode cL_isSealBroken 11 = .ok (.goto 4, 3) := by decide +kernel
theorem dL_isSealBroken_14 : decode cL_isSealBroken 14 = .ok (.lconst 0, 1) := by decide +kernel
theorem dL_isSealBroken_15 : decode cL_isSealBroken 15 = .ok (.lastore, 1) := by decide +kernel
theorem dL_isSealBroken_16 : decode cL_isSealBroken 16 = .ok (.goto 6, 3) := by decide +kernel
theorem dL_isSealBroken_19 : decode cL_isSealBroken 19 = .ok (.astore_n 3, 1) := by decide +kernel
theorem dL_isSealBroken_20 : decode cL_isSealBroken 20 = .ok (.iconst 1, 1) := by decide +kernel
theorem dL_isSealBroken_21 : decode cL_isSealBroken 21 = .ok (.ireturn, 1) := by decide +kernel
theorem dL_isSealBroken_22 : decode cL_isSealBroken 22 = .ok (.iconst 0, 1) := by decide +kernel
theorem dL_isSealBroken_23 : decode cL_isSealBroken 23 = .ok (.ireturn, 1) := by decide +kernel
def rm_L_isSealBroken : Room := { frames := 9, cells := 2, slots := 12, locals := 152 }
set_option maxRecDepth 100000 in
set_option maxHeartbeats 4000000 in
theorem k_L_isSealBroken {l : Launch} {D : va_G} {cA : Nat → ClassId} {ad : Nat → Nat → Nat} {A : Nat → Prop} {ob : Nat} {cO : ClassId} (ax : Ax ad GC A) (hob : ¬ A ob) (hst : l.stackTraces = false) (p0 : Int32) (mm : Mm) (v : Int64) (Q9 : Int32 → Prop) (X9 : Nat → Mm → Prop) (h : w_X9_isSealBroken p0 mm Q9 X9) (hX : ∀ k0 m1, X9 k0 m1 → oK [1] k0) : Met l yL_isSealBroken (.codeWith yL_isSealBroken cL_isSealBroken 4 (some .int) [(0, 16, 19, 21)] :: TG) rm_L_isSealBroken (PcL D cA ad A ob cO [.ref (ad 0 1), .int p0, .ref ob] mm v) (QcL D cA ad A ob cO (QW tlB xA (fun r m' => Q9 r ∧ mm = m') X9)) 2 12 (AW A ob) := by
  refine enterL pl_L rfl (Nat.le_of_ble_eq_true rfl) ?_
  intro p e s m args below meth c QQ X htab hW hZ hE
  refine q_aload_n (j := 2) X dL_isSealBroken_0 rfl rfl ?_
  refine q_iconst X dL_isSealBroken_1 rfl ?_
  refine q_aload_n (j := 0) X dL_isSealBroken_2 rfl rfl ?_
  refine q_iload_n (j := 1) X dL_isSealBroken_3 rfl rfl ?_
  refine qW_call X hW hZ hob [.int p0] [.int 0, .ref ob] rfl rfl (Nat.le_of_ble_eq_true rfl) dL_isSealBroken_4 ⟨(Nat.le_of_ble_eq_true rfl), (Nat.le_of_ble_eq_true rfl)⟩ (c_X9_isSealBroken ax hst p0 mm Q9 X9 h) rfl rfl (gV kw_5_157 kw_5_158 kw_5_159 kw_1_1 kw_5_160) hy_X9_isSealBroken ⟨(Nat.le_of_ble_eq_true rfl), (Nat.le_of_ble_eq_true rfl)⟩ (fun k0 m1 hx => ?_) (fun r m1 hq => ?_)
  · have hk := hX _ _ hx
    unfold oK at hk
    simp only [List.mem_cons, List.not_mem_nil, or_false] at hk
    subst hk
    refine ⟨19, by decide, Ct1 (k1 := 1) htab rfl (by decide) (by decide) (X.2.2.2.2 _ kw_3_237), fun q => ?_⟩
    refine q_astore_n X dL_isSealBroken_19 rfl (Nat.le_of_ble_eq_true rfl) rfl ?_
    refine q_iconst X dL_isSealBroken_20 rfl ?_
    exact hE _ _ _ _ _ _ _ dL_isSealBroken_21 (Nat.le_of_ble_eq_true rfl) (Nat.le_of_ble_eq_true rfl) (Or.inr ⟨by decide, 1, rfl, hx⟩)
  · refine q_if_eq X dL_isSealBroken_7 rfl (fun hz => ?_) (fun hz => ?_)
    · refine q_lconst (v := 0) X dL_isSealBroken_14 rfl ?_
      refine qW_last X hW hob ax dL_isSealBroken_15 ?_
      refine q_goto X dL_isSealBroken_16 rfl ?_
      refine q_iconst X dL_isSealBroken_22 rfl ?_
      exact hE _ _ _ _ _ _ _ dL_isSealBroken_23 (Nat.le_of_ble_eq_true rfl) (Nat.le_of_ble_eq_true rfl) (Or.inl ⟨rfl, r, by unfold tlB; rw [if_pos hz], hq⟩)
    · refine q_lconst (v := 1) X dL_isSealBroken_10 rfl ?_
      refine q_goto X dL_isSealBroken_11 rfl ?_
      refine qW_last X hW hob ax dL_isSealBroken_15 ?_
      refine q_goto X dL_isSealBroken_16 rfl ?_
      refine q_iconst X dL_isSealBroken_22 rfl ?_
      exact hE _ _ _ _ _ _ _ dL_isSealBroken_23 (Nat.le_of_ble_eq_true rfl) (Nat.le_of_ble_eq_true rfl) (Or.inl ⟨rfl, r, by unfold tlB; rw [if_neg hz], hq⟩)
theorem dL_entriesIn_0 : decode cL_entriesIn 0 = .ok (.aload_n 2, 1) := by decide +kernel
theorem dL_entriesIn_1 : decode cL_entriesIn 1 = .ok (.iconst 0, 1) := by decide +kernel
theorem dL_entriesIn_2 : decode cL_entriesIn 2 = .ok (.aload_n 0, 1) := by decide +kernel
theorem dL_entriesIn_3 : decode cL_entriesIn 3 = .ok (.iload_n 1, 1) := by decide +kernel
theorem dL_entriesIn_4 : decode cL_entriesIn 4 = .ok (.invokevirtual 109, 3) := by decide +kernel
theorem dL_entriesIn_7 : decode cL_entriesIn 7 = .ok (.i2l, 1) := by decide +kernel
theorem dL_entriesIn_8 : decode cL_entriesIn 8 = .ok (.lastore, 1) := by decide +kernel
theorem dL_entriesIn_9 : decode cL_entriesIn 9 = .ok (.goto 6, 3) := by decide +kernel
theorem dL_entriesIn_12 : decode cL_entriesIn 12 = .ok (.astore_n 3, 1) := by decide +kernel
theorem dL_entriesIn_13 : decode cL_entriesIn 13 = .ok (.iconst 1, 1) := by decide +kernel
theorem dL_entriesIn_14 : decode cL_entriesIn 14 = .ok (.ireturn, 1) := by decide +kernel
theorem dL_entriesIn_15 : decode cL_entriesIn 15 = .ok (.iconst 0, 1) := by decide +kernel
theorem dL_entriesIn_16 : decode cL_entriesIn 16 = .ok (.ireturn, 1) := by decide +kernel
def rm_L_entriesIn : Room := { frames := 8, cells := 2, slots := 12, locals := 131 }
set_option maxRecDepth 100000 in
set_option maxHeartbeats 4000000 in
theorem k_L_entriesIn {l : Launch} {D : va_G} {cA : Nat → ClassId} {ad : Nat → Nat → Nat} {A : Nat → Prop} {ob : Nat} {cO : ClassId} (ax : Ax ad GC A) (hob : ¬ A ob) (hst : l.stackTraces = false) (p0 : Int32) (mm : Mm) (v : Int64) (Q9 : Int32 → Prop) (X9 : Nat → Mm → Prop) (h : w_X9_entriesIn p0 mm Q9 X9) (hX : ∀ k0 m1, X9 k0 m1 → oK [1] k0) : Met l yL_entriesIn (.codeWith yL_entriesIn cL_entriesIn 4 (some .int) [(0, 9, 12, 21)] :: TG) rm_L_entriesIn (PcL D cA ad A ob cO [.ref (ad 0 1), .int p0, .ref ob] mm v) (QcL D cA ad A ob cO (QW tlI xA (fun r m' => Q9 r ∧ mm = m') X9)) 2 12 (AW A ob) := by
  refine enterL pl_L rfl (Nat.le_of_ble_eq_true rfl) ?_
  intro p e s m args below meth c QQ X htab hW hZ hE
  refine q_aload_n (j := 2) X dL_entriesIn_0 rfl rfl ?_
  refine q_iconst X dL_entriesIn_1 rfl ?_
  refine q_aload_n (j := 0) X dL_entriesIn_2 rfl rfl ?_
  refine q_iload_n (j := 1) X dL_entriesIn_3 rfl rfl ?_
  refine qW_call X hW hZ hob [.int p0] [.int 0, .ref ob] rfl rfl (Nat.le_of_ble_eq_true rfl) dL_entriesIn_4 ⟨(Nat.le_of_ble_eq_true rfl), (Nat.le_of_ble_eq_true rfl)⟩ (c_X9_entriesIn ax hst p0 mm Q9 X9 h) rfl rfl (gV kw_5_164 kw_5_165 kw_5_166 kw_1_1 kw_5_167) hy_X9_entriesIn ⟨(Nat.le_of_ble_eq_true rfl), (Nat.le_of_ble_eq_true rfl)⟩ (fun k0 m1 hx => ?_) (fun r m1 hq => ?_)
  · have hk := hX _ _ hx
    unfold oK at hk
    simp only [List.mem_cons, List.not_mem_nil, or_false] at hk
    subst hk
    refine ⟨12, by decide, Ct1 (k1 := 1) htab rfl (by decide) (by decide) (X.2.2.2.2 _ kw_3_237), fun q => ?_⟩
    refine q_astore_n X dL_entriesIn_12 rfl (Nat.le_of_ble_eq_true rfl) rfl ?_
    refine q_iconst X dL_entriesIn_13 rfl ?_
    exact hE _ _ _ _ _ _ _ dL_entriesIn_14 (Nat.le_of_ble_eq_true rfl) (Nat.le_of_ble_eq_true rfl) (Or.inr ⟨by decide, 1, rfl, hx⟩)
  · refine q_i2l X dL_entriesIn_7 ?_
    refine qW_last X hW hob ax dL_entriesIn_8 ?_
    refine q_goto X dL_entriesIn_9 rfl ?_
    refine q_iconst X dL_entriesIn_15 rfl ?_
    exact hE _ _ _ _ _ _ _ dL_entriesIn_16 (Nat.le_of_ble_eq_true rfl) (Nat.le_of_ble_eq_true rfl) (Or.inl ⟨rfl, r, rfl, hq⟩)
