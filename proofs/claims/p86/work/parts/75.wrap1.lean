theorem pl_L : plainName RL = true := by decide +kernel
theorem kw_2_145 : Jvm.Cond.methodLink "BondWarehouseLaw" (7 : Nat) ({ cls := "BondWarehouse", name := "enter", desc := "(IIII)I" } : Jvm.MethodName) ∈ TG := tg_2 145 rfl rfl
theorem kw_2_146 : Jvm.Cond.instanceMethod ({ cls := "BondWarehouse", name := "enter", desc := "(IIII)I" } : Jvm.MethodName) ∈ TG := tg_2 146 rfl rfl
theorem kw_2_147 : Jvm.Cond.selects "BondWarehouse" ({ cls := "BondWarehouse", name := "enter", desc := "(IIII)I" } : Jvm.MethodName) ({ cls := "BondWarehouse", name := "enter", desc := "(IIII)I" } : Jvm.MethodName) ∈ TG := tg_2 147 rfl rfl
theorem kw_2_148 : Jvm.Cond.code ({ cls := "BondWarehouse", name := "enter", desc := "(IIII)I" } : Jvm.MethodName) prog_1_method_2_code (5 : Nat) (Option.some Jvm.ClassFile.FieldType.int) ∈ TG := tg_2 148 rfl rfl
theorem kw_2_143 : Jvm.Cond.classLink "BondWarehouseLaw" (13 : Nat) "java/lang/IllegalArgumentException" ∈ TG := tg_2 143 rfl rfl
theorem kw_2_144 : Jvm.Cond.classLink "BondWarehouseLaw" (16 : Nat) "java/lang/IllegalStateException" ∈ TG := tg_2 144 rfl rfl
theorem kw_3_86 : Jvm.Cond.constant "BondWarehouseLaw" (15 : Nat) (-9999002 : Int32) ∈ TG := tg_3 86 rfl rfl
theorem kw_3_87 : Jvm.Cond.constant "BondWarehouseLaw" (18 : Nat) (-9999003 : Int32) ∈ TG := tg_3 87 rfl rfl
theorem kw_3_95 : Jvm.Cond.methodLink "BondWarehouseLaw" (38 : Nat) ({ cls := "BondWarehouse", name := "withdraw", desc := "(II)I" } : Jvm.MethodName) ∈ TG := tg_3 95 rfl rfl
theorem kw_3_96 : Jvm.Cond.instanceMethod ({ cls := "BondWarehouse", name := "withdraw", desc := "(II)I" } : Jvm.MethodName) ∈ TG := tg_3 96 rfl rfl
theorem kw_3_97 : Jvm.Cond.selects "BondWarehouse" ({ cls := "BondWarehouse", name := "withdraw", desc := "(II)I" } : Jvm.MethodName) ({ cls := "BondWarehouse", name := "withdraw", desc := "(II)I" } : Jvm.MethodName) ∈ TG := tg_3 97 rfl rfl
theorem kw_3_98 : Jvm.Cond.code ({ cls := "BondWarehouse", name := "withdraw", desc := "(II)I" } : Jvm.MethodName) prog_1_method_3_code (3 : Nat) (Option.some Jvm.ClassFile.FieldType.int) ∈ TG := tg_3 98 rfl rfl
theorem kw_3_94 : Jvm.Cond.classLink "BondWarehouseLaw" (26 : Nat) "java/lang/IndexOutOfBoundsException" ∈ TG := tg_3 94 rfl rfl
theorem kw_3_145 : Jvm.Cond.constant "BondWarehouseLaw" (28 : Nat) (-9999001 : Int32) ∈ TG := tg_3 145 rfl rfl
theorem kw_3_149 : Jvm.Cond.methodLink "BondWarehouseLaw" (42 : Nat) ({ cls := "BondWarehouse", name := "sendAbroad", desc := "(II)I" } : Jvm.MethodName) ∈ TG := tg_3 149 rfl rfl
theorem kw_3_150 : Jvm.Cond.instanceMethod ({ cls := "BondWarehouse", name := "sendAbroad", desc := "(II)I" } : Jvm.MethodName) ∈ TG := tg_3 150 rfl rfl
theorem kw_3_151 : Jvm.Cond.selects "BondWarehouse" ({ cls := "BondWarehouse", name := "sendAbroad", desc := "(II)I" } : Jvm.MethodName) ({ cls := "BondWarehouse", name := "sendAbroad", desc := "(II)I" } : Jvm.MethodName) ∈ TG := tg_3 151 rfl rfl
theorem kw_3_152 : Jvm.Cond.code ({ cls := "BondWarehouse", name := "sendAbroad", desc := "(II)I" } : Jvm.MethodName) prog_1_method_4_code (3 : Nat) (Option.some Jvm.ClassFile.FieldType.int) ∈ TG := tg_3 152 rfl rfl
theorem kw_3_168 : Jvm.Cond.methodLink "BondWarehouseLaw" (45 : Nat) ({ cls := "BondWarehouse", name := "drawBack", desc := "(II)I" } : Jvm.MethodName) ∈ TG := tg_3 168 rfl rfl
theorem kw_3_169 : Jvm.Cond.instanceMethod ({ cls := "BondWarehouse", name := "drawBack", desc := "(II)I" } : Jvm.MethodName) ∈ TG := tg_3 169 rfl rfl
theorem kw_3_170 : Jvm.Cond.selects "BondWarehouse" ({ cls := "BondWarehouse", name := "drawBack", desc := "(II)I" } : Jvm.MethodName) ({ cls := "BondWarehouse", name := "drawBack", desc := "(II)I" } : Jvm.MethodName) ∈ TG := tg_3 170 rfl rfl
theorem kw_3_171 : Jvm.Cond.code ({ cls := "BondWarehouse", name := "drawBack", desc := "(II)I" } : Jvm.MethodName) prog_1_method_5_code (3 : Nat) (Option.some Jvm.ClassFile.FieldType.int) ∈ TG := tg_3 171 rfl rfl
theorem kw_3_199 : Jvm.Cond.methodLink "BondWarehouseLaw" (48 : Nat) ({ cls := "BondWarehouse", name := "move", desc := "(II)I" } : Jvm.MethodName) ∈ TG := tg_3 199 rfl rfl
theorem kw_3_200 : Jvm.Cond.instanceMethod ({ cls := "BondWarehouse", name := "move", desc := "(II)I" } : Jvm.MethodName) ∈ TG := tg_3 200 rfl rfl
theorem kw_3_201 : Jvm.Cond.selects "BondWarehouse" ({ cls := "BondWarehouse", name := "move", desc := "(II)I" } : Jvm.MethodName) ({ cls := "BondWarehouse", name := "move", desc := "(II)I" } : Jvm.MethodName) ∈ TG := tg_3 201 rfl rfl
theorem kw_3_202 : Jvm.Cond.code ({ cls := "BondWarehouse", name := "move", desc := "(II)I" } : Jvm.MethodName) prog_1_method_6_code (3 : Nat) (Option.some Jvm.ClassFile.FieldType.int) ∈ TG := tg_3 202 rfl rfl
theorem kw_3_215 : Jvm.Cond.methodLink "BondWarehouseLaw" (51 : Nat) ({ cls := "BondWarehouse", name := "split", desc := "(II)I" } : Jvm.MethodName) ∈ TG := tg_3 215 rfl rfl
theorem kw_3_216 : Jvm.Cond.instanceMethod ({ cls := "BondWarehouse", name := "split", desc := "(II)I" } : Jvm.MethodName) ∈ TG := tg_3 216 rfl rfl
theorem kw_3_217 : Jvm.Cond.selects "BondWarehouse" ({ cls := "BondWarehouse", name := "split", desc := "(II)I" } : Jvm.MethodName) ({ cls := "BondWarehouse", name := "split", desc := "(II)I" } : Jvm.MethodName) ∈ TG := tg_3 217 rfl rfl
theorem kw_3_218 : Jvm.Cond.code ({ cls := "BondWarehouse", name := "split", desc := "(II)I" } : Jvm.MethodName) prog_1_method_7_code (3 : Nat) (Option.some Jvm.ClassFile.FieldType.int) ∈ TG := tg_3 218 rfl rfl
theorem kw_3_230 : Jvm.Cond.methodLink "BondWarehouseLaw" (54 : Nat) ({ cls := "BondWarehouse", name := "merge", desc := "(II)I" } : Jvm.MethodName) ∈ TG := tg_3 230 rfl rfl
theorem kw_3_231 : Jvm.Cond.instanceMethod ({ cls := "BondWarehouse", name := "merge", desc := "(II)I" } : Jvm.MethodName) ∈ TG := tg_3 231 rfl rfl
theorem kw_3_232 : Jvm.Cond.selects "BondWarehouse" ({ cls := "BondWarehouse", name := "merge", desc := "(II)I" } : Jvm.MethodName) ({ cls := "BondWarehouse", name := "merge", desc := "(II)I" } : Jvm.MethodName) ∈ TG := tg_3 232 rfl rfl
theorem kw_3_233 : Jvm.Cond.code ({ cls := "BondWarehouse", name := "merge", desc := "(II)I" } : Jvm.MethodName) prog_1_method_8_code (3 : Nat) (Option.some Jvm.ClassFile.FieldType.int) ∈ TG := tg_3 233 rfl rfl
theorem kw_4_13 : Jvm.Cond.methodLink "BondWarehouseLaw" (57 : Nat) ({ cls := "BondWarehouse", name := "weigh", desc := "(II)I" } : Jvm.MethodName) ∈ TG := tg_4 13 rfl rfl
theorem kw_4_14 : Jvm.Cond.instanceMethod ({ cls := "BondWarehouse", name := "weigh", desc := "(II)I" } : Jvm.MethodName) ∈ TG := tg_4 14 rfl rfl
theorem kw_4_15 : Jvm.Cond.selects "BondWarehouse" ({ cls := "BondWarehouse", name := "weigh", desc := "(II)I" } : Jvm.MethodName) ({ cls := "BondWarehouse", name := "weigh", desc := "(II)I" } : Jvm.MethodName) ∈ TG := tg_4 15 rfl rfl
theorem kw_4_16 : Jvm.Cond.code ({ cls := "BondWarehouse", name := "weigh", desc := "(II)I" } : Jvm.MethodName) prog_1_method_9_code (3 : Nat) (Option.some Jvm.ClassFile.FieldType.int) ∈ TG := tg_4 16 rfl rfl
theorem kw_4_44 : Jvm.Cond.methodLink "BondWarehouseLaw" (60 : Nat) ({ cls := "BondWarehouse", name := "lock", desc := "(I)I" } : Jvm.MethodName) ∈ TG := tg_4 44 rfl rfl
theorem kw_4_45 : Jvm.Cond.instanceMethod ({ cls := "BondWarehouse", name := "lock", desc := "(I)I" } : Jvm.MethodName) ∈ TG := tg_4 45 rfl rfl
theorem kw_4_46 : Jvm.Cond.selects "BondWarehouse" ({ cls := "BondWarehouse", name := "lock", desc := "(I)I" } : Jvm.MethodName) ({ cls := "BondWarehouse", name := "lock", desc := "(I)I" } : Jvm.MethodName) ∈ TG := tg_4 46 rfl rfl
theorem kw_4_47 : Jvm.Cond.code ({ cls := "BondWarehouse", name := "lock", desc := "(I)I" } : Jvm.MethodName) prog_1_method_10_code (2 : Nat) (Option.some Jvm.ClassFile.FieldType.int) ∈ TG := tg_4 47 rfl rfl
theorem kw_4_55 : Jvm.Cond.methodLink "BondWarehouseLaw" (64 : Nat) ({ cls := "BondWarehouse", name := "open", desc := "(I)I" } : Jvm.MethodName) ∈ TG := tg_4 55 rfl rfl
theorem kw_4_56 : Jvm.Cond.instanceMethod ({ cls := "BondWarehouse", name := "open", desc := "(I)I" } : Jvm.MethodName) ∈ TG := tg_4 56 rfl rfl
theorem kw_4_57 : Jvm.Cond.selects "BondWarehouse" ({ cls := "BondWarehouse", name := "open", desc := "(I)I" } : Jvm.MethodName) ({ cls := "BondWarehouse", name := "open", desc := "(I)I" } : Jvm.MethodName) ∈ TG := tg_4 57 rfl rfl
theorem kw_4_58 : Jvm.Cond.code ({ cls := "BondWarehouse", name := "open", desc := "(I)I" } : Jvm.MethodName) prog_1_method_11_code (2 : Nat) (Option.some Jvm.ClassFile.FieldType.int) ∈ TG := tg_4 58 rfl rfl
theorem kw_4_66 : Jvm.Cond.methodLink "BondWarehouseLaw" (67 : Nat) ({ cls := "BondWarehouse", name := "breakSeal", desc := "(I)I" } : Jvm.MethodName) ∈ TG := tg_4 66 rfl rfl
theorem kw_4_67 : Jvm.Cond.instanceMethod ({ cls := "BondWarehouse", name := "breakSeal", desc := "(I)I" } : Jvm.MethodName) ∈ TG := tg_4 67 rfl rfl
theorem kw_4_68 : Jvm.Cond.selects "BondWarehouse" ({ cls := "BondWarehouse", name := "breakSeal", desc := "(I)I" } : Jvm.MethodName) ({ cls := "BondWarehouse", name := "breakSeal", desc := "(I)I" } : Jvm.MethodName) ∈ TG := tg_4 68 rfl rfl
theorem kw_4_69 : Jvm.Cond.code ({ cls := "BondWarehouse", name := "breakSeal", desc := "(I)I" } : Jvm.MethodName) prog_1_method_12_code (2 : Nat) (Option.some Jvm.ClassFile.FieldType.int) ∈ TG := tg_4 69 rfl rfl
theorem kw_4_77 : Jvm.Cond.methodLink "BondWarehouseLaw" (70 : Nat) ({ cls := "BondWarehouse", name := "deposit", desc := "(I)I" } : Jvm.MethodName) ∈ TG := tg_4 77 rfl rfl
theorem kw_4_78 : Jvm.Cond.instanceMethod ({ cls := "BondWarehouse", name := "deposit", desc := "(I)I" } : Jvm.MethodName) ∈ TG := tg_4 78 rfl rfl
theorem kw_4_79 : Jvm.Cond.selects "BondWarehouse" ({ cls := "BondWarehouse", name := "deposit", desc := "(I)I" } : Jvm.MethodName) ({ cls := "BondWarehouse", name := "deposit", desc := "(I)I" } : Jvm.MethodName) ∈ TG := tg_4 79 rfl rfl
theorem kw_4_80 : Jvm.Cond.code ({ cls := "BondWarehouse", name := "deposit", desc := "(I)I" } : Jvm.MethodName) prog_1_method_13_code (2 : Nat) (Option.some Jvm.ClassFile.FieldType.int) ∈ TG := tg_4 80 rfl rfl
theorem kw_4_98 : Jvm.Cond.methodLink "BondWarehouseLaw" (73 : Nat) ({ cls := "BondWarehouse", name := "setBond", desc := "(I)I" } : Jvm.MethodName) ∈ TG := tg_4 98 rfl rfl
theorem kw_4_99 : Jvm.Cond.instanceMethod ({ cls := "BondWarehouse", name := "setBond", desc := "(I)I" } : Jvm.MethodName) ∈ TG := tg_4 99 rfl rfl
theorem kw_4_100 : Jvm.Cond.selects "BondWarehouse" ({ cls := "BondWarehouse", name := "setBond", desc := "(I)I" } : Jvm.MethodName) ({ cls := "BondWarehouse", name := "setBond", desc := "(I)I" } : Jvm.MethodName) ∈ TG := tg_4 100 rfl rfl
theorem kw_4_101 : Jvm.Cond.code ({ cls := "BondWarehouse", name := "setBond", desc := "(I)I" } : Jvm.MethodName) prog_1_method_14_code (2 : Nat) (Option.some Jvm.ClassFile.FieldType.int) ∈ TG := tg_4 101 rfl rfl
theorem kw_4_111 : Jvm.Cond.methodLink "BondWarehouseLaw" (76 : Nat) ({ cls := "BondWarehouse", name := "setRateByValue", desc := "(II)I" } : Jvm.MethodName) ∈ TG := tg_4 111 rfl rfl
theorem kw_4_112 : Jvm.Cond.instanceMethod ({ cls := "BondWarehouse", name := "setRateByValue", desc := "(II)I" } : Jvm.MethodName) ∈ TG := tg_4 112 rfl rfl
theorem kw_4_113 : Jvm.Cond.selects "BondWarehouse" ({ cls := "BondWarehouse", name := "setRateByValue", desc := "(II)I" } : Jvm.MethodName) ({ cls := "BondWarehouse", name := "setRateByValue", desc := "(II)I" } : Jvm.MethodName) ∈ TG := tg_4 113 rfl rfl
theorem kw_4_114 : Jvm.Cond.code ({ cls := "BondWarehouse", name := "setRateByValue", desc := "(II)I" } : Jvm.MethodName) prog_1_method_15_code (3 : Nat) (Option.some Jvm.ClassFile.FieldType.int) ∈ TG := tg_4 114 rfl rfl
theorem kw_4_122 : Jvm.Cond.methodLink "BondWarehouseLaw" (79 : Nat) ({ cls := "BondWarehouse", name := "setRateByWeight", desc := "(II)I" } : Jvm.MethodName) ∈ TG := tg_4 122 rfl rfl
theorem kw_4_123 : Jvm.Cond.instanceMethod ({ cls := "BondWarehouse", name := "setRateByWeight", desc := "(II)I" } : Jvm.MethodName) ∈ TG := tg_4 123 rfl rfl
theorem kw_4_124 : Jvm.Cond.selects "BondWarehouse" ({ cls := "BondWarehouse", name := "setRateByWeight", desc := "(II)I" } : Jvm.MethodName) ({ cls := "BondWarehouse", name := "setRateByWeight", desc := "(II)I" } : Jvm.MethodName) ∈ TG := tg_4 124 rfl rfl
theorem kw_4_125 : Jvm.Cond.code ({ cls := "BondWarehouse", name := "setRateByWeight", desc := "(II)I" } : Jvm.MethodName) prog_1_method_16_code (3 : Nat) (Option.some Jvm.ClassFile.FieldType.int) ∈ TG := tg_4 125 rfl rfl
theorem kw_4_133 : Jvm.Cond.methodLink "BondWarehouseLaw" (82 : Nat) ({ cls := "BondWarehouse", name := "pass", desc := "(I)I" } : Jvm.MethodName) ∈ TG := tg_4 133 rfl rfl
theorem kw_4_134 : Jvm.Cond.instanceMethod ({ cls := "BondWarehouse", name := "pass", desc := "(I)I" } : Jvm.MethodName) ∈ TG := tg_4 134 rfl rfl
theorem kw_4_135 : Jvm.Cond.selects "BondWarehouse" ({ cls := "BondWarehouse", name := "pass", desc := "(I)I" } : Jvm.MethodName) ({ cls := "BondWarehouse", name := "pass", desc := "(I)I" } : Jvm.MethodName) ∈ TG := tg_4 135 rfl rfl
theorem kw_4_136 : Jvm.Cond.code ({ cls := "BondWarehouse", name := "pass", desc := "(I)I" } : Jvm.MethodName) prog_1_method_17_code (2 : Nat) (Option.some Jvm.ClassFile.FieldType.int) ∈ TG := tg_4 136 rfl rfl
theorem kw_6_96 : Jvm.Cond.methodLink "BondWarehouseLaw" (200 : Nat) ({ cls := "BondWarehouse", name := "undo", desc := "()I" } : Jvm.MethodName) ∈ TG := tg_6 96 rfl rfl
theorem kw_6_97 : Jvm.Cond.instanceMethod ({ cls := "BondWarehouse", name := "undo", desc := "()I" } : Jvm.MethodName) ∈ TG := tg_6 97 rfl rfl
theorem kw_6_98 : Jvm.Cond.selects "BondWarehouse" ({ cls := "BondWarehouse", name := "undo", desc := "()I" } : Jvm.MethodName) ({ cls := "BondWarehouse", name := "undo", desc := "()I" } : Jvm.MethodName) ∈ TG := tg_6 98 rfl rfl
theorem kw_6_99 : Jvm.Cond.code ({ cls := "BondWarehouse", name := "undo", desc := "()I" } : Jvm.MethodName) prog_1_method_81_code (1 : Nat) (Option.some Jvm.ClassFile.FieldType.int) ∈ TG := tg_6 99 rfl rfl
theorem kw_6_108 : Jvm.Cond.methodLink "BondWarehouseLaw" (203 : Nat) ({ cls := "BondWarehouse", name := "keep", desc := "(I)I" } : Jvm.MethodName) ∈ TG := tg_6 108 rfl rfl
theorem kw_6_109 : Jvm.Cond.instanceMethod ({ cls := "BondWarehouse", name := "keep", desc := "(I)I" } : Jvm.MethodName) ∈ TG := tg_6 109 rfl rfl
theorem kw_6_110 : Jvm.Cond.selects "BondWarehouse" ({ cls := "BondWarehouse", name := "keep", desc := "(I)I" } : Jvm.MethodName) ({ cls := "BondWarehouse", name := "keep", desc := "(I)I" } : Jvm.MethodName) ∈ TG := tg_6 110 rfl rfl
theorem kw_6_111 : Jvm.Cond.code ({ cls := "BondWarehouse", name := "keep", desc := "(I)I" } : Jvm.MethodName) prog_1_method_83_code (2 : Nat) (Option.some Jvm.ClassFile.FieldType.int) ∈ TG := tg_6 111 rfl rfl
theorem kw_6_123 : Jvm.Cond.methodLink "BondWarehouseLaw" (206 : Nat) ({ cls := "BondWarehouse", name := "goBack", desc := "(I)I" } : Jvm.MethodName) ∈ TG := tg_6 123 rfl rfl
theorem kw_6_124 : Jvm.Cond.instanceMethod ({ cls := "BondWarehouse", name := "goBack", desc := "(I)I" } : Jvm.MethodName) ∈ TG := tg_6 124 rfl rfl
theorem kw_6_125 : Jvm.Cond.selects "BondWarehouse" ({ cls := "BondWarehouse", name := "goBack", desc := "(I)I" } : Jvm.MethodName) ({ cls := "BondWarehouse", name := "goBack", desc := "(I)I" } : Jvm.MethodName) ∈ TG := tg_6 125 rfl rfl
theorem kw_6_126 : Jvm.Cond.code ({ cls := "BondWarehouse", name := "goBack", desc := "(I)I" } : Jvm.MethodName) prog_1_method_84_code (2 : Nat) (Option.some Jvm.ClassFile.FieldType.int) ∈ TG := tg_6 126 rfl rfl
theorem kw_6_152 : Jvm.Cond.methodLink "BondWarehouseLaw" (19 : Nat) ({ cls := "BondWarehouse", name := "whyNoEntry", desc := "(IIII)I" } : Jvm.MethodName) ∈ TG := tg_6 152 rfl rfl
theorem kw_6_153 : Jvm.Cond.instanceMethod ({ cls := "BondWarehouse", name := "whyNoEntry", desc := "(IIII)I" } : Jvm.MethodName) ∈ TG := tg_6 153 rfl rfl
theorem kw_6_154 : Jvm.Cond.selects "BondWarehouse" ({ cls := "BondWarehouse", name := "whyNoEntry", desc := "(IIII)I" } : Jvm.MethodName) ({ cls := "BondWarehouse", name := "whyNoEntry", desc := "(IIII)I" } : Jvm.MethodName) ∈ TG := tg_6 154 rfl rfl
theorem kw_6_155 : Jvm.Cond.code ({ cls := "BondWarehouse", name := "whyNoEntry", desc := "(IIII)I" } : Jvm.MethodName) prog_1_method_64_code (5 : Nat) (Option.some Jvm.ClassFile.FieldType.int) ∈ TG := tg_6 155 rfl rfl
theorem kw_6_137 : Jvm.Cond.methodLink "BondWarehouseLaw" (22 : Nat) ({ cls := "BondWarehouse", name := "isProved", desc := "(I)Z" } : Jvm.MethodName) ∈ TG := tg_6 137 rfl rfl
theorem kw_6_138 : Jvm.Cond.instanceMethod ({ cls := "BondWarehouse", name := "isProved", desc := "(I)Z" } : Jvm.MethodName) ∈ TG := tg_6 138 rfl rfl
theorem kw_6_139 : Jvm.Cond.selects "BondWarehouse" ({ cls := "BondWarehouse", name := "isProved", desc := "(I)Z" } : Jvm.MethodName) ({ cls := "BondWarehouse", name := "isProved", desc := "(I)Z" } : Jvm.MethodName) ∈ TG := tg_6 139 rfl rfl
theorem kw_6_140 : Jvm.Cond.code ({ cls := "BondWarehouse", name := "isProved", desc := "(I)Z" } : Jvm.MethodName) prog_1_method_28_code (2 : Nat) (Option.some Jvm.ClassFile.FieldType.boolean) ∈ TG := tg_6 140 rfl rfl
theorem kw_6_197 : Jvm.Cond.methodLink "BondWarehouseLaw" (29 : Nat) ({ cls := "BondWarehouse", name := "isOverdue", desc := "(I)Z" } : Jvm.MethodName) ∈ TG := tg_6 197 rfl rfl
theorem kw_6_198 : Jvm.Cond.instanceMethod ({ cls := "BondWarehouse", name := "isOverdue", desc := "(I)Z" } : Jvm.MethodName) ∈ TG := tg_6 198 rfl rfl
theorem kw_6_199 : Jvm.Cond.selects "BondWarehouse" ({ cls := "BondWarehouse", name := "isOverdue", desc := "(I)Z" } : Jvm.MethodName) ({ cls := "BondWarehouse", name := "isOverdue", desc := "(I)Z" } : Jvm.MethodName) ∈ TG := tg_6 199 rfl rfl
theorem kw_6_200 : Jvm.Cond.code ({ cls := "BondWarehouse", name := "isOverdue", desc := "(I)Z" } : Jvm.MethodName) prog_1_method_29_code (2 : Nat) (Option.some Jvm.ClassFile.FieldType.boolean) ∈ TG := tg_6 200 rfl rfl
theorem kw_6_144 : Jvm.Cond.methodLink "BondWarehouseLaw" (32 : Nat) ({ cls := "BondWarehouse", name := "isLocked", desc := "(I)Z" } : Jvm.MethodName) ∈ TG := tg_6 144 rfl rfl
theorem kw_6_145 : Jvm.Cond.instanceMethod ({ cls := "BondWarehouse", name := "isLocked", desc := "(I)Z" } : Jvm.MethodName) ∈ TG := tg_6 145 rfl rfl
theorem kw_6_146 : Jvm.Cond.selects "BondWarehouse" ({ cls := "BondWarehouse", name := "isLocked", desc := "(I)Z" } : Jvm.MethodName) ({ cls := "BondWarehouse", name := "isLocked", desc := "(I)Z" } : Jvm.MethodName) ∈ TG := tg_6 146 rfl rfl
theorem kw_6_147 : Jvm.Cond.code ({ cls := "BondWarehouse", name := "isLocked", desc := "(I)Z" } : Jvm.MethodName) prog_1_method_34_code (2 : Nat) (Option.some Jvm.ClassFile.FieldType.boolean) ∈ TG := tg_6 147 rfl rfl
theorem kw_6_161 : Jvm.Cond.methodLink "BondWarehouseLaw" (35 : Nat) ({ cls := "BondWarehouse", name := "isSealBroken", desc := "(I)Z" } : Jvm.MethodName) ∈ TG := tg_6 161 rfl rfl
theorem kw_6_162 : Jvm.Cond.instanceMethod ({ cls := "BondWarehouse", name := "isSealBroken", desc := "(I)Z" } : Jvm.MethodName) ∈ TG := tg_6 162 rfl rfl
theorem kw_6_163 : Jvm.Cond.selects "BondWarehouse" ({ cls := "BondWarehouse", name := "isSealBroken", desc := "(I)Z" } : Jvm.MethodName) ({ cls := "BondWarehouse", name := "isSealBroken", desc := "(I)Z" } : Jvm.MethodName) ∈ TG := tg_6 163 rfl rfl
theorem kw_6_164 : Jvm.Cond.code ({ cls := "BondWarehouse", name := "isSealBroken", desc := "(I)Z" } : Jvm.MethodName) prog_1_method_36_code (2 : Nat) (Option.some Jvm.ClassFile.FieldType.boolean) ∈ TG := tg_6 164 rfl rfl
theorem kw_4_149 : Jvm.Cond.methodLink "BondWarehouseLaw" (85 : Nat) ({ cls := "BondWarehouse", name := "entryAt", desc := "(I)I" } : Jvm.MethodName) ∈ TG := tg_4 149 rfl rfl
theorem kw_4_150 : Jvm.Cond.instanceMethod ({ cls := "BondWarehouse", name := "entryAt", desc := "(I)I" } : Jvm.MethodName) ∈ TG := tg_4 150 rfl rfl
theorem kw_4_151 : Jvm.Cond.selects "BondWarehouse" ({ cls := "BondWarehouse", name := "entryAt", desc := "(I)I" } : Jvm.MethodName) ({ cls := "BondWarehouse", name := "entryAt", desc := "(I)I" } : Jvm.MethodName) ∈ TG := tg_4 151 rfl rfl
theorem kw_4_152 : Jvm.Cond.code ({ cls := "BondWarehouse", name := "entryAt", desc := "(I)I" } : Jvm.MethodName) prog_1_method_22_code (2 : Nat) (Option.some Jvm.ClassFile.FieldType.int) ∈ TG := tg_4 152 rfl rfl
theorem kw_4_157 : Jvm.Cond.methodLink "BondWarehouseLaw" (88 : Nat) ({ cls := "BondWarehouse", name := "kindOf", desc := "(I)I" } : Jvm.MethodName) ∈ TG := tg_4 157 rfl rfl
theorem kw_4_158 : Jvm.Cond.instanceMethod ({ cls := "BondWarehouse", name := "kindOf", desc := "(I)I" } : Jvm.MethodName) ∈ TG := tg_4 158 rfl rfl
theorem kw_4_159 : Jvm.Cond.selects "BondWarehouse" ({ cls := "BondWarehouse", name := "kindOf", desc := "(I)I" } : Jvm.MethodName) ({ cls := "BondWarehouse", name := "kindOf", desc := "(I)I" } : Jvm.MethodName) ∈ TG := tg_4 159 rfl rfl
theorem kw_4_160 : Jvm.Cond.code ({ cls := "BondWarehouse", name := "kindOf", desc := "(I)I" } : Jvm.MethodName) prog_1_method_23_code (2 : Nat) (Option.some Jvm.ClassFile.FieldType.int) ∈ TG := tg_4 160 rfl rfl
theorem kw_4_170 : Jvm.Cond.methodLink "BondWarehouseLaw" (91 : Nat) ({ cls := "BondWarehouse", name := "weightOf", desc := "(I)I" } : Jvm.MethodName) ∈ TG := tg_4 170 rfl rfl
theorem kw_4_171 : Jvm.Cond.instanceMethod ({ cls := "BondWarehouse", name := "weightOf", desc := "(I)I" } : Jvm.MethodName) ∈ TG := tg_4 171 rfl rfl
theorem kw_4_172 : Jvm.Cond.selects "BondWarehouse" ({ cls := "BondWarehouse", name := "weightOf", desc := "(I)I" } : Jvm.MethodName) ({ cls := "BondWarehouse", name := "weightOf", desc := "(I)I" } : Jvm.MethodName) ∈ TG := tg_4 172 rfl rfl
theorem kw_4_173 : Jvm.Cond.code ({ cls := "BondWarehouse", name := "weightOf", desc := "(I)I" } : Jvm.MethodName) prog_1_method_24_code (2 : Nat) (Option.some Jvm.ClassFile.FieldType.int) ∈ TG := tg_4 173 rfl rfl
theorem kw_4_177 : Jvm.Cond.methodLink "BondWarehouseLaw" (94 : Nat) ({ cls := "BondWarehouse", name := "valueOf", desc := "(I)I" } : Jvm.MethodName) ∈ TG := tg_4 177 rfl rfl
theorem kw_4_178 : Jvm.Cond.instanceMethod ({ cls := "BondWarehouse", name := "valueOf", desc := "(I)I" } : Jvm.MethodName) ∈ TG := tg_4 178 rfl rfl
theorem kw_4_179 : Jvm.Cond.selects "BondWarehouse" ({ cls := "BondWarehouse", name := "valueOf", desc := "(I)I" } : Jvm.MethodName) ({ cls := "BondWarehouse", name := "valueOf", desc := "(I)I" } : Jvm.MethodName) ∈ TG := tg_4 179 rfl rfl
theorem kw_4_180 : Jvm.Cond.code ({ cls := "BondWarehouse", name := "valueOf", desc := "(I)I" } : Jvm.MethodName) prog_1_method_25_code (2 : Nat) (Option.some Jvm.ClassFile.FieldType.int) ∈ TG := tg_4 180 rfl rfl
theorem kw_4_184 : Jvm.Cond.methodLink "BondWarehouseLaw" (97 : Nat) ({ cls := "BondWarehouse", name := "chamberOf", desc := "(I)I" } : Jvm.MethodName) ∈ TG := tg_4 184 rfl rfl
theorem kw_4_185 : Jvm.Cond.instanceMethod ({ cls := "BondWarehouse", name := "chamberOf", desc := "(I)I" } : Jvm.MethodName) ∈ TG := tg_4 185 rfl rfl
theorem kw_4_186 : Jvm.Cond.selects "BondWarehouse" ({ cls := "BondWarehouse", name := "chamberOf", desc := "(I)I" } : Jvm.MethodName) ({ cls := "BondWarehouse", name := "chamberOf", desc := "(I)I" } : Jvm.MethodName) ∈ TG := tg_4 186 rfl rfl
theorem kw_4_187 : Jvm.Cond.code ({ cls := "BondWarehouse", name := "chamberOf", desc := "(I)I" } : Jvm.MethodName) prog_1_method_26_code (2 : Nat) (Option.some Jvm.ClassFile.FieldType.int) ∈ TG := tg_4 187 rfl rfl
theorem kw_4_191 : Jvm.Cond.methodLink "BondWarehouseLaw" (100 : Nat) ({ cls := "BondWarehouse", name := "ageOf", desc := "(I)I" } : Jvm.MethodName) ∈ TG := tg_4 191 rfl rfl
theorem kw_4_192 : Jvm.Cond.instanceMethod ({ cls := "BondWarehouse", name := "ageOf", desc := "(I)I" } : Jvm.MethodName) ∈ TG := tg_4 192 rfl rfl
theorem kw_4_193 : Jvm.Cond.selects "BondWarehouse" ({ cls := "BondWarehouse", name := "ageOf", desc := "(I)I" } : Jvm.MethodName) ({ cls := "BondWarehouse", name := "ageOf", desc := "(I)I" } : Jvm.MethodName) ∈ TG := tg_4 193 rfl rfl
theorem kw_4_194 : Jvm.Cond.code ({ cls := "BondWarehouse", name := "ageOf", desc := "(I)I" } : Jvm.MethodName) prog_1_method_27_code (2 : Nat) (Option.some Jvm.ClassFile.FieldType.int) ∈ TG := tg_4 194 rfl rfl
theorem kw_4_199 : Jvm.Cond.methodLink "BondWarehouseLaw" (103 : Nat) ({ cls := "BondWarehouse", name := "dutyOfPart", desc := "(II)I" } : Jvm.MethodName) ∈ TG := tg_4 199 rfl rfl
theorem kw_4_200 : Jvm.Cond.instanceMethod ({ cls := "BondWarehouse", name := "dutyOfPart", desc := "(II)I" } : Jvm.MethodName) ∈ TG := tg_4 200 rfl rfl
theorem kw_4_201 : Jvm.Cond.selects "BondWarehouse" ({ cls := "BondWarehouse", name := "dutyOfPart", desc := "(II)I" } : Jvm.MethodName) ({ cls := "BondWarehouse", name := "dutyOfPart", desc := "(II)I" } : Jvm.MethodName) ∈ TG := tg_4 201 rfl rfl
theorem kw_4_202 : Jvm.Cond.code ({ cls := "BondWarehouse", name := "dutyOfPart", desc := "(II)I" } : Jvm.MethodName) prog_1_method_30_code (4 : Nat) (Option.some Jvm.ClassFile.FieldType.int) ∈ TG := tg_4 202 rfl rfl
theorem kw_4_210 : Jvm.Cond.methodLink "BondWarehouseLaw" (106 : Nat) ({ cls := "BondWarehouse", name := "dutyOf", desc := "(I)I" } : Jvm.MethodName) ∈ TG := tg_4 210 rfl rfl
theorem kw_4_211 : Jvm.Cond.instanceMethod ({ cls := "BondWarehouse", name := "dutyOf", desc := "(I)I" } : Jvm.MethodName) ∈ TG := tg_4 211 rfl rfl
theorem kw_4_212 : Jvm.Cond.selects "BondWarehouse" ({ cls := "BondWarehouse", name := "dutyOf", desc := "(I)I" } : Jvm.MethodName) ({ cls := "BondWarehouse", name := "dutyOf", desc := "(I)I" } : Jvm.MethodName) ∈ TG := tg_4 212 rfl rfl
theorem kw_4_213 : Jvm.Cond.code ({ cls := "BondWarehouse", name := "dutyOf", desc := "(I)I" } : Jvm.MethodName) prog_1_method_31_code (3 : Nat) (Option.some Jvm.ClassFile.FieldType.int) ∈ TG := tg_4 213 rfl rfl
theorem kw_4_218 : Jvm.Cond.methodLink "BondWarehouseLaw" (109 : Nat) ({ cls := "BondWarehouse", name := "allowedWaste", desc := "(I)I" } : Jvm.MethodName) ∈ TG := tg_4 218 rfl rfl
theorem kw_4_219 : Jvm.Cond.instanceMethod ({ cls := "BondWarehouse", name := "allowedWaste", desc := "(I)I" } : Jvm.MethodName) ∈ TG := tg_4 219 rfl rfl
theorem kw_4_220 : Jvm.Cond.selects "BondWarehouse" ({ cls := "BondWarehouse", name := "allowedWaste", desc := "(I)I" } : Jvm.MethodName) ({ cls := "BondWarehouse", name := "allowedWaste", desc := "(I)I" } : Jvm.MethodName) ∈ TG := tg_4 220 rfl rfl
theorem kw_4_221 : Jvm.Cond.code ({ cls := "BondWarehouse", name := "allowedWaste", desc := "(I)I" } : Jvm.MethodName) prog_1_method_32_code (2 : Nat) (Option.some Jvm.ClassFile.FieldType.int) ∈ TG := tg_4 221 rfl rfl
theorem kw_4_226 : Jvm.Cond.methodLink "BondWarehouseLaw" (112 : Nat) ({ cls := "BondWarehouse", name := "sealOf", desc := "(I)I" } : Jvm.MethodName) ∈ TG := tg_4 226 rfl rfl
theorem kw_4_227 : Jvm.Cond.instanceMethod ({ cls := "BondWarehouse", name := "sealOf", desc := "(I)I" } : Jvm.MethodName) ∈ TG := tg_4 227 rfl rfl
theorem kw_4_228 : Jvm.Cond.selects "BondWarehouse" ({ cls := "BondWarehouse", name := "sealOf", desc := "(I)I" } : Jvm.MethodName) ({ cls := "BondWarehouse", name := "sealOf", desc := "(I)I" } : Jvm.MethodName) ∈ TG := tg_4 228 rfl rfl
theorem kw_4_229 : Jvm.Cond.code ({ cls := "BondWarehouse", name := "sealOf", desc := "(I)I" } : Jvm.MethodName) prog_1_method_35_code (2 : Nat) (Option.some Jvm.ClassFile.FieldType.int) ∈ TG := tg_4 229 rfl rfl
theorem kw_5_12 : Jvm.Cond.methodLink "BondWarehouseLaw" (118 : Nat) ({ cls := "BondWarehouse", name := "roomIn", desc := "(I)I" } : Jvm.MethodName) ∈ TG := tg_5 12 rfl rfl
theorem kw_5_13 : Jvm.Cond.instanceMethod ({ cls := "BondWarehouse", name := "roomIn", desc := "(I)I" } : Jvm.MethodName) ∈ TG := tg_5 13 rfl rfl
theorem kw_5_14 : Jvm.Cond.selects "BondWarehouse" ({ cls := "BondWarehouse", name := "roomIn", desc := "(I)I" } : Jvm.MethodName) ({ cls := "BondWarehouse", name := "roomIn", desc := "(I)I" } : Jvm.MethodName) ∈ TG := tg_5 14 rfl rfl
theorem kw_5_15 : Jvm.Cond.code ({ cls := "BondWarehouse", name := "roomIn", desc := "(I)I" } : Jvm.MethodName) prog_1_method_38_code (2 : Nat) (Option.some Jvm.ClassFile.FieldType.int) ∈ TG := tg_5 15 rfl rfl
theorem kw_5_33 : Jvm.Cond.methodLink "BondWarehouseLaw" (124 : Nat) ({ cls := "BondWarehouse", name := "receiptWeight", desc := "(I)I" } : Jvm.MethodName) ∈ TG := tg_5 33 rfl rfl
theorem kw_5_34 : Jvm.Cond.instanceMethod ({ cls := "BondWarehouse", name := "receiptWeight", desc := "(I)I" } : Jvm.MethodName) ∈ TG := tg_5 34 rfl rfl
theorem kw_5_35 : Jvm.Cond.selects "BondWarehouse" ({ cls := "BondWarehouse", name := "receiptWeight", desc := "(I)I" } : Jvm.MethodName) ({ cls := "BondWarehouse", name := "receiptWeight", desc := "(I)I" } : Jvm.MethodName) ∈ TG := tg_5 35 rfl rfl
theorem kw_5_36 : Jvm.Cond.code ({ cls := "BondWarehouse", name := "receiptWeight", desc := "(I)I" } : Jvm.MethodName) prog_1_method_41_code (2 : Nat) (Option.some Jvm.ClassFile.FieldType.int) ∈ TG := tg_5 36 rfl rfl
theorem kw_5_40 : Jvm.Cond.methodLink "BondWarehouseLaw" (127 : Nat) ({ cls := "BondWarehouse", name := "receiptDuty", desc := "(I)I" } : Jvm.MethodName) ∈ TG := tg_5 40 rfl rfl
theorem kw_5_41 : Jvm.Cond.instanceMethod ({ cls := "BondWarehouse", name := "receiptDuty", desc := "(I)I" } : Jvm.MethodName) ∈ TG := tg_5 41 rfl rfl
theorem kw_5_42 : Jvm.Cond.selects "BondWarehouse" ({ cls := "BondWarehouse", name := "receiptDuty", desc := "(I)I" } : Jvm.MethodName) ({ cls := "BondWarehouse", name := "receiptDuty", desc := "(I)I" } : Jvm.MethodName) ∈ TG := tg_5 42 rfl rfl
theorem kw_5_43 : Jvm.Cond.code ({ cls := "BondWarehouse", name := "receiptDuty", desc := "(I)I" } : Jvm.MethodName) prog_1_method_42_code (2 : Nat) (Option.some Jvm.ClassFile.FieldType.int) ∈ TG := tg_5 43 rfl rfl
theorem kw_5_47 : Jvm.Cond.methodLink "BondWarehouseLaw" (130 : Nat) ({ cls := "BondWarehouse", name := "receiptAge", desc := "(I)I" } : Jvm.MethodName) ∈ TG := tg_5 47 rfl rfl
theorem kw_5_48 : Jvm.Cond.instanceMethod ({ cls := "BondWarehouse", name := "receiptAge", desc := "(I)I" } : Jvm.MethodName) ∈ TG := tg_5 48 rfl rfl
theorem kw_5_49 : Jvm.Cond.selects "BondWarehouse" ({ cls := "BondWarehouse", name := "receiptAge", desc := "(I)I" } : Jvm.MethodName) ({ cls := "BondWarehouse", name := "receiptAge", desc := "(I)I" } : Jvm.MethodName) ∈ TG := tg_5 49 rfl rfl
theorem kw_5_50 : Jvm.Cond.code ({ cls := "BondWarehouse", name := "receiptAge", desc := "(I)I" } : Jvm.MethodName) prog_1_method_43_code (2 : Nat) (Option.some Jvm.ClassFile.FieldType.int) ∈ TG := tg_5 50 rfl rfl
theorem kw_5_54 : Jvm.Cond.methodLink "BondWarehouseLaw" (133 : Nat) ({ cls := "BondWarehouse", name := "rateByValue", desc := "(I)I" } : Jvm.MethodName) ∈ TG := tg_5 54 rfl rfl
theorem kw_5_55 : Jvm.Cond.instanceMethod ({ cls := "BondWarehouse", name := "rateByValue", desc := "(I)I" } : Jvm.MethodName) ∈ TG := tg_5 55 rfl rfl
theorem kw_5_56 : Jvm.Cond.selects "BondWarehouse" ({ cls := "BondWarehouse", name := "rateByValue", desc := "(I)I" } : Jvm.MethodName) ({ cls := "BondWarehouse", name := "rateByValue", desc := "(I)I" } : Jvm.MethodName) ∈ TG := tg_5 56 rfl rfl
theorem kw_5_57 : Jvm.Cond.code ({ cls := "BondWarehouse", name := "rateByValue", desc := "(I)I" } : Jvm.MethodName) prog_1_method_44_code (2 : Nat) (Option.some Jvm.ClassFile.FieldType.int) ∈ TG := tg_5 57 rfl rfl
theorem kw_5_79 : Jvm.Cond.methodLink "BondWarehouseLaw" (142 : Nat) ({ cls := "BondWarehouse", name := "withdrawn", desc := "(I)I" } : Jvm.MethodName) ∈ TG := tg_5 79 rfl rfl
theorem kw_5_80 : Jvm.Cond.instanceMethod ({ cls := "BondWarehouse", name := "withdrawn", desc := "(I)I" } : Jvm.MethodName) ∈ TG := tg_5 80 rfl rfl
theorem kw_5_81 : Jvm.Cond.selects "BondWarehouse" ({ cls := "BondWarehouse", name := "withdrawn", desc := "(I)I" } : Jvm.MethodName) ({ cls := "BondWarehouse", name := "withdrawn", desc := "(I)I" } : Jvm.MethodName) ∈ TG := tg_5 81 rfl rfl
theorem kw_5_82 : Jvm.Cond.code ({ cls := "BondWarehouse", name := "withdrawn", desc := "(I)I" } : Jvm.MethodName) prog_1_method_57_code (2 : Nat) (Option.some Jvm.ClassFile.FieldType.int) ∈ TG := tg_5 82 rfl rfl
theorem kw_5_93 : Jvm.Cond.methodLink "BondWarehouseLaw" (148 : Nat) ({ cls := "BondWarehouse", name := "wasted", desc := "(I)I" } : Jvm.MethodName) ∈ TG := tg_5 93 rfl rfl
theorem kw_5_94 : Jvm.Cond.instanceMethod ({ cls := "BondWarehouse", name := "wasted", desc := "(I)I" } : Jvm.MethodName) ∈ TG := tg_5 94 rfl rfl
theorem kw_5_95 : Jvm.Cond.selects "BondWarehouse" ({ cls := "BondWarehouse", name := "wasted", desc := "(I)I" } : Jvm.MethodName) ({ cls := "BondWarehouse", name := "wasted", desc := "(I)I" } : Jvm.MethodName) ∈ TG := tg_5 95 rfl rfl
theorem kw_5_96 : Jvm.Cond.code ({ cls := "BondWarehouse", name := "wasted", desc := "(I)I" } : Jvm.MethodName) prog_1_method_59_code (2 : Nat) (Option.some Jvm.ClassFile.FieldType.int) ∈ TG := tg_5 96 rfl rfl
theorem kw_5_100 : Jvm.Cond.methodLink "BondWarehouseLaw" (151 : Nat) ({ cls := "BondWarehouse", name := "lost", desc := "(I)I" } : Jvm.MethodName) ∈ TG := tg_5 100 rfl rfl
theorem kw_5_101 : Jvm.Cond.instanceMethod ({ cls := "BondWarehouse", name := "lost", desc := "(I)I" } : Jvm.MethodName) ∈ TG := tg_5 101 rfl rfl
theorem kw_5_102 : Jvm.Cond.selects "BondWarehouse" ({ cls := "BondWarehouse", name := "lost", desc := "(I)I" } : Jvm.MethodName) ({ cls := "BondWarehouse", name := "lost", desc := "(I)I" } : Jvm.MethodName) ∈ TG := tg_5 102 rfl rfl
theorem kw_5_103 : Jvm.Cond.code ({ cls := "BondWarehouse", name := "lost", desc := "(I)I" } : Jvm.MethodName) prog_1_method_60_code (2 : Nat) (Option.some Jvm.ClassFile.FieldType.int) ∈ TG := tg_5 103 rfl rfl
theorem kw_5_107 : Jvm.Cond.methodLink "BondWarehouseLaw" (154 : Nat) ({ cls := "BondWarehouse", name := "drawnBack", desc := "(I)I" } : Jvm.MethodName) ∈ TG := tg_5 107 rfl rfl
theorem kw_5_108 : Jvm.Cond.instanceMethod ({ cls := "BondWarehouse", name := "drawnBack", desc := "(I)I" } : Jvm.MethodName) ∈ TG := tg_5 108 rfl rfl
theorem kw_5_109 : Jvm.Cond.selects "BondWarehouse" ({ cls := "BondWarehouse", name := "drawnBack", desc := "(I)I" } : Jvm.MethodName) ({ cls := "BondWarehouse", name := "drawnBack", desc := "(I)I" } : Jvm.MethodName) ∈ TG := tg_5 109 rfl rfl
theorem kw_5_110 : Jvm.Cond.code ({ cls := "BondWarehouse", name := "drawnBack", desc := "(I)I" } : Jvm.MethodName) prog_1_method_61_code (2 : Nat) (Option.some Jvm.ClassFile.FieldType.int) ∈ TG := tg_5 110 rfl rfl
theorem kw_5_114 : Jvm.Cond.methodLink "BondWarehouseLaw" (157 : Nat) ({ cls := "BondWarehouse", name := "stockByEntries", desc := "(I)I" } : Jvm.MethodName) ∈ TG := tg_5 114 rfl rfl
theorem kw_5_115 : Jvm.Cond.instanceMethod ({ cls := "BondWarehouse", name := "stockByEntries", desc := "(I)I" } : Jvm.MethodName) ∈ TG := tg_5 115 rfl rfl
theorem kw_5_116 : Jvm.Cond.selects "BondWarehouse" ({ cls := "BondWarehouse", name := "stockByEntries", desc := "(I)I" } : Jvm.MethodName) ({ cls := "BondWarehouse", name := "stockByEntries", desc := "(I)I" } : Jvm.MethodName) ∈ TG := tg_5 116 rfl rfl
theorem kw_5_117 : Jvm.Cond.code ({ cls := "BondWarehouse", name := "stockByEntries", desc := "(I)I" } : Jvm.MethodName) prog_1_method_62_code (2 : Nat) (Option.some Jvm.ClassFile.FieldType.int) ∈ TG := tg_5 117 rfl rfl
theorem kw_5_125 : Jvm.Cond.methodLink "BondWarehouseLaw" (160 : Nat) ({ cls := "BondWarehouse", name := "stockByTotals", desc := "(I)I" } : Jvm.MethodName) ∈ TG := tg_5 125 rfl rfl
theorem kw_5_126 : Jvm.Cond.instanceMethod ({ cls := "BondWarehouse", name := "stockByTotals", desc := "(I)I" } : Jvm.MethodName) ∈ TG := tg_5 126 rfl rfl
theorem kw_5_127 : Jvm.Cond.selects "BondWarehouse" ({ cls := "BondWarehouse", name := "stockByTotals", desc := "(I)I" } : Jvm.MethodName) ({ cls := "BondWarehouse", name := "stockByTotals", desc := "(I)I" } : Jvm.MethodName) ∈ TG := tg_5 127 rfl rfl
theorem kw_5_128 : Jvm.Cond.code ({ cls := "BondWarehouse", name := "stockByTotals", desc := "(I)I" } : Jvm.MethodName) prog_1_method_63_code (3 : Nat) (Option.some Jvm.ClassFile.FieldType.int) ∈ TG := tg_5 128 rfl rfl
theorem kw_5_132 : Jvm.Cond.methodLink "BondWarehouseLaw" (163 : Nat) ({ cls := "BondWarehouse", name := "whyNoWithdrawal", desc := "(II)I" } : Jvm.MethodName) ∈ TG := tg_5 132 rfl rfl
theorem kw_5_133 : Jvm.Cond.instanceMethod ({ cls := "BondWarehouse", name := "whyNoWithdrawal", desc := "(II)I" } : Jvm.MethodName) ∈ TG := tg_5 133 rfl rfl
theorem kw_5_134 : Jvm.Cond.selects "BondWarehouse" ({ cls := "BondWarehouse", name := "whyNoWithdrawal", desc := "(II)I" } : Jvm.MethodName) ({ cls := "BondWarehouse", name := "whyNoWithdrawal", desc := "(II)I" } : Jvm.MethodName) ∈ TG := tg_5 134 rfl rfl
theorem kw_5_135 : Jvm.Cond.code ({ cls := "BondWarehouse", name := "whyNoWithdrawal", desc := "(II)I" } : Jvm.MethodName) prog_1_method_65_code (4 : Nat) (Option.some Jvm.ClassFile.FieldType.int) ∈ TG := tg_5 135 rfl rfl
theorem kw_5_140 : Jvm.Cond.methodLink "BondWarehouseLaw" (166 : Nat) ({ cls := "BondWarehouse", name := "whyNoExport", desc := "(II)I" } : Jvm.MethodName) ∈ TG := tg_5 140 rfl rfl
theorem kw_5_141 : Jvm.Cond.instanceMethod ({ cls := "BondWarehouse", name := "whyNoExport", desc := "(II)I" } : Jvm.MethodName) ∈ TG := tg_5 141 rfl rfl
theorem kw_5_142 : Jvm.Cond.selects "BondWarehouse" ({ cls := "BondWarehouse", name := "whyNoExport", desc := "(II)I" } : Jvm.MethodName) ({ cls := "BondWarehouse", name := "whyNoExport", desc := "(II)I" } : Jvm.MethodName) ∈ TG := tg_5 142 rfl rfl
theorem kw_5_143 : Jvm.Cond.code ({ cls := "BondWarehouse", name := "whyNoExport", desc := "(II)I" } : Jvm.MethodName) prog_1_method_66_code (4 : Nat) (Option.some Jvm.ClassFile.FieldType.int) ∈ TG := tg_5 143 rfl rfl
theorem kw_5_148 : Jvm.Cond.methodLink "BondWarehouseLaw" (169 : Nat) ({ cls := "BondWarehouse", name := "whyNoMove", desc := "(II)I" } : Jvm.MethodName) ∈ TG := tg_5 148 rfl rfl
theorem kw_5_149 : Jvm.Cond.instanceMethod ({ cls := "BondWarehouse", name := "whyNoMove", desc := "(II)I" } : Jvm.MethodName) ∈ TG := tg_5 149 rfl rfl
theorem kw_5_150 : Jvm.Cond.selects "BondWarehouse" ({ cls := "BondWarehouse", name := "whyNoMove", desc := "(II)I" } : Jvm.MethodName) ({ cls := "BondWarehouse", name := "whyNoMove", desc := "(II)I" } : Jvm.MethodName) ∈ TG := tg_5 150 rfl rfl
theorem kw_5_151 : Jvm.Cond.code ({ cls := "BondWarehouse", name := "whyNoMove", desc := "(II)I" } : Jvm.MethodName) prog_1_method_67_code (4 : Nat) (Option.some Jvm.ClassFile.FieldType.int) ∈ TG := tg_5 151 rfl rfl
theorem kw_5_156 : Jvm.Cond.methodLink "BondWarehouseLaw" (172 : Nat) ({ cls := "BondWarehouse", name := "whyNoDrawback", desc := "(II)I" } : Jvm.MethodName) ∈ TG := tg_5 156 rfl rfl
theorem kw_5_157 : Jvm.Cond.instanceMethod ({ cls := "BondWarehouse", name := "whyNoDrawback", desc := "(II)I" } : Jvm.MethodName) ∈ TG := tg_5 157 rfl rfl
theorem kw_5_158 : Jvm.Cond.selects "BondWarehouse" ({ cls := "BondWarehouse", name := "whyNoDrawback", desc := "(II)I" } : Jvm.MethodName) ({ cls := "BondWarehouse", name := "whyNoDrawback", desc := "(II)I" } : Jvm.MethodName) ∈ TG := tg_5 158 rfl rfl
theorem kw_5_159 : Jvm.Cond.code ({ cls := "BondWarehouse", name := "whyNoDrawback", desc := "(II)I" } : Jvm.MethodName) prog_1_method_68_code (4 : Nat) (Option.some Jvm.ClassFile.FieldType.int) ∈ TG := tg_5 159 rfl rfl
theorem kw_5_164 : Jvm.Cond.methodLink "BondWarehouseLaw" (175 : Nat) ({ cls := "BondWarehouse", name := "chargeIfWeighed", desc := "(II)I" } : Jvm.MethodName) ∈ TG := tg_5 164 rfl rfl
theorem kw_5_165 : Jvm.Cond.instanceMethod ({ cls := "BondWarehouse", name := "chargeIfWeighed", desc := "(II)I" } : Jvm.MethodName) ∈ TG := tg_5 165 rfl rfl
theorem kw_5_166 : Jvm.Cond.selects "BondWarehouse" ({ cls := "BondWarehouse", name := "chargeIfWeighed", desc := "(II)I" } : Jvm.MethodName) ({ cls := "BondWarehouse", name := "chargeIfWeighed", desc := "(II)I" } : Jvm.MethodName) ∈ TG := tg_5 166 rfl rfl
theorem kw_5_167 : Jvm.Cond.code ({ cls := "BondWarehouse", name := "chargeIfWeighed", desc := "(II)I" } : Jvm.MethodName) prog_1_method_69_code (4 : Nat) (Option.some Jvm.ClassFile.FieldType.int) ∈ TG := tg_5 167 rfl rfl
theorem kw_5_173 : Jvm.Cond.methodLink "BondWarehouseLaw" (178 : Nat) ({ cls := "BondWarehouse", name := "drawbackFor", desc := "(II)I" } : Jvm.MethodName) ∈ TG := tg_5 173 rfl rfl
theorem kw_5_174 : Jvm.Cond.instanceMethod ({ cls := "BondWarehouse", name := "drawbackFor", desc := "(II)I" } : Jvm.MethodName) ∈ TG := tg_5 174 rfl rfl
theorem kw_5_175 : Jvm.Cond.selects "BondWarehouse" ({ cls := "BondWarehouse", name := "drawbackFor", desc := "(II)I" } : Jvm.MethodName) ({ cls := "BondWarehouse", name := "drawbackFor", desc := "(II)I" } : Jvm.MethodName) ∈ TG := tg_5 175 rfl rfl
theorem kw_5_176 : Jvm.Cond.code ({ cls := "BondWarehouse", name := "drawbackFor", desc := "(II)I" } : Jvm.MethodName) prog_1_method_70_code (4 : Nat) (Option.some Jvm.ClassFile.FieldType.int) ∈ TG := tg_5 176 rfl rfl
theorem kw_5_182 : Jvm.Cond.methodLink "BondWarehouseLaw" (181 : Nat) ({ cls := "BondWarehouse", name := "dutyLater", desc := "(II)I" } : Jvm.MethodName) ∈ TG := tg_5 182 rfl rfl
theorem kw_5_183 : Jvm.Cond.instanceMethod ({ cls := "BondWarehouse", name := "dutyLater", desc := "(II)I" } : Jvm.MethodName) ∈ TG := tg_5 183 rfl rfl
theorem kw_5_184 : Jvm.Cond.selects "BondWarehouse" ({ cls := "BondWarehouse", name := "dutyLater", desc := "(II)I" } : Jvm.MethodName) ({ cls := "BondWarehouse", name := "dutyLater", desc := "(II)I" } : Jvm.MethodName) ∈ TG := tg_5 184 rfl rfl
theorem kw_5_185 : Jvm.Cond.code ({ cls := "BondWarehouse", name := "dutyLater", desc := "(II)I" } : Jvm.MethodName) prog_1_method_71_code (4 : Nat) (Option.some Jvm.ClassFile.FieldType.int) ∈ TG := tg_5 185 rfl rfl
theorem kw_5_189 : Jvm.Cond.methodLink "BondWarehouseLaw" (184 : Nat) ({ cls := "BondWarehouse", name := "daysToOverdue", desc := "(I)I" } : Jvm.MethodName) ∈ TG := tg_5 189 rfl rfl
theorem kw_5_190 : Jvm.Cond.instanceMethod ({ cls := "BondWarehouse", name := "daysToOverdue", desc := "(I)I" } : Jvm.MethodName) ∈ TG := tg_5 190 rfl rfl
theorem kw_5_191 : Jvm.Cond.selects "BondWarehouse" ({ cls := "BondWarehouse", name := "daysToOverdue", desc := "(I)I" } : Jvm.MethodName) ({ cls := "BondWarehouse", name := "daysToOverdue", desc := "(I)I" } : Jvm.MethodName) ∈ TG := tg_5 191 rfl rfl
theorem kw_5_192 : Jvm.Cond.code ({ cls := "BondWarehouse", name := "daysToOverdue", desc := "(I)I" } : Jvm.MethodName) prog_1_method_72_code (2 : Nat) (Option.some Jvm.ClassFile.FieldType.int) ∈ TG := tg_5 192 rfl rfl
theorem kw_5_197 : Jvm.Cond.methodLink "BondWarehouseLaw" (187 : Nat) ({ cls := "BondWarehouse", name := "cheapestEntry", desc := "(I)I" } : Jvm.MethodName) ∈ TG := tg_5 197 rfl rfl
theorem kw_5_198 : Jvm.Cond.instanceMethod ({ cls := "BondWarehouse", name := "cheapestEntry", desc := "(I)I" } : Jvm.MethodName) ∈ TG := tg_5 198 rfl rfl
theorem kw_5_199 : Jvm.Cond.selects "BondWarehouse" ({ cls := "BondWarehouse", name := "cheapestEntry", desc := "(I)I" } : Jvm.MethodName) ({ cls := "BondWarehouse", name := "cheapestEntry", desc := "(I)I" } : Jvm.MethodName) ∈ TG := tg_5 199 rfl rfl
theorem kw_5_200 : Jvm.Cond.code ({ cls := "BondWarehouse", name := "cheapestEntry", desc := "(I)I" } : Jvm.MethodName) prog_1_method_74_code (2 : Nat) (Option.some Jvm.ClassFile.FieldType.int) ∈ TG := tg_5 200 rfl rfl
theorem kw_5_220 : Jvm.Cond.methodLink "BondWarehouseLaw" (190 : Nat) ({ cls := "BondWarehouse", name := "dutyFromCheapest", desc := "(II)I" } : Jvm.MethodName) ∈ TG := tg_5 220 rfl rfl
theorem kw_5_221 : Jvm.Cond.instanceMethod ({ cls := "BondWarehouse", name := "dutyFromCheapest", desc := "(II)I" } : Jvm.MethodName) ∈ TG := tg_5 221 rfl rfl
theorem kw_5_222 : Jvm.Cond.selects "BondWarehouse" ({ cls := "BondWarehouse", name := "dutyFromCheapest", desc := "(II)I" } : Jvm.MethodName) ({ cls := "BondWarehouse", name := "dutyFromCheapest", desc := "(II)I" } : Jvm.MethodName) ∈ TG := tg_5 222 rfl rfl
theorem kw_5_223 : Jvm.Cond.code ({ cls := "BondWarehouse", name := "dutyFromCheapest", desc := "(II)I" } : Jvm.MethodName) prog_1_method_75_code (3 : Nat) (Option.some Jvm.ClassFile.FieldType.int) ∈ TG := tg_5 223 rfl rfl
theorem kw_5_234 : Jvm.Cond.methodLink "BondWarehouseLaw" (193 : Nat) ({ cls := "BondWarehouse", name := "append", desc := "(I)I" } : Jvm.MethodName) ∈ TG := tg_5 234 rfl rfl
theorem kw_5_235 : Jvm.Cond.instanceMethod ({ cls := "BondWarehouse", name := "append", desc := "(I)I" } : Jvm.MethodName) ∈ TG := tg_5 235 rfl rfl
theorem kw_5_236 : Jvm.Cond.selects "BondWarehouse" ({ cls := "BondWarehouse", name := "append", desc := "(I)I" } : Jvm.MethodName) ({ cls := "BondWarehouse", name := "append", desc := "(I)I" } : Jvm.MethodName) ∈ TG := tg_5 236 rfl rfl
theorem kw_5_237 : Jvm.Cond.code ({ cls := "BondWarehouse", name := "append", desc := "(I)I" } : Jvm.MethodName) prog_1_method_77_code (2 : Nat) (Option.some Jvm.ClassFile.FieldType.int) ∈ TG := tg_5 237 rfl rfl
theorem kw_6_6 : Jvm.Cond.methodLink "BondWarehouseLaw" (196 : Nat) ({ cls := "BondWarehouse", name := "run", desc := "()I" } : Jvm.MethodName) ∈ TG := tg_6 6 rfl rfl
theorem kw_6_7 : Jvm.Cond.instanceMethod ({ cls := "BondWarehouse", name := "run", desc := "()I" } : Jvm.MethodName) ∈ TG := tg_6 7 rfl rfl
theorem kw_6_8 : Jvm.Cond.selects "BondWarehouse" ({ cls := "BondWarehouse", name := "run", desc := "()I" } : Jvm.MethodName) ({ cls := "BondWarehouse", name := "run", desc := "()I" } : Jvm.MethodName) ∈ TG := tg_6 8 rfl rfl
theorem kw_6_9 : Jvm.Cond.code ({ cls := "BondWarehouse", name := "run", desc := "()I" } : Jvm.MethodName) prog_1_method_80_code (4 : Nat) (Option.some Jvm.ClassFile.FieldType.int) ∈ TG := tg_6 9 rfl rfl
theorem dL_enter_0 : decode cL_enter 0 = .ok (.aload_n 0, 1) := by decide +kernel
theorem dL_enter_1 : decode cL_enter 1 = .ok (.iload_n 1, 1) := by decide +kernel
theorem dL_enter_2 : decode cL_enter 2 = .ok (.iload_n 2, 1) := by decide +kernel
theorem dL_enter_3 : decode cL_enter 3 = .ok (.iload_n 3, 1) := by decide +kernel
theorem dL_enter_4 : decode cL_enter 4 = .ok (.iload 4, 2) := by decide +kernel
theorem dL_enter_6 : decode cL_enter 6 = .ok (.invokevirtual 7, 3) := by decide +kernel
theorem dL_enter_9 : decode cL_enter 9 = .ok (.ireturn, 1) := by decide +kernel
theorem dL_enter_10 : decode cL_enter 10 = .ok (.astore 5, 2) := by decide +kernel
theorem dL_enter_12 : decode cL_enter 12 = .ok (.ldc 15, 2) := by decide +kernel
theorem dL_enter_14 : decode cL_enter 14 = .ok (.ireturn, 1) := by decide +kernel
theorem dL_enter_15 : decode cL_enter 15 = .ok (.astore 5, 2) := by decide +kernel
theorem dL_enter_17 : decode cL_enter 17 = .ok (.ldc 18, 2) := by decide +kernel
theorem dL_enter_19 : decode cL_enter 19 = .ok (.ireturn, 1) := by decide +kernel
def rm_L_enter : Room := { frames := 8, cells := 2, slots := 12, locals := 141 }
theorem hy_L_enter : yL_enter.cls = RL ∧ yL_enter.cls ≠ "java/lang/invoke/MethodHandle" ∧ yL_enter.cls ≠ "java/lang/invoke/VarHandle" ∧ (parseMethodDescriptor yL_enter.desc).map (fun d => d.parameters.length) = some 5 := by decide +kernel
set_option maxRecDepth 100000 in
set_option maxHeartbeats 4000000 in
theorem k_L_enter {l : Launch} {D : va_G} {cA : Nat → ClassId} {ad : Bool → Nat → Nat → Nat} {A : Bool → Nat → Prop} (ha : AG ad A) (hst : l.stackTraces = false) (o : Bool) (p0 : Int32) (p1 : Int32) (p2 : Int32) (p3 : Int32) (g : Gh) (hk : g.2 + 1 ≤ 2400) : Met l yL_enter (.codeWith yL_enter cL_enter 6 (some .int) [(0, 9, 10, 13), (0, 9, 15, 16)] :: TG) rm_L_enter (PcG D cA ad A [.ref (ad o 0 1), .int p0, .int p1, .int p2, .int p3] g) (QcG D cA ad A (fun r g' => r = (z_enter p0 p1 p2 p3 (g.1 o)).1 ∧ g' = gz g o (z_enter p0 p1 p2 p3 (g.1 o)).2)) 2 12 (AU A) := by
  refine enterG pl_L rfl (Nat.le_of_ble_eq_true rfl) ?_
  intro p e s m args below meth c QQ X htab hW hZ hE
  refine q_aload_n (j := 0) X dL_enter_0 rfl rfl ?_
  refine q_iload_n (j := 1) X dL_enter_1 rfl rfl ?_
  refine q_iload_n (j := 2) X dL_enter_2 rfl rfl ?_
  refine q_iload_n (j := 3) X dL_enter_3 rfl rfl ?_
  refine q_iload (j := 4) X dL_enter_4 rfl ?_
  refine qG_call X hW hZ ha o (t := tEnter (g.1 o).1 p0 p1 p2 p3) (val := (g.1 o).1 1) (nm := (svP (g.1 o) (enterF (g.1 o).1 p0.toNatClampNeg p1 p2 p3))) (dk := 1) (Qp := (fun _ r m1 => tEnter (g.1 o).1 p0 p1 p2 p3 = 0 ∧ r = (g.1 o).1 1 ∧ RelN (g.2 + 1) m1 (svP (g.1 o) (enterF (g.1 o).1 p0.toNatClampNeg p1 p2 p3)))) (Xp := fun _ => (fun k0 m1 => k0 = tEnter (g.1 o).1 p0 p1 p2 p3 ∧ ¬ tEnter (g.1 o).1 p0 p1 p2 p3 = 0 ∧ RelN g.2 m1 (g.1 o))) [.int p0, .int p1, .int p2, .int p3] [] rfl rfl (Nat.le_of_ble_eq_true rfl) dL_enter_6 ⟨(Nat.le_of_ble_eq_true rfl), (Nat.le_of_ble_eq_true rfl)⟩ hk (fun mo hmo => c_X9_enter (ha.1 o) hst p0 p1 p2 p3 mo _ _ (N_enter hmo hk p0 p1 p2 p3 _ _ (fun ht m1 hR => ⟨ht, rfl, hR⟩) (fun ht => ⟨rfl, ht, hmo⟩))) (fun _ _ _ _ h => h) (fun _ _ _ _ h => h) rfl rfl (gV kw_2_145 kw_2_146 kw_2_147 kw_1_1 kw_2_148) hy_X9_enter ⟨(Nat.le_of_ble_eq_true rfl), (Nat.le_of_ble_eq_true rfl)⟩ (fun hx => ?_) (fun hz => ?_)
  · have h9 : tEnter (g.1 o).1 p0 p1 p2 p3 = 0 ∨ tEnter (g.1 o).1 p0 p1 p2 p3 = 2 ∨ tEnter (g.1 o).1 p0 p1 p2 p3 = 3 := by unfold tEnter; (repeat' split) <;> decide
    rcases h9 with h9 | h9 | h9
    · exact absurd h9 hx
    · skip
      rw [h9]
      refine ⟨10, by decide, Ct1 (k1 := 2) htab rfl (by decide) (by decide) (X.2.2.2.2 _ kw_2_143), fun q => ?_⟩
      refine q_astore X dL_enter_10 (Nat.le_of_ble_eq_true rfl) rfl ?_
      refine q_ldc (v := -9999002) X kw_3_86 dL_enter_12 ?_
      exact hE _ _ _ _ _ _ dL_enter_14 (Nat.le_of_ble_eq_true rfl) (Nat.le_of_ble_eq_true rfl) ⟨by unfold z_enter; rw [if_neg hx, h9]; rfl, by unfold z_enter; rw [if_neg hx]; exact (gz_id g o).symm⟩
    · skip
      rw [h9]
      refine ⟨15, by decide, Ct2 (k1 := 2) (k2 := 3) htab rfl (by decide) (by decide) (by decide) (X.2.2.2.2 _ kw_2_143) (X.2.2.2.2 _ kw_2_144) hW.2.2.2, fun q => ?_⟩
      refine q_astore X dL_enter_15 (Nat.le_of_ble_eq_true rfl) rfl ?_
      refine q_ldc (v := -9999003) X kw_3_87 dL_enter_17 ?_
      exact hE _ _ _ _ _ _ dL_enter_19 (Nat.le_of_ble_eq_true rfl) (Nat.le_of_ble_eq_true rfl) ⟨by unfold z_enter; rw [if_neg hx, h9]; rfl, by unfold z_enter; rw [if_neg hx]; exact (gz_id g o).symm⟩
  · exact hE _ _ _ _ _ _ dL_enter_9 (Nat.le_of_ble_eq_true rfl) (Nat.le_of_ble_eq_true rfl) ⟨by unfold z_enter; rw [if_pos hz], by unfold z_enter; rw [if_pos hz]⟩
theorem dL_tryWithdraw_0 : decode cL_tryWithdraw 0 = .ok (.aload_n 0, 1) := by decide +kernel
theorem dL_tryWithdraw_1 : decode cL_tryWithdraw 1 = .ok (.iload_n 1, 1) := by decide +kernel
theorem dL_tryWithdraw_2 : decode cL_tryWithdraw 2 = .ok (.iload_n 2, 1) := by decide +kernel
theorem dL_tryWithdraw_3 : decode cL_tryWithdraw 3 = .ok (.invokevirtual 38, 3) := by decide +kernel
theorem dL_tryWithdraw_6 : decode cL_tryWithdraw 6 = .ok (.ireturn, 1) := by decide +kernel
theorem dL_tryWithdraw_7 : decode cL_tryWithdraw 7 = .ok (.astore_n 3, 1) := by decide +kernel
theorem dL_tryWithdraw_8 : decode cL_tryWithdraw 8 = .ok (.ldc 28, 2) := by decide +kernel
theorem dL_tryWithdraw_10 : decode cL_tryWithdraw 10 = .ok (.ireturn, 1) := by decide +kernel
theorem dL_tryWithdraw_11 : decode cL_tryWithdraw 11 = .ok (.astore_n 3, 1) := by decide +kernel
theorem dL_tryWithdraw_12 : decode cL_tryWithdraw 12 = .ok (.ldc 15, 2) := by decide +kernel
theorem dL_tryWithdraw_14 : decode cL_tryWithdraw 14 = .ok (.ireturn, 1) := by decide +kernel
theorem dL_tryWithdraw_15 : decode cL_tryWithdraw 15 = .ok (.astore_n 3, 1) := by decide +kernel
theorem dL_tryWithdraw_16 : decode cL_tryWithdraw 16 = .ok (.ldc 18, 2) := by decide +kernel
theorem dL_tryWithdraw_18 : decode cL_tryWithdraw 18 = .ok (.ireturn, 1) := by decide +kernel
def rm_L_tryWithdraw : Room := { frames := 8, cells := 2, slots := 12, locals := 132 }
theorem hy_L_tryWithdraw : yL_tryWithdraw.cls = RL ∧ yL_tryWithdraw.cls ≠ "java/lang/invoke/MethodHandle" ∧ yL_tryWithdraw.cls ≠ "java/lang/invoke/VarHandle" ∧ (parseMethodDescriptor yL_tryWithdraw.desc).map (fun d => d.parameters.length) = some 3 := by decide +kernel
set_option maxRecDepth 100000 in
set_option maxHeartbeats 4000000 in
theorem k_L_tryWithdraw {l : Launch} {D : va_G} {cA : Nat → ClassId} {ad : Bool → Nat → Nat → Nat} {A : Bool → Nat → Prop} (ha : AG ad A) (hst : l.stackTraces = false) (o : Bool) (p0 : Int32) (p1 : Int32) (g : Gh) (hk : g.2 + 1 ≤ 2400) : Met l yL_tryWithdraw (.codeWith yL_tryWithdraw cL_tryWithdraw 4 (some .int) [(0, 6, 7, 26), (0, 6, 11, 13), (0, 6, 15, 16)] :: TG) rm_L_tryWithdraw (PcG D cA ad A [.ref (ad o 0 1), .int p0, .int p1] g) (QcG D cA ad A (fun r g' => r = (z_tryWithdraw p0 p1 (g.1 o)).1 ∧ g' = gz g o (z_tryWithdraw p0 p1 (g.1 o)).2)) 2 12 (AU A) := by
  refine enterG pl_L rfl (Nat.le_of_ble_eq_true rfl) ?_
  intro p e s m args below meth c QQ X htab hW hZ hE
  refine q_aload_n (j := 0) X dL_tryWithdraw_0 rfl rfl ?_
  refine q_iload_n (j := 1) X dL_tryWithdraw_1 rfl rfl ?_
  refine q_iload_n (j := 2) X dL_tryWithdraw_2 rfl rfl ?_
  refine qG_call X hW hZ ha o (t := tOut (g.1 o).1 p0 p1) (val := dutyPF (g.1 o).1 (fiE (g.1 o).1 p0) p1) (nm := (svP (g.1 o) (withdrawF (g.1 o).1 (fiE (g.1 o).1 p0) p1))) (dk := 1) (Qp := (fun _ r m1 => tOut (g.1 o).1 p0 p1 = 0 ∧ r = dutyPF (g.1 o).1 (fiE (g.1 o).1 p0) p1 ∧ RelN (g.2 + 1) m1 (svP (g.1 o) (withdrawF (g.1 o).1 (fiE (g.1 o).1 p0) p1)))) (Xp := fun _ => (fun k0 m1 => k0 = tOut (g.1 o).1 p0 p1 ∧ ¬ tOut (g.1 o).1 p0 p1 = 0 ∧ RelN g.2 m1 (g.1 o))) [.int p0, .int p1] [] rfl rfl (Nat.le_of_ble_eq_true rfl) dL_tryWithdraw_3 ⟨(Nat.le_of_ble_eq_true rfl), (Nat.le_of_ble_eq_true rfl)⟩ hk (fun mo hmo => c_X9_withdraw (ha.1 o) hst p0 p1 mo _ _ (N_withdraw hmo hk p0 p1 _ _ (fun ht m1 hR => ⟨ht, rfl, hR⟩) (fun ht => ⟨rfl, ht, hmo⟩))) (fun _ _ _ _ h => h) (fun _ _ _ _ h => h) rfl rfl (gV kw_3_95 kw_3_96 kw_3_97 kw_1_1 kw_3_98) hy_X9_withdraw ⟨(Nat.le_of_ble_eq_true rfl), (Nat.le_of_ble_eq_true rfl)⟩ (fun hx => ?_) (fun hz => ?_)
  · have h9 : tOut (g.1 o).1 p0 p1 = 0 ∨ tOut (g.1 o).1 p0 p1 = 1 ∨ tOut (g.1 o).1 p0 p1 = 2 ∨ tOut (g.1 o).1 p0 p1 = 3 := by unfold tOut; (repeat' split) <;> decide
    rcases h9 with h9 | h9 | h9 | h9
    · exact absurd h9 hx
    · skip
      rw [h9]
      refine ⟨7, by decide, Ct1 (k1 := 1) htab rfl (by decide) (by decide) (X.2.2.2.2 _ kw_3_94), fun q => ?_⟩
      refine q_astore_n X dL_tryWithdraw_7 rfl (Nat.le_of_ble_eq_true rfl) rfl ?_
      refine q_ldc (v := -9999001) X kw_3_145 dL_tryWithdraw_8 ?_
      exact hE _ _ _ _ _ _ dL_tryWithdraw_10 (Nat.le_of_ble_eq_true rfl) (Nat.le_of_ble_eq_true rfl) ⟨by unfold z_tryWithdraw; rw [if_neg hx, h9]; rfl, by unfold z_tryWithdraw; rw [if_neg hx]; exact (gz_id g o).symm⟩
    · skip
      rw [h9]
      refine ⟨11, by decide, Ct2 (k1 := 1) (k2 := 2) htab rfl (by decide) (by decide) (by decide) (X.2.2.2.2 _ kw_3_94) (X.2.2.2.2 _ kw_2_143) hW.2.1, fun q => ?_⟩
      refine q_astore_n X dL_tryWithdraw_11 rfl (Nat.le_of_ble_eq_true rfl) rfl ?_
      refine q_ldc (v := -9999002) X kw_3_86 dL_tryWithdraw_12 ?_
      exact hE _ _ _ _ _ _ dL_tryWithdraw_14 (Nat.le_of_ble_eq_true rfl) (Nat.le_of_ble_eq_true rfl) ⟨by unfold z_tryWithdraw; rw [if_neg hx, h9]; rfl, by unfold z_tryWithdraw; rw [if_neg hx]; exact (gz_id g o).symm⟩
    · skip
      rw [h9]
      refine ⟨15, by decide, Ct3 (k1 := 1) (k2 := 2) (k3 := 3) htab rfl (by decide) (by decide) (by decide) (by decide) (X.2.2.2.2 _ kw_3_94) (X.2.2.2.2 _ kw_2_143) (X.2.2.2.2 _ kw_2_144) hW.2.2.1 hW.2.2.2, fun q => ?_⟩
      refine q_astore_n X dL_tryWithdraw_15 rfl (Nat.le_of_ble_eq_true rfl) rfl ?_
      refine q_ldc (v := -9999003) X kw_3_87 dL_tryWithdraw_16 ?_
      exact hE _ _ _ _ _ _ dL_tryWithdraw_18 (Nat.le_of_ble_eq_true rfl) (Nat.le_of_ble_eq_true rfl) ⟨by unfold z_tryWithdraw; rw [if_neg hx, h9]; rfl, by unfold z_tryWithdraw; rw [if_neg hx]; exact (gz_id g o).symm⟩
  · exact hE _ _ _ _ _ _ dL_tryWithdraw_6 (Nat.le_of_ble_eq_true rfl) (Nat.le_of_ble_eq_true rfl) ⟨by unfold z_tryWithdraw; rw [if_pos hz], by unfold z_tryWithdraw; rw [if_pos hz]⟩
theorem dL_trySend_0 : decode cL_trySend 0 = .ok (.aload_n 0, 1) := by decide +kernel
theorem dL_trySend_1 : decode cL_trySend 1 = .ok (.iload_n 1, 1) := by decide +kernel
theorem dL_trySend_2 : decode cL_trySend 2 = .ok (.iload_n 2, 1) := by decide +kernel
theorem dL_trySend_3 : decode cL_trySend 3 = .ok (.invokevirtual 42, 3) := by decide +kernel
theorem dL_trySend_6 : decode cL_trySend 6 = .ok (.ireturn, 1) := by decide +kernel
theorem dL_trySend_7 : decode cL_trySend 7 = .ok (.astore_n 3, 1) := by decide +kernel
theorem dL_trySend_8 : decode cL_trySend 8 = .ok (.ldc 28, 2) := by decide +kernel
theorem dL_trySend_10 : decode cL_trySend 10 = .ok (.ireturn, 1) := by decide +kernel
theorem dL_trySend_11 : decode cL_trySend 11 = .ok (.astore_n 3, 1) := by decide +kernel
theorem dL_trySend_12 : decode cL_trySend 12 = .ok (.ldc 15, 2) := by decide +kernel
theorem dL_trySend_14 : decode cL_trySend 14 = .ok (.ireturn, 1) := by decide +kernel
theorem dL_trySend_15 : decode cL_trySend 15 = .ok (.astore_n 3, 1) := by decide +kernel
theorem dL_trySend_16 : decode cL_trySend 16 = .ok (.ldc 18, 2) := by decide +kernel
theorem dL_trySend_18 : decode cL_trySend 18 = .ok (.ireturn, 1) := by decide +kernel
def rm_L_trySend : Room := { frames := 8, cells := 2, slots := 12, locals := 132 }
theorem hy_L_trySend : yL_trySend.cls = RL ∧ yL_trySend.cls ≠ "java/lang/invoke/MethodHandle" ∧ yL_trySend.cls ≠ "java/lang/invoke/VarHandle" ∧ (parseMethodDescriptor yL_trySend.desc).map (fun d => d.parameters.length) = some 3 := by decide +kernel
set_option maxRecDepth 100000 in
set_option maxHeartbeats 4000000 in
theorem k_L_trySend {l : Launch} {D : va_G} {cA : Nat → ClassId} {ad : Bool → Nat → Nat → Nat} {A : Bool → Nat → Prop} (ha : AG ad A) (hst : l.stackTraces = false) (o : Bool) (p0 : Int32) (p1 : Int32) (g : Gh) (hk : g.2 + 1 ≤ 2400) : Met l yL_trySend (.codeWith yL_trySend cL_trySend 4 (some .int) [(0, 6, 7, 26), (0, 6, 11, 13), (0, 6, 15, 16)] :: TG) rm_L_trySend (PcG D cA ad A [.ref (ad o 0 1), .int p0, .int p1] g) (QcG D cA ad A (fun r g' => r = (z_trySend p0 p1 (g.1 o)).1 ∧ g' = gz g o (z_trySend p0 p1 (g.1 o)).2)) 2 12 (AU A) := by
  refine enterG pl_L rfl (Nat.le_of_ble_eq_true rfl) ?_
  intro p e s m args below meth c QQ X htab hW hZ hE
  refine q_aload_n (j := 0) X dL_trySend_0 rfl rfl ?_
  refine q_iload_n (j := 1) X dL_trySend_1 rfl rfl ?_
  refine q_iload_n (j := 2) X dL_trySend_2 rfl rfl ?_
  refine qG_call X hW hZ ha o (t := tSend (g.1 o).1 p0 p1) (val := en (g.1 o).1 (fiE (g.1 o).1 p0) 2 - p1) (nm := (svP (g.1 o) (sendF (g.1 o).1 (fiE (g.1 o).1 p0) p1))) (dk := 1) (Qp := (fun _ r m1 => tSend (g.1 o).1 p0 p1 = 0 ∧ r = en (g.1 o).1 (fiE (g.1 o).1 p0) 2 - p1 ∧ RelN (g.2 + 1) m1 (svP (g.1 o) (sendF (g.1 o).1 (fiE (g.1 o).1 p0) p1)))) (Xp := fun _ => (fun k0 m1 => k0 = tSend (g.1 o).1 p0 p1 ∧ ¬ tSend (g.1 o).1 p0 p1 = 0 ∧ RelN g.2 m1 (g.1 o))) [.int p0, .int p1] [] rfl rfl (Nat.le_of_ble_eq_true rfl) dL_trySend_3 ⟨(Nat.le_of_ble_eq_true rfl), (Nat.le_of_ble_eq_true rfl)⟩ hk (fun mo hmo => c_X9_sendAbroad (ha.1 o) hst p0 p1 mo _ _ (N_sendAbroad hmo hk p0 p1 _ _ (fun ht m1 hR => ⟨ht, rfl, hR⟩) (fun ht => ⟨rfl, ht, hmo⟩))) (fun _ _ _ _ h => h) (fun _ _ _ _ h => h) rfl rfl (gV kw_3_149 kw_3_150 kw_3_151 kw_1_1 kw_3_152) hy_X9_sendAbroad ⟨(Nat.le_of_ble_eq_true rfl), (Nat.le_of_ble_eq_true rfl)⟩ (fun hx => ?_) (fun hz => ?_)
  · have h9 : tSend (g.1 o).1 p0 p1 = 0 ∨ tSend (g.1 o).1 p0 p1 = 1 ∨ tSend (g.1 o).1 p0 p1 = 2 ∨ tSend (g.1 o).1 p0 p1 = 3 := by unfold tSend; (repeat' split) <;> decide
    rcases h9 with h9 | h9 | h9 | h9
    · exact absurd h9 hx
    · skip
      rw [h9]
      refine ⟨7, by decide, Ct1 (k1 := 1) htab rfl (by decide) (by decide) (X.2.2.2.2 _ kw_3_94), fun q => ?_⟩
      refine q_astore_n X dL_trySend_7 rfl (Nat.le_of_ble_eq_true rfl) rfl ?_
      refine q_ldc (v := -9999001) X kw_3_145 dL_trySend_8 ?_
      exact hE _ _ _ _ _ _ dL_trySend_10 (Nat.le_of_ble_eq_true rfl) (Nat.le_of_ble_eq_true rfl) ⟨by unfold z_trySend; rw [if_neg hx, h9]; rfl, by unfold z_trySend; rw [if_neg hx]; exact (gz_id g o).symm⟩
    · skip
      rw [h9]
      refine ⟨11, by decide, Ct2 (k1 := 1) (k2 := 2) htab rfl (by decide) (by decide) (by decide) (X.2.2.2.2 _ kw_3_94) (X.2.2.2.2 _ kw_2_143) hW.2.1, fun q => ?_⟩
      refine q_astore_n X dL_trySend_11 rfl (Nat.le_of_ble_eq_true rfl) rfl ?_
      refine q_ldc (v := -9999002) X kw_3_86 dL_trySend_12 ?_
      exact hE _ _ _ _ _ _ dL_trySend_14 (Nat.le_of_ble_eq_true rfl) (Nat.le_of_ble_eq_true rfl) ⟨by unfold z_trySend; rw [if_neg hx, h9]; rfl, by unfold z_trySend; rw [if_neg hx]; exact (gz_id g o).symm⟩
    · skip
      rw [h9]
      refine ⟨15, by decide, Ct3 (k1 := 1) (k2 := 2) (k3 := 3) htab rfl (by decide) (by decide) (by decide) (by decide) (X.2.2.2.2 _ kw_3_94) (X.2.2.2.2 _ kw_2_143) (X.2.2.2.2 _ kw_2_144) hW.2.2.1 hW.2.2.2, fun q => ?_⟩
      refine q_astore_n X dL_trySend_15 rfl (Nat.le_of_ble_eq_true rfl) rfl ?_
      refine q_ldc (v := -9999003) X kw_3_87 dL_trySend_16 ?_
      exact hE _ _ _ _ _ _ dL_trySend_18 (Nat.le_of_ble_eq_true rfl) (Nat.le_of_ble_eq_true rfl) ⟨by unfold z_trySend; rw [if_neg hx, h9]; rfl, by unfold z_trySend; rw [if_neg hx]; exact (gz_id g o).symm⟩
  · exact hE _ _ _ _ _ _ dL_trySend_6 (Nat.le_of_ble_eq_true rfl) (Nat.le_of_ble_eq_true rfl) ⟨by unfold z_trySend; rw [if_pos hz], by unfold z_trySend; rw [if_pos hz]⟩
theorem dL_tryDraw_0 : decode cL_tryDraw 0 = .ok (.aload_n 0, 1) := by decide +kernel
theorem dL_tryDraw_1 : decode cL_tryDraw 1 = .ok (.iload_n 1, 1) := by decide +kernel
theorem dL_tryDraw_2 : decode cL_tryDraw 2 = .ok (.iload_n 2, 1) := by decide +kernel
theorem dL_tryDraw_3 : decode cL_tryDraw 3 = .ok (.invokevirtual 45, 3) := by decide +kernel
theorem dL_tryDraw_6 : decode cL_tryDraw 6 = .ok (.ireturn, 1) := by decide +kernel
theorem dL_tryDraw_7 : decode cL_tryDraw 7 = .ok (.astore_n 3, 1) := by decide +kernel
theorem dL_tryDraw_8 : decode cL_tryDraw 8 = .ok (.ldc 28, 2) := by decide +kernel
theorem dL_tryDraw_10 : decode cL_tryDraw 10 = .ok (.ireturn, 1) := by decide +kernel
theorem dL_tryDraw_11 : decode cL_tryDraw 11 = .ok (.astore_n 3, 1) := by decide +kernel
theorem dL_tryDraw_12 : decode cL_tryDraw 12 = .ok (.ldc 15, 2) := by decide +kernel
theorem dL_tryDraw_14 : decode cL_tryDraw 14 = .ok (.ireturn, 1) := by decide +kernel
theorem dL_tryDraw_15 : decode cL_tryDraw 15 = .ok (.astore_n 3, 1) := by decide +kernel
theorem dL_tryDraw_16 : decode cL_tryDraw 16 = .ok (.ldc 18, 2) := by decide +kernel
theorem dL_tryDraw_18 : decode cL_tryDraw 18 = .ok (.ireturn, 1) := by decide +kernel
def rm_L_tryDraw : Room := { frames := 8, cells := 2, slots := 12, locals := 132 }
theorem hy_L_tryDraw : yL_tryDraw.cls = RL ∧ yL_tryDraw.cls ≠ "java/lang/invoke/MethodHandle" ∧ yL_tryDraw.cls ≠ "java/lang/invoke/VarHandle" ∧ (parseMethodDescriptor yL_tryDraw.desc).map (fun d => d.parameters.length) = some 3 := by decide +kernel
set_option maxRecDepth 100000 in
set_option maxHeartbeats 4000000 in
theorem k_L_tryDraw {l : Launch} {D : va_G} {cA : Nat → ClassId} {ad : Bool → Nat → Nat → Nat} {A : Bool → Nat → Prop} (ha : AG ad A) (hst : l.stackTraces = false) (o : Bool) (p0 : Int32) (p1 : Int32) (g : Gh) (hk : g.2 + 1 ≤ 2400) : Met l yL_tryDraw (.codeWith yL_tryDraw cL_tryDraw 4 (some .int) [(0, 6, 7, 26), (0, 6, 11, 13), (0, 6, 15, 16)] :: TG) rm_L_tryDraw (PcG D cA ad A [.ref (ad o 0 1), .int p0, .int p1] g) (QcG D cA ad A (fun r g' => r = (z_tryDraw p0 p1 (g.1 o)).1 ∧ g' = gz g o (z_tryDraw p0 p1 (g.1 o)).2)) 2 12 (AU A) := by
  refine enterG pl_L rfl (Nat.le_of_ble_eq_true rfl) ?_
  intro p e s m args below meth c QQ X htab hW hZ hE
  refine q_aload_n (j := 0) X dL_tryDraw_0 rfl rfl ?_
  refine q_iload_n (j := 1) X dL_tryDraw_1 rfl rfl ?_
  refine q_iload_n (j := 2) X dL_tryDraw_2 rfl rfl ?_
  refine qG_call X hW hZ ha o (t := tDraw (g.1 o).1 p0 p1) (val := backF (g.1 o).1 p0.toNatClampNeg p1) (nm := (svP (g.1 o) (drawF (g.1 o).1 p0.toNatClampNeg p1))) (dk := 1) (Qp := (fun _ r m1 => tDraw (g.1 o).1 p0 p1 = 0 ∧ r = backF (g.1 o).1 p0.toNatClampNeg p1 ∧ RelN (g.2 + 1) m1 (svP (g.1 o) (drawF (g.1 o).1 p0.toNatClampNeg p1)))) (Xp := fun _ => (fun k0 m1 => k0 = tDraw (g.1 o).1 p0 p1 ∧ ¬ tDraw (g.1 o).1 p0 p1 = 0 ∧ RelN g.2 m1 (g.1 o))) [.int p0, .int p1] [] rfl rfl (Nat.le_of_ble_eq_true rfl) dL_tryDraw_3 ⟨(Nat.le_of_ble_eq_true rfl), (Nat.le_of_ble_eq_true rfl)⟩ hk (fun mo hmo => c_X9_drawBack (ha.1 o) hst p0 p1 mo _ _ (N_drawBack hmo hk p0 p1 _ _ (fun ht m1 hR => ⟨ht, rfl, hR⟩) (fun ht => ⟨rfl, ht, hmo⟩))) (fun _ _ _ _ h => h) (fun _ _ _ _ h => h) rfl rfl (gV kw_3_168 kw_3_169 kw_3_170 kw_1_1 kw_3_171) hy_X9_drawBack ⟨(Nat.le_of_ble_eq_true rfl), (Nat.le_of_ble_eq_true rfl)⟩ (fun hx => ?_) (fun hz => ?_)
  · have h9 : tDraw (g.1 o).1 p0 p1 = 0 ∨ tDraw (g.1 o).1 p0 p1 = 1 ∨ tDraw (g.1 o).1 p0 p1 = 2 ∨ tDraw (g.1 o).1 p0 p1 = 3 := by unfold tDraw; (repeat' split) <;> decide
    rcases h9 with h9 | h9 | h9 | h9
    · exact absurd h9 hx
    · skip
      rw [h9]
      refine ⟨7, by decide, Ct1 (k1 := 1) htab rfl (by decide) (by decide) (X.2.2.2.2 _ kw_3_94), fun q => ?_⟩
      refine q_astore_n X dL_tryDraw_7 rfl (Nat.le_of_ble_eq_true rfl) rfl ?_
      refine q_ldc (v := -9999001) X kw_3_145 dL_tryDraw_8 ?_
      exact hE _ _ _ _ _ _ dL_tryDraw_10 (Nat.le_of_ble_eq_true rfl) (Nat.le_of_ble_eq_true rfl) ⟨by unfold z_tryDraw; rw [if_neg hx, h9]; rfl, by unfold z_tryDraw; rw [if_neg hx]; exact (gz_id g o).symm⟩
    · skip
      rw [h9]
      refine ⟨11, by decide, Ct2 (k1 := 1) (k2 := 2) htab rfl (by decide) (by decide) (by decide) (X.2.2.2.2 _ kw_3_94) (X.2.2.2.2 _ kw_2_143) hW.2.1, fun q => ?_⟩
      refine q_astore_n X dL_tryDraw_11 rfl (Nat.le_of_ble_eq_true rfl) rfl ?_
      refine q_ldc (v := -9999002) X kw_3_86 dL_tryDraw_12 ?_
      exact hE _ _ _ _ _ _ dL_tryDraw_14 (Nat.le_of_ble_eq_true rfl) (Nat.le_of_ble_eq_true rfl) ⟨by unfold z_tryDraw; rw [if_neg hx, h9]; rfl, by unfold z_tryDraw; rw [if_neg hx]; exact (gz_id g o).symm⟩
    · skip
      rw [h9]
      refine ⟨15, by decide, Ct3 (k1 := 1) (k2 := 2) (k3 := 3) htab rfl (by decide) (by decide) (by decide) (by decide) (X.2.2.2.2 _ kw_3_94) (X.2.2.2.2 _ kw_2_143) (X.2.2.2.2 _ kw_2_144) hW.2.2.1 hW.2.2.2, fun q => ?_⟩
      refine q_astore_n X dL_tryDraw_15 rfl (Nat.le_of_ble_eq_true rfl) rfl ?_
      refine q_ldc (v := -9999003) X kw_3_87 dL_tryDraw_16 ?_
      exact hE _ _ _ _ _ _ dL_tryDraw_18 (Nat.le_of_ble_eq_true rfl) (Nat.le_of_ble_eq_true rfl) ⟨by unfold z_tryDraw; rw [if_neg hx, h9]; rfl, by unfold z_tryDraw; rw [if_neg hx]; exact (gz_id g o).symm⟩
  · exact hE _ _ _ _ _ _ dL_tryDraw_6 (Nat.le_of_ble_eq_true rfl) (Nat.le_of_ble_eq_true rfl) ⟨by unfold z_tryDraw; rw [if_pos hz], by unfold z_tryDraw; rw [if_pos hz]⟩
theorem dL_tryMove_0 : decode cL_tryMove 0 = .ok (.aload_n 0, 1) := by decide +kernel
theorem dL_tryMove_1 : decode cL_tryMove 1 = .ok (.iload_n 1, 1) := by decide +kernel
theorem dL_tryMove_2 : decode cL_tryMove 2 = .ok (.iload_n 2, 1) := by decide +kernel
theorem dL_tryMove_3 : decode cL_tryMove 3 = .ok (.invokevirtual 48, 3) := by decide +kernel
theorem dL_tryMove_6 : decode cL_tryMove 6 = .ok (.ireturn, 1) := by decide +kernel
theorem dL_tryMove_7 : decode cL_tryMove 7 = .ok (.astore_n 3, 1) := by decide +kernel
theorem dL_tryMove_8 : decode cL_tryMove 8 = .ok (.ldc 28, 2) := by decide +kernel
theorem dL_tryMove_10 : decode cL_tryMove 10 = .ok (.ireturn, 1) := by decide +kernel
theorem dL_tryMove_11 : decode cL_tryMove 11 = .ok (.astore_n 3, 1) := by decide +kernel
theorem dL_tryMove_12 : decode cL_tryMove 12 = .ok (.ldc 18, 2) := by decide +kernel
theorem dL_tryMove_14 : decode cL_tryMove 14 = .ok (.ireturn, 1) := by decide +kernel
def rm_L_tryMove : Room := { frames := 8, cells := 2, slots := 12, locals := 132 }
theorem hy_L_tryMove : yL_tryMove.cls = RL ∧ yL_tryMove.cls ≠ "java/lang/invoke/MethodHandle" ∧ yL_tryMove.cls ≠ "java/lang/invoke/VarHandle" ∧ (parseMethodDescriptor yL_tryMove.desc).map (fun d => d.parameters.length) = some 3 := by decide +kernel
set_option maxRecDepth 100000 in
set_option maxHeartbeats 4000000 in
theorem k_L_tryMove {l : Launch} {D : va_G} {cA : Nat → ClassId} {ad : Bool → Nat → Nat → Nat} {A : Bool → Nat → Prop} (ha : AG ad A) (hst : l.stackTraces = false) (o : Bool) (p0 : Int32) (p1 : Int32) (g : Gh) (hk : g.2 + 1 ≤ 2400) : Met l yL_tryMove (.codeWith yL_tryMove cL_tryMove 4 (some .int) [(0, 6, 7, 26), (0, 6, 11, 16)] :: TG) rm_L_tryMove (PcG D cA ad A [.ref (ad o 0 1), .int p0, .int p1] g) (QcG D cA ad A (fun r g' => r = (z_tryMove p0 p1 (g.1 o)).1 ∧ g' = gz g o (z_tryMove p0 p1 (g.1 o)).2)) 2 12 (AU A) := by
  refine enterG pl_L rfl (Nat.le_of_ble_eq_true rfl) ?_
  intro p e s m args below meth c QQ X htab hW hZ hE
  refine q_aload_n (j := 0) X dL_tryMove_0 rfl rfl ?_
  refine q_iload_n (j := 1) X dL_tryMove_1 rfl rfl ?_
  refine q_iload_n (j := 2) X dL_tryMove_2 rfl rfl ?_
  refine qG_call X hW hZ ha o (t := tMove (g.1 o).1 p0 p1) (val := roomF (moveF (g.1 o).1 (fiE (g.1 o).1 p0) p1) p1) (nm := (svP (g.1 o) (moveF (g.1 o).1 (fiE (g.1 o).1 p0) p1))) (dk := 1) (Qp := (fun _ r m1 => tMove (g.1 o).1 p0 p1 = 0 ∧ r = roomF (moveF (g.1 o).1 (fiE (g.1 o).1 p0) p1) p1 ∧ RelN (g.2 + 1) m1 (svP (g.1 o) (moveF (g.1 o).1 (fiE (g.1 o).1 p0) p1)))) (Xp := fun _ => (fun k0 m1 => k0 = tMove (g.1 o).1 p0 p1 ∧ ¬ tMove (g.1 o).1 p0 p1 = 0 ∧ RelN g.2 m1 (g.1 o))) [.int p0, .int p1] [] rfl rfl (Nat.le_of_ble_eq_true rfl) dL_tryMove_3 ⟨(Nat.le_of_ble_eq_true rfl), (Nat.le_of_ble_eq_true rfl)⟩ hk (fun mo hmo => c_X9_move (ha.1 o) hst p0 p1 mo _ _ (N_move hmo hk p0 p1 _ _ (fun ht m1 hR => ⟨ht, rfl, hR⟩) (fun ht => ⟨rfl, ht, hmo⟩))) (fun _ _ _ _ h => h) (fun _ _ _ _ h => h) rfl rfl (gV kw_3_199 kw_3_200 kw_3_201 kw_1_1 kw_3_202) hy_X9_move ⟨(Nat.le_of_ble_eq_true rfl), (Nat.le_of_ble_eq_true rfl)⟩ (fun hx => ?_) (fun hz => ?_)
  · have h9 : tMove (g.1 o).1 p0 p1 = 0 ∨ tMove (g.1 o).1 p0 p1 = 1 ∨ tMove (g.1 o).1 p0 p1 = 3 := by unfold tMove; (repeat' split) <;> decide
    rcases h9 with h9 | h9 | h9
    · exact absurd h9 hx
    · skip
      rw [h9]
      refine ⟨7, by decide, Ct1 (k1 := 1) htab rfl (by decide) (by decide) (X.2.2.2.2 _ kw_3_94), fun q => ?_⟩
      refine q_astore_n X dL_tryMove_7 rfl (Nat.le_of_ble_eq_true rfl) rfl ?_
      refine q_ldc (v := -9999001) X kw_3_145 dL_tryMove_8 ?_
      exact hE _ _ _ _ _ _ dL_tryMove_10 (Nat.le_of_ble_eq_true rfl) (Nat.le_of_ble_eq_true rfl) ⟨by unfold z_tryMove; rw [if_neg hx, h9]; rfl, by unfold z_tryMove; rw [if_neg hx]; exact (gz_id g o).symm⟩
    · skip
      rw [h9]
      refine ⟨11, by decide, Ct2 (k1 := 1) (k2 := 3) htab rfl (by decide) (by decide) (by decide) (X.2.2.2.2 _ kw_3_94) (X.2.2.2.2 _ kw_2_144) hW.2.2.1, fun q => ?_⟩
      refine q_astore_n X dL_tryMove_11 rfl (Nat.le_of_ble_eq_true rfl) rfl ?_
      refine q_ldc (v := -9999003) X kw_3_87 dL_tryMove_12 ?_
      exact hE _ _ _ _ _ _ dL_tryMove_14 (Nat.le_of_ble_eq_true rfl) (Nat.le_of_ble_eq_true rfl) ⟨by unfold z_tryMove; rw [if_neg hx, h9]; rfl, by unfold z_tryMove; rw [if_neg hx]; exact (gz_id g o).symm⟩
  · exact hE _ _ _ _ _ _ dL_tryMove_6 (Nat.le_of_ble_eq_true rfl) (Nat.le_of_ble_eq_true rfl) ⟨by unfold z_tryMove; rw [if_pos hz], by unfold z_tryMove; rw [if_pos hz]⟩
theorem dL_trySplit_0 : decode cL_trySplit 0 = .ok (.aload_n 0, 1) := by decide +kernel
theorem dL_trySplit_1 : decode cL_trySplit 1 = .ok (.iload_n 1, 1) := by decide +kernel
theorem dL_trySplit_2 : decode cL_trySplit 2 = .ok (.iload_n 2, 1) := by decide +kernel
theorem dL_trySplit_3 : decode cL_trySplit 3 = .ok (.invokevirtual 51, 3) := by decide +kernel
theorem dL_trySplit_6 : decode cL_trySplit 6 = .ok (.ireturn, 1) := by decide +kernel
theorem dL_trySplit_7 : decode cL_trySplit 7 = .ok (.astore_n 3, 1) := by decide +kernel
theorem dL_trySplit_8 : decode cL_trySplit 8 = .ok (.ldc 28, 2) := by decide +kernel
theorem dL_trySplit_10 : decode cL_trySplit 10 = .ok (.ireturn, 1) := by decide +kernel
theorem dL_trySplit_11 : decode cL_trySplit 11 = .ok (.astore_n 3, 1) := by decide +kernel
theorem dL_trySplit_12 : decode cL_trySplit 12 = .ok (.ldc 15, 2) := by decide +kernel
theorem dL_trySplit_14 : decode cL_trySplit 14 = .ok (.ireturn, 1) := by decide +kernel
theorem dL_trySplit_15 : decode cL_trySplit 15 = .ok (.astore_n 3, 1) := by decide +kernel
theorem dL_trySplit_16 : decode cL_trySplit 16 = .ok (.ldc 18, 2) := by decide +kernel
theorem dL_trySplit_18 : decode cL_trySplit 18 = .ok (.ireturn, 1) := by decide +kernel
def rm_L_trySplit : Room := { frames := 8, cells := 2, slots := 12, locals := 132 }
theorem hy_L_trySplit : yL_trySplit.cls = RL ∧ yL_trySplit.cls ≠ "java/lang/invoke/MethodHandle" ∧ yL_trySplit.cls ≠ "java/lang/invoke/VarHandle" ∧ (parseMethodDescriptor yL_trySplit.desc).map (fun d => d.parameters.length) = some 3 := by decide +kernel
set_option maxRecDepth 100000 in
set_option maxHeartbeats 4000000 in
theorem k_L_trySplit {l : Launch} {D : va_G} {cA : Nat → ClassId} {ad : Bool → Nat → Nat → Nat} {A : Bool → Nat → Prop} (ha : AG ad A) (hst : l.stackTraces = false) (o : Bool) (p0 : Int32) (p1 : Int32) (g : Gh) (hk : g.2 + 1 ≤ 2400) : Met l yL_trySplit (.codeWith yL_trySplit cL_trySplit 4 (some .int) [(0, 6, 7, 26), (0, 6, 11, 13), (0, 6, 15, 16)] :: TG) rm_L_trySplit (PcG D cA ad A [.ref (ad o 0 1), .int p0, .int p1] g) (QcG D cA ad A (fun r g' => r = (z_trySplit p0 p1 (g.1 o)).1 ∧ g' = gz g o (z_trySplit p0 p1 (g.1 o)).2)) 2 12 (AU A) := by
  refine enterG pl_L rfl (Nat.le_of_ble_eq_true rfl) ?_
  intro p e s m args below meth c QQ X htab hW hZ hE
  refine q_aload_n (j := 0) X dL_trySplit_0 rfl rfl ?_
  refine q_iload_n (j := 1) X dL_trySplit_1 rfl rfl ?_
  refine q_iload_n (j := 2) X dL_trySplit_2 rfl rfl ?_
  refine qG_call X hW hZ ha o (t := tSplit (g.1 o).1 p0 p1) (val := (g.1 o).1 1) (nm := (svP (g.1 o) (splitF (g.1 o).1 (fiE (g.1 o).1 p0) p1))) (dk := 1) (Qp := (fun _ r m1 => tSplit (g.1 o).1 p0 p1 = 0 ∧ r = (g.1 o).1 1 ∧ RelN (g.2 + 1) m1 (svP (g.1 o) (splitF (g.1 o).1 (fiE (g.1 o).1 p0) p1)))) (Xp := fun _ => (fun k0 m1 => k0 = tSplit (g.1 o).1 p0 p1 ∧ ¬ tSplit (g.1 o).1 p0 p1 = 0 ∧ RelN g.2 m1 (g.1 o))) [.int p0, .int p1] [] rfl rfl (Nat.le_of_ble_eq_true rfl) dL_trySplit_3 ⟨(Nat.le_of_ble_eq_true rfl), (Nat.le_of_ble_eq_true rfl)⟩ hk (fun mo hmo => c_X9_split (ha.1 o) hst p0 p1 mo _ _ (N_split hmo hk p0 p1 _ _ (fun ht m1 hR => ⟨ht, rfl, hR⟩) (fun ht => ⟨rfl, ht, hmo⟩))) (fun _ _ _ _ h => h) (fun _ _ _ _ h => h) rfl rfl (gV kw_3_215 kw_3_216 kw_3_217 kw_1_1 kw_3_218) hy_X9_split ⟨(Nat.le_of_ble_eq_true rfl), (Nat.le_of_ble_eq_true rfl)⟩ (fun hx => ?_) (fun hz => ?_)
  · have h9 : tSplit (g.1 o).1 p0 p1 = 0 ∨ tSplit (g.1 o).1 p0 p1 = 1 ∨ tSplit (g.1 o).1 p0 p1 = 2 ∨ tSplit (g.1 o).1 p0 p1 = 3 := by unfold tSplit; (repeat' split) <;> decide
    rcases h9 with h9 | h9 | h9 | h9
    · exact absurd h9 hx
    · skip
      rw [h9]
      refine ⟨7, by decide, Ct1 (k1 := 1) htab rfl (by decide) (by decide) (X.2.2.2.2 _ kw_3_94), fun q => ?_⟩
      refine q_astore_n X dL_trySplit_7 rfl (Nat.le_of_ble_eq_true rfl) rfl ?_
      refine q_ldc (v := -9999001) X kw_3_145 dL_trySplit_8 ?_
      exact hE _ _ _ _ _ _ dL_trySplit_10 (Nat.le_of_ble_eq_true rfl) (Nat.le_of_ble_eq_true rfl) ⟨by unfold z_trySplit; rw [if_neg hx, h9]; rfl, by unfold z_trySplit; rw [if_neg hx]; exact (gz_id g o).symm⟩
    · skip
      rw [h9]
      refine ⟨11, by decide, Ct2 (k1 := 1) (k2 := 2) htab rfl (by decide) (by decide) (by decide) (X.2.2.2.2 _ kw_3_94) (X.2.2.2.2 _ kw_2_143) hW.2.1, fun q => ?_⟩
      refine q_astore_n X dL_trySplit_11 rfl (Nat.le_of_ble_eq_true rfl) rfl ?_
      refine q_ldc (v := -9999002) X kw_3_86 dL_trySplit_12 ?_
      exact hE _ _ _ _ _ _ dL_trySplit_14 (Nat.le_of_ble_eq_true rfl) (Nat.le_of_ble_eq_true rfl) ⟨by unfold z_trySplit; rw [if_neg hx, h9]; rfl, by unfold z_trySplit; rw [if_neg hx]; exact (gz_id g o).symm⟩
    · skip
      rw [h9]
      refine ⟨15, by decide, Ct3 (k1 := 1) (k2 := 2) (k3 := 3) htab rfl (by decide) (by decide) (by decide) (by decide) (X.2.2.2.2 _ kw_3_94) (X.2.2.2.2 _ kw_2_143) (X.2.2.2.2 _ kw_2_144) hW.2.2.1 hW.2.2.2, fun q => ?_⟩
      refine q_astore_n X dL_trySplit_15 rfl (Nat.le_of_ble_eq_true rfl) rfl ?_
      refine q_ldc (v := -9999003) X kw_3_87 dL_trySplit_16 ?_
      exact hE _ _ _ _ _ _ dL_trySplit_18 (Nat.le_of_ble_eq_true rfl) (Nat.le_of_ble_eq_true rfl) ⟨by unfold z_trySplit; rw [if_neg hx, h9]; rfl, by unfold z_trySplit; rw [if_neg hx]; exact (gz_id g o).symm⟩
  · exact hE _ _ _ _ _ _ dL_trySplit_6 (Nat.le_of_ble_eq_true rfl) (Nat.le_of_ble_eq_true rfl) ⟨by unfold z_trySplit; rw [if_pos hz], by unfold z_trySplit; rw [if_pos hz]⟩
theorem dL_tryMerge_0 : decode cL_tryMerge 0 = .ok (.aload_n 0, 1) := by decide +kernel
theorem dL_tryMerge_1 : decode cL_tryMerge 1 = .ok (.iload_n 1, 1) := by decide +kernel
theorem dL_tryMerge_2 : decode cL_tryMerge 2 = .ok (.iload_n 2, 1) := by decide +kernel
theorem dL_tryMerge_3 : decode cL_tryMerge 3 = .ok (.invokevirtual 54, 3) := by decide +kernel
theorem dL_tryMerge_6 : decode cL_tryMerge 6 = .ok (.ireturn, 1) := by decide +kernel
theorem dL_tryMerge_7 : decode cL_tryMerge 7 = .ok (.astore_n 3, 1) := by decide +kernel
theorem dL_tryMerge_8 : decode cL_tryMerge 8 = .ok (.ldc 28, 2) := by decide +kernel
theorem dL_tryMerge_10 : decode cL_tryMerge 10 = .ok (.ireturn, 1) := by decide +kernel
theorem dL_tryMerge_11 : decode cL_tryMerge 11 = .ok (.astore_n 3, 1) := by decide +kernel
theorem dL_tryMerge_12 : decode cL_tryMerge 12 = .ok (.ldc 15, 2) := by decide +kernel
theorem dL_tryMerge_14 : decode cL_tryMerge 14 = .ok (.ireturn, 1) := by decide +kernel
theorem dL_tryMerge_15 : decode cL_tryMerge 15 = .ok (.astore_n 3, 1) := by decide +kernel
theorem dL_tryMerge_16 : decode cL_tryMerge 16 = .ok (.ldc 18, 2) := by decide +kernel
theorem dL_tryMerge_18 : decode cL_tryMerge 18 = .ok (.ireturn, 1) := by decide +kernel
def rm_L_tryMerge : Room := { frames := 8, cells := 2, slots := 12, locals := 132 }
theorem hy_L_tryMerge : yL_tryMerge.cls = RL ∧ yL_tryMerge.cls ≠ "java/lang/invoke/MethodHandle" ∧ yL_tryMerge.cls ≠ "java/lang/invoke/VarHandle" ∧ (parseMethodDescriptor yL_tryMerge.desc).map (fun d => d.parameters.length) = some 3 := by decide +kernel
set_option maxRecDepth 100000 in
set_option maxHeartbeats 4000000 in
theorem k_L_tryMerge {l : Launch} {D : va_G} {cA : Nat → ClassId} {ad : Bool → Nat → Nat → Nat} {A : Bool → Nat → Prop} (ha : AG ad A) (hst : l.stackTraces = false) (o : Bool) (p0 : Int32) (p1 : Int32) (g : Gh) (hk : g.2 + 1 ≤ 2400) : Met l yL_tryMerge (.codeWith yL_tryMerge cL_tryMerge 4 (some .int) [(0, 6, 7, 26), (0, 6, 11, 13), (0, 6, 15, 16)] :: TG) rm_L_tryMerge (PcG D cA ad A [.ref (ad o 0 1), .int p0, .int p1] g) (QcG D cA ad A (fun r g' => r = (z_tryMerge p0 p1 (g.1 o)).1 ∧ g' = gz g o (z_tryMerge p0 p1 (g.1 o)).2)) 2 12 (AU A) := by
  refine enterG pl_L rfl (Nat.le_of_ble_eq_true rfl) ?_
  intro p e s m args below meth c QQ X htab hW hZ hE
  refine q_aload_n (j := 0) X dL_tryMerge_0 rfl rfl ?_
  refine q_iload_n (j := 1) X dL_tryMerge_1 rfl rfl ?_
  refine q_iload_n (j := 2) X dL_tryMerge_2 rfl rfl ?_
  refine qG_call X hW hZ ha o (t := tMerge (g.1 o).1 p0 p1) (val := en (g.1 o).1 (fiE (g.1 o).1 p0) 2 + en (g.1 o).1 (fiE (g.1 o).1 p1) 2) (nm := (svP (g.1 o) (mergeF (g.1 o).1 (fiE (g.1 o).1 p0) (fiE (g.1 o).1 p1)))) (dk := 1) (Qp := (fun _ r m1 => tMerge (g.1 o).1 p0 p1 = 0 ∧ r = en (g.1 o).1 (fiE (g.1 o).1 p0) 2 + en (g.1 o).1 (fiE (g.1 o).1 p1) 2 ∧ RelN (g.2 + 1) m1 (svP (g.1 o) (mergeF (g.1 o).1 (fiE (g.1 o).1 p0) (fiE (g.1 o).1 p1))))) (Xp := fun _ => (fun k0 m1 => k0 = tMerge (g.1 o).1 p0 p1 ∧ ¬ tMerge (g.1 o).1 p0 p1 = 0 ∧ RelN g.2 m1 (g.1 o))) [.int p0, .int p1] [] rfl rfl (Nat.le_of_ble_eq_true rfl) dL_tryMerge_3 ⟨(Nat.le_of_ble_eq_true rfl), (Nat.le_of_ble_eq_true rfl)⟩ hk (fun mo hmo => c_X9_merge (ha.1 o) hst p0 p1 mo _ _ (N_merge hmo hk p0 p1 _ _ (fun ht m1 hR => ⟨ht, rfl, hR⟩) (fun ht => ⟨rfl, ht, hmo⟩))) (fun _ _ _ _ h => h) (fun _ _ _ _ h => h) rfl rfl (gV kw_3_230 kw_3_231 kw_3_232 kw_1_1 kw_3_233) hy_X9_merge ⟨(Nat.le_of_ble_eq_true rfl), (Nat.le_of_ble_eq_true rfl)⟩ (fun hx => ?_) (fun hz => ?_)
  · have h9 : tMerge (g.1 o).1 p0 p1 = 0 ∨ tMerge (g.1 o).1 p0 p1 = 1 ∨ tMerge (g.1 o).1 p0 p1 = 2 ∨ tMerge (g.1 o).1 p0 p1 = 3 := by unfold tMerge; (repeat' split) <;> decide
    rcases h9 with h9 | h9 | h9 | h9
    · exact absurd h9 hx
    · skip
      rw [h9]
      refine ⟨7, by decide, Ct1 (k1 := 1) htab rfl (by decide) (by decide) (X.2.2.2.2 _ kw_3_94), fun q => ?_⟩
      refine q_astore_n X dL_tryMerge_7 rfl (Nat.le_of_ble_eq_true rfl) rfl ?_
      refine q_ldc (v := -9999001) X kw_3_145 dL_tryMerge_8 ?_
      exact hE _ _ _ _ _ _ dL_tryMerge_10 (Nat.le_of_ble_eq_true rfl) (Nat.le_of_ble_eq_true rfl) ⟨by unfold z_tryMerge; rw [if_neg hx, h9]; rfl, by unfold z_tryMerge; rw [if_neg hx]; exact (gz_id g o).symm⟩
    · skip
      rw [h9]
      refine ⟨11, by decide, Ct2 (k1 := 1) (k2 := 2) htab rfl (by decide) (by decide) (by decide) (X.2.2.2.2 _ kw_3_94) (X.2.2.2.2 _ kw_2_143) hW.2.1, fun q => ?_⟩
      refine q_astore_n X dL_tryMerge_11 rfl (Nat.le_of_ble_eq_true rfl) rfl ?_
      refine q_ldc (v := -9999002) X kw_3_86 dL_tryMerge_12 ?_
      exact hE _ _ _ _ _ _ dL_tryMerge_14 (Nat.le_of_ble_eq_true rfl) (Nat.le_of_ble_eq_true rfl) ⟨by unfold z_tryMerge; rw [if_neg hx, h9]; rfl, by unfold z_tryMerge; rw [if_neg hx]; exact (gz_id g o).symm⟩
    · skip
      rw [h9]
      refine ⟨15, by decide, Ct3 (k1 := 1) (k2 := 2) (k3 := 3) htab rfl (by decide) (by decide) (by decide) (by decide) (X.2.2.2.2 _ kw_3_94) (X.2.2.2.2 _ kw_2_143) (X.2.2.2.2 _ kw_2_144) hW.2.2.1 hW.2.2.2, fun q => ?_⟩
      refine q_astore_n X dL_tryMerge_15 rfl (Nat.le_of_ble_eq_true rfl) rfl ?_
      refine q_ldc (v := -9999003) X kw_3_87 dL_tryMerge_16 ?_
      exact hE _ _ _ _ _ _ dL_tryMerge_18 (Nat.le_of_ble_eq_true rfl) (Nat.le_of_ble_eq_true rfl) ⟨by unfold z_tryMerge; rw [if_neg hx, h9]; rfl, by unfold z_tryMerge; rw [if_neg hx]; exact (gz_id g o).symm⟩
  · exact hE _ _ _ _ _ _ dL_tryMerge_6 (Nat.le_of_ble_eq_true rfl) (Nat.le_of_ble_eq_true rfl) ⟨by unfold z_tryMerge; rw [if_pos hz], by unfold z_tryMerge; rw [if_pos hz]⟩
theorem dL_tryWeigh_0 : decode cL_tryWeigh 0 = .ok (.aload_n 0, 1) := by decide +kernel
theorem dL_tryWeigh_1 : decode cL_tryWeigh 1 = .ok (.iload_n 1, 1) := by decide +kernel
theorem dL_tryWeigh_2 : decode cL_tryWeigh 2 = .ok (.iload_n 2, 1) := by decide +kernel
theorem dL_tryWeigh_3 : decode cL_tryWeigh 3 = .ok (.invokevirtual 57, 3) := by decide +kernel
theorem dL_tryWeigh_6 : decode cL_tryWeigh 6 = .ok (.ireturn, 1) := by decide +kernel
theorem dL_tryWeigh_7 : decode cL_tryWeigh 7 = .ok (.astore_n 3, 1) := by decide +kernel
theorem dL_tryWeigh_8 : decode cL_tryWeigh 8 = .ok (.ldc 28, 2) := by decide +kernel
theorem dL_tryWeigh_10 : decode cL_tryWeigh 10 = .ok (.ireturn, 1) := by decide +kernel
theorem dL_tryWeigh_11 : decode cL_tryWeigh 11 = .ok (.astore_n 3, 1) := by decide +kernel
theorem dL_tryWeigh_12 : decode cL_tryWeigh 12 = .ok (.ldc 15, 2) := by decide +kernel
theorem dL_tryWeigh_14 : decode cL_tryWeigh 14 = .ok (.ireturn, 1) := by decide +kernel
theorem dL_tryWeigh_15 : decode cL_tryWeigh 15 = .ok (.astore_n 3, 1) := by decide +kernel
theorem dL_tryWeigh_16 : decode cL_tryWeigh 16 = .ok (.ldc 18, 2) := by decide +kernel
theorem dL_tryWeigh_18 : decode cL_tryWeigh 18 = .ok (.ireturn, 1) := by decide +kernel
def rm_L_tryWeigh : Room := { frames := 8, cells := 2, slots := 12, locals := 132 }
theorem hy_L_tryWeigh : yL_tryWeigh.cls = RL ∧ yL_tryWeigh.cls ≠ "java/lang/invoke/MethodHandle" ∧ yL_tryWeigh.cls ≠ "java/lang/invoke/VarHandle" ∧ (parseMethodDescriptor yL_tryWeigh.desc).map (fun d => d.parameters.length) = some 3 := by decide +kernel
set_option maxRecDepth 100000 in
set_option maxHeartbeats 4000000 in
theorem k_L_tryWeigh {l : Launch} {D : va_G} {cA : Nat → ClassId} {ad : Bool → Nat → Nat → Nat} {A : Bool → Nat → Prop} (ha : AG ad A) (hst : l.stackTraces = false) (o : Bool) (p0 : Int32) (p1 : Int32) (g : Gh) (hk : g.2 + 1 ≤ 2400) : Met l yL_tryWeigh (.codeWith yL_tryWeigh cL_tryWeigh 4 (some .int) [(0, 6, 7, 26), (0, 6, 11, 13), (0, 6, 15, 16)] :: TG) rm_L_tryWeigh (PcG D cA ad A [.ref (ad o 0 1), .int p0, .int p1] g) (QcG D cA ad A (fun r g' => r = (z_tryWeigh p0 p1 (g.1 o)).1 ∧ g' = gz g o (z_tryWeigh p0 p1 (g.1 o)).2)) 2 12 (AU A) := by
  refine enterG pl_L rfl (Nat.le_of_ble_eq_true rfl) ?_
  intro p e s m args below meth c QQ X htab hW hZ hE
  refine q_aload_n (j := 0) X dL_tryWeigh_0 rfl rfl ?_
  refine q_iload_n (j := 1) X dL_tryWeigh_1 rfl rfl ?_
  refine q_iload_n (j := 2) X dL_tryWeigh_2 rfl rfl ?_
  refine qG_call X hW hZ ha o (t := tWeigh (g.1 o).1 p0 p1) (val := chargeF (g.1 o).1 (fiE (g.1 o).1 p0) (lossF (g.1 o).1 (fiE (g.1 o).1 p0) p1)) (nm := (svP (g.1 o) (weighF (g.1 o).1 (fiE (g.1 o).1 p0) p1))) (dk := 1) (Qp := (fun _ r m1 => tWeigh (g.1 o).1 p0 p1 = 0 ∧ r = chargeF (g.1 o).1 (fiE (g.1 o).1 p0) (lossF (g.1 o).1 (fiE (g.1 o).1 p0) p1) ∧ RelN (g.2 + 1) m1 (svP (g.1 o) (weighF (g.1 o).1 (fiE (g.1 o).1 p0) p1)))) (Xp := fun _ => (fun k0 m1 => k0 = tWeigh (g.1 o).1 p0 p1 ∧ ¬ tWeigh (g.1 o).1 p0 p1 = 0 ∧ RelN g.2 m1 (g.1 o))) [.int p0, .int p1] [] rfl rfl (Nat.le_of_ble_eq_true rfl) dL_tryWeigh_3 ⟨(Nat.le_of_ble_eq_true rfl), (Nat.le_of_ble_eq_true rfl)⟩ hk (fun mo hmo => c_X9_weigh (ha.1 o) hst p0 p1 mo _ _ (N_weigh hmo hk p0 p1 _ _ (fun ht m1 hR => ⟨ht, rfl, hR⟩) (fun ht => ⟨rfl, ht, hmo⟩))) (fun _ _ _ _ h => h) (fun _ _ _ _ h => h) rfl rfl (gV kw_4_13 kw_4_14 kw_4_15 kw_1_1 kw_4_16) hy_X9_weigh ⟨(Nat.le_of_ble_eq_true rfl), (Nat.le_of_ble_eq_true rfl)⟩ (fun hx => ?_) (fun hz => ?_)
  · have h9 : tWeigh (g.1 o).1 p0 p1 = 0 ∨ tWeigh (g.1 o).1 p0 p1 = 1 ∨ tWeigh (g.1 o).1 p0 p1 = 2 ∨ tWeigh (g.1 o).1 p0 p1 = 3 := by unfold tWeigh; (repeat' split) <;> decide
    rcases h9 with h9 | h9 | h9 | h9
    · exact absurd h9 hx
    · skip
      rw [h9]
      refine ⟨7, by decide, Ct1 (k1 := 1) htab rfl (by decide) (by decide) (X.2.2.2.2 _ kw_3_94), fun q => ?_⟩
      refine q_astore_n X dL_tryWeigh_7 rfl (Nat.le_of_ble_eq_true rfl) rfl ?_
      refine q_ldc (v := -9999001) X kw_3_145 dL_tryWeigh_8 ?_
      exact hE _ _ _ _ _ _ dL_tryWeigh_10 (Nat.le_of_ble_eq_true rfl) (Nat.le_of_ble_eq_true rfl) ⟨by unfold z_tryWeigh; rw [if_neg hx, h9]; rfl, by unfold z_tryWeigh; rw [if_neg hx]; exact (gz_id g o).symm⟩
    · skip
      rw [h9]
      refine ⟨11, by decide, Ct2 (k1 := 1) (k2 := 2) htab rfl (by decide) (by decide) (by decide) (X.2.2.2.2 _ kw_3_94) (X.2.2.2.2 _ kw_2_143) hW.2.1, fun q => ?_⟩
      refine q_astore_n X dL_tryWeigh_11 rfl (Nat.le_of_ble_eq_true rfl) rfl ?_
      refine q_ldc (v := -9999002) X kw_3_86 dL_tryWeigh_12 ?_
      exact hE _ _ _ _ _ _ dL_tryWeigh_14 (Nat.le_of_ble_eq_true rfl) (Nat.le_of_ble_eq_true rfl) ⟨by unfold z_tryWeigh; rw [if_neg hx, h9]; rfl, by unfold z_tryWeigh; rw [if_neg hx]; exact (gz_id g o).symm⟩
    · skip
      rw [h9]
      refine ⟨15, by decide, Ct3 (k1 := 1) (k2 := 2) (k3 := 3) htab rfl (by decide) (by decide) (by decide) (by decide) (X.2.2.2.2 _ kw_3_94) (X.2.2.2.2 _ kw_2_143) (X.2.2.2.2 _ kw_2_144) hW.2.2.1 hW.2.2.2, fun q => ?_⟩
      refine q_astore_n X dL_tryWeigh_15 rfl (Nat.le_of_ble_eq_true rfl) rfl ?_
      refine q_ldc (v := -9999003) X kw_3_87 dL_tryWeigh_16 ?_
      exact hE _ _ _ _ _ _ dL_tryWeigh_18 (Nat.le_of_ble_eq_true rfl) (Nat.le_of_ble_eq_true rfl) ⟨by unfold z_tryWeigh; rw [if_neg hx, h9]; rfl, by unfold z_tryWeigh; rw [if_neg hx]; exact (gz_id g o).symm⟩
  · exact hE _ _ _ _ _ _ dL_tryWeigh_6 (Nat.le_of_ble_eq_true rfl) (Nat.le_of_ble_eq_true rfl) ⟨by unfold z_tryWeigh; rw [if_pos hz], by unfold z_tryWeigh; rw [if_pos hz]⟩
theorem dL_tryLock_0 : decode cL_tryLock 0 = .ok (.aload_n 0, 1) := by decide +kernel
theorem dL_tryLock_1 : decode cL_tryLock 1 = .ok (.iload_n 1, 1) := by decide +kernel
theorem dL_tryLock_2 : decode cL_tryLock 2 = .ok (.invokevirtual 60, 3) := by decide +kernel
theorem dL_tryLock_5 : decode cL_tryLock 5 = .ok (.ireturn, 1) := by decide +kernel
theorem dL_tryLock_6 : decode cL_tryLock 6 = .ok (.astore_n 2, 1) := by decide +kernel
theorem dL_tryLock_7 : decode cL_tryLock 7 = .ok (.ldc 28, 2) := by decide +kernel
theorem dL_tryLock_9 : decode cL_tryLock 9 = .ok (.ireturn, 1) := by decide +kernel
theorem dL_tryLock_10 : decode cL_tryLock 10 = .ok (.astore_n 2, 1) := by decide +kernel
theorem dL_tryLock_11 : decode cL_tryLock 11 = .ok (.ldc 18, 2) := by decide +kernel
theorem dL_tryLock_13 : decode cL_tryLock 13 = .ok (.ireturn, 1) := by decide +kernel
def rm_L_tryLock : Room := { frames := 8, cells := 2, slots := 12, locals := 131 }
theorem hy_L_tryLock : yL_tryLock.cls = RL ∧ yL_tryLock.cls ≠ "java/lang/invoke/MethodHandle" ∧ yL_tryLock.cls ≠ "java/lang/invoke/VarHandle" ∧ (parseMethodDescriptor yL_tryLock.desc).map (fun d => d.parameters.length) = some 2 := by decide +kernel
set_option maxRecDepth 100000 in
set_option maxHeartbeats 4000000 in
theorem k_L_tryLock {l : Launch} {D : va_G} {cA : Nat → ClassId} {ad : Bool → Nat → Nat → Nat} {A : Bool → Nat → Prop} (ha : AG ad A) (hst : l.stackTraces = false) (o : Bool) (p0 : Int32) (g : Gh) (hk : g.2 + 1 ≤ 2400) : Met l yL_tryLock (.codeWith yL_tryLock cL_tryLock 3 (some .int) [(0, 5, 6, 26), (0, 5, 10, 16)] :: TG) rm_L_tryLock (PcG D cA ad A [.ref (ad o 0 1), .int p0] g) (QcG D cA ad A (fun r g' => r = (z_tryLock p0 (g.1 o)).1 ∧ g' = gz g o (z_tryLock p0 (g.1 o)).2)) 2 12 (AU A) := by
  refine enterG pl_L rfl (Nat.le_of_ble_eq_true rfl) ?_
  intro p e s m args below meth c QQ X htab hW hZ hE
  refine q_aload_n (j := 0) X dL_tryLock_0 rfl rfl ?_
  refine q_iload_n (j := 1) X dL_tryLock_1 rfl rfl ?_
  refine qG_call X hW hZ ha o (t := tLock (g.1 o).1 p0) (val := (g.1 o).1 2 + 1) (nm := (svP (g.1 o) (lockF (g.1 o).1 p0.toNatClampNeg))) (dk := 1) (Qp := (fun _ r m1 => tLock (g.1 o).1 p0 = 0 ∧ r = (g.1 o).1 2 + 1 ∧ RelN (g.2 + 1) m1 (svP (g.1 o) (lockF (g.1 o).1 p0.toNatClampNeg)))) (Xp := fun _ => (fun k0 m1 => k0 = tLock (g.1 o).1 p0 ∧ ¬ tLock (g.1 o).1 p0 = 0 ∧ RelN g.2 m1 (g.1 o))) [.int p0] [] rfl rfl (Nat.le_of_ble_eq_true rfl) dL_tryLock_2 ⟨(Nat.le_of_ble_eq_true rfl), (Nat.le_of_ble_eq_true rfl)⟩ hk (fun mo hmo => c_X9_lock (ha.1 o) hst p0 mo _ _ (N_lock hmo hk p0 _ _ (fun ht m1 hR => ⟨ht, rfl, hR⟩) (fun ht => ⟨rfl, ht, hmo⟩))) (fun _ _ _ _ h => h) (fun _ _ _ _ h => h) rfl rfl (gV kw_4_44 kw_4_45 kw_4_46 kw_1_1 kw_4_47) hy_X9_lock ⟨(Nat.le_of_ble_eq_true rfl), (Nat.le_of_ble_eq_true rfl)⟩ (fun hx => ?_) (fun hz => ?_)
  · have h9 : tLock (g.1 o).1 p0 = 0 ∨ tLock (g.1 o).1 p0 = 1 ∨ tLock (g.1 o).1 p0 = 3 := by unfold tLock; (repeat' split) <;> decide
    rcases h9 with h9 | h9 | h9
    · exact absurd h9 hx
    · skip
      rw [h9]
      refine ⟨6, by decide, Ct1 (k1 := 1) htab rfl (by decide) (by decide) (X.2.2.2.2 _ kw_3_94), fun q => ?_⟩
      refine q_astore_n X dL_tryLock_6 rfl (Nat.le_of_ble_eq_true rfl) rfl ?_
      refine q_ldc (v := -9999001) X kw_3_145 dL_tryLock_7 ?_
      exact hE _ _ _ _ _ _ dL_tryLock_9 (Nat.le_of_ble_eq_true rfl) (Nat.le_of_ble_eq_true rfl) ⟨by unfold z_tryLock; rw [if_neg hx, h9]; rfl, by unfold z_tryLock; rw [if_neg hx]; exact (gz_id g o).symm⟩
    · skip
      rw [h9]
      refine ⟨10, by decide, Ct2 (k1 := 1) (k2 := 3) htab rfl (by decide) (by decide) (by decide) (X.2.2.2.2 _ kw_3_94) (X.2.2.2.2 _ kw_2_144) hW.2.2.1, fun q => ?_⟩
      refine q_astore_n X dL_tryLock_10 rfl (Nat.le_of_ble_eq_true rfl) rfl ?_
      refine q_ldc (v := -9999003) X kw_3_87 dL_tryLock_11 ?_
      exact hE _ _ _ _ _ _ dL_tryLock_13 (Nat.le_of_ble_eq_true rfl) (Nat.le_of_ble_eq_true rfl) ⟨by unfold z_tryLock; rw [if_neg hx, h9]; rfl, by unfold z_tryLock; rw [if_neg hx]; exact (gz_id g o).symm⟩
  · exact hE _ _ _ _ _ _ dL_tryLock_5 (Nat.le_of_ble_eq_true rfl) (Nat.le_of_ble_eq_true rfl) ⟨by unfold z_tryLock; rw [if_pos hz], by unfold z_tryLock; rw [if_pos hz]⟩
theorem dL_tryOpen_0 : decode cL_tryOpen 0 = .ok (.aload_n 0, 1) := by decide +kernel
theorem dL_tryOpen_1 : decode cL_tryOpen 1 = .ok (.iload_n 1, 1) := by decide +kernel
theorem dL_tryOpen_2 : decode cL_tryOpen 2 = .ok (.invokevirtual 64, 3) := by decide +kernel
theorem dL_tryOpen_5 : decode cL_tryOpen 5 = .ok (.ireturn, 1) := by decide +kernel
theorem dL_tryOpen_6 : decode cL_tryOpen 6 = .ok (.astore_n 2, 1) := by decide +kernel
theorem dL_tryOpen_7 : decode cL_tryOpen 7 = .ok (.ldc 28, 2) := by decide +kernel
theorem dL_tryOpen_9 : decode cL_tryOpen 9 = .ok (.ireturn, 1) := by decide +kernel
theorem dL_tryOpen_10 : decode cL_tryOpen 10 = .ok (.astore_n 2, 1) := by decide +kernel
theorem dL_tryOpen_11 : decode cL_tryOpen 11 = .ok (.ldc 18, 2) := by decide +kernel
theorem dL_tryOpen_13 : decode cL_tryOpen 13 = .ok (.ireturn, 1) := by decide +kernel
def rm_L_tryOpen : Room := { frames := 8, cells := 2, slots := 12, locals := 131 }
theorem hy_L_tryOpen : yL_tryOpen.cls = RL ∧ yL_tryOpen.cls ≠ "java/lang/invoke/MethodHandle" ∧ yL_tryOpen.cls ≠ "java/lang/invoke/VarHandle" ∧ (parseMethodDescriptor yL_tryOpen.desc).map (fun d => d.parameters.length) = some 2 := by decide +kernel
set_option maxRecDepth 100000 in
set_option maxHeartbeats 4000000 in
theorem k_L_tryOpen {l : Launch} {D : va_G} {cA : Nat → ClassId} {ad : Bool → Nat → Nat → Nat} {A : Bool → Nat → Prop} (ha : AG ad A) (hst : l.stackTraces = false) (o : Bool) (p0 : Int32) (g : Gh) (hk : g.2 + 1 ≤ 2400) : Met l yL_tryOpen (.codeWith yL_tryOpen cL_tryOpen 3 (some .int) [(0, 5, 6, 26), (0, 5, 10, 16)] :: TG) rm_L_tryOpen (PcG D cA ad A [.ref (ad o 0 1), .int p0] g) (QcG D cA ad A (fun r g' => r = (z_tryOpen p0 (g.1 o)).1 ∧ g' = gz g o (z_tryOpen p0 (g.1 o)).2)) 2 12 (AU A) := by
  refine enterG pl_L rfl (Nat.le_of_ble_eq_true rfl) ?_
  intro p e s m args below meth c QQ X htab hW hZ hE
  refine q_aload_n (j := 0) X dL_tryOpen_0 rfl rfl ?_
  refine q_iload_n (j := 1) X dL_tryOpen_1 rfl rfl ?_
  refine qG_call X hW hZ ha o (t := tOpen (g.1 o).1 p0) (val := (opF (g.1 o).1 p0.toNatClampNeg).1) (nm := (svP (g.1 o) (opF (g.1 o).1 p0.toNatClampNeg).2)) (dk := 1) (Qp := (fun _ r m1 => tOpen (g.1 o).1 p0 = 0 ∧ r = (opF (g.1 o).1 p0.toNatClampNeg).1 ∧ RelN (g.2 + 1) m1 (svP (g.1 o) (opF (g.1 o).1 p0.toNatClampNeg).2))) (Xp := fun _ => (fun k0 m1 => k0 = tOpen (g.1 o).1 p0 ∧ ¬ tOpen (g.1 o).1 p0 = 0 ∧ RelN g.2 m1 (g.1 o))) [.int p0] [] rfl rfl (Nat.le_of_ble_eq_true rfl) dL_tryOpen_2 ⟨(Nat.le_of_ble_eq_true rfl), (Nat.le_of_ble_eq_true rfl)⟩ hk (fun mo hmo => c_X9_open (ha.1 o) hst p0 mo _ _ (N_open hmo hk p0 _ _ (fun ht m1 hR => ⟨ht, rfl, hR⟩) (fun ht => ⟨rfl, ht, hmo⟩))) (fun _ _ _ _ h => h) (fun _ _ _ _ h => h) rfl rfl (gV kw_4_55 kw_4_56 kw_4_57 kw_1_1 kw_4_58) hy_X9_open ⟨(Nat.le_of_ble_eq_true rfl), (Nat.le_of_ble_eq_true rfl)⟩ (fun hx => ?_) (fun hz => ?_)
  · have h9 : tOpen (g.1 o).1 p0 = 0 ∨ tOpen (g.1 o).1 p0 = 1 ∨ tOpen (g.1 o).1 p0 = 3 := by unfold tOpen; (repeat' split) <;> decide
    rcases h9 with h9 | h9 | h9
    · exact absurd h9 hx
    · skip
      rw [h9]
      refine ⟨6, by decide, Ct1 (k1 := 1) htab rfl (by decide) (by decide) (X.2.2.2.2 _ kw_3_94), fun q => ?_⟩
      refine q_astore_n X dL_tryOpen_6 rfl (Nat.le_of_ble_eq_true rfl) rfl ?_
      refine q_ldc (v := -9999001) X kw_3_145 dL_tryOpen_7 ?_
      exact hE _ _ _ _ _ _ dL_tryOpen_9 (Nat.le_of_ble_eq_true rfl) (Nat.le_of_ble_eq_true rfl) ⟨by unfold z_tryOpen; rw [if_neg hx, h9]; rfl, by unfold z_tryOpen; rw [if_neg hx]; exact (gz_id g o).symm⟩
    · skip
      rw [h9]
      refine ⟨10, by decide, Ct2 (k1 := 1) (k2 := 3) htab rfl (by decide) (by decide) (by decide) (X.2.2.2.2 _ kw_3_94) (X.2.2.2.2 _ kw_2_144) hW.2.2.1, fun q => ?_⟩
      refine q_astore_n X dL_tryOpen_10 rfl (Nat.le_of_ble_eq_true rfl) rfl ?_
      refine q_ldc (v := -9999003) X kw_3_87 dL_tryOpen_11 ?_
      exact hE _ _ _ _ _ _ dL_tryOpen_13 (Nat.le_of_ble_eq_true rfl) (Nat.le_of_ble_eq_true rfl) ⟨by unfold z_tryOpen; rw [if_neg hx, h9]; rfl, by unfold z_tryOpen; rw [if_neg hx]; exact (gz_id g o).symm⟩
  · exact hE _ _ _ _ _ _ dL_tryOpen_5 (Nat.le_of_ble_eq_true rfl) (Nat.le_of_ble_eq_true rfl) ⟨by unfold z_tryOpen; rw [if_pos hz], by unfold z_tryOpen; rw [if_pos hz]⟩
theorem dL_tryBreak_0 : decode cL_tryBreak 0 = .ok (.aload_n 0, 1) := by decide +kernel
theorem dL_tryBreak_1 : decode cL_tryBreak 1 = .ok (.iload_n 1, 1) := by decide +kernel
theorem dL_tryBreak_2 : decode cL_tryBreak 2 = .ok (.invokevirtual 67, 3) := by decide +kernel
theorem dL_tryBreak_5 : decode cL_tryBreak 5 = .ok (.ireturn, 1) := by decide +kernel
theorem dL_tryBreak_6 : decode cL_tryBreak 6 = .ok (.astore_n 2, 1) := by decide +kernel
theorem dL_tryBreak_7 : decode cL_tryBreak 7 = .ok (.ldc 28, 2) := by decide +kernel
theorem dL_tryBreak_9 : decode cL_tryBreak 9 = .ok (.ireturn, 1) := by decide +kernel
theorem dL_tryBreak_10 : decode cL_tryBreak 10 = .ok (.astore_n 2, 1) := by decide +kernel
theorem dL_tryBreak_11 : decode cL_tryBreak 11 = .ok (.ldc 18, 2) := by decide +kernel
theorem dL_tryBreak_13 : decode cL_tryBreak 13 = .ok (.ireturn, 1) := by decide +kernel
def rm_L_tryBreak : Room := { frames := 8, cells := 2, slots := 12, locals := 131 }
theorem hy_L_tryBreak : yL_tryBreak.cls = RL ∧ yL_tryBreak.cls ≠ "java/lang/invoke/MethodHandle" ∧ yL_tryBreak.cls ≠ "java/lang/invoke/VarHandle" ∧ (parseMethodDescriptor yL_tryBreak.desc).map (fun d => d.parameters.length) = some 2 := by decide +kernel
set_option maxRecDepth 100000 in
set_option maxHeartbeats 4000000 in
theorem k_L_tryBreak {l : Launch} {D : va_G} {cA : Nat → ClassId} {ad : Bool → Nat → Nat → Nat} {A : Bool → Nat → Prop} (ha : AG ad A) (hst : l.stackTraces = false) (o : Bool) (p0 : Int32) (g : Gh) (hk : g.2 + 1 ≤ 2400) : Met l yL_tryBreak (.codeWith yL_tryBreak cL_tryBreak 3 (some .int) [(0, 5, 6, 26), (0, 5, 10, 16)] :: TG) rm_L_tryBreak (PcG D cA ad A [.ref (ad o 0 1), .int p0] g) (QcG D cA ad A (fun r g' => r = (z_tryBreak p0 (g.1 o)).1 ∧ g' = gz g o (z_tryBreak p0 (g.1 o)).2)) 2 12 (AU A) := by
  refine enterG pl_L rfl (Nat.le_of_ble_eq_true rfl) ?_
  intro p e s m args below meth c QQ X htab hW hZ hE
  refine q_aload_n (j := 0) X dL_tryBreak_0 rfl rfl ?_
  refine q_iload_n (j := 1) X dL_tryBreak_1 rfl rfl ?_
  refine qG_call X hW hZ ha o (t := tBreak (g.1 o).1 p0) (val := (g.1 o).1 (10 + p0.toNatClampNeg)) (nm := (svP (g.1 o) (breakF (g.1 o).1 p0.toNatClampNeg))) (dk := 1) (Qp := (fun _ r m1 => tBreak (g.1 o).1 p0 = 0 ∧ r = (g.1 o).1 (10 + p0.toNatClampNeg) ∧ RelN (g.2 + 1) m1 (svP (g.1 o) (breakF (g.1 o).1 p0.toNatClampNeg)))) (Xp := fun _ => (fun k0 m1 => k0 = tBreak (g.1 o).1 p0 ∧ ¬ tBreak (g.1 o).1 p0 = 0 ∧ RelN g.2 m1 (g.1 o))) [.int p0] [] rfl rfl (Nat.le_of_ble_eq_true rfl) dL_tryBreak_2 ⟨(Nat.le_of_ble_eq_true rfl), (Nat.le_of_ble_eq_true rfl)⟩ hk (fun mo hmo => c_X9_breakSeal (ha.1 o) hst p0 mo _ _ (N_breakSeal hmo hk p0 _ _ (fun ht m1 hR => ⟨ht, rfl, hR⟩) (fun ht => ⟨rfl, ht, hmo⟩))) (fun _ _ _ _ h => h) (fun _ _ _ _ h => h) rfl rfl (gV kw_4_66 kw_4_67 kw_4_68 kw_1_1 kw_4_69) hy_X9_breakSeal ⟨(Nat.le_of_ble_eq_true rfl), (Nat.le_of_ble_eq_true rfl)⟩ (fun hx => ?_) (fun hz => ?_)
  · have h9 : tBreak (g.1 o).1 p0 = 0 ∨ tBreak (g.1 o).1 p0 = 1 ∨ tBreak (g.1 o).1 p0 = 3 := by unfold tBreak; (repeat' split) <;> decide
    rcases h9 with h9 | h9 | h9
    · exact absurd h9 hx
    · skip
      rw [h9]
      refine ⟨6, by decide, Ct1 (k1 := 1) htab rfl (by decide) (by decide) (X.2.2.2.2 _ kw_3_94), fun q => ?_⟩
      refine q_astore_n X dL_tryBreak_6 rfl (Nat.le_of_ble_eq_true rfl) rfl ?_
      refine q_ldc (v := -9999001) X kw_3_145 dL_tryBreak_7 ?_
      exact hE _ _ _ _ _ _ dL_tryBreak_9 (Nat.le_of_ble_eq_true rfl) (Nat.le_of_ble_eq_true rfl) ⟨by unfold z_tryBreak; rw [if_neg hx, h9]; rfl, by unfold z_tryBreak; rw [if_neg hx]; exact (gz_id g o).symm⟩
    · skip
      rw [h9]
      refine ⟨10, by decide, Ct2 (k1 := 1) (k2 := 3) htab rfl (by decide) (by decide) (by decide) (X.2.2.2.2 _ kw_3_94) (X.2.2.2.2 _ kw_2_144) hW.2.2.1, fun q => ?_⟩
      refine q_astore_n X dL_tryBreak_10 rfl (Nat.le_of_ble_eq_true rfl) rfl ?_
      refine q_ldc (v := -9999003) X kw_3_87 dL_tryBreak_11 ?_
      exact hE _ _ _ _ _ _ dL_tryBreak_13 (Nat.le_of_ble_eq_true rfl) (Nat.le_of_ble_eq_true rfl) ⟨by unfold z_tryBreak; rw [if_neg hx, h9]; rfl, by unfold z_tryBreak; rw [if_neg hx]; exact (gz_id g o).symm⟩
  · exact hE _ _ _ _ _ _ dL_tryBreak_5 (Nat.le_of_ble_eq_true rfl) (Nat.le_of_ble_eq_true rfl) ⟨by unfold z_tryBreak; rw [if_pos hz], by unfold z_tryBreak; rw [if_pos hz]⟩
theorem dL_tryPay_0 : decode cL_tryPay 0 = .ok (.aload_n 0, 1) := by decide +kernel
theorem dL_tryPay_1 : decode cL_tryPay 1 = .ok (.iload_n 1, 1) := by decide +kernel
theorem dL_tryPay_2 : decode cL_tryPay 2 = .ok (.invokevirtual 70, 3) := by decide +kernel
theorem dL_tryPay_5 : decode cL_tryPay 5 = .ok (.ireturn, 1) := by decide +kernel
theorem dL_tryPay_6 : decode cL_tryPay 6 = .ok (.astore_n 2, 1) := by decide +kernel
theorem dL_tryPay_7 : decode cL_tryPay 7 = .ok (.ldc 15, 2) := by decide +kernel
theorem dL_tryPay_9 : decode cL_tryPay 9 = .ok (.ireturn, 1) := by decide +kernel
theorem dL_tryPay_10 : decode cL_tryPay 10 = .ok (.astore_n 2, 1) := by decide +kernel
theorem dL_tryPay_11 : decode cL_tryPay 11 = .ok (.ldc 18, 2) := by decide +kernel
theorem dL_tryPay_13 : decode cL_tryPay 13 = .ok (.ireturn, 1) := by decide +kernel
def rm_L_tryPay : Room := { frames := 8, cells := 2, slots := 12, locals := 131 }
theorem hy_L_tryPay : yL_tryPay.cls = RL ∧ yL_tryPay.cls ≠ "java/lang/invoke/MethodHandle" ∧ yL_tryPay.cls ≠ "java/lang/invoke/VarHandle" ∧ (parseMethodDescriptor yL_tryPay.desc).map (fun d => d.parameters.length) = some 2 := by decide +kernel
set_option maxRecDepth 100000 in
set_option maxHeartbeats 4000000 in
theorem k_L_tryPay {l : Launch} {D : va_G} {cA : Nat → ClassId} {ad : Bool → Nat → Nat → Nat} {A : Bool → Nat → Prop} (ha : AG ad A) (hst : l.stackTraces = false) (o : Bool) (p0 : Int32) (g : Gh) (hk : g.2 + 1 ≤ 2400) : Met l yL_tryPay (.codeWith yL_tryPay cL_tryPay 3 (some .int) [(0, 5, 6, 13), (0, 5, 10, 16)] :: TG) rm_L_tryPay (PcG D cA ad A [.ref (ad o 0 1), .int p0] g) (QcG D cA ad A (fun r g' => r = (z_tryPay p0 (g.1 o)).1 ∧ g' = gz g o (z_tryPay p0 (g.1 o)).2)) 2 12 (AU A) := by
  refine enterG pl_L rfl (Nat.le_of_ble_eq_true rfl) ?_
  intro p e s m args below meth c QQ X htab hW hZ hE
  refine q_aload_n (j := 0) X dL_tryPay_0 rfl rfl ?_
  refine q_iload_n (j := 1) X dL_tryPay_1 rfl rfl ?_
  refine qG_call X hW hZ ha o (t := tPay (g.1 o).1 p0) (val := afterF (g.1 o).1 p0) (nm := (svP (g.1 o) (payF (g.1 o).1 p0))) (dk := 1) (Qp := (fun _ r m1 => tPay (g.1 o).1 p0 = 0 ∧ r = afterF (g.1 o).1 p0 ∧ RelN (g.2 + 1) m1 (svP (g.1 o) (payF (g.1 o).1 p0)))) (Xp := fun _ => (fun k0 m1 => k0 = tPay (g.1 o).1 p0 ∧ ¬ tPay (g.1 o).1 p0 = 0 ∧ RelN g.2 m1 (g.1 o))) [.int p0] [] rfl rfl (Nat.le_of_ble_eq_true rfl) dL_tryPay_2 ⟨(Nat.le_of_ble_eq_true rfl), (Nat.le_of_ble_eq_true rfl)⟩ hk (fun mo hmo => c_X9_deposit (ha.1 o) hst p0 mo _ _ (N_deposit hmo hk p0 _ _ (fun ht m1 hR => ⟨ht, rfl, hR⟩) (fun ht => ⟨rfl, ht, hmo⟩))) (fun _ _ _ _ h => h) (fun _ _ _ _ h => h) rfl rfl (gV kw_4_77 kw_4_78 kw_4_79 kw_1_1 kw_4_80) hy_X9_deposit ⟨(Nat.le_of_ble_eq_true rfl), (Nat.le_of_ble_eq_true rfl)⟩ (fun hx => ?_) (fun hz => ?_)
  · have h9 : tPay (g.1 o).1 p0 = 0 ∨ tPay (g.1 o).1 p0 = 2 ∨ tPay (g.1 o).1 p0 = 3 := by unfold tPay; (repeat' split) <;> decide
    rcases h9 with h9 | h9 | h9
    · exact absurd h9 hx
    · skip
      rw [h9]
      refine ⟨6, by decide, Ct1 (k1 := 2) htab rfl (by decide) (by decide) (X.2.2.2.2 _ kw_2_143), fun q => ?_⟩
      refine q_astore_n X dL_tryPay_6 rfl (Nat.le_of_ble_eq_true rfl) rfl ?_
      refine q_ldc (v := -9999002) X kw_3_86 dL_tryPay_7 ?_
      exact hE _ _ _ _ _ _ dL_tryPay_9 (Nat.le_of_ble_eq_true rfl) (Nat.le_of_ble_eq_true rfl) ⟨by unfold z_tryPay; rw [if_neg hx, h9]; rfl, by unfold z_tryPay; rw [if_neg hx]; exact (gz_id g o).symm⟩
    · skip
      rw [h9]
      refine ⟨10, by decide, Ct2 (k1 := 2) (k2 := 3) htab rfl (by decide) (by decide) (by decide) (X.2.2.2.2 _ kw_2_143) (X.2.2.2.2 _ kw_2_144) hW.2.2.2, fun q => ?_⟩
      refine q_astore_n X dL_tryPay_10 rfl (Nat.le_of_ble_eq_true rfl) rfl ?_
      refine q_ldc (v := -9999003) X kw_3_87 dL_tryPay_11 ?_
      exact hE _ _ _ _ _ _ dL_tryPay_13 (Nat.le_of_ble_eq_true rfl) (Nat.le_of_ble_eq_true rfl) ⟨by unfold z_tryPay; rw [if_neg hx, h9]; rfl, by unfold z_tryPay; rw [if_neg hx]; exact (gz_id g o).symm⟩
  · exact hE _ _ _ _ _ _ dL_tryPay_5 (Nat.le_of_ble_eq_true rfl) (Nat.le_of_ble_eq_true rfl) ⟨by unfold z_tryPay; rw [if_pos hz], by unfold z_tryPay; rw [if_pos hz]⟩
theorem dL_trySetBond_0 : decode cL_trySetBond 0 = .ok (.aload_n 0, 1) := by decide +kernel
theorem dL_trySetBond_1 : decode cL_trySetBond 1 = .ok (.iload_n 1, 1) := by decide +kernel
theorem dL_trySetBond_2 : decode cL_trySetBond 2 = .ok (.invokevirtual 73, 3) := by decide +kernel
theorem dL_trySetBond_5 : decode cL_trySetBond 5 = .ok (.ireturn, 1) := by decide +kernel
theorem dL_trySetBond_6 : decode cL_trySetBond 6 = .ok (.astore_n 2, 1) := by decide +kernel
theorem dL_trySetBond_7 : decode cL_trySetBond 7 = .ok (.ldc 15, 2) := by decide +kernel
theorem dL_trySetBond_9 : decode cL_trySetBond 9 = .ok (.ireturn, 1) := by decide +kernel
theorem dL_trySetBond_10 : decode cL_trySetBond 10 = .ok (.astore_n 2, 1) := by decide +kernel
theorem dL_trySetBond_11 : decode cL_trySetBond 11 = .ok (.ldc 18, 2) := by decide +kernel
theorem dL_trySetBond_13 : decode cL_trySetBond 13 = .ok (.ireturn, 1) := by decide +kernel
def rm_L_trySetBond : Room := { frames := 8, cells := 2, slots := 12, locals := 131 }
theorem hy_L_trySetBond : yL_trySetBond.cls = RL ∧ yL_trySetBond.cls ≠ "java/lang/invoke/MethodHandle" ∧ yL_trySetBond.cls ≠ "java/lang/invoke/VarHandle" ∧ (parseMethodDescriptor yL_trySetBond.desc).map (fun d => d.parameters.length) = some 2 := by decide +kernel
set_option maxRecDepth 100000 in
set_option maxHeartbeats 4000000 in
theorem k_L_trySetBond {l : Launch} {D : va_G} {cA : Nat → ClassId} {ad : Bool → Nat → Nat → Nat} {A : Bool → Nat → Prop} (ha : AG ad A) (hst : l.stackTraces = false) (o : Bool) (p0 : Int32) (g : Gh) (hk : g.2 + 1 ≤ 2400) : Met l yL_trySetBond (.codeWith yL_trySetBond cL_trySetBond 3 (some .int) [(0, 5, 6, 13), (0, 5, 10, 16)] :: TG) rm_L_trySetBond (PcG D cA ad A [.ref (ad o 0 1), .int p0] g) (QcG D cA ad A (fun r g' => r = (z_trySetBond p0 (g.1 o)).1 ∧ g' = gz g o (z_trySetBond p0 (g.1 o)).2)) 2 12 (AU A) := by
  refine enterG pl_L rfl (Nat.le_of_ble_eq_true rfl) ?_
  intro p e s m args below meth c QQ X htab hW hZ hE
  refine q_aload_n (j := 0) X dL_trySetBond_0 rfl rfl ?_
  refine q_iload_n (j := 1) X dL_trySetBond_1 rfl rfl ?_
  refine qG_call X hW hZ ha o (t := tBond (g.1 o).1 p0) (val := (g.1 o).1 5) (nm := (svP (g.1 o) (up (g.1 o).1 5 p0))) (dk := 1) (Qp := (fun _ r m1 => tBond (g.1 o).1 p0 = 0 ∧ r = (g.1 o).1 5 ∧ RelN (g.2 + 1) m1 (svP (g.1 o) (up (g.1 o).1 5 p0)))) (Xp := fun _ => (fun k0 m1 => k0 = tBond (g.1 o).1 p0 ∧ ¬ tBond (g.1 o).1 p0 = 0 ∧ RelN g.2 m1 (g.1 o))) [.int p0] [] rfl rfl (Nat.le_of_ble_eq_true rfl) dL_trySetBond_2 ⟨(Nat.le_of_ble_eq_true rfl), (Nat.le_of_ble_eq_true rfl)⟩ hk (fun mo hmo => c_X9_setBond (ha.1 o) hst p0 mo _ _ (N_setBond hmo hk p0 _ _ (fun ht m1 hR => ⟨ht, rfl, hR⟩) (fun ht => ⟨rfl, ht, hmo⟩))) (fun _ _ _ _ h => h) (fun _ _ _ _ h => h) rfl rfl (gV kw_4_98 kw_4_99 kw_4_100 kw_1_1 kw_4_101) hy_X9_setBond ⟨(Nat.le_of_ble_eq_true rfl), (Nat.le_of_ble_eq_true rfl)⟩ (fun hx => ?_) (fun hz => ?_)
  · have h9 : tBond (g.1 o).1 p0 = 0 ∨ tBond (g.1 o).1 p0 = 2 ∨ tBond (g.1 o).1 p0 = 3 := by unfold tBond; (repeat' split) <;> decide
    rcases h9 with h9 | h9 | h9
    · exact absurd h9 hx
    · skip
      rw [h9]
      refine ⟨6, by decide, Ct1 (k1 := 2) htab rfl (by decide) (by decide) (X.2.2.2.2 _ kw_2_143), fun q => ?_⟩
      refine q_astore_n X dL_trySetBond_6 rfl (Nat.le_of_ble_eq_true rfl) rfl ?_
      refine q_ldc (v := -9999002) X kw_3_86 dL_trySetBond_7 ?_
      exact hE _ _ _ _ _ _ dL_trySetBond_9 (Nat.le_of_ble_eq_true rfl) (Nat.le_of_ble_eq_true rfl) ⟨by unfold z_trySetBond; rw [if_neg hx, h9]; rfl, by unfold z_trySetBond; rw [if_neg hx]; exact (gz_id g o).symm⟩
    · skip
      rw [h9]
      refine ⟨10, by decide, Ct2 (k1 := 2) (k2 := 3) htab rfl (by decide) (by decide) (by decide) (X.2.2.2.2 _ kw_2_143) (X.2.2.2.2 _ kw_2_144) hW.2.2.2, fun q => ?_⟩
      refine q_astore_n X dL_trySetBond_10 rfl (Nat.le_of_ble_eq_true rfl) rfl ?_
      refine q_ldc (v := -9999003) X kw_3_87 dL_trySetBond_11 ?_
      exact hE _ _ _ _ _ _ dL_trySetBond_13 (Nat.le_of_ble_eq_true rfl) (Nat.le_of_ble_eq_true rfl) ⟨by unfold z_trySetBond; rw [if_neg hx, h9]; rfl, by unfold z_trySetBond; rw [if_neg hx]; exact (gz_id g o).symm⟩
  · exact hE _ _ _ _ _ _ dL_trySetBond_5 (Nat.le_of_ble_eq_true rfl) (Nat.le_of_ble_eq_true rfl) ⟨by unfold z_trySetBond; rw [if_pos hz], by unfold z_trySetBond; rw [if_pos hz]⟩
theorem dL_trySetValue_0 : decode cL_trySetValue 0 = .ok (.aload_n 0, 1) := by decide +kernel
theorem dL_trySetValue_1 : decode cL_trySetValue 1 = .ok (.iload_n 1, 1) := by decide +kernel
theorem dL_trySetValue_2 : decode cL_trySetValue 2 = .ok (.iload_n 2, 1) := by decide +kernel
theorem dL_trySetValue_3 : decode cL_trySetValue 3 = .ok (.invokevirtual 76, 3) := by decide +kernel
theorem dL_trySetValue_6 : decode cL_trySetValue 6 = .ok (.ireturn, 1) := by decide +kernel
theorem dL_trySetValue_7 : decode cL_trySetValue 7 = .ok (.astore_n 3, 1) := by decide +kernel
theorem dL_trySetValue_8 : decode cL_trySetValue 8 = .ok (.ldc 15, 2) := by decide +kernel
theorem dL_trySetValue_10 : decode cL_trySetValue 10 = .ok (.ireturn, 1) := by decide +kernel
def rm_L_trySetValue : Room := { frames := 8, cells := 2, slots := 12, locals := 132 }
theorem hy_L_trySetValue : yL_trySetValue.cls = RL ∧ yL_trySetValue.cls ≠ "java/lang/invoke/MethodHandle" ∧ yL_trySetValue.cls ≠ "java/lang/invoke/VarHandle" ∧ (parseMethodDescriptor yL_trySetValue.desc).map (fun d => d.parameters.length) = some 3 := by decide +kernel
set_option maxRecDepth 100000 in
set_option maxHeartbeats 4000000 in
theorem k_L_trySetValue {l : Launch} {D : va_G} {cA : Nat → ClassId} {ad : Bool → Nat → Nat → Nat} {A : Bool → Nat → Prop} (ha : AG ad A) (hst : l.stackTraces = false) (o : Bool) (p0 : Int32) (p1 : Int32) (g : Gh) (hk : g.2 + 1 ≤ 2400) : Met l yL_trySetValue (.codeWith yL_trySetValue cL_trySetValue 4 (some .int) [(0, 6, 7, 13)] :: TG) rm_L_trySetValue (PcG D cA ad A [.ref (ad o 0 1), .int p0, .int p1] g) (QcG D cA ad A (fun r g' => r = (z_trySetValue p0 p1 (g.1 o)).1 ∧ g' = gz g o (z_trySetValue p0 p1 (g.1 o)).2)) 2 12 (AU A) := by
  refine enterG pl_L rfl (Nat.le_of_ble_eq_true rfl) ?_
  intro p e s m args below meth c QQ X htab hW hZ hE
  refine q_aload_n (j := 0) X dL_trySetValue_0 rfl rfl ?_
  refine q_iload_n (j := 1) X dL_trySetValue_1 rfl rfl ?_
  refine q_iload_n (j := 2) X dL_trySetValue_2 rfl rfl ?_
  refine qG_call X hW hZ ha o (t := tValue p0 p1) (val := (g.1 o).1 (20 + p0.toNatClampNeg)) (nm := (svP (g.1 o) (up (g.1 o).1 (20 + p0.toNatClampNeg) p1))) (dk := 1) (Qp := (fun _ r m1 => tValue p0 p1 = 0 ∧ r = (g.1 o).1 (20 + p0.toNatClampNeg) ∧ RelN (g.2 + 1) m1 (svP (g.1 o) (up (g.1 o).1 (20 + p0.toNatClampNeg) p1)))) (Xp := fun _ => (fun k0 m1 => k0 = tValue p0 p1 ∧ ¬ tValue p0 p1 = 0 ∧ RelN g.2 m1 (g.1 o))) [.int p0, .int p1] [] rfl rfl (Nat.le_of_ble_eq_true rfl) dL_trySetValue_3 ⟨(Nat.le_of_ble_eq_true rfl), (Nat.le_of_ble_eq_true rfl)⟩ hk (fun mo hmo => c_X9_setRateByValue (ha.1 o) hst p0 p1 mo _ _ (N_setRateByValue hmo hk p0 p1 _ _ (fun ht m1 hR => ⟨ht, rfl, hR⟩) (fun ht => ⟨rfl, ht, hmo⟩))) (fun _ _ _ _ h => h) (fun _ _ _ _ h => h) rfl rfl (gV kw_4_111 kw_4_112 kw_4_113 kw_1_1 kw_4_114) hy_X9_setRateByValue ⟨(Nat.le_of_ble_eq_true rfl), (Nat.le_of_ble_eq_true rfl)⟩ (fun hx => ?_) (fun hz => ?_)
  · have h9 : tValue p0 p1 = 0 ∨ tValue p0 p1 = 2 := by unfold tValue; (repeat' split) <;> decide
    rcases h9 with h9 | h9
    · exact absurd h9 hx
    · skip
      rw [h9]
      refine ⟨7, by decide, Ct1 (k1 := 2) htab rfl (by decide) (by decide) (X.2.2.2.2 _ kw_2_143), fun q => ?_⟩
      refine q_astore_n X dL_trySetValue_7 rfl (Nat.le_of_ble_eq_true rfl) rfl ?_
      refine q_ldc (v := -9999002) X kw_3_86 dL_trySetValue_8 ?_
      exact hE _ _ _ _ _ _ dL_trySetValue_10 (Nat.le_of_ble_eq_true rfl) (Nat.le_of_ble_eq_true rfl) ⟨by unfold z_trySetValue; rw [if_neg hx, h9]; rfl, by unfold z_trySetValue; rw [if_neg hx]; exact (gz_id g o).symm⟩
  · exact hE _ _ _ _ _ _ dL_trySetValue_6 (Nat.le_of_ble_eq_true rfl) (Nat.le_of_ble_eq_true rfl) ⟨by unfold z_trySetValue; rw [if_pos hz], by unfold z_trySetValue; rw [if_pos hz]⟩
theorem dL_trySetWeight_0 : decode cL_trySetWeight 0 = .ok (.aload_n 0, 1) := by decide +kernel
theorem dL_trySetWeight_1 : decode cL_trySetWeight 1 = .ok (.iload_n 1, 1) := by decide +kernel
theorem dL_trySetWeight_2 : decode cL_trySetWeight 2 = .ok (.iload_n 2, 1) := by decide +kernel
theorem dL_trySetWeight_3 : decode cL_trySetWeight 3 = .ok (.invokevirtual 79, 3) := by decide +kernel
theorem dL_trySetWeight_6 : decode cL_trySetWeight 6 = .ok (.ireturn, 1) := by decide +kernel
theorem dL_trySetWeight_7 : decode cL_trySetWeight 7 = .ok (.astore_n 3, 1) := by decide +kernel
theorem dL_trySetWeight_8 : decode cL_trySetWeight 8 = .ok (.ldc 15, 2) := by decide +kernel
theorem dL_trySetWeight_10 : decode cL_trySetWeight 10 = .ok (.ireturn, 1) := by decide +kernel
def rm_L_trySetWeight : Room := { frames := 8, cells := 2, slots := 12, locals := 132 }
theorem hy_L_trySetWeight : yL_trySetWeight.cls = RL ∧ yL_trySetWeight.cls ≠ "java/lang/invoke/MethodHandle" ∧ yL_trySetWeight.cls ≠ "java/lang/invoke/VarHandle" ∧ (parseMethodDescriptor yL_trySetWeight.desc).map (fun d => d.parameters.length) = some 3 := by decide +kernel
set_option maxRecDepth 100000 in
set_option maxHeartbeats 4000000 in
theorem k_L_trySetWeight {l : Launch} {D : va_G} {cA : Nat → ClassId} {ad : Bool → Nat → Nat → Nat} {A : Bool → Nat → Prop} (ha : AG ad A) (hst : l.stackTraces = false) (o : Bool) (p0 : Int32) (p1 : Int32) (g : Gh) (hk : g.2 + 1 ≤ 2400) : Met l yL_trySetWeight (.codeWith yL_trySetWeight cL_trySetWeight 4 (some .int) [(0, 6, 7, 13)] :: TG) rm_L_trySetWeight (PcG D cA ad A [.ref (ad o 0 1), .int p0, .int p1] g) (QcG D cA ad A (fun r g' => r = (z_trySetWeight p0 p1 (g.1 o)).1 ∧ g' = gz g o (z_trySetWeight p0 p1 (g.1 o)).2)) 2 12 (AU A) := by
  refine enterG pl_L rfl (Nat.le_of_ble_eq_true rfl) ?_
  intro p e s m args below meth c QQ X htab hW hZ hE
  refine q_aload_n (j := 0) X dL_trySetWeight_0 rfl rfl ?_
  refine q_iload_n (j := 1) X dL_trySetWeight_1 rfl rfl ?_
  refine q_iload_n (j := 2) X dL_trySetWeight_2 rfl rfl ?_
  refine qG_call X hW hZ ha o (t := tWeight p0 p1) (val := (g.1 o).1 (26 + p0.toNatClampNeg)) (nm := (svP (g.1 o) (up (g.1 o).1 (26 + p0.toNatClampNeg) p1))) (dk := 1) (Qp := (fun _ r m1 => tWeight p0 p1 = 0 ∧ r = (g.1 o).1 (26 + p0.toNatClampNeg) ∧ RelN (g.2 + 1) m1 (svP (g.1 o) (up (g.1 o).1 (26 + p0.toNatClampNeg) p1)))) (Xp := fun _ => (fun k0 m1 => k0 = tWeight p0 p1 ∧ ¬ tWeight p0 p1 = 0 ∧ RelN g.2 m1 (g.1 o))) [.int p0, .int p1] [] rfl rfl (Nat.le_of_ble_eq_true rfl) dL_trySetWeight_3 ⟨(Nat.le_of_ble_eq_true rfl), (Nat.le_of_ble_eq_true rfl)⟩ hk (fun mo hmo => c_X9_setRateByWeight (ha.1 o) hst p0 p1 mo _ _ (N_setRateByWeight hmo hk p0 p1 _ _ (fun ht m1 hR => ⟨ht, rfl, hR⟩) (fun ht => ⟨rfl, ht, hmo⟩))) (fun _ _ _ _ h => h) (fun _ _ _ _ h => h) rfl rfl (gV kw_4_122 kw_4_123 kw_4_124 kw_1_1 kw_4_125) hy_X9_setRateByWeight ⟨(Nat.le_of_ble_eq_true rfl), (Nat.le_of_ble_eq_true rfl)⟩ (fun hx => ?_) (fun hz => ?_)
  · have h9 : tWeight p0 p1 = 0 ∨ tWeight p0 p1 = 2 := by unfold tWeight; (repeat' split) <;> decide
    rcases h9 with h9 | h9
    · exact absurd h9 hx
    · skip
      rw [h9]
      refine ⟨7, by decide, Ct1 (k1 := 2) htab rfl (by decide) (by decide) (X.2.2.2.2 _ kw_2_143), fun q => ?_⟩
      refine q_astore_n X dL_trySetWeight_7 rfl (Nat.le_of_ble_eq_true rfl) rfl ?_
      refine q_ldc (v := -9999002) X kw_3_86 dL_trySetWeight_8 ?_
      exact hE _ _ _ _ _ _ dL_trySetWeight_10 (Nat.le_of_ble_eq_true rfl) (Nat.le_of_ble_eq_true rfl) ⟨by unfold z_trySetWeight; rw [if_neg hx, h9]; rfl, by unfold z_trySetWeight; rw [if_neg hx]; exact (gz_id g o).symm⟩
  · exact hE _ _ _ _ _ _ dL_trySetWeight_6 (Nat.le_of_ble_eq_true rfl) (Nat.le_of_ble_eq_true rfl) ⟨by unfold z_trySetWeight; rw [if_pos hz], by unfold z_trySetWeight; rw [if_pos hz]⟩
theorem dL_tryPass_0 : decode cL_tryPass 0 = .ok (.aload_n 0, 1) := by decide +kernel
theorem dL_tryPass_1 : decode cL_tryPass 1 = .ok (.iload_n 1, 1) := by decide +kernel
theorem dL_tryPass_2 : decode cL_tryPass 2 = .ok (.invokevirtual 82, 3) := by decide +kernel
theorem dL_tryPass_5 : decode cL_tryPass 5 = .ok (.ireturn, 1) := by decide +kernel
theorem dL_tryPass_6 : decode cL_tryPass 6 = .ok (.astore_n 2, 1) := by decide +kernel
theorem dL_tryPass_7 : decode cL_tryPass 7 = .ok (.ldc 15, 2) := by decide +kernel
theorem dL_tryPass_9 : decode cL_tryPass 9 = .ok (.ireturn, 1) := by decide +kernel
theorem dL_tryPass_10 : decode cL_tryPass 10 = .ok (.astore_n 2, 1) := by decide +kernel
theorem dL_tryPass_11 : decode cL_tryPass 11 = .ok (.ldc 18, 2) := by decide +kernel
theorem dL_tryPass_13 : decode cL_tryPass 13 = .ok (.ireturn, 1) := by decide +kernel
def rm_L_tryPass : Room := { frames := 8, cells := 2, slots := 12, locals := 131 }
theorem hy_L_tryPass : yL_tryPass.cls = RL ∧ yL_tryPass.cls ≠ "java/lang/invoke/MethodHandle" ∧ yL_tryPass.cls ≠ "java/lang/invoke/VarHandle" ∧ (parseMethodDescriptor yL_tryPass.desc).map (fun d => d.parameters.length) = some 2 := by decide +kernel
set_option maxRecDepth 100000 in
set_option maxHeartbeats 4000000 in
theorem k_L_tryPass {l : Launch} {D : va_G} {cA : Nat → ClassId} {ad : Bool → Nat → Nat → Nat} {A : Bool → Nat → Prop} (ha : AG ad A) (hst : l.stackTraces = false) (o : Bool) (p0 : Int32) (g : Gh) (hk : g.2 + 1 ≤ 2400) : Met l yL_tryPass (.codeWith yL_tryPass cL_tryPass 3 (some .int) [(0, 5, 6, 13), (0, 5, 10, 16)] :: TG) rm_L_tryPass (PcG D cA ad A [.ref (ad o 0 1), .int p0] g) (QcG D cA ad A (fun r g' => r = (z_tryPass p0 (g.1 o)).1 ∧ g' = gz g o (z_tryPass p0 (g.1 o)).2)) 2 12 (AU A) := by
  refine enterG pl_L rfl (Nat.le_of_ble_eq_true rfl) ?_
  intro p e s m args below meth c QQ X htab hW hZ hE
  refine q_aload_n (j := 0) X dL_tryPass_0 rfl rfl ?_
  refine q_iload_n (j := 1) X dL_tryPass_1 rfl rfl ?_
  refine qG_call X hW hZ ha o (t := tPass (g.1 o).1 p0) (val := (psL (g.1 o).1 p0 (mo (g.1 o).1)).1) (nm := (svP (g.1 o) (passF (g.1 o).1 p0))) (dk := 1) (Qp := (fun _ r m1 => tPass (g.1 o).1 p0 = 0 ∧ r = (psL (g.1 o).1 p0 (mo (g.1 o).1)).1 ∧ RelN (g.2 + 1) m1 (svP (g.1 o) (passF (g.1 o).1 p0)))) (Xp := fun _ => (fun k0 m1 => k0 = tPass (g.1 o).1 p0 ∧ ¬ tPass (g.1 o).1 p0 = 0 ∧ RelN g.2 m1 (g.1 o))) [.int p0] [] rfl rfl (Nat.le_of_ble_eq_true rfl) dL_tryPass_2 ⟨(Nat.le_of_ble_eq_true rfl), (Nat.le_of_ble_eq_true rfl)⟩ hk (fun mo hmo => c_X9_pass (ha.1 o) hst p0 mo _ _ (N_pass hmo hk p0 _ _ (fun ht m1 hR => ⟨ht, rfl, hR⟩) (fun ht => ⟨rfl, ht, hmo⟩))) (fun _ _ _ _ h => h) (fun _ _ _ _ h => h) rfl rfl (gV kw_4_133 kw_4_134 kw_4_135 kw_1_1 kw_4_136) hy_X9_pass ⟨(Nat.le_of_ble_eq_true rfl), (Nat.le_of_ble_eq_true rfl)⟩ (fun hx => ?_) (fun hz => ?_)
  · have h9 : tPass (g.1 o).1 p0 = 0 ∨ tPass (g.1 o).1 p0 = 2 ∨ tPass (g.1 o).1 p0 = 3 := by unfold tPass; (repeat' split) <;> decide
    rcases h9 with h9 | h9 | h9
    · exact absurd h9 hx
    · skip
      rw [h9]
      refine ⟨6, by decide, Ct1 (k1 := 2) htab rfl (by decide) (by decide) (X.2.2.2.2 _ kw_2_143), fun q => ?_⟩
      refine q_astore_n X dL_tryPass_6 rfl (Nat.le_of_ble_eq_true rfl) rfl ?_
      refine q_ldc (v := -9999002) X kw_3_86 dL_tryPass_7 ?_
      exact hE _ _ _ _ _ _ dL_tryPass_9 (Nat.le_of_ble_eq_true rfl) (Nat.le_of_ble_eq_true rfl) ⟨by unfold z_tryPass; rw [if_neg hx, h9]; rfl, by unfold z_tryPass; rw [if_neg hx]; exact (gz_id g o).symm⟩
    · skip
      rw [h9]
      refine ⟨10, by decide, Ct2 (k1 := 2) (k2 := 3) htab rfl (by decide) (by decide) (by decide) (X.2.2.2.2 _ kw_2_143) (X.2.2.2.2 _ kw_2_144) hW.2.2.2, fun q => ?_⟩
      refine q_astore_n X dL_tryPass_10 rfl (Nat.le_of_ble_eq_true rfl) rfl ?_
      refine q_ldc (v := -9999003) X kw_3_87 dL_tryPass_11 ?_
      exact hE _ _ _ _ _ _ dL_tryPass_13 (Nat.le_of_ble_eq_true rfl) (Nat.le_of_ble_eq_true rfl) ⟨by unfold z_tryPass; rw [if_neg hx, h9]; rfl, by unfold z_tryPass; rw [if_neg hx]; exact (gz_id g o).symm⟩
  · exact hE _ _ _ _ _ _ dL_tryPass_5 (Nat.le_of_ble_eq_true rfl) (Nat.le_of_ble_eq_true rfl) ⟨by unfold z_tryPass; rw [if_pos hz], by unfold z_tryPass; rw [if_pos hz]⟩
theorem dL_tryUndo_0 : decode cL_tryUndo 0 = .ok (.aload_n 0, 1) := by decide +kernel
theorem dL_tryUndo_1 : decode cL_tryUndo 1 = .ok (.invokevirtual 200, 3) := by decide +kernel
theorem dL_tryUndo_4 : decode cL_tryUndo 4 = .ok (.ireturn, 1) := by decide +kernel
theorem dL_tryUndo_5 : decode cL_tryUndo 5 = .ok (.astore_n 1, 1) := by decide +kernel
theorem dL_tryUndo_6 : decode cL_tryUndo 6 = .ok (.ldc 18, 2) := by decide +kernel
theorem dL_tryUndo_8 : decode cL_tryUndo 8 = .ok (.ireturn, 1) := by decide +kernel
def rm_L_tryUndo : Room := { frames := 7, cells := 2, slots := 12, locals := 110 }
theorem hy_L_tryUndo : yL_tryUndo.cls = RL ∧ yL_tryUndo.cls ≠ "java/lang/invoke/MethodHandle" ∧ yL_tryUndo.cls ≠ "java/lang/invoke/VarHandle" ∧ (parseMethodDescriptor yL_tryUndo.desc).map (fun d => d.parameters.length) = some 1 := by decide +kernel
set_option maxRecDepth 100000 in
set_option maxHeartbeats 4000000 in
theorem k_L_tryUndo {l : Launch} {D : va_G} {cA : Nat → ClassId} {ad : Bool → Nat → Nat → Nat} {A : Bool → Nat → Prop} (ha : AG ad A) (hst : l.stackTraces = false) (o : Bool) (g : Gh) (hk : g.2 + 1 ≤ 2400) : Met l yL_tryUndo (.codeWith yL_tryUndo cL_tryUndo 2 (some .int) [(0, 4, 5, 16)] :: TG) rm_L_tryUndo (PcG D cA ad A [.ref (ad o 0 1)] g) (QcG D cA ad A (fun r g' => r = (z_tryUndo (g.1 o)).1 ∧ g' = gz g o (z_tryUndo (g.1 o)).2)) 2 12 (AU A) := by
  refine enterG pl_L rfl (Nat.le_of_ble_eq_true rfl) ?_
  intro p e s m args below meth c QQ X htab hW hZ hE
  refine q_aload_n (j := 0) X dL_tryUndo_0 rfl rfl ?_
  refine qG_call X hW hZ ha o (t := tUndo (g.1 o)) (val := nI ((g.1 o).2.1 - 1)) (nm := (unP (g.1 o))) (dk := 1) (Qp := (fun _ r m1 => tUndo (g.1 o) = 0 ∧ r = nI ((g.1 o).2.1 - 1) ∧ RelN (g.2 + 1) m1 (unP (g.1 o)))) (Xp := fun _ => (fun k0 m1 => k0 = tUndo (g.1 o) ∧ ¬ tUndo (g.1 o) = 0 ∧ RelN g.2 m1 (g.1 o))) [] [] rfl rfl (Nat.le_of_ble_eq_true rfl) dL_tryUndo_1 ⟨(Nat.le_of_ble_eq_true rfl), (Nat.le_of_ble_eq_true rfl)⟩ hk (fun mo hmo => c_X9_undo (ha.1 o) hst mo _ _ (N_undo hmo hk _ _ (fun ht m1 hR => ⟨ht, rfl, hR⟩) (fun ht => ⟨rfl, ht, hmo⟩))) (fun _ _ _ _ h => h) (fun _ _ _ _ h => h) rfl rfl (gV kw_6_96 kw_6_97 kw_6_98 kw_1_1 kw_6_99) hy_X9_undo ⟨(Nat.le_of_ble_eq_true rfl), (Nat.le_of_ble_eq_true rfl)⟩ (fun hx => ?_) (fun hz => ?_)
  · have h9 : tUndo (g.1 o) = 0 ∨ tUndo (g.1 o) = 3 := by unfold tUndo; (repeat' split) <;> decide
    rcases h9 with h9 | h9
    · exact absurd h9 hx
    · skip
      rw [h9]
      refine ⟨5, by decide, Ct1 (k1 := 3) htab rfl (by decide) (by decide) (X.2.2.2.2 _ kw_2_144), fun q => ?_⟩
      refine q_astore_n X dL_tryUndo_5 rfl (Nat.le_of_ble_eq_true rfl) rfl ?_
      refine q_ldc (v := -9999003) X kw_3_87 dL_tryUndo_6 ?_
      exact hE _ _ _ _ _ _ dL_tryUndo_8 (Nat.le_of_ble_eq_true rfl) (Nat.le_of_ble_eq_true rfl) ⟨by unfold z_tryUndo; rw [if_neg hx, h9]; rfl, by unfold z_tryUndo; rw [if_neg hx]; exact (gz_id g o).symm⟩
  · exact hE _ _ _ _ _ _ dL_tryUndo_4 (Nat.le_of_ble_eq_true rfl) (Nat.le_of_ble_eq_true rfl) ⟨by unfold z_tryUndo; rw [if_pos hz], by unfold z_tryUndo; rw [if_pos hz]⟩
theorem dL_tryKeep_0 : decode cL_tryKeep 0 = .ok (.aload_n 0, 1) := by decide +kernel
theorem dL_tryKeep_1 : decode cL_tryKeep 1 = .ok (.iload_n 1, 1) := by decide +kernel
theorem dL_tryKeep_2 : decode cL_tryKeep 2 = .ok (.invokevirtual 203, 3) := by decide +kernel
theorem dL_tryKeep_5 : decode cL_tryKeep 5 = .ok (.ireturn, 1) := by decide +kernel
theorem dL_tryKeep_6 : decode cL_tryKeep 6 = .ok (.astore_n 2, 1) := by decide +kernel
theorem dL_tryKeep_7 : decode cL_tryKeep 7 = .ok (.ldc 28, 2) := by decide +kernel
theorem dL_tryKeep_9 : decode cL_tryKeep 9 = .ok (.ireturn, 1) := by decide +kernel
def rm_L_tryKeep : Room := { frames := 8, cells := 2, slots := 12, locals := 131 }
theorem hy_L_tryKeep : yL_tryKeep.cls = RL ∧ yL_tryKeep.cls ≠ "java/lang/invoke/MethodHandle" ∧ yL_tryKeep.cls ≠ "java/lang/invoke/VarHandle" ∧ (parseMethodDescriptor yL_tryKeep.desc).map (fun d => d.parameters.length) = some 2 := by decide +kernel
set_option maxRecDepth 100000 in
set_option maxHeartbeats 4000000 in
theorem k_L_tryKeep {l : Launch} {D : va_G} {cA : Nat → ClassId} {ad : Bool → Nat → Nat → Nat} {A : Bool → Nat → Prop} (ha : AG ad A) (hst : l.stackTraces = false) (o : Bool) (p0 : Int32) (g : Gh) (hk : g.2 + 1 ≤ 2400) : Met l yL_tryKeep (.codeWith yL_tryKeep cL_tryKeep 3 (some .int) [(0, 5, 6, 26)] :: TG) rm_L_tryKeep (PcG D cA ad A [.ref (ad o 0 1), .int p0] g) (QcG D cA ad A (fun r g' => r = (z_tryKeep p0 (g.1 o)).1 ∧ g' = gz g o (z_tryKeep p0 (g.1 o)).2)) 2 12 (AU A) := by
  refine enterG pl_L rfl (Nat.le_of_ble_eq_true rfl) ?_
  intro p e s m args below meth c QQ X htab hW hZ hE
  refine q_aload_n (j := 0) X dL_tryKeep_0 rfl rfl ?_
  refine q_iload_n (j := 1) X dL_tryKeep_1 rfl rfl ?_
  refine qG_call X hW hZ ha o (t := tSlot p0) (val := (g.1 o).1 117) (nm := (kpP (g.1 o) p0.toNatClampNeg)) (dk := 1) (Qp := (fun _ r m1 => tSlot p0 = 0 ∧ r = (g.1 o).1 117 ∧ RelN (g.2 + 1) m1 (kpP (g.1 o) p0.toNatClampNeg))) (Xp := fun _ => (fun k0 m1 => k0 = tSlot p0 ∧ ¬ tSlot p0 = 0 ∧ RelN g.2 m1 (g.1 o))) [.int p0] [] rfl rfl (Nat.le_of_ble_eq_true rfl) dL_tryKeep_2 ⟨(Nat.le_of_ble_eq_true rfl), (Nat.le_of_ble_eq_true rfl)⟩ hk (fun mo hmo => c_X9_keep (ha.1 o) hst p0 mo _ _ (N_keep hmo hk p0 _ _ (fun ht m1 hR => ⟨ht, rfl, hR⟩) (fun ht => ⟨rfl, ht, hmo⟩))) (fun _ _ _ _ h => h) (fun _ _ _ _ h => h) rfl rfl (gV kw_6_108 kw_6_109 kw_6_110 kw_1_1 kw_6_111) hy_X9_keep ⟨(Nat.le_of_ble_eq_true rfl), (Nat.le_of_ble_eq_true rfl)⟩ (fun hx => ?_) (fun hz => ?_)
  · have h9 : tSlot p0 = 0 ∨ tSlot p0 = 1 := by unfold tSlot; (repeat' split) <;> decide
    rcases h9 with h9 | h9
    · exact absurd h9 hx
    · skip
      rw [h9]
      refine ⟨6, by decide, Ct1 (k1 := 1) htab rfl (by decide) (by decide) (X.2.2.2.2 _ kw_3_94), fun q => ?_⟩
      refine q_astore_n X dL_tryKeep_6 rfl (Nat.le_of_ble_eq_true rfl) rfl ?_
      refine q_ldc (v := -9999001) X kw_3_145 dL_tryKeep_7 ?_
      exact hE _ _ _ _ _ _ dL_tryKeep_9 (Nat.le_of_ble_eq_true rfl) (Nat.le_of_ble_eq_true rfl) ⟨by unfold z_tryKeep; rw [if_neg hx, h9]; rfl, by unfold z_tryKeep; rw [if_neg hx]; exact (gz_id g o).symm⟩
  · exact hE _ _ _ _ _ _ dL_tryKeep_5 (Nat.le_of_ble_eq_true rfl) (Nat.le_of_ble_eq_true rfl) ⟨by unfold z_tryKeep; rw [if_pos hz], by unfold z_tryKeep; rw [if_pos hz]⟩
theorem dL_tryBack_0 : decode cL_tryBack 0 = .ok (.aload_n 0, 1) := by decide +kernel
theorem dL_tryBack_1 : decode cL_tryBack 1 = .ok (.iload_n 1, 1) := by decide +kernel
theorem dL_tryBack_2 : decode cL_tryBack 2 = .ok (.invokevirtual 206, 3) := by decide +kernel
theorem dL_tryBack_5 : decode cL_tryBack 5 = .ok (.ireturn, 1) := by decide +kernel
theorem dL_tryBack_6 : decode cL_tryBack 6 = .ok (.astore_n 2, 1) := by decide +kernel
theorem dL_tryBack_7 : decode cL_tryBack 7 = .ok (.ldc 28, 2) := by decide +kernel
theorem dL_tryBack_9 : decode cL_tryBack 9 = .ok (.ireturn, 1) := by decide +kernel
theorem dL_tryBack_10 : decode cL_tryBack 10 = .ok (.astore_n 2, 1) := by decide +kernel
theorem dL_tryBack_11 : decode cL_tryBack 11 = .ok (.ldc 18, 2) := by decide +kernel
theorem dL_tryBack_13 : decode cL_tryBack 13 = .ok (.ireturn, 1) := by decide +kernel
def rm_L_tryBack : Room := { frames := 8, cells := 2, slots := 12, locals := 131 }
theorem hy_L_tryBack : yL_tryBack.cls = RL ∧ yL_tryBack.cls ≠ "java/lang/invoke/MethodHandle" ∧ yL_tryBack.cls ≠ "java/lang/invoke/VarHandle" ∧ (parseMethodDescriptor yL_tryBack.desc).map (fun d => d.parameters.length) = some 2 := by decide +kernel
set_option maxRecDepth 100000 in
set_option maxHeartbeats 4000000 in
theorem k_L_tryBack {l : Launch} {D : va_G} {cA : Nat → ClassId} {ad : Bool → Nat → Nat → Nat} {A : Bool → Nat → Prop} (ha : AG ad A) (hst : l.stackTraces = false) (o : Bool) (p0 : Int32) (g : Gh) (hk : g.2 + 1 ≤ 2400) : Met l yL_tryBack (.codeWith yL_tryBack cL_tryBack 3 (some .int) [(0, 5, 6, 26), (0, 5, 10, 16)] :: TG) rm_L_tryBack (PcG D cA ad A [.ref (ad o 0 1), .int p0] g) (QcG D cA ad A (fun r g' => r = (z_tryBack p0 (g.1 o)).1 ∧ g' = gz g o (z_tryBack p0 (g.1 o)).2)) 2 12 (AU A) := by
  refine enterG pl_L rfl (Nat.le_of_ble_eq_true rfl) ?_
  intro p e s m args below meth c QQ X htab hW hZ hE
  refine q_aload_n (j := 0) X dL_tryBack_0 rfl rfl ?_
  refine q_iload_n (j := 1) X dL_tryBack_1 rfl rfl ?_
  refine qG_call X hW hZ ha o (t := tBack (g.1 o) p0) (val := bkP (g.1 o) p0 117) (nm := (svP (g.1 o) (bkP (g.1 o) p0))) (dk := 1) (Qp := (fun _ r m1 => tBack (g.1 o) p0 = 0 ∧ r = bkP (g.1 o) p0 117 ∧ RelN (g.2 + 1) m1 (svP (g.1 o) (bkP (g.1 o) p0)))) (Xp := fun _ => (fun k0 m1 => k0 = tBack (g.1 o) p0 ∧ ¬ tBack (g.1 o) p0 = 0 ∧ RelN g.2 m1 (g.1 o))) [.int p0] [] rfl rfl (Nat.le_of_ble_eq_true rfl) dL_tryBack_2 ⟨(Nat.le_of_ble_eq_true rfl), (Nat.le_of_ble_eq_true rfl)⟩ hk (fun mo hmo => c_X9_goBack (ha.1 o) hst p0 mo _ _ (N_goBack hmo hk p0 _ _ (fun ht m1 hR => ⟨ht, rfl, hR⟩) (fun ht => ⟨rfl, ht, hmo⟩))) (fun _ _ _ _ h => h) (fun _ _ _ _ h => h) rfl rfl (gV kw_6_123 kw_6_124 kw_6_125 kw_1_1 kw_6_126) hy_X9_goBack ⟨(Nat.le_of_ble_eq_true rfl), (Nat.le_of_ble_eq_true rfl)⟩ (fun hx => ?_) (fun hz => ?_)
  · have h9 : tBack (g.1 o) p0 = 0 ∨ tBack (g.1 o) p0 = 1 ∨ tBack (g.1 o) p0 = 3 := by
      unfold tBack
      split
      · split <;> decide
      · decide
    rcases h9 with h9 | h9 | h9
    · exact absurd h9 hx
    · skip
      rw [h9]
      refine ⟨6, by decide, Ct1 (k1 := 1) htab rfl (by decide) (by decide) (X.2.2.2.2 _ kw_3_94), fun q => ?_⟩
      refine q_astore_n X dL_tryBack_6 rfl (Nat.le_of_ble_eq_true rfl) rfl ?_
      refine q_ldc (v := -9999001) X kw_3_145 dL_tryBack_7 ?_
      exact hE _ _ _ _ _ _ dL_tryBack_9 (Nat.le_of_ble_eq_true rfl) (Nat.le_of_ble_eq_true rfl) ⟨by unfold z_tryBack; rw [if_neg hx, h9]; rfl, by unfold z_tryBack; rw [if_neg hx]; exact (gz_id g o).symm⟩
    · skip
      rw [h9]
      refine ⟨10, by decide, Ct2 (k1 := 1) (k2 := 3) htab rfl (by decide) (by decide) (by decide) (X.2.2.2.2 _ kw_3_94) (X.2.2.2.2 _ kw_2_144) hW.2.2.1, fun q => ?_⟩
      refine q_astore_n X dL_tryBack_10 rfl (Nat.le_of_ble_eq_true rfl) rfl ?_
      refine q_ldc (v := -9999003) X kw_3_87 dL_tryBack_11 ?_
      exact hE _ _ _ _ _ _ dL_tryBack_13 (Nat.le_of_ble_eq_true rfl) (Nat.le_of_ble_eq_true rfl) ⟨by unfold z_tryBack; rw [if_neg hx, h9]; rfl, by unfold z_tryBack; rw [if_neg hx]; exact (gz_id g o).symm⟩
  · exact hE _ _ _ _ _ _ dL_tryBack_5 (Nat.le_of_ble_eq_true rfl) (Nat.le_of_ble_eq_true rfl) ⟨by unfold z_tryBack; rw [if_pos hz], by unfold z_tryBack; rw [if_pos hz]⟩
theorem dL_whyNot_0 : decode cL_whyNot 0 = .ok (.aload_n 0, 1) := by decide +kernel
theorem dL_whyNot_1 : decode cL_whyNot 1 = .ok (.iload_n 1, 1) := by decide +kernel
theorem dL_whyNot_2 : decode cL_whyNot 2 = .ok (.iload_n 2, 1) := by decide +kernel
theorem dL_whyNot_3 : decode cL_whyNot 3 = .ok (.iload_n 3, 1) := by decide +kernel
theorem dL_whyNot_4 : decode cL_whyNot 4 = .ok (.iload 4, 2) := by decide +kernel
theorem dL_whyNot_6 : decode cL_whyNot 6 = .ok (.invokevirtual 19, 3) := by decide +kernel
theorem dL_whyNot_9 : decode cL_whyNot 9 = .ok (.ireturn, 1) := by decide +kernel
theorem dL_whyNot_10 : decode cL_whyNot 10 = .ok (.astore 5, 2) := by decide +kernel
theorem dL_whyNot_12 : decode cL_whyNot 12 = .ok (.ldc 15, 2) := by decide +kernel
theorem dL_whyNot_14 : decode cL_whyNot 14 = .ok (.ireturn, 1) := by decide +kernel
def rm_L_whyNot : Room := { frames := 7, cells := 2, slots := 12, locals := 116 }
theorem hy_L_whyNot : yL_whyNot.cls = RL ∧ yL_whyNot.cls ≠ "java/lang/invoke/MethodHandle" ∧ yL_whyNot.cls ≠ "java/lang/invoke/VarHandle" ∧ (parseMethodDescriptor yL_whyNot.desc).map (fun d => d.parameters.length) = some 5 := by decide +kernel
set_option maxRecDepth 100000 in
set_option maxHeartbeats 4000000 in
theorem k_L_whyNot {l : Launch} {D : va_G} {cA : Nat → ClassId} {ad : Bool → Nat → Nat → Nat} {A : Bool → Nat → Prop} (ha : AG ad A) (hst : l.stackTraces = false) (o : Bool) (p0 : Int32) (p1 : Int32) (p2 : Int32) (p3 : Int32) (g : Gh) (hk : g.2 ≤ 2400) : Met l yL_whyNot (.codeWith yL_whyNot cL_whyNot 6 (some .int) [(0, 9, 10, 13)] :: TG) rm_L_whyNot (PcG D cA ad A [.ref (ad o 0 1), .int p0, .int p1, .int p2, .int p3] g) (QcG D cA ad A (fun r g' => r = y_whyNot p0 p1 p2 p3 (g.1 o) ∧ g' = g)) 2 12 (AU A) := by
  refine enterG pl_L rfl (Nat.le_of_ble_eq_true rfl) ?_
  intro p e s m args below meth c QQ X htab hW hZ hE
  refine q_aload_n (j := 0) X dL_whyNot_0 rfl rfl ?_
  refine q_iload_n (j := 1) X dL_whyNot_1 rfl rfl ?_
  refine q_iload_n (j := 2) X dL_whyNot_2 rfl rfl ?_
  refine q_iload_n (j := 3) X dL_whyNot_3 rfl rfl ?_
  refine q_iload (j := 4) X dL_whyNot_4 rfl ?_
  refine qG_call X hW hZ ha o (t := tNew p0 p1 p2 p3) (val := whyE (g.1 o).1 p0.toNatClampNeg p1 p2 p3) (nm := (g.1 o)) (dk := 0) (Qp := (fun mo r m1 => (tNew p0 p1 p2 p3 = 0 ∧ r = whyE (g.1 o).1 p0.toNatClampNeg p1 p2 p3) ∧ mo = m1)) (Xp := fun _ => (fun k0 m1 => k0 = tNew p0 p1 p2 p3 ∧ ¬ tNew p0 p1 p2 p3 = 0 ∧ RelN g.2 m1 (g.1 o))) [.int p0, .int p1, .int p2, .int p3] [] rfl rfl (Nat.le_of_ble_eq_true rfl) dL_whyNot_6 ⟨(Nat.le_of_ble_eq_true rfl), (Nat.le_of_ble_eq_true rfl)⟩ hk (fun mo hmo => c_X9_whyNoEntry (ha.1 o) hst p0 p1 p2 p3 mo _ _ (n_whyNoEntry hmo.rs hmo.inv p0 p1 p2 p3 _ _ (fun ht => ⟨ht, rfl⟩) (fun ht => ⟨rfl, ht, hmo⟩))) (fun mo r m1 hr h => ⟨h.1.1, h.1.2, by rw [← h.2]; exact hr⟩) (fun _ _ _ _ h => h) rfl rfl (gV kw_6_152 kw_6_153 kw_6_154 kw_1_1 kw_6_155) hy_X9_whyNoEntry ⟨(Nat.le_of_ble_eq_true rfl), (Nat.le_of_ble_eq_true rfl)⟩ (fun hx => ?_) (fun hz => ?_)
  · have h9 : tNew p0 p1 p2 p3 = 0 ∨ tNew p0 p1 p2 p3 = 2 := by unfold tNew; (repeat' split) <;> decide
    rcases h9 with h9 | h9
    · exact absurd h9 hx
    · skip
      rw [h9]
      refine ⟨10, by decide, Ct1 (k1 := 2) htab rfl (by decide) (by decide) (X.2.2.2.2 _ kw_2_143), fun q => ?_⟩
      refine q_astore X dL_whyNot_10 (Nat.le_of_ble_eq_true rfl) rfl ?_
      refine q_ldc (v := -9999002) X kw_3_86 dL_whyNot_12 ?_
      exact hE _ _ _ _ _ _ dL_whyNot_14 (Nat.le_of_ble_eq_true rfl) (Nat.le_of_ble_eq_true rfl) ⟨by unfold y_whyNot; rw [if_neg hx, h9]; rfl, rfl⟩
  · rw [gz_id]
    exact hE _ _ _ _ _ _ dL_whyNot_9 (Nat.le_of_ble_eq_true rfl) (Nat.le_of_ble_eq_true rfl) ⟨by unfold y_whyNot; rw [if_pos hz], rfl⟩
theorem dL_isProved_0 : decode cL_isProved 0 = .ok (.aload_n 0, 1) := by decide +kernel
theorem dL_isProved_1 : decode cL_isProved 1 = .ok (.iload_n 1, 1) := by decide +kernel
theorem dL_isProved_2 : decode cL_isProved 2 = .ok (.invokevirtual 22, 3) := by decide +kernel
theorem dL_isProved_5 : decode cL_isProved 5 = .ok (.ifCond .eq 7, 3) := by decide +kernel
theorem dL_isProved_8 : decode cL_isProved 8 = .ok (.iconst 1, 1) := by decide +kernel
theorem dL_isProved_9 : decode cL_isProved 9 = .ok (.goto 4, 3) := by decide +kernel
theorem dL_isProved_12 : decode cL_isProved 12 = .ok (.iconst 0, 1) := by decide +kernel
theorem dL_isProved_13 : decode cL_isProved 13 = .ok (.ireturn, 1) := by decide +kernel
theorem dL_isProved_14 : decode cL_isProved 14 = .ok (.astore_n 2, 1) := by decide +kernel
theorem dL_isProved_15 : decode cL_isProved 15 = .ok (.ldc 28, 2) := by decide +kernel
theorem dL_isProved_17 : decode cL_isProved 17 = .ok (.ireturn, 1) := by decide +kernel
def rm_L_isProved : Room := { frames := 8, cells := 2, slots := 12, locals := 133 }
theorem hy_L_isProved : yL_isProved.cls = RL ∧ yL_isProved.cls ≠ "java/lang/invoke/MethodHandle" ∧ yL_isProved.cls ≠ "java/lang/invoke/VarHandle" ∧ (parseMethodDescriptor yL_isProved.desc).map (fun d => d.parameters.length) = some 2 := by decide +kernel
set_option maxRecDepth 100000 in
set_option maxHeartbeats 4000000 in
theorem k_L_isProved {l : Launch} {D : va_G} {cA : Nat → ClassId} {ad : Bool → Nat → Nat → Nat} {A : Bool → Nat → Prop} (ha : AG ad A) (hst : l.stackTraces = false) (o : Bool) (p0 : Int32) (g : Gh) (hk : g.2 ≤ 2400) : Met l yL_isProved (.codeWith yL_isProved cL_isProved 3 (some .int) [(0, 13, 14, 26)] :: TG) rm_L_isProved (PcG D cA ad A [.ref (ad o 0 1), .int p0] g) (QcG D cA ad A (fun r g' => r = y_isProved p0 (g.1 o) ∧ g' = g)) 2 12 (AU A) := by
  refine enterG pl_L rfl (Nat.le_of_ble_eq_true rfl) ?_
  intro p e s m args below meth c QQ X htab hW hZ hE
  refine q_aload_n (j := 0) X dL_isProved_0 rfl rfl ?_
  refine q_iload_n (j := 1) X dL_isProved_1 rfl rfl ?_
  refine qG_call X hW hZ ha o (t := tEnt (g.1 o).1 p0) (val := en (g.1 o).1 (fiE (g.1 o).1 p0) 7) (nm := (g.1 o)) (dk := 0) (Qp := (fun mo r m1 => (tEnt (g.1 o).1 p0 = 0 ∧ r = en (g.1 o).1 (fiE (g.1 o).1 p0) 7) ∧ mo = m1)) (Xp := fun _ => (fun k0 m1 => k0 = tEnt (g.1 o).1 p0 ∧ ¬ tEnt (g.1 o).1 p0 = 0 ∧ RelN g.2 m1 (g.1 o))) [.int p0] [] rfl rfl (Nat.le_of_ble_eq_true rfl) dL_isProved_2 ⟨(Nat.le_of_ble_eq_true rfl), (Nat.le_of_ble_eq_true rfl)⟩ hk (fun mo hmo => c_X9_isProved (ha.1 o) hst p0 mo _ _ (n_isProved hmo.rs hmo.inv p0 _ _ (fun ht => ⟨ht, rfl⟩) (fun ht => ⟨rfl, ht, hmo⟩))) (fun mo r m1 hr h => ⟨h.1.1, h.1.2, by rw [← h.2]; exact hr⟩) (fun _ _ _ _ h => h) rfl rfl (gV kw_6_137 kw_6_138 kw_6_139 kw_1_1 kw_6_140) hy_X9_isProved ⟨(Nat.le_of_ble_eq_true rfl), (Nat.le_of_ble_eq_true rfl)⟩ (fun hx => ?_) (fun hz => ?_)
  · have h9 : tEnt (g.1 o).1 p0 = 0 ∨ tEnt (g.1 o).1 p0 = 1 := by unfold tEnt; (repeat' split) <;> decide
    rcases h9 with h9 | h9
    · exact absurd h9 hx
    · skip
      rw [h9]
      refine ⟨14, by decide, Ct1 (k1 := 1) htab rfl (by decide) (by decide) (X.2.2.2.2 _ kw_3_94), fun q => ?_⟩
      refine q_astore_n X dL_isProved_14 rfl (Nat.le_of_ble_eq_true rfl) rfl ?_
      refine q_ldc (v := -9999001) X kw_3_145 dL_isProved_15 ?_
      exact hE _ _ _ _ _ _ dL_isProved_17 (Nat.le_of_ble_eq_true rfl) (Nat.le_of_ble_eq_true rfl) ⟨by unfold y_isProved; rw [if_neg hx, h9]; rfl, rfl⟩
  · rw [gz_id]
    refine q_if_eq X dL_isProved_5 rfl (fun hv => ?_) (fun hv => ?_)
    · refine q_iconst (v := 0) X dL_isProved_12 rfl ?_
      exact hE _ _ _ _ _ _ dL_isProved_13 (Nat.le_of_ble_eq_true rfl) (Nat.le_of_ble_eq_true rfl) ⟨by unfold y_isProved; rw [if_pos hz, if_pos hv], rfl⟩
    · refine q_iconst (v := 1) X dL_isProved_8 rfl ?_
      refine q_goto X dL_isProved_9 rfl ?_
      exact hE _ _ _ _ _ _ dL_isProved_13 (Nat.le_of_ble_eq_true rfl) (Nat.le_of_ble_eq_true rfl) ⟨by unfold y_isProved; rw [if_pos hz, if_neg hv], rfl⟩
theorem dL_isLate_0 : decode cL_isLate 0 = .ok (.aload_n 0, 1) := by decide +kernel
theorem dL_isLate_1 : decode cL_isLate 1 = .ok (.iload_n 1, 1) := by decide +kernel
theorem dL_isLate_2 : decode cL_isLate 2 = .ok (.invokevirtual 29, 3) := by decide +kernel
theorem dL_isLate_5 : decode cL_isLate 5 = .ok (.ifCond .eq 7, 3) := by decide +kernel
theorem dL_isLate_8 : decode cL_isLate 8 = .ok (.iconst 1, 1) := by decide +kernel
theorem dL_isLate_9 : decode cL_isLate 9 = .ok (.goto 4, 3) := by decide +kernel
theorem dL_isLate_12 : decode cL_isLate 12 = .ok (.iconst 0, 1) := by decide +kernel
theorem dL_isLate_13 : decode cL_isLate 13 = .ok (.ireturn, 1) := by decide +kernel
theorem dL_isLate_14 : decode cL_isLate 14 = .ok (.astore_n 2, 1) := by decide +kernel
theorem dL_isLate_15 : decode cL_isLate 15 = .ok (.ldc 28, 2) := by decide +kernel
theorem dL_isLate_17 : decode cL_isLate 17 = .ok (.ireturn, 1) := by decide +kernel
def rm_L_isLate : Room := { frames := 8, cells := 2, slots := 12, locals := 133 }
theorem hy_L_isLate : yL_isLate.cls = RL ∧ yL_isLate.cls ≠ "java/lang/invoke/MethodHandle" ∧ yL_isLate.cls ≠ "java/lang/invoke/VarHandle" ∧ (parseMethodDescriptor yL_isLate.desc).map (fun d => d.parameters.length) = some 2 := by decide +kernel
set_option maxRecDepth 100000 in
set_option maxHeartbeats 4000000 in
theorem k_L_isLate {l : Launch} {D : va_G} {cA : Nat → ClassId} {ad : Bool → Nat → Nat → Nat} {A : Bool → Nat → Prop} (ha : AG ad A) (hst : l.stackTraces = false) (o : Bool) (p0 : Int32) (g : Gh) (hk : g.2 ≤ 2400) : Met l yL_isLate (.codeWith yL_isLate cL_isLate 3 (some .int) [(0, 13, 14, 26)] :: TG) rm_L_isLate (PcG D cA ad A [.ref (ad o 0 1), .int p0] g) (QcG D cA ad A (fun r g' => r = y_isLate p0 (g.1 o) ∧ g' = g)) 2 12 (AU A) := by
  refine enterG pl_L rfl (Nat.le_of_ble_eq_true rfl) ?_
  intro p e s m args below meth c QQ X htab hW hZ hE
  refine q_aload_n (j := 0) X dL_isLate_0 rfl rfl ?_
  refine q_iload_n (j := 1) X dL_isLate_1 rfl rfl ?_
  refine qG_call X hW hZ ha o (t := tEnt (g.1 o).1 p0) (val := (if en (g.1 o).1 (fiE (g.1 o).1 p0) 5 ≤ 200 then (0 : Int32) else 1)) (nm := (g.1 o)) (dk := 0) (Qp := (fun mo r m1 => (tEnt (g.1 o).1 p0 = 0 ∧ r = (if en (g.1 o).1 (fiE (g.1 o).1 p0) 5 ≤ 200 then (0 : Int32) else 1)) ∧ mo = m1)) (Xp := fun _ => (fun k0 m1 => k0 = tEnt (g.1 o).1 p0 ∧ ¬ tEnt (g.1 o).1 p0 = 0 ∧ RelN g.2 m1 (g.1 o))) [.int p0] [] rfl rfl (Nat.le_of_ble_eq_true rfl) dL_isLate_2 ⟨(Nat.le_of_ble_eq_true rfl), (Nat.le_of_ble_eq_true rfl)⟩ hk (fun mo hmo => c_X9_isOverdue (ha.1 o) hst p0 mo _ _ (n_isOverdue hmo.rs hmo.inv p0 _ _ (fun ht => ⟨ht, rfl⟩) (fun ht => ⟨rfl, ht, hmo⟩))) (fun mo r m1 hr h => ⟨h.1.1, h.1.2, by rw [← h.2]; exact hr⟩) (fun _ _ _ _ h => h) rfl rfl (gV kw_6_197 kw_6_198 kw_6_199 kw_1_1 kw_6_200) hy_X9_isOverdue ⟨(Nat.le_of_ble_eq_true rfl), (Nat.le_of_ble_eq_true rfl)⟩ (fun hx => ?_) (fun hz => ?_)
  · have h9 : tEnt (g.1 o).1 p0 = 0 ∨ tEnt (g.1 o).1 p0 = 1 := by unfold tEnt; (repeat' split) <;> decide
    rcases h9 with h9 | h9
    · exact absurd h9 hx
    · skip
      rw [h9]
      refine ⟨14, by decide, Ct1 (k1 := 1) htab rfl (by decide) (by decide) (X.2.2.2.2 _ kw_3_94), fun q => ?_⟩
      refine q_astore_n X dL_isLate_14 rfl (Nat.le_of_ble_eq_true rfl) rfl ?_
      refine q_ldc (v := -9999001) X kw_3_145 dL_isLate_15 ?_
      exact hE _ _ _ _ _ _ dL_isLate_17 (Nat.le_of_ble_eq_true rfl) (Nat.le_of_ble_eq_true rfl) ⟨by unfold y_isLate; rw [if_neg hx, h9]; rfl, rfl⟩
  · rw [gz_id]
    refine q_if_eq X dL_isLate_5 rfl (fun hv => ?_) (fun hv => ?_)
    · refine q_iconst (v := 0) X dL_isLate_12 rfl ?_
      exact hE _ _ _ _ _ _ dL_isLate_13 (Nat.le_of_ble_eq_true rfl) (Nat.le_of_ble_eq_true rfl) ⟨by unfold y_isLate; rw [if_pos hz, if_pos hv], rfl⟩
    · refine q_iconst (v := 1) X dL_isLate_8 rfl ?_
      refine q_goto X dL_isLate_9 rfl ?_
      exact hE _ _ _ _ _ _ dL_isLate_13 (Nat.le_of_ble_eq_true rfl) (Nat.le_of_ble_eq_true rfl) ⟨by unfold y_isLate; rw [if_pos hz, if_neg hv], rfl⟩
theorem dL_isLocked_0 : decode cL_isLocked 0 = .ok (.aload_n 0, 1) := by decide +kernel
theorem dL_isLocked_1 : decode cL_isLocked 1 = .ok (.iload_n 1, 1) := by decide +kernel
theorem dL_isLocked_2 : decode cL_isLocked 2 = .ok (.invokevirtual 32, 3) := by decide +kernel
theorem dL_isLocked_5 : decode cL_isLocked 5 = .ok (.ifCond .eq 7, 3) := by decide +kernel
theorem dL_isLocked_8 : decode cL_isLocked 8 = .ok (.iconst 1, 1) := by decide +kernel
theorem dL_isLocked_9 : decode cL_isLocked 9 = .ok (.goto 4, 3) := by decide +kernel
theorem dL_isLocked_12 : decode cL_isLocked 12 = .ok (.iconst 0, 1) := by decide +kernel
theorem dL_isLocked_13 : decode cL_isLocked 13 = .ok (.ireturn, 1) := by decide +kernel
theorem dL_isLocked_14 : decode cL_isLocked 14 = .ok (.astore_n 2, 1) := by decide +kernel
theorem dL_isLocked_15 : decode cL_isLocked 15 = .ok (.ldc 28, 2) := by decide +kernel
theorem dL_isLocked_17 : decode cL_isLocked 17 = .ok (.ireturn, 1) := by decide +kernel
def rm_L_isLocked : Room := { frames := 9, cells := 2, slots := 12, locals := 152 }
theorem hy_L_isLocked : yL_isLocked.cls = RL ∧ yL_isLocked.cls ≠ "java/lang/invoke/MethodHandle" ∧ yL_isLocked.cls ≠ "java/lang/invoke/VarHandle" ∧ (parseMethodDescriptor yL_isLocked.desc).map (fun d => d.parameters.length) = some 2 := by decide +kernel
set_option maxRecDepth 100000 in
set_option maxHeartbeats 4000000 in
theorem k_L_isLocked {l : Launch} {D : va_G} {cA : Nat → ClassId} {ad : Bool → Nat → Nat → Nat} {A : Bool → Nat → Prop} (ha : AG ad A) (hst : l.stackTraces = false) (o : Bool) (p0 : Int32) (g : Gh) (hk : g.2 ≤ 2400) : Met l yL_isLocked (.codeWith yL_isLocked cL_isLocked 3 (some .int) [(0, 13, 14, 26)] :: TG) rm_L_isLocked (PcG D cA ad A [.ref (ad o 0 1), .int p0] g) (QcG D cA ad A (fun r g' => r = y_isLocked p0 (g.1 o) ∧ g' = g)) 2 12 (AU A) := by
  refine enterG pl_L rfl (Nat.le_of_ble_eq_true rfl) ?_
  intro p e s m args below meth c QQ X htab hW hZ hE
  refine q_aload_n (j := 0) X dL_isLocked_0 rfl rfl ?_
  refine q_iload_n (j := 1) X dL_isLocked_1 rfl rfl ?_
  refine qG_call X hW hZ ha o (t := tCh p0) (val := (if (g.1 o).1 (10 + p0.toNatClampNeg) ≤ 0 then (0 : Int32) else 1)) (nm := (g.1 o)) (dk := 0) (Qp := (fun mo r m1 => (tCh p0 = 0 ∧ r = (if (g.1 o).1 (10 + p0.toNatClampNeg) ≤ 0 then (0 : Int32) else 1)) ∧ mo = m1)) (Xp := fun _ => (fun k0 m1 => k0 = tCh p0 ∧ ¬ tCh p0 = 0 ∧ RelN g.2 m1 (g.1 o))) [.int p0] [] rfl rfl (Nat.le_of_ble_eq_true rfl) dL_isLocked_2 ⟨(Nat.le_of_ble_eq_true rfl), (Nat.le_of_ble_eq_true rfl)⟩ hk (fun mo hmo => c_X9_isLocked (ha.1 o) hst p0 mo _ _ (n_isLocked hmo.rs hmo.inv p0 _ _ (fun ht => ⟨ht, rfl⟩) (fun ht => ⟨rfl, ht, hmo⟩))) (fun mo r m1 hr h => ⟨h.1.1, h.1.2, by rw [← h.2]; exact hr⟩) (fun _ _ _ _ h => h) rfl rfl (gV kw_6_144 kw_6_145 kw_6_146 kw_1_1 kw_6_147) hy_X9_isLocked ⟨(Nat.le_of_ble_eq_true rfl), (Nat.le_of_ble_eq_true rfl)⟩ (fun hx => ?_) (fun hz => ?_)
  · have h9 : tCh p0 = 0 ∨ tCh p0 = 1 := by unfold tCh; (repeat' split) <;> decide
    rcases h9 with h9 | h9
    · exact absurd h9 hx
    · skip
      rw [h9]
      refine ⟨14, by decide, Ct1 (k1 := 1) htab rfl (by decide) (by decide) (X.2.2.2.2 _ kw_3_94), fun q => ?_⟩
      refine q_astore_n X dL_isLocked_14 rfl (Nat.le_of_ble_eq_true rfl) rfl ?_
      refine q_ldc (v := -9999001) X kw_3_145 dL_isLocked_15 ?_
      exact hE _ _ _ _ _ _ dL_isLocked_17 (Nat.le_of_ble_eq_true rfl) (Nat.le_of_ble_eq_true rfl) ⟨by unfold y_isLocked; rw [if_neg hx, h9]; rfl, rfl⟩
  · rw [gz_id]
    refine q_if_eq X dL_isLocked_5 rfl (fun hv => ?_) (fun hv => ?_)
    · refine q_iconst (v := 0) X dL_isLocked_12 rfl ?_
      exact hE _ _ _ _ _ _ dL_isLocked_13 (Nat.le_of_ble_eq_true rfl) (Nat.le_of_ble_eq_true rfl) ⟨by unfold y_isLocked; rw [if_pos hz, if_pos hv], rfl⟩
    · refine q_iconst (v := 1) X dL_isLocked_8 rfl ?_
      refine q_goto X dL_isLocked_9 rfl ?_
      exact hE _ _ _ _ _ _ dL_isLocked_13 (Nat.le_of_ble_eq_true rfl) (Nat.le_of_ble_eq_true rfl) ⟨by unfold y_isLocked; rw [if_pos hz, if_neg hv], rfl⟩
theorem dL_isBroken_0 : decode cL_isBroken 0 = .ok (.aload_n 0, 1) := by decide +kernel
theorem dL_isBroken_1 : decode cL_isBroken 1 = .ok (.iload_n 1, 1) := by decide +kernel
theorem dL_isBroken_2 : decode cL_isBroken 2 = .ok (.invokevirtual 35, 3) := by decide +kernel
theorem dL_isBroken_5 : decode cL_isBroken 5 = .ok (.ifCond .eq 7, 3) := by decide +kernel
theorem dL_isBroken_8 : decode cL_isBroken 8 = .ok (.iconst 1, 1) := by decide +kernel
theorem dL_isBroken_9 : decode cL_isBroken 9 = .ok (.goto 4, 3) := by decide +kernel
theorem dL_isBroken_12 : decode cL_isBroken 12 = .ok (.iconst 0, 1) := by decide +kernel
theorem dL_isBroken_13 : decode cL_isBroken 13 = .ok (.ireturn, 1) := by decide +kernel
theorem dL_isBroken_14 : decode cL_isBroken 14 = .ok (.astore_n 2, 1) := by decide +kernel
theorem dL_isBroken_15 : decode cL_isBroken 15 = .ok (.ldc 28, 2) := by decide +kernel
theorem dL_isBroken_17 : decode cL_isBroken 17 = .ok (.ireturn, 1) := by decide +kernel
def rm_L_isBroken : Room := { frames := 9, cells := 2, slots := 12, locals := 152 }
theorem hy_L_isBroken : yL_isBroken.cls = RL ∧ yL_isBroken.cls ≠ "java/lang/invoke/MethodHandle" ∧ yL_isBroken.cls ≠ "java/lang/invoke/VarHandle" ∧ (parseMethodDescriptor yL_isBroken.desc).map (fun d => d.parameters.length) = some 2 := by decide +kernel
set_option maxRecDepth 100000 in
set_option maxHeartbeats 4000000 in
theorem k_L_isBroken {l : Launch} {D : va_G} {cA : Nat → ClassId} {ad : Bool → Nat → Nat → Nat} {A : Bool → Nat → Prop} (ha : AG ad A) (hst : l.stackTraces = false) (o : Bool) (p0 : Int32) (g : Gh) (hk : g.2 ≤ 2400) : Met l yL_isBroken (.codeWith yL_isBroken cL_isBroken 3 (some .int) [(0, 13, 14, 26)] :: TG) rm_L_isBroken (PcG D cA ad A [.ref (ad o 0 1), .int p0] g) (QcG D cA ad A (fun r g' => r = y_isBroken p0 (g.1 o) ∧ g' = g)) 2 12 (AU A) := by
  refine enterG pl_L rfl (Nat.le_of_ble_eq_true rfl) ?_
  intro p e s m args below meth c QQ X htab hW hZ hE
  refine q_aload_n (j := 0) X dL_isBroken_0 rfl rfl ?_
  refine q_iload_n (j := 1) X dL_isBroken_1 rfl rfl ?_
  refine qG_call X hW hZ ha o (t := tCh p0) (val := (g.1 o).1 (15 + p0.toNatClampNeg)) (nm := (g.1 o)) (dk := 0) (Qp := (fun mo r m1 => (tCh p0 = 0 ∧ r = (g.1 o).1 (15 + p0.toNatClampNeg)) ∧ mo = m1)) (Xp := fun _ => (fun k0 m1 => k0 = tCh p0 ∧ ¬ tCh p0 = 0 ∧ RelN g.2 m1 (g.1 o))) [.int p0] [] rfl rfl (Nat.le_of_ble_eq_true rfl) dL_isBroken_2 ⟨(Nat.le_of_ble_eq_true rfl), (Nat.le_of_ble_eq_true rfl)⟩ hk (fun mo hmo => c_X9_isSealBroken (ha.1 o) hst p0 mo _ _ (n_isSealBroken hmo.rs hmo.inv p0 _ _ (fun ht => ⟨ht, rfl⟩) (fun ht => ⟨rfl, ht, hmo⟩))) (fun mo r m1 hr h => ⟨h.1.1, h.1.2, by rw [← h.2]; exact hr⟩) (fun _ _ _ _ h => h) rfl rfl (gV kw_6_161 kw_6_162 kw_6_163 kw_1_1 kw_6_164) hy_X9_isSealBroken ⟨(Nat.le_of_ble_eq_true rfl), (Nat.le_of_ble_eq_true rfl)⟩ (fun hx => ?_) (fun hz => ?_)
  · have h9 : tCh p0 = 0 ∨ tCh p0 = 1 := by unfold tCh; (repeat' split) <;> decide
    rcases h9 with h9 | h9
    · exact absurd h9 hx
    · skip
      rw [h9]
      refine ⟨14, by decide, Ct1 (k1 := 1) htab rfl (by decide) (by decide) (X.2.2.2.2 _ kw_3_94), fun q => ?_⟩
      refine q_astore_n X dL_isBroken_14 rfl (Nat.le_of_ble_eq_true rfl) rfl ?_
      refine q_ldc (v := -9999001) X kw_3_145 dL_isBroken_15 ?_
      exact hE _ _ _ _ _ _ dL_isBroken_17 (Nat.le_of_ble_eq_true rfl) (Nat.le_of_ble_eq_true rfl) ⟨by unfold y_isBroken; rw [if_neg hx, h9]; rfl, rfl⟩
  · rw [gz_id]
    refine q_if_eq X dL_isBroken_5 rfl (fun hv => ?_) (fun hv => ?_)
    · refine q_iconst (v := 0) X dL_isBroken_12 rfl ?_
      exact hE _ _ _ _ _ _ dL_isBroken_13 (Nat.le_of_ble_eq_true rfl) (Nat.le_of_ble_eq_true rfl) ⟨by unfold y_isBroken; rw [if_pos hz, if_pos hv], rfl⟩
    · refine q_iconst (v := 1) X dL_isBroken_8 rfl ?_
      refine q_goto X dL_isBroken_9 rfl ?_
      exact hE _ _ _ _ _ _ dL_isBroken_13 (Nat.le_of_ble_eq_true rfl) (Nat.le_of_ble_eq_true rfl) ⟨by unfold y_isBroken; rw [if_pos hz, if_neg hv], rfl⟩
theorem dL_tryAt_0 : decode cL_tryAt 0 = .ok (.aload_n 0, 1) := by decide +kernel
theorem dL_tryAt_1 : decode cL_tryAt 1 = .ok (.iload_n 1, 1) := by decide +kernel
theorem dL_tryAt_2 : decode cL_tryAt 2 = .ok (.invokevirtual 85, 3) := by decide +kernel
theorem dL_tryAt_5 : decode cL_tryAt 5 = .ok (.ireturn, 1) := by decide +kernel
theorem dL_tryAt_6 : decode cL_tryAt 6 = .ok (.astore_n 2, 1) := by decide +kernel
theorem dL_tryAt_7 : decode cL_tryAt 7 = .ok (.ldc 28, 2) := by decide +kernel
theorem dL_tryAt_9 : decode cL_tryAt 9 = .ok (.ireturn, 1) := by decide +kernel
def rm_L_tryAt : Room := { frames := 7, cells := 2, slots := 12, locals := 111 }
theorem hy_L_tryAt : yL_tryAt.cls = RL ∧ yL_tryAt.cls ≠ "java/lang/invoke/MethodHandle" ∧ yL_tryAt.cls ≠ "java/lang/invoke/VarHandle" ∧ (parseMethodDescriptor yL_tryAt.desc).map (fun d => d.parameters.length) = some 2 := by decide +kernel
set_option maxRecDepth 100000 in
set_option maxHeartbeats 4000000 in
theorem k_L_tryAt {l : Launch} {D : va_G} {cA : Nat → ClassId} {ad : Bool → Nat → Nat → Nat} {A : Bool → Nat → Prop} (ha : AG ad A) (hst : l.stackTraces = false) (o : Bool) (p0 : Int32) (g : Gh) (hk : g.2 ≤ 2400) : Met l yL_tryAt (.codeWith yL_tryAt cL_tryAt 3 (some .int) [(0, 5, 6, 26)] :: TG) rm_L_tryAt (PcG D cA ad A [.ref (ad o 0 1), .int p0] g) (QcG D cA ad A (fun r g' => r = y_tryAt p0 (g.1 o) ∧ g' = g)) 2 12 (AU A) := by
  refine enterG pl_L rfl (Nat.le_of_ble_eq_true rfl) ?_
  intro p e s m args below meth c QQ X htab hW hZ hE
  refine q_aload_n (j := 0) X dL_tryAt_0 rfl rfl ?_
  refine q_iload_n (j := 1) X dL_tryAt_1 rfl rfl ?_
  refine qG_call X hW hZ ha o (t := tAt (g.1 o).1 p0) (val := en (g.1 o).1 p0.toNatClampNeg 0) (nm := (g.1 o)) (dk := 0) (Qp := (fun mo r m1 => (tAt (g.1 o).1 p0 = 0 ∧ r = en (g.1 o).1 p0.toNatClampNeg 0) ∧ mo = m1)) (Xp := fun _ => (fun k0 m1 => k0 = tAt (g.1 o).1 p0 ∧ ¬ tAt (g.1 o).1 p0 = 0 ∧ RelN g.2 m1 (g.1 o))) [.int p0] [] rfl rfl (Nat.le_of_ble_eq_true rfl) dL_tryAt_2 ⟨(Nat.le_of_ble_eq_true rfl), (Nat.le_of_ble_eq_true rfl)⟩ hk (fun mo hmo => c_X9_entryAt (ha.1 o) hst p0 mo _ _ (n_entryAt hmo.rs hmo.inv p0 _ _ (fun ht => ⟨ht, rfl⟩) (fun ht => ⟨rfl, ht, hmo⟩))) (fun mo r m1 hr h => ⟨h.1.1, h.1.2, by rw [← h.2]; exact hr⟩) (fun _ _ _ _ h => h) rfl rfl (gV kw_4_149 kw_4_150 kw_4_151 kw_1_1 kw_4_152) hy_X9_entryAt ⟨(Nat.le_of_ble_eq_true rfl), (Nat.le_of_ble_eq_true rfl)⟩ (fun hx => ?_) (fun hz => ?_)
  · have h9 : tAt (g.1 o).1 p0 = 0 ∨ tAt (g.1 o).1 p0 = 1 := by unfold tAt; (repeat' split) <;> decide
    rcases h9 with h9 | h9
    · exact absurd h9 hx
    · skip
      rw [h9]
      refine ⟨6, by decide, Ct1 (k1 := 1) htab rfl (by decide) (by decide) (X.2.2.2.2 _ kw_3_94), fun q => ?_⟩
      refine q_astore_n X dL_tryAt_6 rfl (Nat.le_of_ble_eq_true rfl) rfl ?_
      refine q_ldc (v := -9999001) X kw_3_145 dL_tryAt_7 ?_
      exact hE _ _ _ _ _ _ dL_tryAt_9 (Nat.le_of_ble_eq_true rfl) (Nat.le_of_ble_eq_true rfl) ⟨by unfold y_tryAt; rw [if_neg hx, h9]; rfl, rfl⟩
  · rw [gz_id]
    exact hE _ _ _ _ _ _ dL_tryAt_5 (Nat.le_of_ble_eq_true rfl) (Nat.le_of_ble_eq_true rfl) ⟨by unfold y_tryAt; rw [if_pos hz], rfl⟩
theorem dL_tryKind_0 : decode cL_tryKind 0 = .ok (.aload_n 0, 1) := by decide +kernel
theorem dL_tryKind_1 : decode cL_tryKind 1 = .ok (.iload_n 1, 1) := by decide +kernel
theorem dL_tryKind_2 : decode cL_tryKind 2 = .ok (.invokevirtual 88, 3) := by decide +kernel
theorem dL_tryKind_5 : decode cL_tryKind 5 = .ok (.ireturn, 1) := by decide +kernel
theorem dL_tryKind_6 : decode cL_tryKind 6 = .ok (.astore_n 2, 1) := by decide +kernel
theorem dL_tryKind_7 : decode cL_tryKind 7 = .ok (.ldc 28, 2) := by decide +kernel
theorem dL_tryKind_9 : decode cL_tryKind 9 = .ok (.ireturn, 1) := by decide +kernel
def rm_L_tryKind : Room := { frames := 8, cells := 2, slots := 12, locals := 133 }
theorem hy_L_tryKind : yL_tryKind.cls = RL ∧ yL_tryKind.cls ≠ "java/lang/invoke/MethodHandle" ∧ yL_tryKind.cls ≠ "java/lang/invoke/VarHandle" ∧ (parseMethodDescriptor yL_tryKind.desc).map (fun d => d.parameters.length) = some 2 := by decide +kernel
set_option maxRecDepth 100000 in
set_option maxHeartbeats 4000000 in
theorem k_L_tryKind {l : Launch} {D : va_G} {cA : Nat → ClassId} {ad : Bool → Nat → Nat → Nat} {A : Bool → Nat → Prop} (ha : AG ad A) (hst : l.stackTraces = false) (o : Bool) (p0 : Int32) (g : Gh) (hk : g.2 ≤ 2400) : Met l yL_tryKind (.codeWith yL_tryKind cL_tryKind 3 (some .int) [(0, 5, 6, 26)] :: TG) rm_L_tryKind (PcG D cA ad A [.ref (ad o 0 1), .int p0] g) (QcG D cA ad A (fun r g' => r = y_tryKind p0 (g.1 o) ∧ g' = g)) 2 12 (AU A) := by
  refine enterG pl_L rfl (Nat.le_of_ble_eq_true rfl) ?_
  intro p e s m args below meth c QQ X htab hW hZ hE
  refine q_aload_n (j := 0) X dL_tryKind_0 rfl rfl ?_
  refine q_iload_n (j := 1) X dL_tryKind_1 rfl rfl ?_
  refine qG_call X hW hZ ha o (t := tEnt (g.1 o).1 p0) (val := en (g.1 o).1 (fiE (g.1 o).1 p0) 1) (nm := (g.1 o)) (dk := 0) (Qp := (fun mo r m1 => (tEnt (g.1 o).1 p0 = 0 ∧ r = en (g.1 o).1 (fiE (g.1 o).1 p0) 1) ∧ mo = m1)) (Xp := fun _ => (fun k0 m1 => k0 = tEnt (g.1 o).1 p0 ∧ ¬ tEnt (g.1 o).1 p0 = 0 ∧ RelN g.2 m1 (g.1 o))) [.int p0] [] rfl rfl (Nat.le_of_ble_eq_true rfl) dL_tryKind_2 ⟨(Nat.le_of_ble_eq_true rfl), (Nat.le_of_ble_eq_true rfl)⟩ hk (fun mo hmo => c_X9_kindOf (ha.1 o) hst p0 mo _ _ (n_kindOf hmo.rs hmo.inv p0 _ _ (fun ht => ⟨ht, rfl⟩) (fun ht => ⟨rfl, ht, hmo⟩))) (fun mo r m1 hr h => ⟨h.1.1, h.1.2, by rw [← h.2]; exact hr⟩) (fun _ _ _ _ h => h) rfl rfl (gV kw_4_157 kw_4_158 kw_4_159 kw_1_1 kw_4_160) hy_X9_kindOf ⟨(Nat.le_of_ble_eq_true rfl), (Nat.le_of_ble_eq_true rfl)⟩ (fun hx => ?_) (fun hz => ?_)
  · have h9 : tEnt (g.1 o).1 p0 = 0 ∨ tEnt (g.1 o).1 p0 = 1 := by unfold tEnt; (repeat' split) <;> decide
    rcases h9 with h9 | h9
    · exact absurd h9 hx
    · skip
      rw [h9]
      refine ⟨6, by decide, Ct1 (k1 := 1) htab rfl (by decide) (by decide) (X.2.2.2.2 _ kw_3_94), fun q => ?_⟩
      refine q_astore_n X dL_tryKind_6 rfl (Nat.le_of_ble_eq_true rfl) rfl ?_
      refine q_ldc (v := -9999001) X kw_3_145 dL_tryKind_7 ?_
      exact hE _ _ _ _ _ _ dL_tryKind_9 (Nat.le_of_ble_eq_true rfl) (Nat.le_of_ble_eq_true rfl) ⟨by unfold y_tryKind; rw [if_neg hx, h9]; rfl, rfl⟩
  · rw [gz_id]
    exact hE _ _ _ _ _ _ dL_tryKind_5 (Nat.le_of_ble_eq_true rfl) (Nat.le_of_ble_eq_true rfl) ⟨by unfold y_tryKind; rw [if_pos hz], rfl⟩
theorem dL_tryWeight_0 : decode cL_tryWeight 0 = .ok (.aload_n 0, 1) := by decide +kernel
theorem dL_tryWeight_1 : decode cL_tryWeight 1 = .ok (.iload_n 1, 1) := by decide +kernel
theorem dL_tryWeight_2 : decode cL_tryWeight 2 = .ok (.invokevirtual 91, 3) := by decide +kernel
theorem dL_tryWeight_5 : decode cL_tryWeight 5 = .ok (.ireturn, 1) := by decide +kernel
theorem dL_tryWeight_6 : decode cL_tryWeight 6 = .ok (.astore_n 2, 1) := by decide +kernel
theorem dL_tryWeight_7 : decode cL_tryWeight 7 = .ok (.ldc 28, 2) := by decide +kernel
theorem dL_tryWeight_9 : decode cL_tryWeight 9 = .ok (.ireturn, 1) := by decide +kernel
def rm_L_tryWeight : Room := { frames := 8, cells := 2, slots := 12, locals := 133 }
theorem hy_L_tryWeight : yL_tryWeight.cls = RL ∧ yL_tryWeight.cls ≠ "java/lang/invoke/MethodHandle" ∧ yL_tryWeight.cls ≠ "java/lang/invoke/VarHandle" ∧ (parseMethodDescriptor yL_tryWeight.desc).map (fun d => d.parameters.length) = some 2 := by decide +kernel
set_option maxRecDepth 100000 in
set_option maxHeartbeats 4000000 in
theorem k_L_tryWeight {l : Launch} {D : va_G} {cA : Nat → ClassId} {ad : Bool → Nat → Nat → Nat} {A : Bool → Nat → Prop} (ha : AG ad A) (hst : l.stackTraces = false) (o : Bool) (p0 : Int32) (g : Gh) (hk : g.2 ≤ 2400) : Met l yL_tryWeight (.codeWith yL_tryWeight cL_tryWeight 3 (some .int) [(0, 5, 6, 26)] :: TG) rm_L_tryWeight (PcG D cA ad A [.ref (ad o 0 1), .int p0] g) (QcG D cA ad A (fun r g' => r = y_tryWeight p0 (g.1 o) ∧ g' = g)) 2 12 (AU A) := by
  refine enterG pl_L rfl (Nat.le_of_ble_eq_true rfl) ?_
  intro p e s m args below meth c QQ X htab hW hZ hE
  refine q_aload_n (j := 0) X dL_tryWeight_0 rfl rfl ?_
  refine q_iload_n (j := 1) X dL_tryWeight_1 rfl rfl ?_
  refine qG_call X hW hZ ha o (t := tEnt (g.1 o).1 p0) (val := en (g.1 o).1 (fiE (g.1 o).1 p0) 2) (nm := (g.1 o)) (dk := 0) (Qp := (fun mo r m1 => (tEnt (g.1 o).1 p0 = 0 ∧ r = en (g.1 o).1 (fiE (g.1 o).1 p0) 2) ∧ mo = m1)) (Xp := fun _ => (fun k0 m1 => k0 = tEnt (g.1 o).1 p0 ∧ ¬ tEnt (g.1 o).1 p0 = 0 ∧ RelN g.2 m1 (g.1 o))) [.int p0] [] rfl rfl (Nat.le_of_ble_eq_true rfl) dL_tryWeight_2 ⟨(Nat.le_of_ble_eq_true rfl), (Nat.le_of_ble_eq_true rfl)⟩ hk (fun mo hmo => c_X9_weightOf (ha.1 o) hst p0 mo _ _ (n_weightOf hmo.rs hmo.inv p0 _ _ (fun ht => ⟨ht, rfl⟩) (fun ht => ⟨rfl, ht, hmo⟩))) (fun mo r m1 hr h => ⟨h.1.1, h.1.2, by rw [← h.2]; exact hr⟩) (fun _ _ _ _ h => h) rfl rfl (gV kw_4_170 kw_4_171 kw_4_172 kw_1_1 kw_4_173) hy_X9_weightOf ⟨(Nat.le_of_ble_eq_true rfl), (Nat.le_of_ble_eq_true rfl)⟩ (fun hx => ?_) (fun hz => ?_)
  · have h9 : tEnt (g.1 o).1 p0 = 0 ∨ tEnt (g.1 o).1 p0 = 1 := by unfold tEnt; (repeat' split) <;> decide
    rcases h9 with h9 | h9
    · exact absurd h9 hx
    · skip
      rw [h9]
      refine ⟨6, by decide, Ct1 (k1 := 1) htab rfl (by decide) (by decide) (X.2.2.2.2 _ kw_3_94), fun q => ?_⟩
      refine q_astore_n X dL_tryWeight_6 rfl (Nat.le_of_ble_eq_true rfl) rfl ?_
      refine q_ldc (v := -9999001) X kw_3_145 dL_tryWeight_7 ?_
      exact hE _ _ _ _ _ _ dL_tryWeight_9 (Nat.le_of_ble_eq_true rfl) (Nat.le_of_ble_eq_true rfl) ⟨by unfold y_tryWeight; rw [if_neg hx, h9]; rfl, rfl⟩
  · rw [gz_id]
    exact hE _ _ _ _ _ _ dL_tryWeight_5 (Nat.le_of_ble_eq_true rfl) (Nat.le_of_ble_eq_true rfl) ⟨by unfold y_tryWeight; rw [if_pos hz], rfl⟩
theorem dL_tryValue_0 : decode cL_tryValue 0 = .ok (.aload_n 0, 1) := by decide +kernel
theorem dL_tryValue_1 : decode cL_tryValue 1 = .ok (.iload_n 1, 1) := by decide +kernel
theorem dL_tryValue_2 : decode cL_tryValue 2 = .ok (.invokevirtual 94, 3) := by decide +kernel
theorem dL_tryValue_5 : decode cL_tryValue 5 = .ok (.ireturn, 1) := by decide +kernel
theorem dL_tryValue_6 : decode cL_tryValue 6 = .ok (.astore_n 2, 1) := by decide +kernel
theorem dL_tryValue_7 : decode cL_tryValue 7 = .ok (.ldc 28, 2) := by decide +kernel
theorem dL_tryValue_9 : decode cL_tryValue 9 = .ok (.ireturn, 1) := by decide +kernel
def rm_L_tryValue : Room := { frames := 8, cells := 2, slots := 12, locals := 133 }
theorem hy_L_tryValue : yL_tryValue.cls = RL ∧ yL_tryValue.cls ≠ "java/lang/invoke/MethodHandle" ∧ yL_tryValue.cls ≠ "java/lang/invoke/VarHandle" ∧ (parseMethodDescriptor yL_tryValue.desc).map (fun d => d.parameters.length) = some 2 := by decide +kernel
set_option maxRecDepth 100000 in
set_option maxHeartbeats 4000000 in
theorem k_L_tryValue {l : Launch} {D : va_G} {cA : Nat → ClassId} {ad : Bool → Nat → Nat → Nat} {A : Bool → Nat → Prop} (ha : AG ad A) (hst : l.stackTraces = false) (o : Bool) (p0 : Int32) (g : Gh) (hk : g.2 ≤ 2400) : Met l yL_tryValue (.codeWith yL_tryValue cL_tryValue 3 (some .int) [(0, 5, 6, 26)] :: TG) rm_L_tryValue (PcG D cA ad A [.ref (ad o 0 1), .int p0] g) (QcG D cA ad A (fun r g' => r = y_tryValue p0 (g.1 o) ∧ g' = g)) 2 12 (AU A) := by
  refine enterG pl_L rfl (Nat.le_of_ble_eq_true rfl) ?_
  intro p e s m args below meth c QQ X htab hW hZ hE
  refine q_aload_n (j := 0) X dL_tryValue_0 rfl rfl ?_
  refine q_iload_n (j := 1) X dL_tryValue_1 rfl rfl ?_
  refine qG_call X hW hZ ha o (t := tEnt (g.1 o).1 p0) (val := en (g.1 o).1 (fiE (g.1 o).1 p0) 3) (nm := (g.1 o)) (dk := 0) (Qp := (fun mo r m1 => (tEnt (g.1 o).1 p0 = 0 ∧ r = en (g.1 o).1 (fiE (g.1 o).1 p0) 3) ∧ mo = m1)) (Xp := fun _ => (fun k0 m1 => k0 = tEnt (g.1 o).1 p0 ∧ ¬ tEnt (g.1 o).1 p0 = 0 ∧ RelN g.2 m1 (g.1 o))) [.int p0] [] rfl rfl (Nat.le_of_ble_eq_true rfl) dL_tryValue_2 ⟨(Nat.le_of_ble_eq_true rfl), (Nat.le_of_ble_eq_true rfl)⟩ hk (fun mo hmo => c_X9_valueOf (ha.1 o) hst p0 mo _ _ (n_valueOf hmo.rs hmo.inv p0 _ _ (fun ht => ⟨ht, rfl⟩) (fun ht => ⟨rfl, ht, hmo⟩))) (fun mo r m1 hr h => ⟨h.1.1, h.1.2, by rw [← h.2]; exact hr⟩) (fun _ _ _ _ h => h) rfl rfl (gV kw_4_177 kw_4_178 kw_4_179 kw_1_1 kw_4_180) hy_X9_valueOf ⟨(Nat.le_of_ble_eq_true rfl), (Nat.le_of_ble_eq_true rfl)⟩ (fun hx => ?_) (fun hz => ?_)
  · have h9 : tEnt (g.1 o).1 p0 = 0 ∨ tEnt (g.1 o).1 p0 = 1 := by unfold tEnt; (repeat' split) <;> decide
    rcases h9 with h9 | h9
    · exact absurd h9 hx
    · skip
      rw [h9]
      refine ⟨6, by decide, Ct1 (k1 := 1) htab rfl (by decide) (by decide) (X.2.2.2.2 _ kw_3_94), fun q => ?_⟩
      refine q_astore_n X dL_tryValue_6 rfl (Nat.le_of_ble_eq_true rfl) rfl ?_
      refine q_ldc (v := -9999001) X kw_3_145 dL_tryValue_7 ?_
      exact hE _ _ _ _ _ _ dL_tryValue_9 (Nat.le_of_ble_eq_true rfl) (Nat.le_of_ble_eq_true rfl) ⟨by unfold y_tryValue; rw [if_neg hx, h9]; rfl, rfl⟩
  · rw [gz_id]
    exact hE _ _ _ _ _ _ dL_tryValue_5 (Nat.le_of_ble_eq_true rfl) (Nat.le_of_ble_eq_true rfl) ⟨by unfold y_tryValue; rw [if_pos hz], rfl⟩
