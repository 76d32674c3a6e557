theorem kw_3_65 : Jvm.Cond.methodLink "BondWarehouseLaw" (210 : Nat) ({ cls := "BondWarehouseLaw", name := "enter", desc := "(LBondWarehouse;IIII[J)I" } : Jvm.MethodName) ∈ TG := tg_3 65 rfl rfl
theorem kw_3_66 : Jvm.Cond.static ({ cls := "BondWarehouseLaw", name := "enter", desc := "(LBondWarehouse;IIII[J)I" } : Jvm.MethodName) ∈ TG := tg_3 66 rfl rfl
theorem kw_1_0 : Jvm.Cond.initialized "BondWarehouseLaw" ∈ TG := tg_1 0 rfl rfl
theorem kw_3_67 : Jvm.Cond.codeWith ({ cls := "BondWarehouseLaw", name := "enter", desc := "(LBondWarehouse;IIII[J)I" } : Jvm.MethodName) method_3_code (7 : Nat) (Option.some Jvm.ClassFile.FieldType.int) [((0 : Nat), (14 : Nat), (17 : Nat), (13 : Nat)), ((0 : Nat), (14 : Nat), (21 : Nat), (15 : Nat))] ∈ TG := tg_3 67 rfl rfl
theorem kw_7_60 : Jvm.Cond.methodLink "BondWarehouseLaw" (215 : Nat) ({ cls := "BondWarehouseModel", name := "enter", desc := "(IIII)I" } : Jvm.MethodName) ∈ TG := tg_7 60 rfl rfl
theorem kw_7_61 : Jvm.Cond.instanceMethod ({ cls := "BondWarehouseModel", name := "enter", desc := "(IIII)I" } : Jvm.MethodName) ∈ TG := tg_7 61 rfl rfl
theorem kw_7_62 : Jvm.Cond.selects "BondWarehouseModel" ({ cls := "BondWarehouseModel", name := "enter", desc := "(IIII)I" } : Jvm.MethodName) ({ cls := "BondWarehouseModel", name := "enter", desc := "(IIII)I" } : Jvm.MethodName) ∈ TG := tg_7 62 rfl rfl
theorem kw_7_63 : Jvm.Cond.code ({ cls := "BondWarehouseModel", name := "enter", desc := "(IIII)I" } : Jvm.MethodName) prog_12_method_52_code (5 : Nat) (Option.some Jvm.ClassFile.FieldType.int) ∈ TG := tg_7 63 rfl rfl
theorem kw_3_234 : Jvm.Cond.methodLink "BondWarehouseLaw" (219 : Nat) ({ cls := "BondWarehouseLaw", name := "withdraw", desc := "(LBondWarehouse;II[J)I" } : Jvm.MethodName) ∈ TG := tg_3 234 rfl rfl
theorem kw_3_235 : Jvm.Cond.static ({ cls := "BondWarehouseLaw", name := "withdraw", desc := "(LBondWarehouse;II[J)I" } : Jvm.MethodName) ∈ TG := tg_3 235 rfl rfl
theorem kw_3_236 : Jvm.Cond.codeWith ({ cls := "BondWarehouseLaw", name := "withdraw", desc := "(LBondWarehouse;II[J)I" } : Jvm.MethodName) method_4_code (5 : Nat) (Option.some Jvm.ClassFile.FieldType.int) [((0 : Nat), (10 : Nat), (13 : Nat), (21 : Nat)), ((0 : Nat), (10 : Nat), (17 : Nat), (13 : Nat)), ((0 : Nat), (10 : Nat), (21 : Nat), (15 : Nat))] ∈ TG := tg_3 236 rfl rfl
theorem kw_7_153 : Jvm.Cond.methodLink "BondWarehouseLaw" (222 : Nat) ({ cls := "BondWarehouseModel", name := "withdraw", desc := "(II)I" } : Jvm.MethodName) ∈ TG := tg_7 153 rfl rfl
theorem kw_7_154 : Jvm.Cond.instanceMethod ({ cls := "BondWarehouseModel", name := "withdraw", desc := "(II)I" } : Jvm.MethodName) ∈ TG := tg_7 154 rfl rfl
theorem kw_7_155 : Jvm.Cond.selects "BondWarehouseModel" ({ cls := "BondWarehouseModel", name := "withdraw", desc := "(II)I" } : Jvm.MethodName) ({ cls := "BondWarehouseModel", name := "withdraw", desc := "(II)I" } : Jvm.MethodName) ∈ TG := tg_7 155 rfl rfl
theorem kw_7_156 : Jvm.Cond.code ({ cls := "BondWarehouseModel", name := "withdraw", desc := "(II)I" } : Jvm.MethodName) prog_12_method_53_code (4 : Nat) (Option.some Jvm.ClassFile.FieldType.int) ∈ TG := tg_7 156 rfl rfl
theorem kw_4_45 : Jvm.Cond.methodLink "BondWarehouseLaw" (223 : Nat) ({ cls := "BondWarehouseLaw", name := "sendAbroad", desc := "(LBondWarehouse;II[J)I" } : Jvm.MethodName) ∈ TG := tg_4 45 rfl rfl
theorem kw_4_46 : Jvm.Cond.static ({ cls := "BondWarehouseLaw", name := "sendAbroad", desc := "(LBondWarehouse;II[J)I" } : Jvm.MethodName) ∈ TG := tg_4 46 rfl rfl
theorem kw_4_47 : Jvm.Cond.codeWith ({ cls := "BondWarehouseLaw", name := "sendAbroad", desc := "(LBondWarehouse;II[J)I" } : Jvm.MethodName) method_5_code (5 : Nat) (Option.some Jvm.ClassFile.FieldType.int) [((0 : Nat), (10 : Nat), (13 : Nat), (21 : Nat)), ((0 : Nat), (10 : Nat), (17 : Nat), (13 : Nat)), ((0 : Nat), (10 : Nat), (21 : Nat), (15 : Nat))] ∈ TG := tg_4 47 rfl rfl
theorem kw_7_185 : Jvm.Cond.methodLink "BondWarehouseLaw" (225 : Nat) ({ cls := "BondWarehouseModel", name := "sendAbroad", desc := "(II)I" } : Jvm.MethodName) ∈ TG := tg_7 185 rfl rfl
theorem kw_7_186 : Jvm.Cond.instanceMethod ({ cls := "BondWarehouseModel", name := "sendAbroad", desc := "(II)I" } : Jvm.MethodName) ∈ TG := tg_7 186 rfl rfl
theorem kw_7_187 : Jvm.Cond.selects "BondWarehouseModel" ({ cls := "BondWarehouseModel", name := "sendAbroad", desc := "(II)I" } : Jvm.MethodName) ({ cls := "BondWarehouseModel", name := "sendAbroad", desc := "(II)I" } : Jvm.MethodName) ∈ TG := tg_7 187 rfl rfl
theorem kw_7_188 : Jvm.Cond.code ({ cls := "BondWarehouseModel", name := "sendAbroad", desc := "(II)I" } : Jvm.MethodName) prog_12_method_54_code (4 : Nat) (Option.some Jvm.ClassFile.FieldType.int) ∈ TG := tg_7 188 rfl rfl
theorem kw_4_60 : Jvm.Cond.methodLink "BondWarehouseLaw" (226 : Nat) ({ cls := "BondWarehouseLaw", name := "drawBack", desc := "(LBondWarehouse;II[J)I" } : Jvm.MethodName) ∈ TG := tg_4 60 rfl rfl
theorem kw_4_61 : Jvm.Cond.static ({ cls := "BondWarehouseLaw", name := "drawBack", desc := "(LBondWarehouse;II[J)I" } : Jvm.MethodName) ∈ TG := tg_4 61 rfl rfl
theorem kw_4_62 : Jvm.Cond.codeWith ({ cls := "BondWarehouseLaw", name := "drawBack", desc := "(LBondWarehouse;II[J)I" } : Jvm.MethodName) method_6_code (5 : Nat) (Option.some Jvm.ClassFile.FieldType.int) [((0 : Nat), (10 : Nat), (13 : Nat), (21 : Nat)), ((0 : Nat), (10 : Nat), (17 : Nat), (13 : Nat)), ((0 : Nat), (10 : Nat), (21 : Nat), (15 : Nat))] ∈ TG := tg_4 62 rfl rfl
theorem kw_7_197 : Jvm.Cond.methodLink "BondWarehouseLaw" (228 : Nat) ({ cls := "BondWarehouseModel", name := "drawBack", desc := "(II)I" } : Jvm.MethodName) ∈ TG := tg_7 197 rfl rfl
theorem kw_7_198 : Jvm.Cond.instanceMethod ({ cls := "BondWarehouseModel", name := "drawBack", desc := "(II)I" } : Jvm.MethodName) ∈ TG := tg_7 198 rfl rfl
theorem kw_7_199 : Jvm.Cond.selects "BondWarehouseModel" ({ cls := "BondWarehouseModel", name := "drawBack", desc := "(II)I" } : Jvm.MethodName) ({ cls := "BondWarehouseModel", name := "drawBack", desc := "(II)I" } : Jvm.MethodName) ∈ TG := tg_7 199 rfl rfl
theorem kw_7_200 : Jvm.Cond.code ({ cls := "BondWarehouseModel", name := "drawBack", desc := "(II)I" } : Jvm.MethodName) prog_12_method_56_code (3 : Nat) (Option.some Jvm.ClassFile.FieldType.int) ∈ TG := tg_7 200 rfl rfl
theorem kw_4_90 : Jvm.Cond.methodLink "BondWarehouseLaw" (229 : Nat) ({ cls := "BondWarehouseLaw", name := "move", desc := "(LBondWarehouse;II[J)I" } : Jvm.MethodName) ∈ TG := tg_4 90 rfl rfl
theorem kw_4_91 : Jvm.Cond.static ({ cls := "BondWarehouseLaw", name := "move", desc := "(LBondWarehouse;II[J)I" } : Jvm.MethodName) ∈ TG := tg_4 91 rfl rfl
theorem kw_4_92 : Jvm.Cond.codeWith ({ cls := "BondWarehouseLaw", name := "move", desc := "(LBondWarehouse;II[J)I" } : Jvm.MethodName) method_7_code (5 : Nat) (Option.some Jvm.ClassFile.FieldType.int) [((0 : Nat), (10 : Nat), (13 : Nat), (21 : Nat)), ((0 : Nat), (10 : Nat), (17 : Nat), (15 : Nat))] ∈ TG := tg_4 92 rfl rfl
theorem kw_7_221 : Jvm.Cond.methodLink "BondWarehouseLaw" (231 : Nat) ({ cls := "BondWarehouseModel", name := "move", desc := "(II)I" } : Jvm.MethodName) ∈ TG := tg_7 221 rfl rfl
theorem kw_7_222 : Jvm.Cond.instanceMethod ({ cls := "BondWarehouseModel", name := "move", desc := "(II)I" } : Jvm.MethodName) ∈ TG := tg_7 222 rfl rfl
theorem kw_7_223 : Jvm.Cond.selects "BondWarehouseModel" ({ cls := "BondWarehouseModel", name := "move", desc := "(II)I" } : Jvm.MethodName) ({ cls := "BondWarehouseModel", name := "move", desc := "(II)I" } : Jvm.MethodName) ∈ TG := tg_7 223 rfl rfl
theorem kw_7_224 : Jvm.Cond.code ({ cls := "BondWarehouseModel", name := "move", desc := "(II)I" } : Jvm.MethodName) prog_12_method_57_code (4 : Nat) (Option.some Jvm.ClassFile.FieldType.int) ∈ TG := tg_7 224 rfl rfl
theorem kw_4_106 : Jvm.Cond.methodLink "BondWarehouseLaw" (232 : Nat) ({ cls := "BondWarehouseLaw", name := "split", desc := "(LBondWarehouse;II[J)I" } : Jvm.MethodName) ∈ TG := tg_4 106 rfl rfl
theorem kw_4_107 : Jvm.Cond.static ({ cls := "BondWarehouseLaw", name := "split", desc := "(LBondWarehouse;II[J)I" } : Jvm.MethodName) ∈ TG := tg_4 107 rfl rfl
theorem kw_4_108 : Jvm.Cond.codeWith ({ cls := "BondWarehouseLaw", name := "split", desc := "(LBondWarehouse;II[J)I" } : Jvm.MethodName) method_8_code (5 : Nat) (Option.some Jvm.ClassFile.FieldType.int) [((0 : Nat), (10 : Nat), (13 : Nat), (21 : Nat)), ((0 : Nat), (10 : Nat), (17 : Nat), (13 : Nat)), ((0 : Nat), (10 : Nat), (21 : Nat), (15 : Nat))] ∈ TG := tg_4 108 rfl rfl
theorem kw_7_233 : Jvm.Cond.methodLink "BondWarehouseLaw" (234 : Nat) ({ cls := "BondWarehouseModel", name := "split", desc := "(II)I" } : Jvm.MethodName) ∈ TG := tg_7 233 rfl rfl
theorem kw_7_234 : Jvm.Cond.instanceMethod ({ cls := "BondWarehouseModel", name := "split", desc := "(II)I" } : Jvm.MethodName) ∈ TG := tg_7 234 rfl rfl
theorem kw_7_235 : Jvm.Cond.selects "BondWarehouseModel" ({ cls := "BondWarehouseModel", name := "split", desc := "(II)I" } : Jvm.MethodName) ({ cls := "BondWarehouseModel", name := "split", desc := "(II)I" } : Jvm.MethodName) ∈ TG := tg_7 235 rfl rfl
theorem kw_7_236 : Jvm.Cond.code ({ cls := "BondWarehouseModel", name := "split", desc := "(II)I" } : Jvm.MethodName) prog_12_method_58_code (7 : Nat) (Option.some Jvm.ClassFile.FieldType.int) ∈ TG := tg_7 236 rfl rfl
theorem kw_4_121 : Jvm.Cond.methodLink "BondWarehouseLaw" (235 : Nat) ({ cls := "BondWarehouseLaw", name := "merge", desc := "(LBondWarehouse;II[J)I" } : Jvm.MethodName) ∈ TG := tg_4 121 rfl rfl
theorem kw_4_122 : Jvm.Cond.static ({ cls := "BondWarehouseLaw", name := "merge", desc := "(LBondWarehouse;II[J)I" } : Jvm.MethodName) ∈ TG := tg_4 122 rfl rfl
theorem kw_4_123 : Jvm.Cond.codeWith ({ cls := "BondWarehouseLaw", name := "merge", desc := "(LBondWarehouse;II[J)I" } : Jvm.MethodName) method_9_code (5 : Nat) (Option.some Jvm.ClassFile.FieldType.int) [((0 : Nat), (10 : Nat), (13 : Nat), (21 : Nat)), ((0 : Nat), (10 : Nat), (17 : Nat), (13 : Nat)), ((0 : Nat), (10 : Nat), (21 : Nat), (15 : Nat))] ∈ TG := tg_4 123 rfl rfl
theorem kw_7_238 : Jvm.Cond.methodLink "BondWarehouseLaw" (237 : Nat) ({ cls := "BondWarehouseModel", name := "merge", desc := "(II)I" } : Jvm.MethodName) ∈ TG := tg_7 238 rfl rfl
theorem kw_7_239 : Jvm.Cond.instanceMethod ({ cls := "BondWarehouseModel", name := "merge", desc := "(II)I" } : Jvm.MethodName) ∈ TG := tg_7 239 rfl rfl
theorem kw_8_0 : Jvm.Cond.selects "BondWarehouseModel" ({ cls := "BondWarehouseModel", name := "merge", desc := "(II)I" } : Jvm.MethodName) ({ cls := "BondWarehouseModel", name := "merge", desc := "(II)I" } : Jvm.MethodName) ∈ TG := tg_8 0 rfl rfl
theorem kw_8_1 : Jvm.Cond.code ({ cls := "BondWarehouseModel", name := "merge", desc := "(II)I" } : Jvm.MethodName) prog_12_method_60_code (6 : Nat) (Option.some Jvm.ClassFile.FieldType.int) ∈ TG := tg_8 1 rfl rfl
theorem kw_4_144 : Jvm.Cond.methodLink "BondWarehouseLaw" (238 : Nat) ({ cls := "BondWarehouseLaw", name := "weigh", desc := "(LBondWarehouse;II[J)I" } : Jvm.MethodName) ∈ TG := tg_4 144 rfl rfl
theorem kw_4_145 : Jvm.Cond.static ({ cls := "BondWarehouseLaw", name := "weigh", desc := "(LBondWarehouse;II[J)I" } : Jvm.MethodName) ∈ TG := tg_4 145 rfl rfl
theorem kw_4_146 : Jvm.Cond.codeWith ({ cls := "BondWarehouseLaw", name := "weigh", desc := "(LBondWarehouse;II[J)I" } : Jvm.MethodName) method_10_code (5 : Nat) (Option.some Jvm.ClassFile.FieldType.int) [((0 : Nat), (10 : Nat), (13 : Nat), (21 : Nat)), ((0 : Nat), (10 : Nat), (17 : Nat), (13 : Nat)), ((0 : Nat), (10 : Nat), (21 : Nat), (15 : Nat))] ∈ TG := tg_4 146 rfl rfl
theorem kw_8_6 : Jvm.Cond.methodLink "BondWarehouseLaw" (240 : Nat) ({ cls := "BondWarehouseModel", name := "weigh", desc := "(II)I" } : Jvm.MethodName) ∈ TG := tg_8 6 rfl rfl
theorem kw_8_7 : Jvm.Cond.instanceMethod ({ cls := "BondWarehouseModel", name := "weigh", desc := "(II)I" } : Jvm.MethodName) ∈ TG := tg_8 7 rfl rfl
theorem kw_8_8 : Jvm.Cond.selects "BondWarehouseModel" ({ cls := "BondWarehouseModel", name := "weigh", desc := "(II)I" } : Jvm.MethodName) ({ cls := "BondWarehouseModel", name := "weigh", desc := "(II)I" } : Jvm.MethodName) ∈ TG := tg_8 8 rfl rfl
theorem kw_8_9 : Jvm.Cond.code ({ cls := "BondWarehouseModel", name := "weigh", desc := "(II)I" } : Jvm.MethodName) prog_12_method_61_code (4 : Nat) (Option.some Jvm.ClassFile.FieldType.int) ∈ TG := tg_8 9 rfl rfl
theorem kw_4_175 : Jvm.Cond.methodLink "BondWarehouseLaw" (241 : Nat) ({ cls := "BondWarehouseLaw", name := "lock", desc := "(LBondWarehouse;I[J)I" } : Jvm.MethodName) ∈ TG := tg_4 175 rfl rfl
theorem kw_4_176 : Jvm.Cond.static ({ cls := "BondWarehouseLaw", name := "lock", desc := "(LBondWarehouse;I[J)I" } : Jvm.MethodName) ∈ TG := tg_4 176 rfl rfl
theorem kw_4_177 : Jvm.Cond.codeWith ({ cls := "BondWarehouseLaw", name := "lock", desc := "(LBondWarehouse;I[J)I" } : Jvm.MethodName) method_11_code (4 : Nat) (Option.some Jvm.ClassFile.FieldType.int) [((0 : Nat), (9 : Nat), (12 : Nat), (21 : Nat)), ((0 : Nat), (9 : Nat), (15 : Nat), (15 : Nat))] ∈ TG := tg_4 177 rfl rfl
theorem kw_8_29 : Jvm.Cond.methodLink "BondWarehouseLaw" (244 : Nat) ({ cls := "BondWarehouseModel", name := "lock", desc := "(I)I" } : Jvm.MethodName) ∈ TG := tg_8 29 rfl rfl
theorem kw_8_30 : Jvm.Cond.instanceMethod ({ cls := "BondWarehouseModel", name := "lock", desc := "(I)I" } : Jvm.MethodName) ∈ TG := tg_8 30 rfl rfl
theorem kw_8_31 : Jvm.Cond.selects "BondWarehouseModel" ({ cls := "BondWarehouseModel", name := "lock", desc := "(I)I" } : Jvm.MethodName) ({ cls := "BondWarehouseModel", name := "lock", desc := "(I)I" } : Jvm.MethodName) ∈ TG := tg_8 31 rfl rfl
theorem kw_8_32 : Jvm.Cond.code ({ cls := "BondWarehouseModel", name := "lock", desc := "(I)I" } : Jvm.MethodName) prog_12_method_62_code (2 : Nat) (Option.some Jvm.ClassFile.FieldType.int) ∈ TG := tg_8 32 rfl rfl
theorem kw_4_186 : Jvm.Cond.methodLink "BondWarehouseLaw" (245 : Nat) ({ cls := "BondWarehouseLaw", name := "open", desc := "(LBondWarehouse;I[J)I" } : Jvm.MethodName) ∈ TG := tg_4 186 rfl rfl
theorem kw_4_187 : Jvm.Cond.static ({ cls := "BondWarehouseLaw", name := "open", desc := "(LBondWarehouse;I[J)I" } : Jvm.MethodName) ∈ TG := tg_4 187 rfl rfl
theorem kw_4_188 : Jvm.Cond.codeWith ({ cls := "BondWarehouseLaw", name := "open", desc := "(LBondWarehouse;I[J)I" } : Jvm.MethodName) method_12_code (4 : Nat) (Option.some Jvm.ClassFile.FieldType.int) [((0 : Nat), (9 : Nat), (12 : Nat), (21 : Nat)), ((0 : Nat), (9 : Nat), (15 : Nat), (15 : Nat))] ∈ TG := tg_4 188 rfl rfl
theorem kw_8_37 : Jvm.Cond.methodLink "BondWarehouseLaw" (247 : Nat) ({ cls := "BondWarehouseModel", name := "open", desc := "(I)I" } : Jvm.MethodName) ∈ TG := tg_8 37 rfl rfl
theorem kw_8_38 : Jvm.Cond.instanceMethod ({ cls := "BondWarehouseModel", name := "open", desc := "(I)I" } : Jvm.MethodName) ∈ TG := tg_8 38 rfl rfl
theorem kw_8_39 : Jvm.Cond.selects "BondWarehouseModel" ({ cls := "BondWarehouseModel", name := "open", desc := "(I)I" } : Jvm.MethodName) ({ cls := "BondWarehouseModel", name := "open", desc := "(I)I" } : Jvm.MethodName) ∈ TG := tg_8 39 rfl rfl
theorem kw_8_40 : Jvm.Cond.code ({ cls := "BondWarehouseModel", name := "open", desc := "(I)I" } : Jvm.MethodName) prog_12_method_63_code (2 : Nat) (Option.some Jvm.ClassFile.FieldType.int) ∈ TG := tg_8 40 rfl rfl
theorem kw_4_197 : Jvm.Cond.methodLink "BondWarehouseLaw" (248 : Nat) ({ cls := "BondWarehouseLaw", name := "breakSeal", desc := "(LBondWarehouse;I[J)I" } : Jvm.MethodName) ∈ TG := tg_4 197 rfl rfl
theorem kw_4_198 : Jvm.Cond.static ({ cls := "BondWarehouseLaw", name := "breakSeal", desc := "(LBondWarehouse;I[J)I" } : Jvm.MethodName) ∈ TG := tg_4 198 rfl rfl
theorem kw_4_199 : Jvm.Cond.codeWith ({ cls := "BondWarehouseLaw", name := "breakSeal", desc := "(LBondWarehouse;I[J)I" } : Jvm.MethodName) method_13_code (4 : Nat) (Option.some Jvm.ClassFile.FieldType.int) [((0 : Nat), (9 : Nat), (12 : Nat), (21 : Nat)), ((0 : Nat), (9 : Nat), (15 : Nat), (15 : Nat))] ∈ TG := tg_4 199 rfl rfl
theorem kw_8_45 : Jvm.Cond.methodLink "BondWarehouseLaw" (250 : Nat) ({ cls := "BondWarehouseModel", name := "breakSeal", desc := "(I)I" } : Jvm.MethodName) ∈ TG := tg_8 45 rfl rfl
theorem kw_8_46 : Jvm.Cond.instanceMethod ({ cls := "BondWarehouseModel", name := "breakSeal", desc := "(I)I" } : Jvm.MethodName) ∈ TG := tg_8 46 rfl rfl
theorem kw_8_47 : Jvm.Cond.selects "BondWarehouseModel" ({ cls := "BondWarehouseModel", name := "breakSeal", desc := "(I)I" } : Jvm.MethodName) ({ cls := "BondWarehouseModel", name := "breakSeal", desc := "(I)I" } : Jvm.MethodName) ∈ TG := tg_8 47 rfl rfl
theorem kw_8_48 : Jvm.Cond.code ({ cls := "BondWarehouseModel", name := "breakSeal", desc := "(I)I" } : Jvm.MethodName) prog_12_method_65_code (2 : Nat) (Option.some Jvm.ClassFile.FieldType.int) ∈ TG := tg_8 48 rfl rfl
theorem kw_4_208 : Jvm.Cond.methodLink "BondWarehouseLaw" (251 : Nat) ({ cls := "BondWarehouseLaw", name := "deposit", desc := "(LBondWarehouse;I[J)I" } : Jvm.MethodName) ∈ TG := tg_4 208 rfl rfl
theorem kw_4_209 : Jvm.Cond.static ({ cls := "BondWarehouseLaw", name := "deposit", desc := "(LBondWarehouse;I[J)I" } : Jvm.MethodName) ∈ TG := tg_4 209 rfl rfl
theorem kw_4_210 : Jvm.Cond.codeWith ({ cls := "BondWarehouseLaw", name := "deposit", desc := "(LBondWarehouse;I[J)I" } : Jvm.MethodName) method_14_code (4 : Nat) (Option.some Jvm.ClassFile.FieldType.int) [((0 : Nat), (9 : Nat), (12 : Nat), (13 : Nat)), ((0 : Nat), (9 : Nat), (15 : Nat), (15 : Nat))] ∈ TG := tg_4 210 rfl rfl
theorem kw_8_57 : Jvm.Cond.methodLink "BondWarehouseLaw" (253 : Nat) ({ cls := "BondWarehouseModel", name := "deposit", desc := "(I)I" } : Jvm.MethodName) ∈ TG := tg_8 57 rfl rfl
theorem kw_8_58 : Jvm.Cond.instanceMethod ({ cls := "BondWarehouseModel", name := "deposit", desc := "(I)I" } : Jvm.MethodName) ∈ TG := tg_8 58 rfl rfl
theorem kw_8_59 : Jvm.Cond.selects "BondWarehouseModel" ({ cls := "BondWarehouseModel", name := "deposit", desc := "(I)I" } : Jvm.MethodName) ({ cls := "BondWarehouseModel", name := "deposit", desc := "(I)I" } : Jvm.MethodName) ∈ TG := tg_8 59 rfl rfl
theorem kw_8_60 : Jvm.Cond.code ({ cls := "BondWarehouseModel", name := "deposit", desc := "(I)I" } : Jvm.MethodName) prog_12_method_66_code (2 : Nat) (Option.some Jvm.ClassFile.FieldType.int) ∈ TG := tg_8 60 rfl rfl
theorem hy_L_enter : yL_enter.cls ≠ "java/lang/invoke/MethodHandle" ∧ yL_enter.cls ≠ "java/lang/invoke/VarHandle" ∧ (parseMethodDescriptor yL_enter.desc).map (fun d => d.parameters.length) = some 6 := by decide +kernel
theorem hy_L_withdraw : yL_withdraw.cls ≠ "java/lang/invoke/MethodHandle" ∧ yL_withdraw.cls ≠ "java/lang/invoke/VarHandle" ∧ (parseMethodDescriptor yL_withdraw.desc).map (fun d => d.parameters.length) = some 4 := by decide +kernel
theorem hy_L_sendAbroad : yL_sendAbroad.cls ≠ "java/lang/invoke/MethodHandle" ∧ yL_sendAbroad.cls ≠ "java/lang/invoke/VarHandle" ∧ (parseMethodDescriptor yL_sendAbroad.desc).map (fun d => d.parameters.length) = some 4 := by decide +kernel
theorem hy_L_drawBack : yL_drawBack.cls ≠ "java/lang/invoke/MethodHandle" ∧ yL_drawBack.cls ≠ "java/lang/invoke/VarHandle" ∧ (parseMethodDescriptor yL_drawBack.desc).map (fun d => d.parameters.length) = some 4 := by decide +kernel
theorem hy_L_move : yL_move.cls ≠ "java/lang/invoke/MethodHandle" ∧ yL_move.cls ≠ "java/lang/invoke/VarHandle" ∧ (parseMethodDescriptor yL_move.desc).map (fun d => d.parameters.length) = some 4 := by decide +kernel
theorem hy_L_split : yL_split.cls ≠ "java/lang/invoke/MethodHandle" ∧ yL_split.cls ≠ "java/lang/invoke/VarHandle" ∧ (parseMethodDescriptor yL_split.desc).map (fun d => d.parameters.length) = some 4 := by decide +kernel
theorem hy_L_merge : yL_merge.cls ≠ "java/lang/invoke/MethodHandle" ∧ yL_merge.cls ≠ "java/lang/invoke/VarHandle" ∧ (parseMethodDescriptor yL_merge.desc).map (fun d => d.parameters.length) = some 4 := by decide +kernel
theorem hy_L_weigh : yL_weigh.cls ≠ "java/lang/invoke/MethodHandle" ∧ yL_weigh.cls ≠ "java/lang/invoke/VarHandle" ∧ (parseMethodDescriptor yL_weigh.desc).map (fun d => d.parameters.length) = some 4 := by decide +kernel
theorem hy_L_lock : yL_lock.cls ≠ "java/lang/invoke/MethodHandle" ∧ yL_lock.cls ≠ "java/lang/invoke/VarHandle" ∧ (parseMethodDescriptor yL_lock.desc).map (fun d => d.parameters.length) = some 3 := by decide +kernel
theorem hy_L_open : yL_open.cls ≠ "java/lang/invoke/MethodHandle" ∧ yL_open.cls ≠ "java/lang/invoke/VarHandle" ∧ (parseMethodDescriptor yL_open.desc).map (fun d => d.parameters.length) = some 3 := by decide +kernel
theorem hy_L_breakSeal : yL_breakSeal.cls ≠ "java/lang/invoke/MethodHandle" ∧ yL_breakSeal.cls ≠ "java/lang/invoke/VarHandle" ∧ (parseMethodDescriptor yL_breakSeal.desc).map (fun d => d.parameters.length) = some 3 := by decide +kernel
theorem hy_L_deposit : yL_deposit.cls ≠ "java/lang/invoke/MethodHandle" ∧ yL_deposit.cls ≠ "java/lang/invoke/VarHandle" ∧ (parseMethodDescriptor yL_deposit.desc).map (fun d => d.parameters.length) = some 3 := by decide +kernel
theorem dL_law_384 : decode cL_law 384 = .ok (.aload_n 1, 1) := by decide +kernel
theorem dL_law_385 : decode cL_law 385 = .ok (.aload_n 0, 1) := by decide +kernel
theorem dL_law_386 : decode cL_law 386 = .ok (.iload 4, 2) := by decide +kernel
theorem dL_law_388 : decode cL_law 388 = .ok (.iconst 1, 1) := by decide +kernel
theorem dL_law_389 : decode cL_law 389 = .ok (.iadd, 1) := by decide +kernel
theorem dL_law_390 : decode cL_law 390 = .ok (.iaload, 1) := by decide +kernel
theorem dL_law_391 : decode cL_law 391 = .ok (.aload_n 0, 1) := by decide +kernel
theorem dL_law_392 : decode cL_law 392 = .ok (.iload 4, 2) := by decide +kernel
theorem dL_law_394 : decode cL_law 394 = .ok (.iconst 2, 1) := by decide +kernel
theorem dL_law_395 : decode cL_law 395 = .ok (.iadd, 1) := by decide +kernel
theorem dL_law_396 : decode cL_law 396 = .ok (.iaload, 1) := by decide +kernel
theorem dL_law_397 : decode cL_law 397 = .ok (.aload_n 0, 1) := by decide +kernel
theorem dL_law_398 : decode cL_law 398 = .ok (.iload 4, 2) := by decide +kernel
theorem dL_law_400 : decode cL_law 400 = .ok (.iconst 3, 1) := by decide +kernel
theorem dL_law_401 : decode cL_law 401 = .ok (.iadd, 1) := by decide +kernel
theorem dL_law_402 : decode cL_law 402 = .ok (.iaload, 1) := by decide +kernel
theorem dL_law_403 : decode cL_law 403 = .ok (.aload_n 0, 1) := by decide +kernel
theorem dL_law_404 : decode cL_law 404 = .ok (.iload 4, 2) := by decide +kernel
theorem dL_law_406 : decode cL_law 406 = .ok (.iconst 4, 1) := by decide +kernel
theorem dL_law_407 : decode cL_law 407 = .ok (.iadd, 1) := by decide +kernel
theorem dL_law_408 : decode cL_law 408 = .ok (.iaload, 1) := by decide +kernel
theorem dL_law_409 : decode cL_law 409 = .ok (.aload_n 3, 1) := by decide +kernel
theorem dL_law_410 : decode cL_law 410 = .ok (.invokestatic 210, 3) := by decide +kernel
theorem dL_law_413 : decode cL_law 413 = .ok (.istore 5, 2) := by decide +kernel
theorem dL_law_415 : decode cL_law 415 = .ok (.aload_n 2, 1) := by decide +kernel
theorem dL_law_416 : decode cL_law 416 = .ok (.aload_n 0, 1) := by decide +kernel
theorem dL_law_417 : decode cL_law 417 = .ok (.iload 4, 2) := by decide +kernel
theorem dL_law_419 : decode cL_law 419 = .ok (.iconst 1, 1) := by decide +kernel
theorem dL_law_420 : decode cL_law 420 = .ok (.iadd, 1) := by decide +kernel
theorem dL_law_421 : decode cL_law 421 = .ok (.iaload, 1) := by decide +kernel
theorem dL_law_422 : decode cL_law 422 = .ok (.aload_n 0, 1) := by decide +kernel
theorem dL_law_423 : decode cL_law 423 = .ok (.iload 4, 2) := by decide +kernel
theorem dL_law_425 : decode cL_law 425 = .ok (.iconst 2, 1) := by decide +kernel
theorem dL_law_426 : decode cL_law 426 = .ok (.iadd, 1) := by decide +kernel
theorem dL_law_427 : decode cL_law 427 = .ok (.iaload, 1) := by decide +kernel
theorem dL_law_428 : decode cL_law 428 = .ok (.aload_n 0, 1) := by decide +kernel
theorem dL_law_429 : decode cL_law 429 = .ok (.iload 4, 2) := by decide +kernel
theorem dL_law_431 : decode cL_law 431 = .ok (.iconst 3, 1) := by decide +kernel
theorem dL_law_432 : decode cL_law 432 = .ok (.iadd, 1) := by decide +kernel
theorem dL_law_433 : decode cL_law 433 = .ok (.iaload, 1) := by decide +kernel
theorem dL_law_434 : decode cL_law 434 = .ok (.aload_n 0, 1) := by decide +kernel
theorem dL_law_435 : decode cL_law 435 = .ok (.iload 4, 2) := by decide +kernel
theorem dL_law_437 : decode cL_law 437 = .ok (.iconst 4, 1) := by decide +kernel
theorem dL_law_438 : decode cL_law 438 = .ok (.iadd, 1) := by decide +kernel
theorem dL_law_439 : decode cL_law 439 = .ok (.iaload, 1) := by decide +kernel
theorem dL_law_440 : decode cL_law 440 = .ok (.invokevirtual 215, 3) := by decide +kernel
theorem dL_law_443 : decode cL_law 443 = .ok (.istore 6, 2) := by decide +kernel
theorem dL_law_445 : decode cL_law 445 = .ok (.aload_n 2, 1) := by decide +kernel
theorem dL_law_446 : decode cL_law 446 = .ok (.invokevirtual 216, 3) := by decide +kernel
theorem dL_law_449 : decode cL_law 449 = .ok (.iload 5, 2) := by decide +kernel
theorem dL_law_451 : decode cL_law 451 = .ok (.if_icmp .eq 5, 3) := by decide +kernel
theorem dL_law_456 : decode cL_law 456 = .ok (.iload 5, 2) := by decide +kernel
theorem dL_law_458 : decode cL_law 458 = .ok (.ifCond .ne 15, 3) := by decide +kernel
theorem dL_law_461 : decode cL_law 461 = .ok (.aload_n 3, 1) := by decide +kernel
theorem dL_law_462 : decode cL_law 462 = .ok (.iconst 0, 1) := by decide +kernel
theorem dL_law_463 : decode cL_law 463 = .ok (.laload, 1) := by decide +kernel
theorem dL_law_464 : decode cL_law 464 = .ok (.iload 6, 2) := by decide +kernel
theorem dL_law_466 : decode cL_law 466 = .ok (.i2l, 1) := by decide +kernel
theorem dL_law_467 : decode cL_law 467 = .ok (.lcmp, 1) := by decide +kernel
theorem dL_law_468 : decode cL_law 468 = .ok (.ifCond .eq 5, 3) := by decide +kernel
theorem dL_law_473 : decode cL_law 473 = .ok (.goto 3988, 3) := by decide +kernel
theorem dL_law_476 : decode cL_law 476 = .ok (.aload_n 1, 1) := by decide +kernel
theorem dL_law_477 : decode cL_law 477 = .ok (.aload_n 0, 1) := by decide +kernel
theorem dL_law_478 : decode cL_law 478 = .ok (.iload 4, 2) := by decide +kernel
theorem dL_law_480 : decode cL_law 480 = .ok (.iconst 1, 1) := by decide +kernel
theorem dL_law_481 : decode cL_law 481 = .ok (.iadd, 1) := by decide +kernel
theorem dL_law_482 : decode cL_law 482 = .ok (.iaload, 1) := by decide +kernel
theorem dL_law_483 : decode cL_law 483 = .ok (.aload_n 0, 1) := by decide +kernel
theorem dL_law_484 : decode cL_law 484 = .ok (.iload 4, 2) := by decide +kernel
theorem dL_law_486 : decode cL_law 486 = .ok (.iconst 2, 1) := by decide +kernel
theorem dL_law_487 : decode cL_law 487 = .ok (.iadd, 1) := by decide +kernel
theorem dL_law_488 : decode cL_law 488 = .ok (.iaload, 1) := by decide +kernel
theorem dL_law_489 : decode cL_law 489 = .ok (.aload_n 3, 1) := by decide +kernel
theorem dL_law_490 : decode cL_law 490 = .ok (.invokestatic 219, 3) := by decide +kernel
theorem dL_law_493 : decode cL_law 493 = .ok (.istore 5, 2) := by decide +kernel
theorem dL_law_495 : decode cL_law 495 = .ok (.aload_n 2, 1) := by decide +kernel
theorem dL_law_496 : decode cL_law 496 = .ok (.aload_n 0, 1) := by decide +kernel
theorem dL_law_497 : decode cL_law 497 = .ok (.iload 4, 2) := by decide +kernel
theorem dL_law_499 : decode cL_law 499 = .ok (.iconst 1, 1) := by decide +kernel
theorem dL_law_500 : decode cL_law 500 = .ok (.iadd, 1) := by decide +kernel
theorem dL_law_501 : decode cL_law 501 = .ok (.iaload, 1) := by decide +kernel
theorem dL_law_502 : decode cL_law 502 = .ok (.aload_n 0, 1) := by decide +kernel
theorem dL_law_503 : decode cL_law 503 = .ok (.iload 4, 2) := by decide +kernel
theorem dL_law_505 : decode cL_law 505 = .ok (.iconst 2, 1) := by decide +kernel
theorem dL_law_506 : decode cL_law 506 = .ok (.iadd, 1) := by decide +kernel
theorem dL_law_507 : decode cL_law 507 = .ok (.iaload, 1) := by decide +kernel
theorem dL_law_508 : decode cL_law 508 = .ok (.invokevirtual 222, 3) := by decide +kernel
theorem dL_law_511 : decode cL_law 511 = .ok (.istore 6, 2) := by decide +kernel
theorem dL_law_513 : decode cL_law 513 = .ok (.aload_n 2, 1) := by decide +kernel
theorem dL_law_514 : decode cL_law 514 = .ok (.invokevirtual 216, 3) := by decide +kernel
theorem dL_law_517 : decode cL_law 517 = .ok (.iload 5, 2) := by decide +kernel
theorem dL_law_519 : decode cL_law 519 = .ok (.if_icmp .eq 5, 3) := by decide +kernel
theorem dL_law_524 : decode cL_law 524 = .ok (.iload 5, 2) := by decide +kernel
theorem dL_law_526 : decode cL_law 526 = .ok (.ifCond .ne 15, 3) := by decide +kernel
theorem dL_law_529 : decode cL_law 529 = .ok (.aload_n 3, 1) := by decide +kernel
theorem dL_law_530 : decode cL_law 530 = .ok (.iconst 0, 1) := by decide +kernel
theorem dL_law_531 : decode cL_law 531 = .ok (.laload, 1) := by decide +kernel
theorem dL_law_532 : decode cL_law 532 = .ok (.iload 6, 2) := by decide +kernel
theorem dL_law_534 : decode cL_law 534 = .ok (.i2l, 1) := by decide +kernel
theorem dL_law_535 : decode cL_law 535 = .ok (.lcmp, 1) := by decide +kernel
theorem dL_law_536 : decode cL_law 536 = .ok (.ifCond .eq 5, 3) := by decide +kernel
theorem dL_law_541 : decode cL_law 541 = .ok (.goto 3920, 3) := by decide +kernel
theorem dL_law_544 : decode cL_law 544 = .ok (.aload_n 1, 1) := by decide +kernel
theorem dL_law_545 : decode cL_law 545 = .ok (.aload_n 0, 1) := by decide +kernel
theorem dL_law_546 : decode cL_law 546 = .ok (.iload 4, 2) := by decide +kernel
theorem dL_law_548 : decode cL_law 548 = .ok (.iconst 1, 1) := by decide +kernel
theorem dL_law_549 : decode cL_law 549 = .ok (.iadd, 1) := by decide +kernel
theorem dL_law_550 : decode cL_law 550 = .ok (.iaload, 1) := by decide +kernel
theorem dL_law_551 : decode cL_law 551 = .ok (.aload_n 0, 1) := by decide +kernel
theorem dL_law_552 : decode cL_law 552 = .ok (.iload 4, 2) := by decide +kernel
theorem dL_law_554 : decode cL_law 554 = .ok (.iconst 2, 1) := by decide +kernel
theorem dL_law_555 : decode cL_law 555 = .ok (.iadd, 1) := by decide +kernel
theorem dL_law_556 : decode cL_law 556 = .ok (.iaload, 1) := by decide +kernel
theorem dL_law_557 : decode cL_law 557 = .ok (.aload_n 3, 1) := by decide +kernel
theorem dL_law_558 : decode cL_law 558 = .ok (.invokestatic 223, 3) := by decide +kernel
theorem dL_law_561 : decode cL_law 561 = .ok (.istore 5, 2) := by decide +kernel
theorem dL_law_563 : decode cL_law 563 = .ok (.aload_n 2, 1) := by decide +kernel
theorem dL_law_564 : decode cL_law 564 = .ok (.aload_n 0, 1) := by decide +kernel
theorem dL_law_565 : decode cL_law 565 = .ok (.iload 4, 2) := by decide +kernel
theorem dL_law_567 : decode cL_law 567 = .ok (.iconst 1, 1) := by decide +kernel
theorem dL_law_568 : decode cL_law 568 = .ok (.iadd, 1) := by decide +kernel
theorem dL_law_569 : decode cL_law 569 = .ok (.iaload, 1) := by decide +kernel
theorem dL_law_570 : decode cL_law 570 = .ok (.aload_n 0, 1) := by decide +kernel
theorem dL_law_571 : decode cL_law 571 = .ok (.iload 4, 2) := by decide +kernel
theorem dL_law_573 : decode cL_law 573 = .ok (.iconst 2, 1) := by decide +kernel
theorem dL_law_574 : decode cL_law 574 = .ok (.iadd, 1) := by decide +kernel
theorem dL_law_575 : decode cL_law 575 = .ok (.iaload, 1) := by decide +kernel
theorem dL_law_576 : decode cL_law 576 = .ok (.invokevirtual 225, 3) := by decide +kernel
theorem dL_law_579 : decode cL_law 579 = .ok (.istore 6, 2) := by decide +kernel
theorem dL_law_581 : decode cL_law 581 = .ok (.aload_n 2, 1) := by decide +kernel
theorem dL_law_582 : decode cL_law 582 = .ok (.invokevirtual 216, 3) := by decide +kernel
theorem dL_law_585 : decode cL_law 585 = .ok (.iload 5, 2) := by decide +kernel
theorem dL_law_587 : decode cL_law 587 = .ok (.if_icmp .eq 5, 3) := by decide +kernel
theorem dL_law_592 : decode cL_law 592 = .ok (.iload 5, 2) := by decide +kernel
theorem dL_law_594 : decode cL_law 594 = .ok (.ifCond .ne 15, 3) := by decide +kernel
theorem dL_law_597 : decode cL_law 597 = .ok (.aload_n 3, 1) := by decide +kernel
theorem dL_law_598 : decode cL_law 598 = .ok (.iconst 0, 1) := by decide +kernel
theorem dL_law_599 : decode cL_law 599 = .ok (.laload, 1) := by decide +kernel
theorem dL_law_600 : decode cL_law 600 = .ok (.iload 6, 2) := by decide +kernel
theorem dL_law_602 : decode cL_law 602 = .ok (.i2l, 1) := by decide +kernel
theorem dL_law_603 : decode cL_law 603 = .ok (.lcmp, 1) := by decide +kernel
theorem dL_law_604 : decode cL_law 604 = .ok (.ifCond .eq 5, 3) := by decide +kernel
theorem dL_law_609 : decode cL_law 609 = .ok (.goto 3852, 3) := by decide +kernel
theorem dL_law_612 : decode cL_law 612 = .ok (.aload_n 1, 1) := by decide +kernel
theorem dL_law_613 : decode cL_law 613 = .ok (.aload_n 0, 1) := by decide +kernel
theorem dL_law_614 : decode cL_law 614 = .ok (.iload 4, 2) := by decide +kernel
theorem dL_law_616 : decode cL_law 616 = .ok (.iconst 1, 1) := by decide +kernel
theorem dL_law_617 : decode cL_law 617 = .ok (.iadd, 1) := by decide +kernel
theorem dL_law_618 : decode cL_law 618 = .ok (.iaload, 1) := by decide +kernel
theorem dL_law_619 : decode cL_law 619 = .ok (.aload_n 0, 1) := by decide +kernel
theorem dL_law_620 : decode cL_law 620 = .ok (.iload 4, 2) := by decide +kernel
theorem dL_law_622 : decode cL_law 622 = .ok (.iconst 2, 1) := by decide +kernel
theorem dL_law_623 : decode cL_law 623 = .ok (.iadd, 1) := by decide +kernel
theorem dL_law_624 : decode cL_law 624 = .ok (.iaload, 1) := by decide +kernel
theorem dL_law_625 : decode cL_law 625 = .ok (.aload_n 3, 1) := by decide +kernel
theorem dL_law_626 : decode cL_law 626 = .ok (.invokestatic 226, 3) := by decide +kernel
theorem dL_law_629 : decode cL_law 629 = .ok (.istore 5, 2) := by decide +kernel
theorem dL_law_631 : decode cL_law 631 = .ok (.aload_n 2, 1) := by decide +kernel
theorem dL_law_632 : decode cL_law 632 = .ok (.aload_n 0, 1) := by decide +kernel
theorem dL_law_633 : decode cL_law 633 = .ok (.iload 4, 2) := by decide +kernel
theorem dL_law_635 : decode cL_law 635 = .ok (.iconst 1, 1) := by decide +kernel
theorem dL_law_636 : decode cL_law 636 = .ok (.iadd, 1) := by decide +kernel
theorem dL_law_637 : decode cL_law 637 = .ok (.iaload, 1) := by decide +kernel
theorem dL_law_638 : decode cL_law 638 = .ok (.aload_n 0, 1) := by decide +kernel
theorem dL_law_639 : decode cL_law 639 = .ok (.iload 4, 2) := by decide +kernel
theorem dL_law_641 : decode cL_law 641 = .ok (.iconst 2, 1) := by decide +kernel
theorem dL_law_642 : decode cL_law 642 = .ok (.iadd, 1) := by decide +kernel
theorem dL_law_643 : decode cL_law 643 = .ok (.iaload, 1) := by decide +kernel
theorem dL_law_644 : decode cL_law 644 = .ok (.invokevirtual 228, 3) := by decide +kernel
theorem dL_law_647 : decode cL_law 647 = .ok (.istore 6, 2) := by decide +kernel
theorem dL_law_649 : decode cL_law 649 = .ok (.aload_n 2, 1) := by decide +kernel
theorem dL_law_650 : decode cL_law 650 = .ok (.invokevirtual 216, 3) := by decide +kernel
theorem dL_law_653 : decode cL_law 653 = .ok (.iload 5, 2) := by decide +kernel
theorem dL_law_655 : decode cL_law 655 = .ok (.if_icmp .eq 5, 3) := by decide +kernel
theorem dL_law_660 : decode cL_law 660 = .ok (.iload 5, 2) := by decide +kernel
theorem dL_law_662 : decode cL_law 662 = .ok (.ifCond .ne 15, 3) := by decide +kernel
theorem dL_law_665 : decode cL_law 665 = .ok (.aload_n 3, 1) := by decide +kernel
theorem dL_law_666 : decode cL_law 666 = .ok (.iconst 0, 1) := by decide +kernel
theorem dL_law_667 : decode cL_law 667 = .ok (.laload, 1) := by decide +kernel
theorem dL_law_668 : decode cL_law 668 = .ok (.iload 6, 2) := by decide +kernel
theorem dL_law_670 : decode cL_law 670 = .ok (.i2l, 1) := by decide +kernel
theorem dL_law_671 : decode cL_law 671 = .ok (.lcmp, 1) := by decide +kernel
theorem dL_law_672 : decode cL_law 672 = .ok (.ifCond .eq 5, 3) := by decide +kernel
theorem dL_law_677 : decode cL_law 677 = .ok (.goto 3784, 3) := by decide +kernel
theorem dL_law_680 : decode cL_law 680 = .ok (.aload_n 1, 1) := by decide +kernel
theorem dL_law_681 : decode cL_law 681 = .ok (.aload_n 0, 1) := by decide +kernel
theorem dL_law_682 : decode cL_law 682 = .ok (.iload 4, 2) := by decide +kernel
theorem dL_law_684 : decode cL_law 684 = .ok (.iconst 1, 1) := by decide +kernel
theorem dL_law_685 : decode cL_law 685 = .ok (.iadd, 1) := by decide +kernel
theorem dL_law_686 : decode cL_law 686 = .ok (.iaload, 1) := by decide +kernel
theorem dL_law_687 : decode cL_law 687 = .ok (.aload_n 0, 1) := by decide +kernel
theorem dL_law_688 : decode cL_law 688 = .ok (.iload 4, 2) := by decide +kernel
theorem dL_law_690 : decode cL_law 690 = .ok (.iconst 2, 1) := by decide +kernel
theorem dL_law_691 : decode cL_law 691 = .ok (.iadd, 1) := by decide +kernel
theorem dL_law_692 : decode cL_law 692 = .ok (.iaload, 1) := by decide +kernel
theorem dL_law_693 : decode cL_law 693 = .ok (.aload_n 3, 1) := by decide +kernel
theorem dL_law_694 : decode cL_law 694 = .ok (.invokestatic 229, 3) := by decide +kernel
theorem dL_law_697 : decode cL_law 697 = .ok (.istore 5, 2) := by decide +kernel
theorem dL_law_699 : decode cL_law 699 = .ok (.aload_n 2, 1) := by decide +kernel
theorem dL_law_700 : decode cL_law 700 = .ok (.aload_n 0, 1) := by decide +kernel
theorem dL_law_701 : decode cL_law 701 = .ok (.iload 4, 2) := by decide +kernel
theorem dL_law_703 : decode cL_law 703 = .ok (.iconst 1, 1) := by decide +kernel
theorem dL_law_704 : decode cL_law 704 = .ok (.iadd, 1) := by decide +kernel
theorem dL_law_705 : decode cL_law 705 = .ok (.iaload, 1) := by decide +kernel
theorem dL_law_706 : decode cL_law 706 = .ok (.aload_n 0, 1) := by decide +kernel
theorem dL_law_707 : decode cL_law 707 = .ok (.iload 4, 2) := by decide +kernel
theorem dL_law_709 : decode cL_law 709 = .ok (.iconst 2, 1) := by decide +kernel
theorem dL_law_710 : decode cL_law 710 = .ok (.iadd, 1) := by decide +kernel
theorem dL_law_711 : decode cL_law 711 = .ok (.iaload, 1) := by decide +kernel
theorem dL_law_712 : decode cL_law 712 = .ok (.invokevirtual 231, 3) := by decide +kernel
theorem dL_law_715 : decode cL_law 715 = .ok (.istore 6, 2) := by decide +kernel
theorem dL_law_717 : decode cL_law 717 = .ok (.aload_n 2, 1) := by decide +kernel
theorem dL_law_718 : decode cL_law 718 = .ok (.invokevirtual 216, 3) := by decide +kernel
theorem dL_law_721 : decode cL_law 721 = .ok (.iload 5, 2) := by decide +kernel
theorem dL_law_723 : decode cL_law 723 = .ok (.if_icmp .eq 5, 3) := by decide +kernel
theorem dL_law_728 : decode cL_law 728 = .ok (.iload 5, 2) := by decide +kernel
theorem dL_law_730 : decode cL_law 730 = .ok (.ifCond .ne 15, 3) := by decide +kernel
theorem dL_law_733 : decode cL_law 733 = .ok (.aload_n 3, 1) := by decide +kernel
theorem dL_law_734 : decode cL_law 734 = .ok (.iconst 0, 1) := by decide +kernel
theorem dL_law_735 : decode cL_law 735 = .ok (.laload, 1) := by decide +kernel
theorem dL_law_736 : decode cL_law 736 = .ok (.iload 6, 2) := by decide +kernel
theorem dL_law_738 : decode cL_law 738 = .ok (.i2l, 1) := by decide +kernel
theorem dL_law_739 : decode cL_law 739 = .ok (.lcmp, 1) := by decide +kernel
theorem dL_law_740 : decode cL_law 740 = .ok (.ifCond .eq 5, 3) := by decide +kernel
theorem dL_law_745 : decode cL_law 745 = .ok (.goto 3716, 3) := by decide +kernel
theorem dL_law_748 : decode cL_law 748 = .ok (.aload_n 1, 1) := by decide +kernel
theorem dL_law_749 : decode cL_law 749 = .ok (.aload_n 0, 1) := by decide +kernel
theorem dL_law_750 : decode cL_law 750 = .ok (.iload 4, 2) := by decide +kernel
theorem dL_law_752 : decode cL_law 752 = .ok (.iconst 1, 1) := by decide +kernel
theorem dL_law_753 : decode cL_law 753 = .ok (.iadd, 1) := by decide +kernel
theorem dL_law_754 : decode cL_law 754 = .ok (.iaload, 1) := by decide +kernel
theorem dL_law_755 : decode cL_law 755 = .ok (.aload_n 0, 1) := by decide +kernel
theorem dL_law_756 : decode cL_law 756 = .ok (.iload 4, 2) := by decide +kernel
theorem dL_law_758 : decode cL_law 758 = .ok (.iconst 2, 1) := by decide +kernel
theorem dL_law_759 : decode cL_law 759 = .ok (.iadd, 1) := by decide +kernel
theorem dL_law_760 : decode cL_law 760 = .ok (.iaload, 1) := by decide +kernel
theorem dL_law_761 : decode cL_law 761 = .ok (.aload_n 3, 1) := by decide +kernel
theorem dL_law_762 : decode cL_law 762 = .ok (.invokestatic 232, 3) := by decide +kernel
theorem dL_law_765 : decode cL_law 765 = .ok (.istore 5, 2) := by decide +kernel
theorem dL_law_767 : decode cL_law 767 = .ok (.aload_n 2, 1) := by decide +kernel
theorem dL_law_768 : decode cL_law 768 = .ok (.aload_n 0, 1) := by decide +kernel
theorem dL_law_769 : decode cL_law 769 = .ok (.iload 4, 2) := by decide +kernel
theorem dL_law_771 : decode cL_law 771 = .ok (.iconst 1, 1) := by decide +kernel
theorem dL_law_772 : decode cL_law 772 = .ok (.iadd, 1) := by decide +kernel
theorem dL_law_773 : decode cL_law 773 = .ok (.iaload, 1) := by decide +kernel
theorem dL_law_774 : decode cL_law 774 = .ok (.aload_n 0, 1) := by decide +kernel
theorem dL_law_775 : decode cL_law 775 = .ok (.iload 4, 2) := by decide +kernel
theorem dL_law_777 : decode cL_law 777 = .ok (.iconst 2, 1) := by decide +kernel
theorem dL_law_778 : decode cL_law 778 = .ok (.iadd, 1) := by decide +kernel
theorem dL_law_779 : decode cL_law 779 = .ok (.iaload, 1) := by decide +kernel
theorem dL_law_780 : decode cL_law 780 = .ok (.invokevirtual 234, 3) := by decide +kernel
theorem dL_law_783 : decode cL_law 783 = .ok (.istore 6, 2) := by decide +kernel
theorem dL_law_785 : decode cL_law 785 = .ok (.aload_n 2, 1) := by decide +kernel
theorem dL_law_786 : decode cL_law 786 = .ok (.invokevirtual 216, 3) := by decide +kernel
theorem dL_law_789 : decode cL_law 789 = .ok (.iload 5, 2) := by decide +kernel
theorem dL_law_791 : decode cL_law 791 = .ok (.if_icmp .eq 5, 3) := by decide +kernel
theorem dL_law_796 : decode cL_law 796 = .ok (.iload 5, 2) := by decide +kernel
theorem dL_law_798 : decode cL_law 798 = .ok (.ifCond .ne 15, 3) := by decide +kernel
theorem dL_law_801 : decode cL_law 801 = .ok (.aload_n 3, 1) := by decide +kernel
theorem dL_law_802 : decode cL_law 802 = .ok (.iconst 0, 1) := by decide +kernel
theorem dL_law_803 : decode cL_law 803 = .ok (.laload, 1) := by decide +kernel
theorem dL_law_804 : decode cL_law 804 = .ok (.iload 6, 2) := by decide +kernel
theorem dL_law_806 : decode cL_law 806 = .ok (.i2l, 1) := by decide +kernel
theorem dL_law_807 : decode cL_law 807 = .ok (.lcmp, 1) := by decide +kernel
theorem dL_law_808 : decode cL_law 808 = .ok (.ifCond .eq 5, 3) := by decide +kernel
theorem dL_law_813 : decode cL_law 813 = .ok (.goto 3648, 3) := by decide +kernel
theorem dL_law_816 : decode cL_law 816 = .ok (.aload_n 1, 1) := by decide +kernel
theorem dL_law_817 : decode cL_law 817 = .ok (.aload_n 0, 1) := by decide +kernel
theorem dL_law_818 : decode cL_law 818 = .ok (.iload 4, 2) := by decide +kernel
theorem dL_law_820 : decode cL_law 820 = .ok (.iconst 1, 1) := by decide +kernel
theorem dL_law_821 : decode cL_law 821 = .ok (.iadd, 1) := by decide +kernel
theorem dL_law_822 : decode cL_law 822 = .ok (.iaload, 1) := by decide +kernel
theorem dL_law_823 : decode cL_law 823 = .ok (.aload_n 0, 1) := by decide +kernel
theorem dL_law_824 : decode cL_law 824 = .ok (.iload 4, 2) := by decide +kernel
theorem dL_law_826 : decode cL_law 826 = .ok (.iconst 2, 1) := by decide +kernel
theorem dL_law_827 : decode cL_law 827 = .ok (.iadd, 1) := by decide +kernel
theorem dL_law_828 : decode cL_law 828 = .ok (.iaload, 1) := by decide +kernel
theorem dL_law_829 : decode cL_law 829 = .ok (.aload_n 3, 1) := by decide +kernel
theorem dL_law_830 : decode cL_law 830 = .ok (.invokestatic 235, 3) := by decide +kernel
theorem dL_law_833 : decode cL_law 833 = .ok (.istore 5, 2) := by decide +kernel
theorem dL_law_835 : decode cL_law 835 = .ok (.aload_n 2, 1) := by decide +kernel
theorem dL_law_836 : decode cL_law 836 = .ok (.aload_n 0, 1) := by decide +kernel
theorem dL_law_837 : decode cL_law 837 = .ok (.iload 4, 2) := by decide +kernel
theorem dL_law_839 : decode cL_law 839 = .ok (.iconst 1, 1) := by decide +kernel
theorem dL_law_840 : decode cL_law 840 = .ok (.iadd, 1) := by decide +kernel
theorem dL_law_841 : decode cL_law 841 = .ok (.iaload, 1) := by decide +kernel
theorem dL_law_842 : decode cL_law 842 = .ok (.aload_n 0, 1) := by decide +kernel
theorem dL_law_843 : decode cL_law 843 = .ok (.iload 4, 2) := by decide +kernel
theorem dL_law_845 : decode cL_law 845 = .ok (.iconst 2, 1) := by decide +kernel
theorem dL_law_846 : decode cL_law 846 = .ok (.iadd, 1) := by decide +kernel
theorem dL_law_847 : decode cL_law 847 = .ok (.iaload, 1) := by decide +kernel
theorem dL_law_848 : decode cL_law 848 = .ok (.invokevirtual 237, 3) := by decide +kernel
theorem dL_law_851 : decode cL_law 851 = .ok (.istore 6, 2) := by decide +kernel
theorem dL_law_853 : decode cL_law 853 = .ok (.aload_n 2, 1) := by decide +kernel
theorem dL_law_854 : decode cL_law 854 = .ok (.invokevirtual 216, 3) := by decide +kernel
theorem dL_law_857 : decode cL_law 857 = .ok (.iload 5, 2) := by decide +kernel
theorem dL_law_859 : decode cL_law 859 = .ok (.if_icmp .eq 5, 3) := by decide +kernel
theorem dL_law_864 : decode cL_law 864 = .ok (.iload 5, 2) := by decide +kernel
theorem dL_law_866 : decode cL_law 866 = .ok (.ifCond .ne 15, 3) := by decide +kernel
theorem dL_law_869 : decode cL_law 869 = .ok (.aload_n 3, 1) := by decide +kernel
theorem dL_law_870 : decode cL_law 870 = .ok (.iconst 0, 1) := by decide +kernel
theorem dL_law_871 : decode cL_law 871 = .ok (.laload, 1) := by decide +kernel
theorem dL_law_872 : decode cL_law 872 = .ok (.iload 6, 2) := by decide +kernel
theorem dL_law_874 : decode cL_law 874 = .ok (.i2l, 1) := by decide +kernel
theorem dL_law_875 : decode cL_law 875 = .ok (.lcmp, 1) := by decide +kernel
theorem dL_law_876 : decode cL_law 876 = .ok (.ifCond .eq 5, 3) := by decide +kernel
theorem dL_law_881 : decode cL_law 881 = .ok (.goto 3580, 3) := by decide +kernel
theorem dL_law_884 : decode cL_law 884 = .ok (.aload_n 1, 1) := by decide +kernel
theorem dL_law_885 : decode cL_law 885 = .ok (.aload_n 0, 1) := by decide +kernel
theorem dL_law_886 : decode cL_law 886 = .ok (.iload 4, 2) := by decide +kernel
theorem dL_law_888 : decode cL_law 888 = .ok (.iconst 1, 1) := by decide +kernel
theorem dL_law_889 : decode cL_law 889 = .ok (.iadd, 1) := by decide +kernel
theorem dL_law_890 : decode cL_law 890 = .ok (.iaload, 1) := by decide +kernel
theorem dL_law_891 : decode cL_law 891 = .ok (.aload_n 0, 1) := by decide +kernel
theorem dL_law_892 : decode cL_law 892 = .ok (.iload 4, 2) := by decide +kernel
theorem dL_law_894 : decode cL_law 894 = .ok (.iconst 2, 1) := by decide +kernel
theorem dL_law_895 : decode cL_law 895 = .ok (.iadd, 1) := by decide +kernel
theorem dL_law_896 : decode cL_law 896 = .ok (.iaload, 1) := by decide +kernel
theorem dL_law_897 : decode cL_law 897 = .ok (.aload_n 3, 1) := by decide +kernel
theorem dL_law_898 : decode cL_law 898 = .ok (.invokestatic 238, 3) := by decide +kernel
theorem dL_law_901 : decode cL_law 901 = .ok (.istore 5, 2) := by decide +kernel
theorem dL_law_903 : decode cL_law 903 = .ok (.aload_n 2, 1) := by decide +kernel
theorem dL_law_904 : decode cL_law 904 = .ok (.aload_n 0, 1) := by decide +kernel
theorem dL_law_905 : decode cL_law 905 = .ok (.iload 4, 2) := by decide +kernel
theorem dL_law_907 : decode cL_law 907 = .ok (.iconst 1, 1) := by decide +kernel
theorem dL_law_908 : decode cL_law 908 = .ok (.iadd, 1) := by decide +kernel
theorem dL_law_909 : decode cL_law 909 = .ok (.iaload, 1) := by decide +kernel
theorem dL_law_910 : decode cL_law 910 = .ok (.aload_n 0, 1) := by decide +kernel
theorem dL_law_911 : decode cL_law 911 = .ok (.iload 4, 2) := by decide +kernel
theorem dL_law_913 : decode cL_law 913 = .ok (.iconst 2, 1) := by decide +kernel
theorem dL_law_914 : decode cL_law 914 = .ok (.iadd, 1) := by decide +kernel
theorem dL_law_915 : decode cL_law 915 = .ok (.iaload, 1) := by decide +kernel
theorem dL_law_916 : decode cL_law 916 = .ok (.invokevirtual 240, 3) := by decide +kernel
theorem dL_law_919 : decode cL_law 919 = .ok (.istore 6, 2) := by decide +kernel
theorem dL_law_921 : decode cL_law 921 = .ok (.aload_n 2, 1) := by decide +kernel
theorem dL_law_922 : decode cL_law 922 = .ok (.invokevirtual 216, 3) := by decide +kernel
theorem dL_law_925 : decode cL_law 925 = .ok (.iload 5, 2) := by decide +kernel
theorem dL_law_927 : decode cL_law 927 = .ok (.if_icmp .eq 5, 3) := by decide +kernel
theorem dL_law_932 : decode cL_law 932 = .ok (.iload 5, 2) := by decide +kernel
theorem dL_law_934 : decode cL_law 934 = .ok (.ifCond .ne 15, 3) := by decide +kernel
theorem dL_law_937 : decode cL_law 937 = .ok (.aload_n 3, 1) := by decide +kernel
theorem dL_law_938 : decode cL_law 938 = .ok (.iconst 0, 1) := by decide +kernel
theorem dL_law_939 : decode cL_law 939 = .ok (.laload, 1) := by decide +kernel
theorem dL_law_940 : decode cL_law 940 = .ok (.iload 6, 2) := by decide +kernel
theorem dL_law_942 : decode cL_law 942 = .ok (.i2l, 1) := by decide +kernel
theorem dL_law_943 : decode cL_law 943 = .ok (.lcmp, 1) := by decide +kernel
theorem dL_law_944 : decode cL_law 944 = .ok (.ifCond .eq 5, 3) := by decide +kernel
theorem dL_law_949 : decode cL_law 949 = .ok (.goto 3512, 3) := by decide +kernel
theorem dL_law_952 : decode cL_law 952 = .ok (.aload_n 1, 1) := by decide +kernel
theorem dL_law_953 : decode cL_law 953 = .ok (.aload_n 0, 1) := by decide +kernel
theorem dL_law_954 : decode cL_law 954 = .ok (.iload 4, 2) := by decide +kernel
theorem dL_law_956 : decode cL_law 956 = .ok (.iconst 1, 1) := by decide +kernel
theorem dL_law_957 : decode cL_law 957 = .ok (.iadd, 1) := by decide +kernel
theorem dL_law_958 : decode cL_law 958 = .ok (.iaload, 1) := by decide +kernel
theorem dL_law_959 : decode cL_law 959 = .ok (.aload_n 3, 1) := by decide +kernel
theorem dL_law_960 : decode cL_law 960 = .ok (.invokestatic 241, 3) := by decide +kernel
theorem dL_law_963 : decode cL_law 963 = .ok (.istore 5, 2) := by decide +kernel
theorem dL_law_965 : decode cL_law 965 = .ok (.aload_n 2, 1) := by decide +kernel
theorem dL_law_966 : decode cL_law 966 = .ok (.aload_n 0, 1) := by decide +kernel
theorem dL_law_967 : decode cL_law 967 = .ok (.iload 4, 2) := by decide +kernel
theorem dL_law_969 : decode cL_law 969 = .ok (.iconst 1, 1) := by decide +kernel
theorem dL_law_970 : decode cL_law 970 = .ok (.iadd, 1) := by decide +kernel
theorem dL_law_971 : decode cL_law 971 = .ok (.iaload, 1) := by decide +kernel
theorem dL_law_972 : decode cL_law 972 = .ok (.invokevirtual 244, 3) := by decide +kernel
theorem dL_law_975 : decode cL_law 975 = .ok (.istore 6, 2) := by decide +kernel
theorem dL_law_977 : decode cL_law 977 = .ok (.aload_n 2, 1) := by decide +kernel
theorem dL_law_978 : decode cL_law 978 = .ok (.invokevirtual 216, 3) := by decide +kernel
theorem dL_law_981 : decode cL_law 981 = .ok (.iload 5, 2) := by decide +kernel
theorem dL_law_983 : decode cL_law 983 = .ok (.if_icmp .eq 5, 3) := by decide +kernel
theorem dL_law_988 : decode cL_law 988 = .ok (.iload 5, 2) := by decide +kernel
theorem dL_law_990 : decode cL_law 990 = .ok (.ifCond .ne 15, 3) := by decide +kernel
theorem dL_law_993 : decode cL_law 993 = .ok (.aload_n 3, 1) := by decide +kernel
theorem dL_law_994 : decode cL_law 994 = .ok (.iconst 0, 1) := by decide +kernel
theorem dL_law_995 : decode cL_law 995 = .ok (.laload, 1) := by decide +kernel
theorem dL_law_996 : decode cL_law 996 = .ok (.iload 6, 2) := by decide +kernel
theorem dL_law_998 : decode cL_law 998 = .ok (.i2l, 1) := by decide +kernel
theorem dL_law_999 : decode cL_law 999 = .ok (.lcmp, 1) := by decide +kernel
theorem dL_law_1000 : decode cL_law 1000 = .ok (.ifCond .eq 5, 3) := by decide +kernel
theorem dL_law_1005 : decode cL_law 1005 = .ok (.goto 3456, 3) := by decide +kernel
theorem dL_law_1008 : decode cL_law 1008 = .ok (.aload_n 1, 1) := by decide +kernel
theorem dL_law_1009 : decode cL_law 1009 = .ok (.aload_n 0, 1) := by decide +kernel
theorem dL_law_1010 : decode cL_law 1010 = .ok (.iload 4, 2) := by decide +kernel
theorem dL_law_1012 : decode cL_law 1012 = .ok (.iconst 1, 1) := by decide +kernel
theorem dL_law_1013 : decode cL_law 1013 = .ok (.iadd, 1) := by decide +kernel
theorem dL_law_1014 : decode cL_law 1014 = .ok (.iaload, 1) := by decide +kernel
theorem dL_law_1015 : decode cL_law 1015 = .ok (.aload_n 3, 1) := by decide +kernel
theorem dL_law_1016 : decode cL_law 1016 = .ok (.invokestatic 245, 3) := by decide +kernel
theorem dL_law_1019 : decode cL_law 1019 = .ok (.istore 5, 2) := by decide +kernel
theorem dL_law_1021 : decode cL_law 1021 = .ok (.aload_n 2, 1) := by decide +kernel
theorem dL_law_1022 : decode cL_law 1022 = .ok (.aload_n 0, 1) := by decide +kernel
theorem dL_law_1023 : decode cL_law 1023 = .ok (.iload 4, 2) := by decide +kernel
theorem dL_law_1025 : decode cL_law 1025 = .ok (.iconst 1, 1) := by decide +kernel
theorem dL_law_1026 : decode cL_law 1026 = .ok (.iadd, 1) := by decide +kernel
theorem dL_law_1027 : decode cL_law 1027 = .ok (.iaload, 1) := by decide +kernel
theorem dL_law_1028 : decode cL_law 1028 = .ok (.invokevirtual 247, 3) := by decide +kernel
theorem dL_law_1031 : decode cL_law 1031 = .ok (.istore 6, 2) := by decide +kernel
theorem dL_law_1033 : decode cL_law 1033 = .ok (.aload_n 2, 1) := by decide +kernel
theorem dL_law_1034 : decode cL_law 1034 = .ok (.invokevirtual 216, 3) := by decide +kernel
theorem dL_law_1037 : decode cL_law 1037 = .ok (.iload 5, 2) := by decide +kernel
theorem dL_law_1039 : decode cL_law 1039 = .ok (.if_icmp .eq 5, 3) := by decide +kernel
theorem dL_law_1044 : decode cL_law 1044 = .ok (.iload 5, 2) := by decide +kernel
theorem dL_law_1046 : decode cL_law 1046 = .ok (.ifCond .ne 15, 3) := by decide +kernel
theorem dL_law_1049 : decode cL_law 1049 = .ok (.aload_n 3, 1) := by decide +kernel
theorem dL_law_1050 : decode cL_law 1050 = .ok (.iconst 0, 1) := by decide +kernel
theorem dL_law_1051 : decode cL_law 1051 = .ok (.laload, 1) := by decide +kernel
theorem dL_law_1052 : decode cL_law 1052 = .ok (.iload 6, 2) := by decide +kernel
theorem dL_law_1054 : decode cL_law 1054 = .ok (.i2l, 1) := by decide +kernel
theorem dL_law_1055 : decode cL_law 1055 = .ok (.lcmp, 1) := by decide +kernel
theorem dL_law_1056 : decode cL_law 1056 = .ok (.ifCond .eq 5, 3) := by decide +kernel
theorem dL_law_1061 : decode cL_law 1061 = .ok (.goto 3400, 3) := by decide +kernel
theorem dL_law_1064 : decode cL_law 1064 = .ok (.aload_n 1, 1) := by decide +kernel
theorem dL_law_1065 : decode cL_law 1065 = .ok (.aload_n 0, 1) := by decide +kernel
theorem dL_law_1066 : decode cL_law 1066 = .ok (.iload 4, 2) := by decide +kernel
theorem dL_law_1068 : decode cL_law 1068 = .ok (.iconst 1, 1) := by decide +kernel
theorem dL_law_1069 : decode cL_law 1069 = .ok (.iadd, 1) := by decide +kernel
theorem dL_law_1070 : decode cL_law 1070 = .ok (.iaload, 1) := by decide +kernel
theorem dL_law_1071 : decode cL_law 1071 = .ok (.aload_n 3, 1) := by decide +kernel
theorem dL_law_1072 : decode cL_law 1072 = .ok (.invokestatic 248, 3) := by decide +kernel
theorem dL_law_1075 : decode cL_law 1075 = .ok (.istore 5, 2) := by decide +kernel
theorem dL_law_1077 : decode cL_law 1077 = .ok (.aload_n 2, 1) := by decide +kernel
theorem dL_law_1078 : decode cL_law 1078 = .ok (.aload_n 0, 1) := by decide +kernel
theorem dL_law_1079 : decode cL_law 1079 = .ok (.iload 4, 2) := by decide +kernel
theorem dL_law_1081 : decode cL_law 1081 = .ok (.iconst 1, 1) := by decide +kernel
theorem dL_law_1082 : decode cL_law 1082 = .ok (.iadd, 1) := by decide +kernel
theorem dL_law_1083 : decode cL_law 1083 = .ok (.iaload, 1) := by decide +kernel
theorem dL_law_1084 : decode cL_law 1084 = .ok (.invokevirtual 250, 3) := by decide +kernel
theorem dL_law_1087 : decode cL_law 1087 = .ok (.istore 6, 2) := by decide +kernel
theorem dL_law_1089 : decode cL_law 1089 = .ok (.aload_n 2, 1) := by decide +kernel
theorem dL_law_1090 : decode cL_law 1090 = .ok (.invokevirtual 216, 3) := by decide +kernel
theorem dL_law_1093 : decode cL_law 1093 = .ok (.iload 5, 2) := by decide +kernel
theorem dL_law_1095 : decode cL_law 1095 = .ok (.if_icmp .eq 5, 3) := by decide +kernel
theorem dL_law_1100 : decode cL_law 1100 = .ok (.iload 5, 2) := by decide +kernel
theorem dL_law_1102 : decode cL_law 1102 = .ok (.ifCond .ne 15, 3) := by decide +kernel
theorem dL_law_1105 : decode cL_law 1105 = .ok (.aload_n 3, 1) := by decide +kernel
theorem dL_law_1106 : decode cL_law 1106 = .ok (.iconst 0, 1) := by decide +kernel
theorem dL_law_1107 : decode cL_law 1107 = .ok (.laload, 1) := by decide +kernel
theorem dL_law_1108 : decode cL_law 1108 = .ok (.iload 6, 2) := by decide +kernel
theorem dL_law_1110 : decode cL_law 1110 = .ok (.i2l, 1) := by decide +kernel
theorem dL_law_1111 : decode cL_law 1111 = .ok (.lcmp, 1) := by decide +kernel
theorem dL_law_1112 : decode cL_law 1112 = .ok (.ifCond .eq 5, 3) := by decide +kernel
theorem dL_law_1117 : decode cL_law 1117 = .ok (.goto 3344, 3) := by decide +kernel
theorem dL_law_1120 : decode cL_law 1120 = .ok (.aload_n 1, 1) := by decide +kernel
theorem dL_law_1121 : decode cL_law 1121 = .ok (.aload_n 0, 1) := by decide +kernel
theorem dL_law_1122 : decode cL_law 1122 = .ok (.iload 4, 2) := by decide +kernel
theorem dL_law_1124 : decode cL_law 1124 = .ok (.iconst 1, 1) := by decide +kernel
theorem dL_law_1125 : decode cL_law 1125 = .ok (.iadd, 1) := by decide +kernel
theorem dL_law_1126 : decode cL_law 1126 = .ok (.iaload, 1) := by decide +kernel
theorem dL_law_1127 : decode cL_law 1127 = .ok (.aload_n 3, 1) := by decide +kernel
theorem dL_law_1128 : decode cL_law 1128 = .ok (.invokestatic 251, 3) := by decide +kernel
theorem dL_law_1131 : decode cL_law 1131 = .ok (.istore 5, 2) := by decide +kernel
theorem dL_law_1133 : decode cL_law 1133 = .ok (.aload_n 2, 1) := by decide +kernel
theorem dL_law_1134 : decode cL_law 1134 = .ok (.aload_n 0, 1) := by decide +kernel
theorem dL_law_1135 : decode cL_law 1135 = .ok (.iload 4, 2) := by decide +kernel
theorem dL_law_1137 : decode cL_law 1137 = .ok (.iconst 1, 1) := by decide +kernel
theorem dL_law_1138 : decode cL_law 1138 = .ok (.iadd, 1) := by decide +kernel
theorem dL_law_1139 : decode cL_law 1139 = .ok (.iaload, 1) := by decide +kernel
theorem dL_law_1140 : decode cL_law 1140 = .ok (.invokevirtual 253, 3) := by decide +kernel
theorem dL_law_1143 : decode cL_law 1143 = .ok (.istore 6, 2) := by decide +kernel
theorem dL_law_1145 : decode cL_law 1145 = .ok (.aload_n 2, 1) := by decide +kernel
theorem dL_law_1146 : decode cL_law 1146 = .ok (.invokevirtual 216, 3) := by decide +kernel
theorem dL_law_1149 : decode cL_law 1149 = .ok (.iload 5, 2) := by decide +kernel
theorem dL_law_1151 : decode cL_law 1151 = .ok (.if_icmp .eq 5, 3) := by decide +kernel
theorem dL_law_1156 : decode cL_law 1156 = .ok (.iload 5, 2) := by decide +kernel
theorem dL_law_1158 : decode cL_law 1158 = .ok (.ifCond .ne 15, 3) := by decide +kernel
theorem dL_law_1161 : decode cL_law 1161 = .ok (.aload_n 3, 1) := by decide +kernel
theorem dL_law_1162 : decode cL_law 1162 = .ok (.iconst 0, 1) := by decide +kernel
theorem dL_law_1163 : decode cL_law 1163 = .ok (.laload, 1) := by decide +kernel
theorem dL_law_1164 : decode cL_law 1164 = .ok (.iload 6, 2) := by decide +kernel
theorem dL_law_1166 : decode cL_law 1166 = .ok (.i2l, 1) := by decide +kernel
theorem dL_law_1167 : decode cL_law 1167 = .ok (.lcmp, 1) := by decide +kernel
theorem dL_law_1168 : decode cL_law 1168 = .ok (.ifCond .eq 5, 3) := by decide +kernel
theorem dL_law_1173 : decode cL_law 1173 = .ok (.goto 3288, 3) := by decide +kernel
section CASE0
variable {p : Program} {l : Launch} {e : Env} {s : State} {m : MethodId} {args : Array Value} {below : List Frame} {meth : Method} {c : Code} {cells slots : Nat} {Q : State → Prop}
variable {D : va_G} {cA : Nat → ClassId} {ad : Nat → Nat → Nat} {A AC AM : Nat → Prop} {ob : Nat} {cO : ClassId}
variable {mc mm : Mm} {v : Int64} {b L i a s0 : Nat} {xs : Nat → Int32}
set_option maxRecDepth 100000 in
set_option maxHeartbeats 4000000 in
theorem case_0 (C : LC p l s m args c D cA ad A AC AM ob cO b L xs) (h : Hy a s0 mc mm (Rel (a + 400000) (s0 + 64))) (hi : i + 4 < L) (hroom : cells + 2 ≤ room_1.cells ∧ slots + 12 ≤ room_1.slots) (kk : ∀ (mc' mm' : Mm) (v' : Int64), Rel (a + 400000) (s0 + 64) mc' mm' → V p l e room_1 s m args below meth c Q 9 A (cells + 2) (slots + 12) (PL D cA ad ob cO mc' mm' v') 4461 (lvL ad ob b i) []) : V p l e room_1 s m args below meth c Q 9 A cells slots (PL D cA ad ob cO mc mm v) 384 (lvL ad ob b i) [] := by
  have C0 := C
  obtain ⟨X, hA, hW, hZ, hX, hb1, hst, hL⟩ := C
  have hroom0 : cells ≤ room_1.cells ∧ slots ≤ room_1.slots := ⟨by omega, by omega⟩
  refine q_aload_n (j := 3) X dL_law_384 rfl rfl ?_
  refine qL_arg C0 1 (j0 := 4) (j4 := 0) rfl (by decide) dL_law_385 dL_law_386 dL_law_388 dL_law_389 dL_law_390 rfl rfl hi ?_
  refine qL_arg C0 2 (j0 := 4) (j4 := 0) rfl (by decide) dL_law_391 dL_law_392 dL_law_394 dL_law_395 dL_law_396 rfl rfl hi ?_
  refine qL_arg C0 3 (j0 := 4) (j4 := 0) rfl (by decide) dL_law_397 dL_law_398 dL_law_400 dL_law_401 dL_law_402 rfl rfl hi ?_
  refine qL_arg C0 4 (j0 := 4) (j4 := 0) rfl (by decide) dL_law_403 dL_law_404 dL_law_406 dL_law_407 dL_law_408 rfl rfl hi ?_
  refine q_aload_n (j := 1) X dL_law_409 rfl rfl ?_
  refine qL_w X hA hW hZ [.ref (ad 0 1), .int (xs (i + 1)), .int (xs (i + 2)), .int (xs (i + 3)), .int (xs (i + 4)), .ref ob] rfl rfl dL_law_410 hroom (k_L_enter hA.1 hA.2.2.1.1 hst (xs (i + 1)) (xs (i + 2)) (xs (i + 3)) (xs (i + 4)) mc v _ _ (J_enter h (xs (i + 1)) (xs (i + 2)) (xs (i + 3)) (xs (i + 4))) (fun _ _ hx => hx.1)) rfl rfl (gSW kw_3_65 kw_3_66 kw_1_0 kw_3_67) hy_L_enter ⟨(Nat.le_of_ble_eq_true rfl), (Nat.le_of_ble_eq_true rfl)⟩ (fun k mc' v' hq => ?_)
  refine q_istore X dL_law_413 (Nat.le_of_ble_eq_true rfl) rfl ?_
  refine q_aload_n (j := 3) X dL_law_415 rfl rfl ?_
  refine qL_arg C0 1 (j0 := 5) (j4 := 1) rfl (by decide) dL_law_416 dL_law_417 dL_law_419 dL_law_420 dL_law_421 rfl rfl hi ?_
  refine qL_arg C0 2 (j0 := 5) (j4 := 1) rfl (by decide) dL_law_422 dL_law_423 dL_law_425 dL_law_426 dL_law_427 rfl rfl hi ?_
  refine qL_arg C0 3 (j0 := 5) (j4 := 1) rfl (by decide) dL_law_428 dL_law_429 dL_law_431 dL_law_432 dL_law_433 rfl rfl hi ?_
  refine qL_arg C0 4 (j0 := 5) (j4 := 1) rfl (by decide) dL_law_434 dL_law_435 dL_law_437 dL_law_438 dL_law_439 rfl rfl hi ?_
  have hroom1 : cells + 2 ≤ room_1.cells ∧ slots + 12 ≤ room_1.slots := hroom
  rcases hq with ⟨rfl, r, rfl, hj⟩ | ⟨hk0, k0, hk, hj⟩
  · skip
    unfold jq at hj
    refine qL_m X hA hW [.int (xs (i + 1)), .int (xs (i + 2)), .int (xs (i + 3)), .int (xs (i + 4))] [] rfl rfl (Nat.le_of_ble_eq_true rfl) dL_law_440 hroom1 (c_X10_enter hA.2.1 (xs (i + 1)) (xs (i + 2)) (xs (i + 3)) (xs (i + 4)) mm _ hj) rfl rfl (gV kw_7_60 kw_7_61 kw_7_62 kw_1_11 kw_7_63) hy_X10_enter ⟨(Nat.le_of_ble_eq_true rfl), (Nat.le_of_ble_eq_true rfl)⟩ (fun b9 mm9 hb => ?_)
    obtain ⟨h1, rfl, hK⟩ := hb
    refine q_istore X dL_law_443 (Nat.le_of_ble_eq_true rfl) rfl ?_
    exact tailI C0 hroom1 ⟨(Nat.le_of_ble_eq_true rfl), (Nat.le_of_ble_eq_true rfl)⟩ h1 (fun _ => rfl) dL_law_445 dL_law_446 dL_law_449 dL_law_451 dL_law_456 dL_law_458 dL_law_461 dL_law_462 dL_law_463 dL_law_464 dL_law_466 dL_law_467 dL_law_468 dL_law_473 (by decide) (kk _ _ _ hK)
  · obtain ⟨_, hj⟩ := hj
    unfold jx at hj
    refine qL_m X hA hW [.int (xs (i + 1)), .int (xs (i + 2)), .int (xs (i + 3)), .int (xs (i + 4))] [] rfl rfl (Nat.le_of_ble_eq_true rfl) dL_law_440 hroom1 (c_X10_enter hA.2.1 (xs (i + 1)) (xs (i + 2)) (xs (i + 3)) (xs (i + 4)) mm _ hj) rfl rfl (gV kw_7_60 kw_7_61 kw_7_62 kw_1_11 kw_7_63) hy_X10_enter ⟨(Nat.le_of_ble_eq_true rfl), (Nat.le_of_ble_eq_true rfl)⟩ (fun b9 mm9 hb => ?_)
    obtain ⟨h1, hK⟩ := hb
    refine q_istore X dL_law_443 (Nat.le_of_ble_eq_true rfl) rfl ?_
    exact tailI C0 hroom1 ⟨(Nat.le_of_ble_eq_true rfl), (Nat.le_of_ble_eq_true rfl)⟩ (h1.trans hk.symm) (fun h0 => absurd h0 hk0) dL_law_445 dL_law_446 dL_law_449 dL_law_451 dL_law_456 dL_law_458 dL_law_461 dL_law_462 dL_law_463 dL_law_464 dL_law_466 dL_law_467 dL_law_468 dL_law_473 (by decide) (kk _ _ _ hK)
set_option maxRecDepth 100000 in
set_option maxHeartbeats 4000000 in
theorem case_1 (C : LC p l s m args c D cA ad A AC AM ob cO b L xs) (h : Hy a s0 mc mm (Rel (a + 400000) (s0 + 64))) (hi : i + 4 < L) (hroom : cells + 2 ≤ room_1.cells ∧ slots + 12 ≤ room_1.slots) (kk : ∀ (mc' mm' : Mm) (v' : Int64), Rel (a + 400000) (s0 + 64) mc' mm' → V p l e room_1 s m args below meth c Q 9 A (cells + 2) (slots + 12) (PL D cA ad ob cO mc' mm' v') 4461 (lvL ad ob b i) []) : V p l e room_1 s m args below meth c Q 9 A cells slots (PL D cA ad ob cO mc mm v) 476 (lvL ad ob b i) [] := by
  have C0 := C
  obtain ⟨X, hA, hW, hZ, hX, hb1, hst, hL⟩ := C
  have hroom0 : cells ≤ room_1.cells ∧ slots ≤ room_1.slots := ⟨by omega, by omega⟩
  refine q_aload_n (j := 3) X dL_law_476 rfl rfl ?_
  refine qL_arg C0 1 (j0 := 4) (j4 := 0) rfl (by decide) dL_law_477 dL_law_478 dL_law_480 dL_law_481 dL_law_482 rfl rfl hi ?_
  refine qL_arg C0 2 (j0 := 4) (j4 := 0) rfl (by decide) dL_law_483 dL_law_484 dL_law_486 dL_law_487 dL_law_488 rfl rfl hi ?_
  refine q_aload_n (j := 1) X dL_law_489 rfl rfl ?_
  refine qL_w X hA hW hZ [.ref (ad 0 1), .int (xs (i + 1)), .int (xs (i + 2)), .ref ob] rfl rfl dL_law_490 hroom (k_L_withdraw hA.1 hA.2.2.1.1 hst (xs (i + 1)) (xs (i + 2)) mc v _ _ (J_withdraw h (xs (i + 1)) (xs (i + 2))) (fun _ _ hx => hx.1)) rfl rfl (gSW kw_3_234 kw_3_235 kw_1_0 kw_3_236) hy_L_withdraw ⟨(Nat.le_of_ble_eq_true rfl), (Nat.le_of_ble_eq_true rfl)⟩ (fun k mc' v' hq => ?_)
  refine q_istore X dL_law_493 (Nat.le_of_ble_eq_true rfl) rfl ?_
  refine q_aload_n (j := 3) X dL_law_495 rfl rfl ?_
  refine qL_arg C0 1 (j0 := 5) (j4 := 1) rfl (by decide) dL_law_496 dL_law_497 dL_law_499 dL_law_500 dL_law_501 rfl rfl hi ?_
  refine qL_arg C0 2 (j0 := 5) (j4 := 1) rfl (by decide) dL_law_502 dL_law_503 dL_law_505 dL_law_506 dL_law_507 rfl rfl hi ?_
  have hroom1 : cells + 2 ≤ room_1.cells ∧ slots + 12 ≤ room_1.slots := hroom
  rcases hq with ⟨rfl, r, rfl, hj⟩ | ⟨hk0, k0, hk, hj⟩
  · skip
    unfold jq at hj
    refine qL_m X hA hW [.int (xs (i + 1)), .int (xs (i + 2))] [] rfl rfl (Nat.le_of_ble_eq_true rfl) dL_law_508 hroom1 (c_X10_withdraw hA.2.1 (xs (i + 1)) (xs (i + 2)) mm _ hj) rfl rfl (gV kw_7_153 kw_7_154 kw_7_155 kw_1_11 kw_7_156) hy_X10_withdraw ⟨(Nat.le_of_ble_eq_true rfl), (Nat.le_of_ble_eq_true rfl)⟩ (fun b9 mm9 hb => ?_)
    obtain ⟨h1, rfl, hK⟩ := hb
    refine q_istore X dL_law_511 (Nat.le_of_ble_eq_true rfl) rfl ?_
    exact tailI C0 hroom1 ⟨(Nat.le_of_ble_eq_true rfl), (Nat.le_of_ble_eq_true rfl)⟩ h1 (fun _ => rfl) dL_law_513 dL_law_514 dL_law_517 dL_law_519 dL_law_524 dL_law_526 dL_law_529 dL_law_530 dL_law_531 dL_law_532 dL_law_534 dL_law_535 dL_law_536 dL_law_541 (by decide) (kk _ _ _ hK)
  · obtain ⟨_, hj⟩ := hj
    unfold jx at hj
    refine qL_m X hA hW [.int (xs (i + 1)), .int (xs (i + 2))] [] rfl rfl (Nat.le_of_ble_eq_true rfl) dL_law_508 hroom1 (c_X10_withdraw hA.2.1 (xs (i + 1)) (xs (i + 2)) mm _ hj) rfl rfl (gV kw_7_153 kw_7_154 kw_7_155 kw_1_11 kw_7_156) hy_X10_withdraw ⟨(Nat.le_of_ble_eq_true rfl), (Nat.le_of_ble_eq_true rfl)⟩ (fun b9 mm9 hb => ?_)
    obtain ⟨h1, hK⟩ := hb
    refine q_istore X dL_law_511 (Nat.le_of_ble_eq_true rfl) rfl ?_
    exact tailI C0 hroom1 ⟨(Nat.le_of_ble_eq_true rfl), (Nat.le_of_ble_eq_true rfl)⟩ (h1.trans hk.symm) (fun h0 => absurd h0 hk0) dL_law_513 dL_law_514 dL_law_517 dL_law_519 dL_law_524 dL_law_526 dL_law_529 dL_law_530 dL_law_531 dL_law_532 dL_law_534 dL_law_535 dL_law_536 dL_law_541 (by decide) (kk _ _ _ hK)
set_option maxRecDepth 100000 in
set_option maxHeartbeats 4000000 in
theorem case_2 (C : LC p l s m args c D cA ad A AC AM ob cO b L xs) (h : Hy a s0 mc mm (Rel (a + 400000) (s0 + 64))) (hi : i + 4 < L) (hroom : cells + 2 ≤ room_1.cells ∧ slots + 12 ≤ room_1.slots) (kk : ∀ (mc' mm' : Mm) (v' : Int64), Rel (a + 400000) (s0 + 64) mc' mm' → V p l e room_1 s m args below meth c Q 9 A (cells + 2) (slots + 12) (PL D cA ad ob cO mc' mm' v') 4461 (lvL ad ob b i) []) : V p l e room_1 s m args below meth c Q 9 A cells slots (PL D cA ad ob cO mc mm v) 544 (lvL ad ob b i) [] := by
  have C0 := C
  obtain ⟨X, hA, hW, hZ, hX, hb1, hst, hL⟩ := C
  have hroom0 : cells ≤ room_1.cells ∧ slots ≤ room_1.slots := ⟨by omega, by omega⟩
  refine q_aload_n (j := 3) X dL_law_544 rfl rfl ?_
  refine qL_arg C0 1 (j0 := 4) (j4 := 0) rfl (by decide) dL_law_545 dL_law_546 dL_law_548 dL_law_549 dL_law_550 rfl rfl hi ?_
  refine qL_arg C0 2 (j0 := 4) (j4 := 0) rfl (by decide) dL_law_551 dL_law_552 dL_law_554 dL_law_555 dL_law_556 rfl rfl hi ?_
  refine q_aload_n (j := 1) X dL_law_557 rfl rfl ?_
  refine qL_w X hA hW hZ [.ref (ad 0 1), .int (xs (i + 1)), .int (xs (i + 2)), .ref ob] rfl rfl dL_law_558 hroom (k_L_sendAbroad hA.1 hA.2.2.1.1 hst (xs (i + 1)) (xs (i + 2)) mc v _ _ (J_sendAbroad h (xs (i + 1)) (xs (i + 2))) (fun _ _ hx => hx.1)) rfl rfl (gSW kw_4_45 kw_4_46 kw_1_0 kw_4_47) hy_L_sendAbroad ⟨(Nat.le_of_ble_eq_true rfl), (Nat.le_of_ble_eq_true rfl)⟩ (fun k mc' v' hq => ?_)
  refine q_istore X dL_law_561 (Nat.le_of_ble_eq_true rfl) rfl ?_
  refine q_aload_n (j := 3) X dL_law_563 rfl rfl ?_
  refine qL_arg C0 1 (j0 := 5) (j4 := 1) rfl (by decide) dL_law_564 dL_law_565 dL_law_567 dL_law_568 dL_law_569 rfl rfl hi ?_
  refine qL_arg C0 2 (j0 := 5) (j4 := 1) rfl (by decide) dL_law_570 dL_law_571 dL_law_573 dL_law_574 dL_law_575 rfl rfl hi ?_
  have hroom1 : cells + 2 ≤ room_1.cells ∧ slots + 12 ≤ room_1.slots := hroom
  rcases hq with ⟨rfl, r, rfl, hj⟩ | ⟨hk0, k0, hk, hj⟩
  · skip
    unfold jq at hj
    refine qL_m X hA hW [.int (xs (i + 1)), .int (xs (i + 2))] [] rfl rfl (Nat.le_of_ble_eq_true rfl) dL_law_576 hroom1 (c_X10_sendAbroad hA.2.1 (xs (i + 1)) (xs (i + 2)) mm _ hj) rfl rfl (gV kw_7_185 kw_7_186 kw_7_187 kw_1_11 kw_7_188) hy_X10_sendAbroad ⟨(Nat.le_of_ble_eq_true rfl), (Nat.le_of_ble_eq_true rfl)⟩ (fun b9 mm9 hb => ?_)
    obtain ⟨h1, rfl, hK⟩ := hb
    refine q_istore X dL_law_579 (Nat.le_of_ble_eq_true rfl) rfl ?_
    exact tailI C0 hroom1 ⟨(Nat.le_of_ble_eq_true rfl), (Nat.le_of_ble_eq_true rfl)⟩ h1 (fun _ => rfl) dL_law_581 dL_law_582 dL_law_585 dL_law_587 dL_law_592 dL_law_594 dL_law_597 dL_law_598 dL_law_599 dL_law_600 dL_law_602 dL_law_603 dL_law_604 dL_law_609 (by decide) (kk _ _ _ hK)
  · obtain ⟨_, hj⟩ := hj
    unfold jx at hj
    refine qL_m X hA hW [.int (xs (i + 1)), .int (xs (i + 2))] [] rfl rfl (Nat.le_of_ble_eq_true rfl) dL_law_576 hroom1 (c_X10_sendAbroad hA.2.1 (xs (i + 1)) (xs (i + 2)) mm _ hj) rfl rfl (gV kw_7_185 kw_7_186 kw_7_187 kw_1_11 kw_7_188) hy_X10_sendAbroad ⟨(Nat.le_of_ble_eq_true rfl), (Nat.le_of_ble_eq_true rfl)⟩ (fun b9 mm9 hb => ?_)
    obtain ⟨h1, hK⟩ := hb
    refine q_istore X dL_law_579 (Nat.le_of_ble_eq_true rfl) rfl ?_
    exact tailI C0 hroom1 ⟨(Nat.le_of_ble_eq_true rfl), (Nat.le_of_ble_eq_true rfl)⟩ (h1.trans hk.symm) (fun h0 => absurd h0 hk0) dL_law_581 dL_law_582 dL_law_585 dL_law_587 dL_law_592 dL_law_594 dL_law_597 dL_law_598 dL_law_599 dL_law_600 dL_law_602 dL_law_603 dL_law_604 dL_law_609 (by decide) (kk _ _ _ hK)
set_option maxRecDepth 100000 in
set_option maxHeartbeats 4000000 in
theorem case_3 (C : LC p l s m args c D cA ad A AC AM ob cO b L xs) (h : Hy a s0 mc mm (Rel (a + 400000) (s0 + 64))) (hi : i + 4 < L) (hroom : cells + 2 ≤ room_1.cells ∧ slots + 12 ≤ room_1.slots) (kk : ∀ (mc' mm' : Mm) (v' : Int64), Rel (a + 400000) (s0 + 64) mc' mm' → V p l e room_1 s m args below meth c Q 9 A (cells + 2) (slots + 12) (PL D cA ad ob cO mc' mm' v') 4461 (lvL ad ob b i) []) : V p l e room_1 s m args below meth c Q 9 A cells slots (PL D cA ad ob cO mc mm v) 612 (lvL ad ob b i) [] := by
  have C0 := C
  obtain ⟨X, hA, hW, hZ, hX, hb1, hst, hL⟩ := C
  have hroom0 : cells ≤ room_1.cells ∧ slots ≤ room_1.slots := ⟨by omega, by omega⟩
  refine q_aload_n (j := 3) X dL_law_612 rfl rfl ?_
  refine qL_arg C0 1 (j0 := 4) (j4 := 0) rfl (by decide) dL_law_613 dL_law_614 dL_law_616 dL_law_617 dL_law_618 rfl rfl hi ?_
  refine qL_arg C0 2 (j0 := 4) (j4 := 0) rfl (by decide) dL_law_619 dL_law_620 dL_law_622 dL_law_623 dL_law_624 rfl rfl hi ?_
  refine q_aload_n (j := 1) X dL_law_625 rfl rfl ?_
  refine qL_w X hA hW hZ [.ref (ad 0 1), .int (xs (i + 1)), .int (xs (i + 2)), .ref ob] rfl rfl dL_law_626 hroom (k_L_drawBack hA.1 hA.2.2.1.1 hst (xs (i + 1)) (xs (i + 2)) mc v _ _ (J_drawBack h (xs (i + 1)) (xs (i + 2))) (fun _ _ hx => hx.1)) rfl rfl (gSW kw_4_60 kw_4_61 kw_1_0 kw_4_62) hy_L_drawBack ⟨(Nat.le_of_ble_eq_true rfl), (Nat.le_of_ble_eq_true rfl)⟩ (fun k mc' v' hq => ?_)
  refine q_istore X dL_law_629 (Nat.le_of_ble_eq_true rfl) rfl ?_
  refine q_aload_n (j := 3) X dL_law_631 rfl rfl ?_
  refine qL_arg C0 1 (j0 := 5) (j4 := 1) rfl (by decide) dL_law_632 dL_law_633 dL_law_635 dL_law_636 dL_law_637 rfl rfl hi ?_
  refine qL_arg C0 2 (j0 := 5) (j4 := 1) rfl (by decide) dL_law_638 dL_law_639 dL_law_641 dL_law_642 dL_law_643 rfl rfl hi ?_
  have hroom1 : cells + 2 ≤ room_1.cells ∧ slots + 12 ≤ room_1.slots := hroom
  rcases hq with ⟨rfl, r, rfl, hj⟩ | ⟨hk0, k0, hk, hj⟩
  · skip
    unfold jq at hj
    refine qL_m X hA hW [.int (xs (i + 1)), .int (xs (i + 2))] [] rfl rfl (Nat.le_of_ble_eq_true rfl) dL_law_644 hroom1 (c_X10_drawBack hA.2.1 (xs (i + 1)) (xs (i + 2)) mm _ hj) rfl rfl (gV kw_7_197 kw_7_198 kw_7_199 kw_1_11 kw_7_200) hy_X10_drawBack ⟨(Nat.le_of_ble_eq_true rfl), (Nat.le_of_ble_eq_true rfl)⟩ (fun b9 mm9 hb => ?_)
    obtain ⟨h1, rfl, hK⟩ := hb
    refine q_istore X dL_law_647 (Nat.le_of_ble_eq_true rfl) rfl ?_
    exact tailI C0 hroom1 ⟨(Nat.le_of_ble_eq_true rfl), (Nat.le_of_ble_eq_true rfl)⟩ h1 (fun _ => rfl) dL_law_649 dL_law_650 dL_law_653 dL_law_655 dL_law_660 dL_law_662 dL_law_665 dL_law_666 dL_law_667 dL_law_668 dL_law_670 dL_law_671 dL_law_672 dL_law_677 (by decide) (kk _ _ _ hK)
  · obtain ⟨_, hj⟩ := hj
    unfold jx at hj
    refine qL_m X hA hW [.int (xs (i + 1)), .int (xs (i + 2))] [] rfl rfl (Nat.le_of_ble_eq_true rfl) dL_law_644 hroom1 (c_X10_drawBack hA.2.1 (xs (i + 1)) (xs (i + 2)) mm _ hj) rfl rfl (gV kw_7_197 kw_7_198 kw_7_199 kw_1_11 kw_7_200) hy_X10_drawBack ⟨(Nat.le_of_ble_eq_true rfl), (Nat.le_of_ble_eq_true rfl)⟩ (fun b9 mm9 hb => ?_)
    obtain ⟨h1, hK⟩ := hb
    refine q_istore X dL_law_647 (Nat.le_of_ble_eq_true rfl) rfl ?_
    exact tailI C0 hroom1 ⟨(Nat.le_of_ble_eq_true rfl), (Nat.le_of_ble_eq_true rfl)⟩ (h1.trans hk.symm) (fun h0 => absurd h0 hk0) dL_law_649 dL_law_650 dL_law_653 dL_law_655 dL_law_660 dL_law_662 dL_law_665 dL_law_666 dL_law_667 dL_law_668 dL_law_670 dL_law_671 dL_law_672 dL_law_677 (by decide) (kk _ _ _ hK)
set_option maxRecDepth 100000 in
set_option maxHeartbeats 4000000 in
theorem case_4 (C : LC p l s m args c D cA ad A AC AM ob cO b L xs) (h : Hy a s0 mc mm (Rel (a + 400000) (s0 + 64))) (hi : i + 4 < L) (hroom : cells + 2 ≤ room_1.cells ∧ slots + 12 ≤ room_1.slots) (kk : ∀ (mc' mm' : Mm) (v' : Int64), Rel (a + 400000) (s0 + 64) mc' mm' → V p l e room_1 s m args below meth c Q 9 A (cells + 2) (slots + 12) (PL D cA ad ob cO mc' mm' v') 4461 (lvL ad ob b i) []) : V p l e room_1 s m args below meth c Q 9 A cells slots (PL D cA ad ob cO mc mm v) 680 (lvL ad ob b i) [] := by
  have C0 := C
  obtain ⟨X, hA, hW, hZ, hX, hb1, hst, hL⟩ := C
  have hroom0 : cells ≤ room_1.cells ∧ slots ≤ room_1.slots := ⟨by omega, by omega⟩
  refine q_aload_n (j := 3) X dL_law_680 rfl rfl ?_
  refine qL_arg C0 1 (j0 := 4) (j4 := 0) rfl (by decide) dL_law_681 dL_law_682 dL_law_684 dL_law_685 dL_law_686 rfl rfl hi ?_
  refine qL_arg C0 2 (j0 := 4) (j4 := 0) rfl (by decide) dL_law_687 dL_law_688 dL_law_690 dL_law_691 dL_law_692 rfl rfl hi ?_
  refine q_aload_n (j := 1) X dL_law_693 rfl rfl ?_
  refine qL_w X hA hW hZ [.ref (ad 0 1), .int (xs (i + 1)), .int (xs (i + 2)), .ref ob] rfl rfl dL_law_694 hroom (k_L_move hA.1 hA.2.2.1.1 hst (xs (i + 1)) (xs (i + 2)) mc v _ _ (J_move h (xs (i + 1)) (xs (i + 2))) (fun _ _ hx => hx.1)) rfl rfl (gSW kw_4_90 kw_4_91 kw_1_0 kw_4_92) hy_L_move ⟨(Nat.le_of_ble_eq_true rfl), (Nat.le_of_ble_eq_true rfl)⟩ (fun k mc' v' hq => ?_)
  refine q_istore X dL_law_697 (Nat.le_of_ble_eq_true rfl) rfl ?_
  refine q_aload_n (j := 3) X dL_law_699 rfl rfl ?_
  refine qL_arg C0 1 (j0 := 5) (j4 := 1) rfl (by decide) dL_law_700 dL_law_701 dL_law_703 dL_law_704 dL_law_705 rfl rfl hi ?_
  refine qL_arg C0 2 (j0 := 5) (j4 := 1) rfl (by decide) dL_law_706 dL_law_707 dL_law_709 dL_law_710 dL_law_711 rfl rfl hi ?_
  have hroom1 : cells + 2 ≤ room_1.cells ∧ slots + 12 ≤ room_1.slots := hroom
  rcases hq with ⟨rfl, r, rfl, hj⟩ | ⟨hk0, k0, hk, hj⟩
  · skip
    unfold jq at hj
    refine qL_m X hA hW [.int (xs (i + 1)), .int (xs (i + 2))] [] rfl rfl (Nat.le_of_ble_eq_true rfl) dL_law_712 hroom1 (c_X10_move hA.2.1 (xs (i + 1)) (xs (i + 2)) mm _ hj) rfl rfl (gV kw_7_221 kw_7_222 kw_7_223 kw_1_11 kw_7_224) hy_X10_move ⟨(Nat.le_of_ble_eq_true rfl), (Nat.le_of_ble_eq_true rfl)⟩ (fun b9 mm9 hb => ?_)
    obtain ⟨h1, rfl, hK⟩ := hb
    refine q_istore X dL_law_715 (Nat.le_of_ble_eq_true rfl) rfl ?_
    exact tailI C0 hroom1 ⟨(Nat.le_of_ble_eq_true rfl), (Nat.le_of_ble_eq_true rfl)⟩ h1 (fun _ => rfl) dL_law_717 dL_law_718 dL_law_721 dL_law_723 dL_law_728 dL_law_730 dL_law_733 dL_law_734 dL_law_735 dL_law_736 dL_law_738 dL_law_739 dL_law_740 dL_law_745 (by decide) (kk _ _ _ hK)
  · obtain ⟨_, hj⟩ := hj
    unfold jx at hj
    refine qL_m X hA hW [.int (xs (i + 1)), .int (xs (i + 2))] [] rfl rfl (Nat.le_of_ble_eq_true rfl) dL_law_712 hroom1 (c_X10_move hA.2.1 (xs (i + 1)) (xs (i + 2)) mm _ hj) rfl rfl (gV kw_7_221 kw_7_222 kw_7_223 kw_1_11 kw_7_224) hy_X10_move ⟨(Nat.le_of_ble_eq_true rfl), (Nat.le_of_ble_eq_true rfl)⟩ (fun b9 mm9 hb => ?_)
    obtain ⟨h1, hK⟩ := hb
    refine q_istore X dL_law_715 (Nat.le_of_ble_eq_true rfl) rfl ?_
    exact tailI C0 hroom1 ⟨(Nat.le_of_ble_eq_true rfl), (Nat.le_of_ble_eq_true rfl)⟩ (h1.trans hk.symm) (fun h0 => absurd h0 hk0) dL_law_717 dL_law_718 dL_law_721 dL_law_723 dL_law_728 dL_law_730 dL_law_733 dL_law_734 dL_law_735 dL_law_736 dL_law_738 dL_law_739 dL_law_740 dL_law_745 (by decide) (kk _ _ _ hK)
set_option maxRecDepth 100000 in
set_option maxHeartbeats 4000000 in
theorem case_5 (C : LC p l s m args c D cA ad A AC AM ob cO b L xs) (h : Hy a s0 mc mm (Rel (a + 400000) (s0 + 64))) (hi : i + 4 < L) (hroom : cells + 2 ≤ room_1.cells ∧ slots + 12 ≤ room_1.slots) (kk : ∀ (mc' mm' : Mm) (v' : Int64), Rel (a + 400000) (s0 + 64) mc' mm' → V p l e room_1 s m args below meth c Q 9 A (cells + 2) (slots + 12) (PL D cA ad ob cO mc' mm' v') 4461 (lvL ad ob b i) []) : V p l e room_1 s m args below meth c Q 9 A cells slots (PL D cA ad ob cO mc mm v) 748 (lvL ad ob b i) [] := by
  have C0 := C
  obtain ⟨X, hA, hW, hZ, hX, hb1, hst, hL⟩ := C
  have hroom0 : cells ≤ room_1.cells ∧ slots ≤ room_1.slots := ⟨by omega, by omega⟩
  refine q_aload_n (j := 3) X dL_law_748 rfl rfl ?_
  refine qL_arg C0 1 (j0 := 4) (j4 := 0) rfl (by decide) dL_law_749 dL_law_750 dL_law_752 dL_law_753 dL_law_754 rfl rfl hi ?_
  refine qL_arg C0 2 (j0 := 4) (j4 := 0) rfl (by decide) dL_law_755 dL_law_756 dL_law_758 dL_law_759 dL_law_760 rfl rfl hi ?_
  refine q_aload_n (j := 1) X dL_law_761 rfl rfl ?_
  refine qL_w X hA hW hZ [.ref (ad 0 1), .int (xs (i + 1)), .int (xs (i + 2)), .ref ob] rfl rfl dL_law_762 hroom (k_L_split hA.1 hA.2.2.1.1 hst (xs (i + 1)) (xs (i + 2)) mc v _ _ (J_split h (xs (i + 1)) (xs (i + 2))) (fun _ _ hx => hx.1)) rfl rfl (gSW kw_4_106 kw_4_107 kw_1_0 kw_4_108) hy_L_split ⟨(Nat.le_of_ble_eq_true rfl), (Nat.le_of_ble_eq_true rfl)⟩ (fun k mc' v' hq => ?_)
  refine q_istore X dL_law_765 (Nat.le_of_ble_eq_true rfl) rfl ?_
  refine q_aload_n (j := 3) X dL_law_767 rfl rfl ?_
  refine qL_arg C0 1 (j0 := 5) (j4 := 1) rfl (by decide) dL_law_768 dL_law_769 dL_law_771 dL_law_772 dL_law_773 rfl rfl hi ?_
  refine qL_arg C0 2 (j0 := 5) (j4 := 1) rfl (by decide) dL_law_774 dL_law_775 dL_law_777 dL_law_778 dL_law_779 rfl rfl hi ?_
  have hroom1 : cells + 2 ≤ room_1.cells ∧ slots + 12 ≤ room_1.slots := hroom
  rcases hq with ⟨rfl, r, rfl, hj⟩ | ⟨hk0, k0, hk, hj⟩
  · skip
    unfold jq at hj
    refine qL_m X hA hW [.int (xs (i + 1)), .int (xs (i + 2))] [] rfl rfl (Nat.le_of_ble_eq_true rfl) dL_law_780 hroom1 (c_X10_split hA.2.1 (xs (i + 1)) (xs (i + 2)) mm _ hj) rfl rfl (gV kw_7_233 kw_7_234 kw_7_235 kw_1_11 kw_7_236) hy_X10_split ⟨(Nat.le_of_ble_eq_true rfl), (Nat.le_of_ble_eq_true rfl)⟩ (fun b9 mm9 hb => ?_)
    obtain ⟨h1, rfl, hK⟩ := hb
    refine q_istore X dL_law_783 (Nat.le_of_ble_eq_true rfl) rfl ?_
    exact tailI C0 hroom1 ⟨(Nat.le_of_ble_eq_true rfl), (Nat.le_of_ble_eq_true rfl)⟩ h1 (fun _ => rfl) dL_law_785 dL_law_786 dL_law_789 dL_law_791 dL_law_796 dL_law_798 dL_law_801 dL_law_802 dL_law_803 dL_law_804 dL_law_806 dL_law_807 dL_law_808 dL_law_813 (by decide) (kk _ _ _ hK)
  · obtain ⟨_, hj⟩ := hj
    unfold jx at hj
    refine qL_m X hA hW [.int (xs (i + 1)), .int (xs (i + 2))] [] rfl rfl (Nat.le_of_ble_eq_true rfl) dL_law_780 hroom1 (c_X10_split hA.2.1 (xs (i + 1)) (xs (i + 2)) mm _ hj) rfl rfl (gV kw_7_233 kw_7_234 kw_7_235 kw_1_11 kw_7_236) hy_X10_split ⟨(Nat.le_of_ble_eq_true rfl), (Nat.le_of_ble_eq_true rfl)⟩ (fun b9 mm9 hb => ?_)
    obtain ⟨h1, hK⟩ := hb
    refine q_istore X dL_law_783 (Nat.le_of_ble_eq_true rfl) rfl ?_
    exact tailI C0 hroom1 ⟨(Nat.le_of_ble_eq_true rfl), (Nat.le_of_ble_eq_true rfl)⟩ (h1.trans hk.symm) (fun h0 => absurd h0 hk0) dL_law_785 dL_law_786 dL_law_789 dL_law_791 dL_law_796 dL_law_798 dL_law_801 dL_law_802 dL_law_803 dL_law_804 dL_law_806 dL_law_807 dL_law_808 dL_law_813 (by decide) (kk _ _ _ hK)
set_option maxRecDepth 100000 in
set_option maxHeartbeats 4000000 in
theorem case_6 (C : LC p l s m args c D cA ad A AC AM ob cO b L xs) (h : Hy a s0 mc mm (Rel (a + 400000) (s0 + 64))) (hi : i + 4 < L) (hroom : cells + 2 ≤ room_1.cells ∧ slots + 12 ≤ room_1.slots) (kk : ∀ (mc' mm' : Mm) (v' : Int64), Rel (a + 400000) (s0 + 64) mc' mm' → V p l e room_1 s m args below meth c Q 9 A (cells + 2) (slots + 12) (PL D cA ad ob cO mc' mm' v') 4461 (lvL ad ob b i) []) : V p l e room_1 s m args below meth c Q 9 A cells slots (PL D cA ad ob cO mc mm v) 816 (lvL ad ob b i) [] := by
  have C0 := C
  obtain ⟨X, hA, hW, hZ, hX, hb1, hst, hL⟩ := C
  have hroom0 : cells ≤ room_1.cells ∧ slots ≤ room_1.slots := ⟨by omega, by omega⟩
  refine q_aload_n (j := 3) X dL_law_816 rfl rfl ?_
  refine qL_arg C0 1 (j0 := 4) (j4 := 0) rfl (by decide) dL_law_817 dL_law_818 dL_law_820 dL_law_821 dL_law_822 rfl rfl hi ?_
  refine qL_arg C0 2 (j0 := 4) (j4 := 0) rfl (by decide) dL_law_823 dL_law_824 dL_law_826 dL_law_827 dL_law_828 rfl rfl hi ?_
  refine q_aload_n (j := 1) X dL_law_829 rfl rfl ?_
  refine qL_w X hA hW hZ [.ref (ad 0 1), .int (xs (i + 1)), .int (xs (i + 2)), .ref ob] rfl rfl dL_law_830 hroom (k_L_merge hA.1 hA.2.2.1.1 hst (xs (i + 1)) (xs (i + 2)) mc v _ _ (J_merge h (xs (i + 1)) (xs (i + 2))) (fun _ _ hx => hx.1)) rfl rfl (gSW kw_4_121 kw_4_122 kw_1_0 kw_4_123) hy_L_merge ⟨(Nat.le_of_ble_eq_true rfl), (Nat.le_of_ble_eq_true rfl)⟩ (fun k mc' v' hq => ?_)
  refine q_istore X dL_law_833 (Nat.le_of_ble_eq_true rfl) rfl ?_
  refine q_aload_n (j := 3) X dL_law_835 rfl rfl ?_
  refine qL_arg C0 1 (j0 := 5) (j4 := 1) rfl (by decide) dL_law_836 dL_law_837 dL_law_839 dL_law_840 dL_law_841 rfl rfl hi ?_
  refine qL_arg C0 2 (j0 := 5) (j4 := 1) rfl (by decide) dL_law_842 dL_law_843 dL_law_845 dL_law_846 dL_law_847 rfl rfl hi ?_
  have hroom1 : cells + 2 ≤ room_1.cells ∧ slots + 12 ≤ room_1.slots := hroom
  rcases hq with ⟨rfl, r, rfl, hj⟩ | ⟨hk0, k0, hk, hj⟩
  · skip
    unfold jq at hj
    refine qL_m X hA hW [.int (xs (i + 1)), .int (xs (i + 2))] [] rfl rfl (Nat.le_of_ble_eq_true rfl) dL_law_848 hroom1 (c_X10_merge hA.2.1 (xs (i + 1)) (xs (i + 2)) mm _ hj) rfl rfl (gV kw_7_238 kw_7_239 kw_8_0 kw_1_11 kw_8_1) hy_X10_merge ⟨(Nat.le_of_ble_eq_true rfl), (Nat.le_of_ble_eq_true rfl)⟩ (fun b9 mm9 hb => ?_)
    obtain ⟨h1, rfl, hK⟩ := hb
    refine q_istore X dL_law_851 (Nat.le_of_ble_eq_true rfl) rfl ?_
    exact tailI C0 hroom1 ⟨(Nat.le_of_ble_eq_true rfl), (Nat.le_of_ble_eq_true rfl)⟩ h1 (fun _ => rfl) dL_law_853 dL_law_854 dL_law_857 dL_law_859 dL_law_864 dL_law_866 dL_law_869 dL_law_870 dL_law_871 dL_law_872 dL_law_874 dL_law_875 dL_law_876 dL_law_881 (by decide) (kk _ _ _ hK)
  · obtain ⟨_, hj⟩ := hj
    unfold jx at hj
    refine qL_m X hA hW [.int (xs (i + 1)), .int (xs (i + 2))] [] rfl rfl (Nat.le_of_ble_eq_true rfl) dL_law_848 hroom1 (c_X10_merge hA.2.1 (xs (i + 1)) (xs (i + 2)) mm _ hj) rfl rfl (gV kw_7_238 kw_7_239 kw_8_0 kw_1_11 kw_8_1) hy_X10_merge ⟨(Nat.le_of_ble_eq_true rfl), (Nat.le_of_ble_eq_true rfl)⟩ (fun b9 mm9 hb => ?_)
    obtain ⟨h1, hK⟩ := hb
    refine q_istore X dL_law_851 (Nat.le_of_ble_eq_true rfl) rfl ?_
    exact tailI C0 hroom1 ⟨(Nat.le_of_ble_eq_true rfl), (Nat.le_of_ble_eq_true rfl)⟩ (h1.trans hk.symm) (fun h0 => absurd h0 hk0) dL_law_853 dL_law_854 dL_law_857 dL_law_859 dL_law_864 dL_law_866 dL_law_869 dL_law_870 dL_law_871 dL_law_872 dL_law_874 dL_law_875 dL_law_876 dL_law_881 (by decide) (kk _ _ _ hK)
set_option maxRecDepth 100000 in
set_option maxHeartbeats 4000000 in
theorem case_7 (C : LC p l s m args c D cA ad A AC AM ob cO b L xs) (h : Hy a s0 mc mm (Rel (a + 400000) (s0 + 64))) (hi : i + 4 < L) (hroom : cells + 2 ≤ room_1.cells ∧ slots + 12 ≤ room_1.slots) (kk : ∀ (mc' mm' : Mm) (v' : Int64), Rel (a + 400000) (s0 + 64) mc' mm' → V p l e room_1 s m args below meth c Q 9 A (cells + 2) (slots + 12) (PL D cA ad ob cO mc' mm' v') 4461 (lvL ad ob b i) []) : V p l e room_1 s m args below meth c Q 9 A cells slots (PL D cA ad ob cO mc mm v) 884 (lvL ad ob b i) [] := by
  have C0 := C
  obtain ⟨X, hA, hW, hZ, hX, hb1, hst, hL⟩ := C
  have hroom0 : cells ≤ room_1.cells ∧ slots ≤ room_1.slots := ⟨by omega, by omega⟩
  refine q_aload_n (j := 3) X dL_law_884 rfl rfl ?_
  refine qL_arg C0 1 (j0 := 4) (j4 := 0) rfl (by decide) dL_law_885 dL_law_886 dL_law_888 dL_law_889 dL_law_890 rfl rfl hi ?_
  refine qL_arg C0 2 (j0 := 4) (j4 := 0) rfl (by decide) dL_law_891 dL_law_892 dL_law_894 dL_law_895 dL_law_896 rfl rfl hi ?_
  refine q_aload_n (j := 1) X dL_law_897 rfl rfl ?_
  refine qL_w X hA hW hZ [.ref (ad 0 1), .int (xs (i + 1)), .int (xs (i + 2)), .ref ob] rfl rfl dL_law_898 hroom (k_L_weigh hA.1 hA.2.2.1.1 hst (xs (i + 1)) (xs (i + 2)) mc v _ _ (J_weigh h (xs (i + 1)) (xs (i + 2))) (fun _ _ hx => hx.1)) rfl rfl (gSW kw_4_144 kw_4_145 kw_1_0 kw_4_146) hy_L_weigh ⟨(Nat.le_of_ble_eq_true rfl), (Nat.le_of_ble_eq_true rfl)⟩ (fun k mc' v' hq => ?_)
  refine q_istore X dL_law_901 (Nat.le_of_ble_eq_true rfl) rfl ?_
  refine q_aload_n (j := 3) X dL_law_903 rfl rfl ?_
  refine qL_arg C0 1 (j0 := 5) (j4 := 1) rfl (by decide) dL_law_904 dL_law_905 dL_law_907 dL_law_908 dL_law_909 rfl rfl hi ?_
  refine qL_arg C0 2 (j0 := 5) (j4 := 1) rfl (by decide) dL_law_910 dL_law_911 dL_law_913 dL_law_914 dL_law_915 rfl rfl hi ?_
  have hroom1 : cells + 2 ≤ room_1.cells ∧ slots + 12 ≤ room_1.slots := hroom
  rcases hq with ⟨rfl, r, rfl, hj⟩ | ⟨hk0, k0, hk, hj⟩
  · skip
    unfold jq at hj
    refine qL_m X hA hW [.int (xs (i + 1)), .int (xs (i + 2))] [] rfl rfl (Nat.le_of_ble_eq_true rfl) dL_law_916 hroom1 (c_X10_weigh hA.2.1 (xs (i + 1)) (xs (i + 2)) mm _ hj) rfl rfl (gV kw_8_6 kw_8_7 kw_8_8 kw_1_11 kw_8_9) hy_X10_weigh ⟨(Nat.le_of_ble_eq_true rfl), (Nat.le_of_ble_eq_true rfl)⟩ (fun b9 mm9 hb => ?_)
    obtain ⟨h1, rfl, hK⟩ := hb
    refine q_istore X dL_law_919 (Nat.le_of_ble_eq_true rfl) rfl ?_
    exact tailI C0 hroom1 ⟨(Nat.le_of_ble_eq_true rfl), (Nat.le_of_ble_eq_true rfl)⟩ h1 (fun _ => rfl) dL_law_921 dL_law_922 dL_law_925 dL_law_927 dL_law_932 dL_law_934 dL_law_937 dL_law_938 dL_law_939 dL_law_940 dL_law_942 dL_law_943 dL_law_944 dL_law_949 (by decide) (kk _ _ _ hK)
  · obtain ⟨_, hj⟩ := hj
    unfold jx at hj
    refine qL_m X hA hW [.int (xs (i + 1)), .int (xs (i + 2))] [] rfl rfl (Nat.le_of_ble_eq_true rfl) dL_law_916 hroom1 (c_X10_weigh hA.2.1 (xs (i + 1)) (xs (i + 2)) mm _ hj) rfl rfl (gV kw_8_6 kw_8_7 kw_8_8 kw_1_11 kw_8_9) hy_X10_weigh ⟨(Nat.le_of_ble_eq_true rfl), (Nat.le_of_ble_eq_true rfl)⟩ (fun b9 mm9 hb => ?_)
    obtain ⟨h1, hK⟩ := hb
    refine q_istore X dL_law_919 (Nat.le_of_ble_eq_true rfl) rfl ?_
    exact tailI C0 hroom1 ⟨(Nat.le_of_ble_eq_true rfl), (Nat.le_of_ble_eq_true rfl)⟩ (h1.trans hk.symm) (fun h0 => absurd h0 hk0) dL_law_921 dL_law_922 dL_law_925 dL_law_927 dL_law_932 dL_law_934 dL_law_937 dL_law_938 dL_law_939 dL_law_940 dL_law_942 dL_law_943 dL_law_944 dL_law_949 (by decide) (kk _ _ _ hK)
set_option maxRecDepth 100000 in
set_option maxHeartbeats 4000000 in
theorem case_8 (C : LC p l s m args c D cA ad A AC AM ob cO b L xs) (h : Hy a s0 mc mm (Rel (a + 400000) (s0 + 64))) (hi : i + 4 < L) (hroom : cells + 2 ≤ room_1.cells ∧ slots + 12 ≤ room_1.slots) (kk : ∀ (mc' mm' : Mm) (v' : Int64), Rel (a + 400000) (s0 + 64) mc' mm' → V p l e room_1 s m args below meth c Q 9 A (cells + 2) (slots + 12) (PL D cA ad ob cO mc' mm' v') 4461 (lvL ad ob b i) []) : V p l e room_1 s m args below meth c Q 9 A cells slots (PL D cA ad ob cO mc mm v) 952 (lvL ad ob b i) [] := by
  have C0 := C
  obtain ⟨X, hA, hW, hZ, hX, hb1, hst, hL⟩ := C
  have hroom0 : cells ≤ room_1.cells ∧ slots ≤ room_1.slots := ⟨by omega, by omega⟩
  refine q_aload_n (j := 3) X dL_law_952 rfl rfl ?_
  refine qL_arg C0 1 (j0 := 4) (j4 := 0) rfl (by decide) dL_law_953 dL_law_954 dL_law_956 dL_law_957 dL_law_958 rfl rfl hi ?_
  refine q_aload_n (j := 1) X dL_law_959 rfl rfl ?_
  refine qL_w X hA hW hZ [.ref (ad 0 1), .int (xs (i + 1)), .ref ob] rfl rfl dL_law_960 hroom (k_L_lock hA.1 hA.2.2.1.1 hst (xs (i + 1)) mc v _ _ (J_lock h (xs (i + 1))) (fun _ _ hx => hx.1)) rfl rfl (gSW kw_4_175 kw_4_176 kw_1_0 kw_4_177) hy_L_lock ⟨(Nat.le_of_ble_eq_true rfl), (Nat.le_of_ble_eq_true rfl)⟩ (fun k mc' v' hq => ?_)
  refine q_istore X dL_law_963 (Nat.le_of_ble_eq_true rfl) rfl ?_
  refine q_aload_n (j := 3) X dL_law_965 rfl rfl ?_
  refine qL_arg C0 1 (j0 := 5) (j4 := 1) rfl (by decide) dL_law_966 dL_law_967 dL_law_969 dL_law_970 dL_law_971 rfl rfl hi ?_
  have hroom1 : cells + 2 ≤ room_1.cells ∧ slots + 12 ≤ room_1.slots := hroom
  rcases hq with ⟨rfl, r, rfl, hj⟩ | ⟨hk0, k0, hk, hj⟩
  · skip
    unfold jq at hj
    refine qL_m X hA hW [.int (xs (i + 1))] [] rfl rfl (Nat.le_of_ble_eq_true rfl) dL_law_972 hroom1 (c_X10_lock hA.2.1 (xs (i + 1)) mm _ hj) rfl rfl (gV kw_8_29 kw_8_30 kw_8_31 kw_1_11 kw_8_32) hy_X10_lock ⟨(Nat.le_of_ble_eq_true rfl), (Nat.le_of_ble_eq_true rfl)⟩ (fun b9 mm9 hb => ?_)
    obtain ⟨h1, rfl, hK⟩ := hb
    refine q_istore X dL_law_975 (Nat.le_of_ble_eq_true rfl) rfl ?_
    exact tailI C0 hroom1 ⟨(Nat.le_of_ble_eq_true rfl), (Nat.le_of_ble_eq_true rfl)⟩ h1 (fun _ => rfl) dL_law_977 dL_law_978 dL_law_981 dL_law_983 dL_law_988 dL_law_990 dL_law_993 dL_law_994 dL_law_995 dL_law_996 dL_law_998 dL_law_999 dL_law_1000 dL_law_1005 (by decide) (kk _ _ _ hK)
  · obtain ⟨_, hj⟩ := hj
    unfold jx at hj
    refine qL_m X hA hW [.int (xs (i + 1))] [] rfl rfl (Nat.le_of_ble_eq_true rfl) dL_law_972 hroom1 (c_X10_lock hA.2.1 (xs (i + 1)) mm _ hj) rfl rfl (gV kw_8_29 kw_8_30 kw_8_31 kw_1_11 kw_8_32) hy_X10_lock ⟨(Nat.le_of_ble_eq_true rfl), (Nat.le_of_ble_eq_true rfl)⟩ (fun b9 mm9 hb => ?_)
    obtain ⟨h1, hK⟩ := hb
    refine q_istore X dL_law_975 (Nat.le_of_ble_eq_true rfl) rfl ?_
    exact tailI C0 hroom1 ⟨(Nat.le_of_ble_eq_true rfl), (Nat.le_of_ble_eq_true rfl)⟩ (h1.trans hk.symm) (fun h0 => absurd h0 hk0) dL_law_977 dL_law_978 dL_law_981 dL_law_983 dL_law_988 dL_law_990 dL_law_993 dL_law_994 dL_law_995 dL_law_996 dL_law_998 dL_law_999 dL_law_1000 dL_law_1005 (by decide) (kk _ _ _ hK)
set_option maxRecDepth 100000 in
set_option maxHeartbeats 4000000 in
theorem case_9 (C : LC p l s m args c D cA ad A AC AM ob cO b L xs) (h : Hy a s0 mc mm (Rel (a + 400000) (s0 + 64))) (hi : i + 4 < L) (hroom : cells + 2 ≤ room_1.cells ∧ slots + 12 ≤ room_1.slots) (kk : ∀ (mc' mm' : Mm) (v' : Int64), Rel (a + 400000) (s0 + 64) mc' mm' → V p l e room_1 s m args below meth c Q 9 A (cells + 2) (slots + 12) (PL D cA ad ob cO mc' mm' v') 4461 (lvL ad ob b i) []) : V p l e room_1 s m args below meth c Q 9 A cells slots (PL D cA ad ob cO mc mm v) 1008 (lvL ad ob b i) [] := by
  have C0 := C
  obtain ⟨X, hA, hW, hZ, hX, hb1, hst, hL⟩ := C
  have hroom0 : cells ≤ room_1.cells ∧ slots ≤ room_1.slots := ⟨by omega, by omega⟩
  refine q_aload_n (j := 3) X dL_law_1008 rfl rfl ?_
  refine qL_arg C0 1 (j0 := 4) (j4 := 0) rfl (by decide) dL_law_1009 dL_law_1010 dL_law_1012 dL_law_1013 dL_law_1014 rfl rfl hi ?_
  refine q_aload_n (j := 1) X dL_law_1015 rfl rfl ?_
  refine qL_w X hA hW hZ [.ref (ad 0 1), .int (xs (i + 1)), .ref ob] rfl rfl dL_law_1016 hroom (k_L_open hA.1 hA.2.2.1.1 hst (xs (i + 1)) mc v _ _ (J_open h (xs (i + 1))) (fun _ _ hx => hx.1)) rfl rfl (gSW kw_4_186 kw_4_187 kw_1_0 kw_4_188) hy_L_open ⟨(Nat.le_of_ble_eq_true rfl), (Nat.le_of_ble_eq_true rfl)⟩ (fun k mc' v' hq => ?_)
  refine q_istore X dL_law_1019 (Nat.le_of_ble_eq_true rfl) rfl ?_
  refine q_aload_n (j := 3) X dL_law_1021 rfl rfl ?_
  refine qL_arg C0 1 (j0 := 5) (j4 := 1) rfl (by decide) dL_law_1022 dL_law_1023 dL_law_1025 dL_law_1026 dL_law_1027 rfl rfl hi ?_
  have hroom1 : cells + 2 ≤ room_1.cells ∧ slots + 12 ≤ room_1.slots := hroom
  rcases hq with ⟨rfl, r, rfl, hj⟩ | ⟨hk0, k0, hk, hj⟩
  · skip
    unfold jq at hj
    refine qL_m X hA hW [.int (xs (i + 1))] [] rfl rfl (Nat.le_of_ble_eq_true rfl) dL_law_1028 hroom1 (c_X10_open hA.2.1 (xs (i + 1)) mm _ hj) rfl rfl (gV kw_8_37 kw_8_38 kw_8_39 kw_1_11 kw_8_40) hy_X10_open ⟨(Nat.le_of_ble_eq_true rfl), (Nat.le_of_ble_eq_true rfl)⟩ (fun b9 mm9 hb => ?_)
    obtain ⟨h1, rfl, hK⟩ := hb
    refine q_istore X dL_law_1031 (Nat.le_of_ble_eq_true rfl) rfl ?_
    exact tailI C0 hroom1 ⟨(Nat.le_of_ble_eq_true rfl), (Nat.le_of_ble_eq_true rfl)⟩ h1 (fun _ => rfl) dL_law_1033 dL_law_1034 dL_law_1037 dL_law_1039 dL_law_1044 dL_law_1046 dL_law_1049 dL_law_1050 dL_law_1051 dL_law_1052 dL_law_1054 dL_law_1055 dL_law_1056 dL_law_1061 (by decide) (kk _ _ _ hK)
  · obtain ⟨_, hj⟩ := hj
    unfold jx at hj
    refine qL_m X hA hW [.int (xs (i + 1))] [] rfl rfl (Nat.le_of_ble_eq_true rfl) dL_law_1028 hroom1 (c_X10_open hA.2.1 (xs (i + 1)) mm _ hj) rfl rfl (gV kw_8_37 kw_8_38 kw_8_39 kw_1_11 kw_8_40) hy_X10_open ⟨(Nat.le_of_ble_eq_true rfl), (Nat.le_of_ble_eq_true rfl)⟩ (fun b9 mm9 hb => ?_)
    obtain ⟨h1, hK⟩ := hb
    refine q_istore X dL_law_1031 (Nat.le_of_ble_eq_true rfl) rfl ?_
    exact tailI C0 hroom1 ⟨(Nat.le_of_ble_eq_true rfl), (Nat.le_of_ble_eq_true rfl)⟩ (h1.trans hk.symm) (fun h0 => absurd h0 hk0) dL_law_1033 dL_law_1034 dL_law_1037 dL_law_1039 dL_law_1044 dL_law_1046 dL_law_1049 dL_law_1050 dL_law_1051 dL_law_1052 dL_law_1054 dL_law_1055 dL_law_1056 dL_law_1061 (by decide) (kk _ _ _ hK)
set_option maxRecDepth 100000 in
set_option maxHeartbeats 4000000 in
theorem case_10 (C : LC p l s m args c D cA ad A AC AM ob cO b L xs) (h : Hy a s0 mc mm (Rel (a + 400000) (s0 + 64))) (hi : i + 4 < L) (hroom : cells + 2 ≤ room_1.cells ∧ slots + 12 ≤ room_1.slots) (kk : ∀ (mc' mm' : Mm) (v' : Int64), Rel (a + 400000) (s0 + 64) mc' mm' → V p l e room_1 s m args below meth c Q 9 A (cells + 2) (slots + 12) (PL D cA ad ob cO mc' mm' v') 4461 (lvL ad ob b i) []) : V p l e room_1 s m args below meth c Q 9 A cells slots (PL D cA ad ob cO mc mm v) 1064 (lvL ad ob b i) [] := by
  have C0 := C
  obtain ⟨X, hA, hW, hZ, hX, hb1, hst, hL⟩ := C
  have hroom0 : cells ≤ room_1.cells ∧ slots ≤ room_1.slots := ⟨by omega, by omega⟩
  refine q_aload_n (j := 3) X dL_law_1064 rfl rfl ?_
  refine qL_arg C0 1 (j0 := 4) (j4 := 0) rfl (by decide) dL_law_1065 dL_law_1066 dL_law_1068 dL_law_1069 dL_law_1070 rfl rfl hi ?_
  refine q_aload_n (j := 1) X dL_law_1071 rfl rfl ?_
  refine qL_w X hA hW hZ [.ref (ad 0 1), .int (xs (i + 1)), .ref ob] rfl rfl dL_law_1072 hroom (k_L_breakSeal hA.1 hA.2.2.1.1 hst (xs (i + 1)) mc v _ _ (J_breakSeal h (xs (i + 1))) (fun _ _ hx => hx.1)) rfl rfl (gSW kw_4_197 kw_4_198 kw_1_0 kw_4_199) hy_L_breakSeal ⟨(Nat.le_of_ble_eq_true rfl), (Nat.le_of_ble_eq_true rfl)⟩ (fun k mc' v' hq => ?_)
  refine q_istore X dL_law_1075 (Nat.le_of_ble_eq_true rfl) rfl ?_
  refine q_aload_n (j := 3) X dL_law_1077 rfl rfl ?_
  refine qL_arg C0 1 (j0 := 5) (j4 := 1) rfl (by decide) dL_law_1078 dL_law_1079 dL_law_1081 dL_law_1082 dL_law_1083 rfl rfl hi ?_
  have hroom1 : cells + 2 ≤ room_1.cells ∧ slots + 12 ≤ room_1.slots := hroom
  rcases hq with ⟨rfl, r, rfl, hj⟩ | ⟨hk0, k0, hk, hj⟩
  · skip
    unfold jq at hj
    refine qL_m X hA hW [.int (xs (i + 1))] [] rfl rfl (Nat.le_of_ble_eq_true rfl) dL_law_1084 hroom1 (c_X10_breakSeal hA.2.1 (xs (i + 1)) mm _ hj) rfl rfl (gV kw_8_45 kw_8_46 kw_8_47 kw_1_11 kw_8_48) hy_X10_breakSeal ⟨(Nat.le_of_ble_eq_true rfl), (Nat.le_of_ble_eq_true rfl)⟩ (fun b9 mm9 hb => ?_)
    obtain ⟨h1, rfl, hK⟩ := hb
    refine q_istore X dL_law_1087 (Nat.le_of_ble_eq_true rfl) rfl ?_
    exact tailI C0 hroom1 ⟨(Nat.le_of_ble_eq_true rfl), (Nat.le_of_ble_eq_true rfl)⟩ h1 (fun _ => rfl) dL_law_1089 dL_law_1090 dL_law_1093 dL_law_1095 dL_law_1100 dL_law_1102 dL_law_1105 dL_law_1106 dL_law_1107 dL_law_1108 dL_law_1110 dL_law_1111 dL_law_1112 dL_law_1117 (by decide) (kk _ _ _ hK)
  · obtain ⟨_, hj⟩ := hj
    unfold jx at hj
    refine qL_m X hA hW [.int (xs (i + 1))] [] rfl rfl (Nat.le_of_ble_eq_true rfl) dL_law_1084 hroom1 (c_X10_breakSeal hA.2.1 (xs (i + 1)) mm _ hj) rfl rfl (gV kw_8_45 kw_8_46 kw_8_47 kw_1_11 kw_8_48) hy_X10_breakSeal ⟨(Nat.le_of_ble_eq_true rfl), (Nat.le_of_ble_eq_true rfl)⟩ (fun b9 mm9 hb => ?_)
    obtain ⟨h1, hK⟩ := hb
    refine q_istore X dL_law_1087 (Nat.le_of_ble_eq_true rfl) rfl ?_
    exact tailI C0 hroom1 ⟨(Nat.le_of_ble_eq_true rfl), (Nat.le_of_ble_eq_true rfl)⟩ (h1.trans hk.symm) (fun h0 => absurd h0 hk0) dL_law_1089 dL_law_1090 dL_law_1093 dL_law_1095 dL_law_1100 dL_law_1102 dL_law_1105 dL_law_1106 dL_law_1107 dL_law_1108 dL_law_1110 dL_law_1111 dL_law_1112 dL_law_1117 (by decide) (kk _ _ _ hK)
set_option maxRecDepth 100000 in
set_option maxHeartbeats 4000000 in
theorem case_11 (C : LC p l s m args c D cA ad A AC AM ob cO b L xs) (h : Hy a s0 mc mm (Rel (a + 400000) (s0 + 64))) (hi : i + 4 < L) (hroom : cells + 2 ≤ room_1.cells ∧ slots + 12 ≤ room_1.slots) (kk : ∀ (mc' mm' : Mm) (v' : Int64), Rel (a + 400000) (s0 + 64) mc' mm' → V p l e room_1 s m args below meth c Q 9 A (cells + 2) (slots + 12) (PL D cA ad ob cO mc' mm' v') 4461 (lvL ad ob b i) []) : V p l e room_1 s m args below meth c Q 9 A cells slots (PL D cA ad ob cO mc mm v) 1120 (lvL ad ob b i) [] := by
  have C0 := C
  obtain ⟨X, hA, hW, hZ, hX, hb1, hst, hL⟩ := C
  have hroom0 : cells ≤ room_1.cells ∧ slots ≤ room_1.slots := ⟨by omega, by omega⟩
  refine q_aload_n (j := 3) X dL_law_1120 rfl rfl ?_
  refine qL_arg C0 1 (j0 := 4) (j4 := 0) rfl (by decide) dL_law_1121 dL_law_1122 dL_law_1124 dL_law_1125 dL_law_1126 rfl rfl hi ?_
  refine q_aload_n (j := 1) X dL_law_1127 rfl rfl ?_
  refine qL_w X hA hW hZ [.ref (ad 0 1), .int (xs (i + 1)), .ref ob] rfl rfl dL_law_1128 hroom (k_L_deposit hA.1 hA.2.2.1.1 hst (xs (i + 1)) mc v _ _ (J_deposit h (xs (i + 1))) (fun _ _ hx => hx.1)) rfl rfl (gSW kw_4_208 kw_4_209 kw_1_0 kw_4_210) hy_L_deposit ⟨(Nat.le_of_ble_eq_true rfl), (Nat.le_of_ble_eq_true rfl)⟩ (fun k mc' v' hq => ?_)
  refine q_istore X dL_law_1131 (Nat.le_of_ble_eq_true rfl) rfl ?_
  refine q_aload_n (j := 3) X dL_law_1133 rfl rfl ?_
  refine qL_arg C0 1 (j0 := 5) (j4 := 1) rfl (by decide) dL_law_1134 dL_law_1135 dL_law_1137 dL_law_1138 dL_law_1139 rfl rfl hi ?_
  have hroom1 : cells + 2 ≤ room_1.cells ∧ slots + 12 ≤ room_1.slots := hroom
  rcases hq with ⟨rfl, r, rfl, hj⟩ | ⟨hk0, k0, hk, hj⟩
  · skip
    unfold jq at hj
    refine qL_m X hA hW [.int (xs (i + 1))] [] rfl rfl (Nat.le_of_ble_eq_true rfl) dL_law_1140 hroom1 (c_X10_deposit hA.2.1 (xs (i + 1)) mm _ hj) rfl rfl (gV kw_8_57 kw_8_58 kw_8_59 kw_1_11 kw_8_60) hy_X10_deposit ⟨(Nat.le_of_ble_eq_true rfl), (Nat.le_of_ble_eq_true rfl)⟩ (fun b9 mm9 hb => ?_)
    obtain ⟨h1, rfl, hK⟩ := hb
    refine q_istore X dL_law_1143 (Nat.le_of_ble_eq_true rfl) rfl ?_
    exact tailI C0 hroom1 ⟨(Nat.le_of_ble_eq_true rfl), (Nat.le_of_ble_eq_true rfl)⟩ h1 (fun _ => rfl) dL_law_1145 dL_law_1146 dL_law_1149 dL_law_1151 dL_law_1156 dL_law_1158 dL_law_1161 dL_law_1162 dL_law_1163 dL_law_1164 dL_law_1166 dL_law_1167 dL_law_1168 dL_law_1173 (by decide) (kk _ _ _ hK)
  · obtain ⟨_, hj⟩ := hj
    unfold jx at hj
    refine qL_m X hA hW [.int (xs (i + 1))] [] rfl rfl (Nat.le_of_ble_eq_true rfl) dL_law_1140 hroom1 (c_X10_deposit hA.2.1 (xs (i + 1)) mm _ hj) rfl rfl (gV kw_8_57 kw_8_58 kw_8_59 kw_1_11 kw_8_60) hy_X10_deposit ⟨(Nat.le_of_ble_eq_true rfl), (Nat.le_of_ble_eq_true rfl)⟩ (fun b9 mm9 hb => ?_)
    obtain ⟨h1, hK⟩ := hb
    refine q_istore X dL_law_1143 (Nat.le_of_ble_eq_true rfl) rfl ?_
    exact tailI C0 hroom1 ⟨(Nat.le_of_ble_eq_true rfl), (Nat.le_of_ble_eq_true rfl)⟩ (h1.trans hk.symm) (fun h0 => absurd h0 hk0) dL_law_1145 dL_law_1146 dL_law_1149 dL_law_1151 dL_law_1156 dL_law_1158 dL_law_1161 dL_law_1162 dL_law_1163 dL_law_1164 dL_law_1166 dL_law_1167 dL_law_1168 dL_law_1173 (by decide) (kk _ _ _ hK)
end CASE0
