theorem kw_4_229 : Jvm.Cond.methodLink "BondWarehouseLaw" (254 : Nat) ({ cls := "BondWarehouseLaw", name := "setBond", desc := "(LBondWarehouse;I[J)I" } : Jvm.MethodName) ∈ TG := tg_4 229 rfl rfl
theorem kw_4_230 : Jvm.Cond.static ({ cls := "BondWarehouseLaw", name := "setBond", desc := "(LBondWarehouse;I[J)I" } : Jvm.MethodName) ∈ TG := tg_4 230 rfl rfl
theorem kw_4_231 : Jvm.Cond.codeWith ({ cls := "BondWarehouseLaw", name := "setBond", desc := "(LBondWarehouse;I[J)I" } : Jvm.MethodName) method_15_code (4 : Nat) (Option.some Jvm.ClassFile.FieldType.int) [((0 : Nat), (9 : Nat), (12 : Nat), (13 : Nat)), ((0 : Nat), (9 : Nat), (15 : Nat), (15 : Nat))] ∈ TG := tg_4 231 rfl rfl
theorem kw_8_70 : Jvm.Cond.methodLink "BondWarehouseLaw" (256 : Nat) ({ cls := "BondWarehouseModel", name := "setBond", desc := "(I)I" } : Jvm.MethodName) ∈ TG := tg_8 70 rfl rfl
theorem kw_8_71 : Jvm.Cond.instanceMethod ({ cls := "BondWarehouseModel", name := "setBond", desc := "(I)I" } : Jvm.MethodName) ∈ TG := tg_8 71 rfl rfl
theorem kw_8_72 : Jvm.Cond.selects "BondWarehouseModel" ({ cls := "BondWarehouseModel", name := "setBond", desc := "(I)I" } : Jvm.MethodName) ({ cls := "BondWarehouseModel", name := "setBond", desc := "(I)I" } : Jvm.MethodName) ∈ TG := tg_8 72 rfl rfl
theorem kw_8_73 : Jvm.Cond.code ({ cls := "BondWarehouseModel", name := "setBond", desc := "(I)I" } : Jvm.MethodName) prog_12_method_68_code (2 : Nat) (Option.some Jvm.ClassFile.FieldType.int) ∈ TG := tg_8 73 rfl rfl
theorem kw_5_2 : Jvm.Cond.methodLink "BondWarehouseLaw" (257 : Nat) ({ cls := "BondWarehouseLaw", name := "setRateByValue", desc := "(LBondWarehouse;II[J)I" } : Jvm.MethodName) ∈ TG := tg_5 2 rfl rfl
theorem kw_5_3 : Jvm.Cond.static ({ cls := "BondWarehouseLaw", name := "setRateByValue", desc := "(LBondWarehouse;II[J)I" } : Jvm.MethodName) ∈ TG := tg_5 3 rfl rfl
theorem kw_5_4 : Jvm.Cond.codeWith ({ cls := "BondWarehouseLaw", name := "setRateByValue", desc := "(LBondWarehouse;II[J)I" } : Jvm.MethodName) method_16_code (5 : Nat) (Option.some Jvm.ClassFile.FieldType.int) [((0 : Nat), (10 : Nat), (13 : Nat), (13 : Nat))] ∈ TG := tg_5 4 rfl rfl
theorem kw_8_79 : Jvm.Cond.methodLink "BondWarehouseLaw" (259 : Nat) ({ cls := "BondWarehouseModel", name := "setRateByValue", desc := "(II)I" } : Jvm.MethodName) ∈ TG := tg_8 79 rfl rfl
theorem kw_8_80 : Jvm.Cond.instanceMethod ({ cls := "BondWarehouseModel", name := "setRateByValue", desc := "(II)I" } : Jvm.MethodName) ∈ TG := tg_8 80 rfl rfl
theorem kw_8_81 : Jvm.Cond.selects "BondWarehouseModel" ({ cls := "BondWarehouseModel", name := "setRateByValue", desc := "(II)I" } : Jvm.MethodName) ({ cls := "BondWarehouseModel", name := "setRateByValue", desc := "(II)I" } : Jvm.MethodName) ∈ TG := tg_8 81 rfl rfl
theorem kw_8_82 : Jvm.Cond.code ({ cls := "BondWarehouseModel", name := "setRateByValue", desc := "(II)I" } : Jvm.MethodName) prog_12_method_69_code (3 : Nat) (Option.some Jvm.ClassFile.FieldType.int) ∈ TG := tg_8 82 rfl rfl
theorem kw_5_13 : Jvm.Cond.methodLink "BondWarehouseLaw" (260 : Nat) ({ cls := "BondWarehouseLaw", name := "setRateByWeight", desc := "(LBondWarehouse;II[J)I" } : Jvm.MethodName) ∈ TG := tg_5 13 rfl rfl
theorem kw_5_14 : Jvm.Cond.static ({ cls := "BondWarehouseLaw", name := "setRateByWeight", desc := "(LBondWarehouse;II[J)I" } : Jvm.MethodName) ∈ TG := tg_5 14 rfl rfl
theorem kw_5_15 : Jvm.Cond.codeWith ({ cls := "BondWarehouseLaw", name := "setRateByWeight", desc := "(LBondWarehouse;II[J)I" } : Jvm.MethodName) method_17_code (5 : Nat) (Option.some Jvm.ClassFile.FieldType.int) [((0 : Nat), (10 : Nat), (13 : Nat), (13 : Nat))] ∈ TG := tg_5 15 rfl rfl
theorem kw_8_84 : Jvm.Cond.methodLink "BondWarehouseLaw" (262 : Nat) ({ cls := "BondWarehouseModel", name := "setRateByWeight", desc := "(II)I" } : Jvm.MethodName) ∈ TG := tg_8 84 rfl rfl
theorem kw_8_85 : Jvm.Cond.instanceMethod ({ cls := "BondWarehouseModel", name := "setRateByWeight", desc := "(II)I" } : Jvm.MethodName) ∈ TG := tg_8 85 rfl rfl
theorem kw_8_86 : Jvm.Cond.selects "BondWarehouseModel" ({ cls := "BondWarehouseModel", name := "setRateByWeight", desc := "(II)I" } : Jvm.MethodName) ({ cls := "BondWarehouseModel", name := "setRateByWeight", desc := "(II)I" } : Jvm.MethodName) ∈ TG := tg_8 86 rfl rfl
theorem kw_8_87 : Jvm.Cond.code ({ cls := "BondWarehouseModel", name := "setRateByWeight", desc := "(II)I" } : Jvm.MethodName) prog_12_method_70_code (3 : Nat) (Option.some Jvm.ClassFile.FieldType.int) ∈ TG := tg_8 87 rfl rfl
theorem kw_5_24 : Jvm.Cond.methodLink "BondWarehouseLaw" (263 : Nat) ({ cls := "BondWarehouseLaw", name := "pass", desc := "(LBondWarehouse;I[J)I" } : Jvm.MethodName) ∈ TG := tg_5 24 rfl rfl
theorem kw_5_25 : Jvm.Cond.static ({ cls := "BondWarehouseLaw", name := "pass", desc := "(LBondWarehouse;I[J)I" } : Jvm.MethodName) ∈ TG := tg_5 25 rfl rfl
theorem kw_5_26 : Jvm.Cond.codeWith ({ cls := "BondWarehouseLaw", name := "pass", desc := "(LBondWarehouse;I[J)I" } : Jvm.MethodName) method_18_code (4 : Nat) (Option.some Jvm.ClassFile.FieldType.int) [((0 : Nat), (9 : Nat), (12 : Nat), (13 : Nat)), ((0 : Nat), (9 : Nat), (15 : Nat), (15 : Nat))] ∈ TG := tg_5 26 rfl rfl
theorem kw_8_89 : Jvm.Cond.methodLink "BondWarehouseLaw" (265 : Nat) ({ cls := "BondWarehouseModel", name := "pass", desc := "(I)I" } : Jvm.MethodName) ∈ TG := tg_8 89 rfl rfl
theorem kw_8_90 : Jvm.Cond.instanceMethod ({ cls := "BondWarehouseModel", name := "pass", desc := "(I)I" } : Jvm.MethodName) ∈ TG := tg_8 90 rfl rfl
theorem kw_8_91 : Jvm.Cond.selects "BondWarehouseModel" ({ cls := "BondWarehouseModel", name := "pass", desc := "(I)I" } : Jvm.MethodName) ({ cls := "BondWarehouseModel", name := "pass", desc := "(I)I" } : Jvm.MethodName) ∈ TG := tg_8 91 rfl rfl
theorem kw_8_92 : Jvm.Cond.code ({ cls := "BondWarehouseModel", name := "pass", desc := "(I)I" } : Jvm.MethodName) prog_12_method_71_code (2 : Nat) (Option.some Jvm.ClassFile.FieldType.int) ∈ TG := tg_8 92 rfl rfl
theorem kw_2_125 : Jvm.Cond.methodLink "BondWarehouseLaw" (266 : Nat) ({ cls := "BondWarehouse", name := "day", desc := "()I" } : Jvm.MethodName) ∈ TG := tg_2 125 rfl rfl
theorem kw_2_126 : Jvm.Cond.instanceMethod ({ cls := "BondWarehouse", name := "day", desc := "()I" } : Jvm.MethodName) ∈ TG := tg_2 126 rfl rfl
theorem kw_2_127 : Jvm.Cond.selects "BondWarehouse" ({ cls := "BondWarehouse", name := "day", desc := "()I" } : Jvm.MethodName) ({ cls := "BondWarehouse", name := "day", desc := "()I" } : Jvm.MethodName) ∈ TG := tg_2 127 rfl rfl
theorem kw_2_128 : Jvm.Cond.code ({ cls := "BondWarehouse", name := "day", desc := "()I" } : Jvm.MethodName) prog_1_method_18_code (1 : Nat) (Option.some Jvm.ClassFile.FieldType.int) ∈ TG := tg_2 128 rfl rfl
theorem kw_8_98 : Jvm.Cond.methodLink "BondWarehouseLaw" (269 : Nat) ({ cls := "BondWarehouseModel", name := "day", desc := "()I" } : Jvm.MethodName) ∈ TG := tg_8 98 rfl rfl
theorem kw_8_99 : Jvm.Cond.instanceMethod ({ cls := "BondWarehouseModel", name := "day", desc := "()I" } : Jvm.MethodName) ∈ TG := tg_8 99 rfl rfl
theorem kw_8_100 : Jvm.Cond.selects "BondWarehouseModel" ({ cls := "BondWarehouseModel", name := "day", desc := "()I" } : Jvm.MethodName) ({ cls := "BondWarehouseModel", name := "day", desc := "()I" } : Jvm.MethodName) ∈ TG := tg_8 100 rfl rfl
theorem kw_8_101 : Jvm.Cond.code ({ cls := "BondWarehouseModel", name := "day", desc := "()I" } : Jvm.MethodName) prog_12_method_73_code (1 : Nat) (Option.some Jvm.ClassFile.FieldType.int) ∈ TG := tg_8 101 rfl rfl
theorem kw_2_129 : Jvm.Cond.methodLink "BondWarehouseLaw" (270 : Nat) ({ cls := "BondWarehouse", name := "entries", desc := "()I" } : Jvm.MethodName) ∈ TG := tg_2 129 rfl rfl
theorem kw_2_130 : Jvm.Cond.instanceMethod ({ cls := "BondWarehouse", name := "entries", desc := "()I" } : Jvm.MethodName) ∈ TG := tg_2 130 rfl rfl
theorem kw_2_131 : Jvm.Cond.selects "BondWarehouse" ({ cls := "BondWarehouse", name := "entries", desc := "()I" } : Jvm.MethodName) ({ cls := "BondWarehouse", name := "entries", desc := "()I" } : Jvm.MethodName) ∈ TG := tg_2 131 rfl rfl
theorem kw_2_132 : Jvm.Cond.code ({ cls := "BondWarehouse", name := "entries", desc := "()I" } : Jvm.MethodName) prog_1_method_19_code (1 : Nat) (Option.some Jvm.ClassFile.FieldType.int) ∈ TG := tg_2 132 rfl rfl
theorem kw_8_106 : Jvm.Cond.methodLink "BondWarehouseLaw" (273 : Nat) ({ cls := "BondWarehouseModel", name := "entries", desc := "()I" } : Jvm.MethodName) ∈ TG := tg_8 106 rfl rfl
theorem kw_8_107 : Jvm.Cond.instanceMethod ({ cls := "BondWarehouseModel", name := "entries", desc := "()I" } : Jvm.MethodName) ∈ TG := tg_8 107 rfl rfl
theorem kw_8_108 : Jvm.Cond.selects "BondWarehouseModel" ({ cls := "BondWarehouseModel", name := "entries", desc := "()I" } : Jvm.MethodName) ({ cls := "BondWarehouseModel", name := "entries", desc := "()I" } : Jvm.MethodName) ∈ TG := tg_8 108 rfl rfl
theorem kw_8_109 : Jvm.Cond.code ({ cls := "BondWarehouseModel", name := "entries", desc := "()I" } : Jvm.MethodName) prog_12_method_74_code (1 : Nat) (Option.some Jvm.ClassFile.FieldType.int) ∈ TG := tg_8 109 rfl rfl
theorem kw_2_133 : Jvm.Cond.methodLink "BondWarehouseLaw" (274 : Nat) ({ cls := "BondWarehouse", name := "entriesMade", desc := "()I" } : Jvm.MethodName) ∈ TG := tg_2 133 rfl rfl
theorem kw_2_134 : Jvm.Cond.instanceMethod ({ cls := "BondWarehouse", name := "entriesMade", desc := "()I" } : Jvm.MethodName) ∈ TG := tg_2 134 rfl rfl
theorem kw_2_135 : Jvm.Cond.selects "BondWarehouse" ({ cls := "BondWarehouse", name := "entriesMade", desc := "()I" } : Jvm.MethodName) ({ cls := "BondWarehouse", name := "entriesMade", desc := "()I" } : Jvm.MethodName) ∈ TG := tg_2 135 rfl rfl
theorem kw_2_136 : Jvm.Cond.code ({ cls := "BondWarehouse", name := "entriesMade", desc := "()I" } : Jvm.MethodName) prog_1_method_20_code (1 : Nat) (Option.some Jvm.ClassFile.FieldType.int) ∈ TG := tg_2 136 rfl rfl
theorem kw_8_110 : Jvm.Cond.methodLink "BondWarehouseLaw" (277 : Nat) ({ cls := "BondWarehouseModel", name := "entriesMade", desc := "()I" } : Jvm.MethodName) ∈ TG := tg_8 110 rfl rfl
theorem kw_8_111 : Jvm.Cond.instanceMethod ({ cls := "BondWarehouseModel", name := "entriesMade", desc := "()I" } : Jvm.MethodName) ∈ TG := tg_8 111 rfl rfl
theorem kw_8_112 : Jvm.Cond.selects "BondWarehouseModel" ({ cls := "BondWarehouseModel", name := "entriesMade", desc := "()I" } : Jvm.MethodName) ({ cls := "BondWarehouseModel", name := "entriesMade", desc := "()I" } : Jvm.MethodName) ∈ TG := tg_8 112 rfl rfl
theorem kw_8_113 : Jvm.Cond.code ({ cls := "BondWarehouseModel", name := "entriesMade", desc := "()I" } : Jvm.MethodName) prog_12_method_75_code (1 : Nat) (Option.some Jvm.ClassFile.FieldType.int) ∈ TG := tg_8 113 rfl rfl
theorem kw_2_137 : Jvm.Cond.methodLink "BondWarehouseLaw" (278 : Nat) ({ cls := "BondWarehouse", name := "isOpenEntry", desc := "(I)Z" } : Jvm.MethodName) ∈ TG := tg_2 137 rfl rfl
theorem kw_2_138 : Jvm.Cond.instanceMethod ({ cls := "BondWarehouse", name := "isOpenEntry", desc := "(I)Z" } : Jvm.MethodName) ∈ TG := tg_2 138 rfl rfl
theorem kw_2_139 : Jvm.Cond.selects "BondWarehouse" ({ cls := "BondWarehouse", name := "isOpenEntry", desc := "(I)Z" } : Jvm.MethodName) ({ cls := "BondWarehouse", name := "isOpenEntry", desc := "(I)Z" } : Jvm.MethodName) ∈ TG := tg_2 139 rfl rfl
theorem kw_2_140 : Jvm.Cond.code ({ cls := "BondWarehouse", name := "isOpenEntry", desc := "(I)Z" } : Jvm.MethodName) prog_1_method_21_code (2 : Nat) (Option.some Jvm.ClassFile.FieldType.boolean) ∈ TG := tg_2 140 rfl rfl
theorem kw_8_114 : Jvm.Cond.methodLink "BondWarehouseLaw" (281 : Nat) ({ cls := "BondWarehouseModel", name := "isOpenEntry", desc := "(I)Z" } : Jvm.MethodName) ∈ TG := tg_8 114 rfl rfl
theorem kw_8_115 : Jvm.Cond.instanceMethod ({ cls := "BondWarehouseModel", name := "isOpenEntry", desc := "(I)Z" } : Jvm.MethodName) ∈ TG := tg_8 115 rfl rfl
theorem kw_8_116 : Jvm.Cond.selects "BondWarehouseModel" ({ cls := "BondWarehouseModel", name := "isOpenEntry", desc := "(I)Z" } : Jvm.MethodName) ({ cls := "BondWarehouseModel", name := "isOpenEntry", desc := "(I)Z" } : Jvm.MethodName) ∈ TG := tg_8 116 rfl rfl
theorem kw_8_117 : Jvm.Cond.code ({ cls := "BondWarehouseModel", name := "isOpenEntry", desc := "(I)Z" } : Jvm.MethodName) prog_12_method_76_code (2 : Nat) (Option.some Jvm.ClassFile.FieldType.boolean) ∈ TG := tg_8 117 rfl rfl
theorem kw_5_40 : Jvm.Cond.methodLink "BondWarehouseLaw" (282 : Nat) ({ cls := "BondWarehouseLaw", name := "entryAt", desc := "(LBondWarehouse;I[J)I" } : Jvm.MethodName) ∈ TG := tg_5 40 rfl rfl
theorem kw_5_41 : Jvm.Cond.static ({ cls := "BondWarehouseLaw", name := "entryAt", desc := "(LBondWarehouse;I[J)I" } : Jvm.MethodName) ∈ TG := tg_5 41 rfl rfl
theorem kw_5_42 : Jvm.Cond.codeWith ({ cls := "BondWarehouseLaw", name := "entryAt", desc := "(LBondWarehouse;I[J)I" } : Jvm.MethodName) method_19_code (4 : Nat) (Option.some Jvm.ClassFile.FieldType.int) [((0 : Nat), (9 : Nat), (12 : Nat), (21 : Nat))] ∈ TG := tg_5 42 rfl rfl
theorem kw_8_118 : Jvm.Cond.methodLink "BondWarehouseLaw" (284 : Nat) ({ cls := "BondWarehouseModel", name := "entryAt", desc := "(I)I" } : Jvm.MethodName) ∈ TG := tg_8 118 rfl rfl
theorem kw_8_119 : Jvm.Cond.instanceMethod ({ cls := "BondWarehouseModel", name := "entryAt", desc := "(I)I" } : Jvm.MethodName) ∈ TG := tg_8 119 rfl rfl
theorem kw_8_120 : Jvm.Cond.selects "BondWarehouseModel" ({ cls := "BondWarehouseModel", name := "entryAt", desc := "(I)I" } : Jvm.MethodName) ({ cls := "BondWarehouseModel", name := "entryAt", desc := "(I)I" } : Jvm.MethodName) ∈ TG := tg_8 120 rfl rfl
theorem kw_8_121 : Jvm.Cond.code ({ cls := "BondWarehouseModel", name := "entryAt", desc := "(I)I" } : Jvm.MethodName) prog_12_method_77_code (2 : Nat) (Option.some Jvm.ClassFile.FieldType.int) ∈ TG := tg_8 121 rfl rfl
theorem kw_5_48 : Jvm.Cond.methodLink "BondWarehouseLaw" (285 : Nat) ({ cls := "BondWarehouseLaw", name := "kindOf", desc := "(LBondWarehouse;I[J)I" } : Jvm.MethodName) ∈ TG := tg_5 48 rfl rfl
theorem kw_5_49 : Jvm.Cond.static ({ cls := "BondWarehouseLaw", name := "kindOf", desc := "(LBondWarehouse;I[J)I" } : Jvm.MethodName) ∈ TG := tg_5 49 rfl rfl
theorem kw_5_50 : Jvm.Cond.codeWith ({ cls := "BondWarehouseLaw", name := "kindOf", desc := "(LBondWarehouse;I[J)I" } : Jvm.MethodName) method_20_code (4 : Nat) (Option.some Jvm.ClassFile.FieldType.int) [((0 : Nat), (9 : Nat), (12 : Nat), (21 : Nat))] ∈ TG := tg_5 50 rfl rfl
theorem kw_8_122 : Jvm.Cond.methodLink "BondWarehouseLaw" (287 : Nat) ({ cls := "BondWarehouseModel", name := "kindOf", desc := "(I)I" } : Jvm.MethodName) ∈ TG := tg_8 122 rfl rfl
theorem kw_8_123 : Jvm.Cond.instanceMethod ({ cls := "BondWarehouseModel", name := "kindOf", desc := "(I)I" } : Jvm.MethodName) ∈ TG := tg_8 123 rfl rfl
theorem kw_8_124 : Jvm.Cond.selects "BondWarehouseModel" ({ cls := "BondWarehouseModel", name := "kindOf", desc := "(I)I" } : Jvm.MethodName) ({ cls := "BondWarehouseModel", name := "kindOf", desc := "(I)I" } : Jvm.MethodName) ∈ TG := tg_8 124 rfl rfl
theorem kw_8_125 : Jvm.Cond.code ({ cls := "BondWarehouseModel", name := "kindOf", desc := "(I)I" } : Jvm.MethodName) prog_12_method_79_code (2 : Nat) (Option.some Jvm.ClassFile.FieldType.int) ∈ TG := tg_8 125 rfl rfl
theorem kw_5_60 : Jvm.Cond.methodLink "BondWarehouseLaw" (288 : Nat) ({ cls := "BondWarehouseLaw", name := "weightOf", desc := "(LBondWarehouse;I[J)I" } : Jvm.MethodName) ∈ TG := tg_5 60 rfl rfl
theorem kw_5_61 : Jvm.Cond.static ({ cls := "BondWarehouseLaw", name := "weightOf", desc := "(LBondWarehouse;I[J)I" } : Jvm.MethodName) ∈ TG := tg_5 61 rfl rfl
theorem kw_5_62 : Jvm.Cond.codeWith ({ cls := "BondWarehouseLaw", name := "weightOf", desc := "(LBondWarehouse;I[J)I" } : Jvm.MethodName) method_21_code (4 : Nat) (Option.some Jvm.ClassFile.FieldType.int) [((0 : Nat), (9 : Nat), (12 : Nat), (21 : Nat))] ∈ TG := tg_5 62 rfl rfl
theorem kw_8_130 : Jvm.Cond.methodLink "BondWarehouseLaw" (290 : Nat) ({ cls := "BondWarehouseModel", name := "weightOf", desc := "(I)I" } : Jvm.MethodName) ∈ TG := tg_8 130 rfl rfl
theorem kw_8_131 : Jvm.Cond.instanceMethod ({ cls := "BondWarehouseModel", name := "weightOf", desc := "(I)I" } : Jvm.MethodName) ∈ TG := tg_8 131 rfl rfl
theorem kw_8_132 : Jvm.Cond.selects "BondWarehouseModel" ({ cls := "BondWarehouseModel", name := "weightOf", desc := "(I)I" } : Jvm.MethodName) ({ cls := "BondWarehouseModel", name := "weightOf", desc := "(I)I" } : Jvm.MethodName) ∈ TG := tg_8 132 rfl rfl
theorem kw_8_133 : Jvm.Cond.code ({ cls := "BondWarehouseModel", name := "weightOf", desc := "(I)I" } : Jvm.MethodName) prog_12_method_80_code (2 : Nat) (Option.some Jvm.ClassFile.FieldType.int) ∈ TG := tg_8 133 rfl rfl
theorem kw_5_67 : Jvm.Cond.methodLink "BondWarehouseLaw" (291 : Nat) ({ cls := "BondWarehouseLaw", name := "valueOf", desc := "(LBondWarehouse;I[J)I" } : Jvm.MethodName) ∈ TG := tg_5 67 rfl rfl
theorem kw_5_68 : Jvm.Cond.static ({ cls := "BondWarehouseLaw", name := "valueOf", desc := "(LBondWarehouse;I[J)I" } : Jvm.MethodName) ∈ TG := tg_5 68 rfl rfl
theorem kw_5_69 : Jvm.Cond.codeWith ({ cls := "BondWarehouseLaw", name := "valueOf", desc := "(LBondWarehouse;I[J)I" } : Jvm.MethodName) method_22_code (4 : Nat) (Option.some Jvm.ClassFile.FieldType.int) [((0 : Nat), (9 : Nat), (12 : Nat), (21 : Nat))] ∈ TG := tg_5 69 rfl rfl
theorem kw_8_134 : Jvm.Cond.methodLink "BondWarehouseLaw" (293 : Nat) ({ cls := "BondWarehouseModel", name := "valueOf", desc := "(I)I" } : Jvm.MethodName) ∈ TG := tg_8 134 rfl rfl
theorem kw_8_135 : Jvm.Cond.instanceMethod ({ cls := "BondWarehouseModel", name := "valueOf", desc := "(I)I" } : Jvm.MethodName) ∈ TG := tg_8 135 rfl rfl
theorem kw_8_136 : Jvm.Cond.selects "BondWarehouseModel" ({ cls := "BondWarehouseModel", name := "valueOf", desc := "(I)I" } : Jvm.MethodName) ({ cls := "BondWarehouseModel", name := "valueOf", desc := "(I)I" } : Jvm.MethodName) ∈ TG := tg_8 136 rfl rfl
theorem kw_8_137 : Jvm.Cond.code ({ cls := "BondWarehouseModel", name := "valueOf", desc := "(I)I" } : Jvm.MethodName) prog_12_method_81_code (2 : Nat) (Option.some Jvm.ClassFile.FieldType.int) ∈ TG := tg_8 137 rfl rfl
theorem hy_L_setBond : yL_setBond.cls ≠ "java/lang/invoke/MethodHandle" ∧ yL_setBond.cls ≠ "java/lang/invoke/VarHandle" ∧ (parseMethodDescriptor yL_setBond.desc).map (fun d => d.parameters.length) = some 3 := by decide +kernel
theorem hy_L_setRateByValue : yL_setRateByValue.cls ≠ "java/lang/invoke/MethodHandle" ∧ yL_setRateByValue.cls ≠ "java/lang/invoke/VarHandle" ∧ (parseMethodDescriptor yL_setRateByValue.desc).map (fun d => d.parameters.length) = some 4 := by decide +kernel
theorem hy_L_setRateByWeight : yL_setRateByWeight.cls ≠ "java/lang/invoke/MethodHandle" ∧ yL_setRateByWeight.cls ≠ "java/lang/invoke/VarHandle" ∧ (parseMethodDescriptor yL_setRateByWeight.desc).map (fun d => d.parameters.length) = some 4 := by decide +kernel
theorem hy_L_pass : yL_pass.cls ≠ "java/lang/invoke/MethodHandle" ∧ yL_pass.cls ≠ "java/lang/invoke/VarHandle" ∧ (parseMethodDescriptor yL_pass.desc).map (fun d => d.parameters.length) = some 3 := by decide +kernel
theorem hy_L_entryAt : yL_entryAt.cls ≠ "java/lang/invoke/MethodHandle" ∧ yL_entryAt.cls ≠ "java/lang/invoke/VarHandle" ∧ (parseMethodDescriptor yL_entryAt.desc).map (fun d => d.parameters.length) = some 3 := by decide +kernel
theorem hy_L_kindOf : yL_kindOf.cls ≠ "java/lang/invoke/MethodHandle" ∧ yL_kindOf.cls ≠ "java/lang/invoke/VarHandle" ∧ (parseMethodDescriptor yL_kindOf.desc).map (fun d => d.parameters.length) = some 3 := by decide +kernel
theorem hy_L_weightOf : yL_weightOf.cls ≠ "java/lang/invoke/MethodHandle" ∧ yL_weightOf.cls ≠ "java/lang/invoke/VarHandle" ∧ (parseMethodDescriptor yL_weightOf.desc).map (fun d => d.parameters.length) = some 3 := by decide +kernel
theorem hy_L_valueOf : yL_valueOf.cls ≠ "java/lang/invoke/MethodHandle" ∧ yL_valueOf.cls ≠ "java/lang/invoke/VarHandle" ∧ (parseMethodDescriptor yL_valueOf.desc).map (fun d => d.parameters.length) = some 3 := by decide +kernel
theorem dL_law_1176 : decode cL_law 1176 = .ok (.aload_n 1, 1) := by decide +kernel
theorem dL_law_1177 : decode cL_law 1177 = .ok (.aload_n 0, 1) := by decide +kernel
theorem dL_law_1178 : decode cL_law 1178 = .ok (.iload 4, 2) := by decide +kernel
theorem dL_law_1180 : decode cL_law 1180 = .ok (.iconst 1, 1) := by decide +kernel
theorem dL_law_1181 : decode cL_law 1181 = .ok (.iadd, 1) := by decide +kernel
theorem dL_law_1182 : decode cL_law 1182 = .ok (.iaload, 1) := by decide +kernel
theorem dL_law_1183 : decode cL_law 1183 = .ok (.aload_n 3, 1) := by decide +kernel
theorem dL_law_1184 : decode cL_law 1184 = .ok (.invokestatic 254, 3) := by decide +kernel
theorem dL_law_1187 : decode cL_law 1187 = .ok (.istore 5, 2) := by decide +kernel
theorem dL_law_1189 : decode cL_law 1189 = .ok (.aload_n 2, 1) := by decide +kernel
theorem dL_law_1190 : decode cL_law 1190 = .ok (.aload_n 0, 1) := by decide +kernel
theorem dL_law_1191 : decode cL_law 1191 = .ok (.iload 4, 2) := by decide +kernel
theorem dL_law_1193 : decode cL_law 1193 = .ok (.iconst 1, 1) := by decide +kernel
theorem dL_law_1194 : decode cL_law 1194 = .ok (.iadd, 1) := by decide +kernel
theorem dL_law_1195 : decode cL_law 1195 = .ok (.iaload, 1) := by decide +kernel
theorem dL_law_1196 : decode cL_law 1196 = .ok (.invokevirtual 256, 3) := by decide +kernel
theorem dL_law_1199 : decode cL_law 1199 = .ok (.istore 6, 2) := by decide +kernel
theorem dL_law_1201 : decode cL_law 1201 = .ok (.aload_n 2, 1) := by decide +kernel
theorem dL_law_1202 : decode cL_law 1202 = .ok (.invokevirtual 216, 3) := by decide +kernel
theorem dL_law_1205 : decode cL_law 1205 = .ok (.iload 5, 2) := by decide +kernel
theorem dL_law_1207 : decode cL_law 1207 = .ok (.if_icmp .eq 5, 3) := by decide +kernel
theorem dL_law_1212 : decode cL_law 1212 = .ok (.iload 5, 2) := by decide +kernel
theorem dL_law_1214 : decode cL_law 1214 = .ok (.ifCond .ne 15, 3) := by decide +kernel
theorem dL_law_1217 : decode cL_law 1217 = .ok (.aload_n 3, 1) := by decide +kernel
theorem dL_law_1218 : decode cL_law 1218 = .ok (.iconst 0, 1) := by decide +kernel
theorem dL_law_1219 : decode cL_law 1219 = .ok (.laload, 1) := by decide +kernel
theorem dL_law_1220 : decode cL_law 1220 = .ok (.iload 6, 2) := by decide +kernel
theorem dL_law_1222 : decode cL_law 1222 = .ok (.i2l, 1) := by decide +kernel
theorem dL_law_1223 : decode cL_law 1223 = .ok (.lcmp, 1) := by decide +kernel
theorem dL_law_1224 : decode cL_law 1224 = .ok (.ifCond .eq 5, 3) := by decide +kernel
theorem dL_law_1229 : decode cL_law 1229 = .ok (.goto 3232, 3) := by decide +kernel
theorem dL_law_1232 : decode cL_law 1232 = .ok (.aload_n 1, 1) := by decide +kernel
theorem dL_law_1233 : decode cL_law 1233 = .ok (.aload_n 0, 1) := by decide +kernel
theorem dL_law_1234 : decode cL_law 1234 = .ok (.iload 4, 2) := by decide +kernel
theorem dL_law_1236 : decode cL_law 1236 = .ok (.iconst 1, 1) := by decide +kernel
theorem dL_law_1237 : decode cL_law 1237 = .ok (.iadd, 1) := by decide +kernel
theorem dL_law_1238 : decode cL_law 1238 = .ok (.iaload, 1) := by decide +kernel
theorem dL_law_1239 : decode cL_law 1239 = .ok (.aload_n 0, 1) := by decide +kernel
theorem dL_law_1240 : decode cL_law 1240 = .ok (.iload 4, 2) := by decide +kernel
theorem dL_law_1242 : decode cL_law 1242 = .ok (.iconst 2, 1) := by decide +kernel
theorem dL_law_1243 : decode cL_law 1243 = .ok (.iadd, 1) := by decide +kernel
theorem dL_law_1244 : decode cL_law 1244 = .ok (.iaload, 1) := by decide +kernel
theorem dL_law_1245 : decode cL_law 1245 = .ok (.aload_n 3, 1) := by decide +kernel
theorem dL_law_1246 : decode cL_law 1246 = .ok (.invokestatic 257, 3) := by decide +kernel
theorem dL_law_1249 : decode cL_law 1249 = .ok (.istore 5, 2) := by decide +kernel
theorem dL_law_1251 : decode cL_law 1251 = .ok (.aload_n 2, 1) := by decide +kernel
theorem dL_law_1252 : decode cL_law 1252 = .ok (.aload_n 0, 1) := by decide +kernel
theorem dL_law_1253 : decode cL_law 1253 = .ok (.iload 4, 2) := by decide +kernel
theorem dL_law_1255 : decode cL_law 1255 = .ok (.iconst 1, 1) := by decide +kernel
theorem dL_law_1256 : decode cL_law 1256 = .ok (.iadd, 1) := by decide +kernel
theorem dL_law_1257 : decode cL_law 1257 = .ok (.iaload, 1) := by decide +kernel
theorem dL_law_1258 : decode cL_law 1258 = .ok (.aload_n 0, 1) := by decide +kernel
theorem dL_law_1259 : decode cL_law 1259 = .ok (.iload 4, 2) := by decide +kernel
theorem dL_law_1261 : decode cL_law 1261 = .ok (.iconst 2, 1) := by decide +kernel
theorem dL_law_1262 : decode cL_law 1262 = .ok (.iadd, 1) := by decide +kernel
theorem dL_law_1263 : decode cL_law 1263 = .ok (.iaload, 1) := by decide +kernel
theorem dL_law_1264 : decode cL_law 1264 = .ok (.invokevirtual 259, 3) := by decide +kernel
theorem dL_law_1267 : decode cL_law 1267 = .ok (.istore 6, 2) := by decide +kernel
theorem dL_law_1269 : decode cL_law 1269 = .ok (.aload_n 2, 1) := by decide +kernel
theorem dL_law_1270 : decode cL_law 1270 = .ok (.invokevirtual 216, 3) := by decide +kernel
theorem dL_law_1273 : decode cL_law 1273 = .ok (.iload 5, 2) := by decide +kernel
theorem dL_law_1275 : decode cL_law 1275 = .ok (.if_icmp .eq 5, 3) := by decide +kernel
theorem dL_law_1280 : decode cL_law 1280 = .ok (.iload 5, 2) := by decide +kernel
theorem dL_law_1282 : decode cL_law 1282 = .ok (.ifCond .ne 15, 3) := by decide +kernel
theorem dL_law_1285 : decode cL_law 1285 = .ok (.aload_n 3, 1) := by decide +kernel
theorem dL_law_1286 : decode cL_law 1286 = .ok (.iconst 0, 1) := by decide +kernel
theorem dL_law_1287 : decode cL_law 1287 = .ok (.laload, 1) := by decide +kernel
theorem dL_law_1288 : decode cL_law 1288 = .ok (.iload 6, 2) := by decide +kernel
theorem dL_law_1290 : decode cL_law 1290 = .ok (.i2l, 1) := by decide +kernel
theorem dL_law_1291 : decode cL_law 1291 = .ok (.lcmp, 1) := by decide +kernel
theorem dL_law_1292 : decode cL_law 1292 = .ok (.ifCond .eq 5, 3) := by decide +kernel
theorem dL_law_1297 : decode cL_law 1297 = .ok (.goto 3164, 3) := by decide +kernel
theorem dL_law_1300 : decode cL_law 1300 = .ok (.aload_n 1, 1) := by decide +kernel
theorem dL_law_1301 : decode cL_law 1301 = .ok (.aload_n 0, 1) := by decide +kernel
theorem dL_law_1302 : decode cL_law 1302 = .ok (.iload 4, 2) := by decide +kernel
theorem dL_law_1304 : decode cL_law 1304 = .ok (.iconst 1, 1) := by decide +kernel
theorem dL_law_1305 : decode cL_law 1305 = .ok (.iadd, 1) := by decide +kernel
theorem dL_law_1306 : decode cL_law 1306 = .ok (.iaload, 1) := by decide +kernel
theorem dL_law_1307 : decode cL_law 1307 = .ok (.aload_n 0, 1) := by decide +kernel
theorem dL_law_1308 : decode cL_law 1308 = .ok (.iload 4, 2) := by decide +kernel
theorem dL_law_1310 : decode cL_law 1310 = .ok (.iconst 2, 1) := by decide +kernel
theorem dL_law_1311 : decode cL_law 1311 = .ok (.iadd, 1) := by decide +kernel
theorem dL_law_1312 : decode cL_law 1312 = .ok (.iaload, 1) := by decide +kernel
theorem dL_law_1313 : decode cL_law 1313 = .ok (.aload_n 3, 1) := by decide +kernel
theorem dL_law_1314 : decode cL_law 1314 = .ok (.invokestatic 260, 3) := by decide +kernel
theorem dL_law_1317 : decode cL_law 1317 = .ok (.istore 5, 2) := by decide +kernel
theorem dL_law_1319 : decode cL_law 1319 = .ok (.aload_n 2, 1) := by decide +kernel
theorem dL_law_1320 : decode cL_law 1320 = .ok (.aload_n 0, 1) := by decide +kernel
theorem dL_law_1321 : decode cL_law 1321 = .ok (.iload 4, 2) := by decide +kernel
theorem dL_law_1323 : decode cL_law 1323 = .ok (.iconst 1, 1) := by decide +kernel
theorem dL_law_1324 : decode cL_law 1324 = .ok (.iadd, 1) := by decide +kernel
theorem dL_law_1325 : decode cL_law 1325 = .ok (.iaload, 1) := by decide +kernel
theorem dL_law_1326 : decode cL_law 1326 = .ok (.aload_n 0, 1) := by decide +kernel
theorem dL_law_1327 : decode cL_law 1327 = .ok (.iload 4, 2) := by decide +kernel
theorem dL_law_1329 : decode cL_law 1329 = .ok (.iconst 2, 1) := by decide +kernel
theorem dL_law_1330 : decode cL_law 1330 = .ok (.iadd, 1) := by decide +kernel
theorem dL_law_1331 : decode cL_law 1331 = .ok (.iaload, 1) := by decide +kernel
theorem dL_law_1332 : decode cL_law 1332 = .ok (.invokevirtual 262, 3) := by decide +kernel
theorem dL_law_1335 : decode cL_law 1335 = .ok (.istore 6, 2) := by decide +kernel
theorem dL_law_1337 : decode cL_law 1337 = .ok (.aload_n 2, 1) := by decide +kernel
theorem dL_law_1338 : decode cL_law 1338 = .ok (.invokevirtual 216, 3) := by decide +kernel
theorem dL_law_1341 : decode cL_law 1341 = .ok (.iload 5, 2) := by decide +kernel
theorem dL_law_1343 : decode cL_law 1343 = .ok (.if_icmp .eq 5, 3) := by decide +kernel
theorem dL_law_1348 : decode cL_law 1348 = .ok (.iload 5, 2) := by decide +kernel
theorem dL_law_1350 : decode cL_law 1350 = .ok (.ifCond .ne 15, 3) := by decide +kernel
theorem dL_law_1353 : decode cL_law 1353 = .ok (.aload_n 3, 1) := by decide +kernel
theorem dL_law_1354 : decode cL_law 1354 = .ok (.iconst 0, 1) := by decide +kernel
theorem dL_law_1355 : decode cL_law 1355 = .ok (.laload, 1) := by decide +kernel
theorem dL_law_1356 : decode cL_law 1356 = .ok (.iload 6, 2) := by decide +kernel
theorem dL_law_1358 : decode cL_law 1358 = .ok (.i2l, 1) := by decide +kernel
theorem dL_law_1359 : decode cL_law 1359 = .ok (.lcmp, 1) := by decide +kernel
theorem dL_law_1360 : decode cL_law 1360 = .ok (.ifCond .eq 5, 3) := by decide +kernel
theorem dL_law_1365 : decode cL_law 1365 = .ok (.goto 3096, 3) := by decide +kernel
theorem dL_law_1368 : decode cL_law 1368 = .ok (.aload_n 1, 1) := by decide +kernel
theorem dL_law_1369 : decode cL_law 1369 = .ok (.aload_n 0, 1) := by decide +kernel
theorem dL_law_1370 : decode cL_law 1370 = .ok (.iload 4, 2) := by decide +kernel
theorem dL_law_1372 : decode cL_law 1372 = .ok (.iconst 1, 1) := by decide +kernel
theorem dL_law_1373 : decode cL_law 1373 = .ok (.iadd, 1) := by decide +kernel
theorem dL_law_1374 : decode cL_law 1374 = .ok (.iaload, 1) := by decide +kernel
theorem dL_law_1375 : decode cL_law 1375 = .ok (.aload_n 3, 1) := by decide +kernel
theorem dL_law_1376 : decode cL_law 1376 = .ok (.invokestatic 263, 3) := by decide +kernel
theorem dL_law_1379 : decode cL_law 1379 = .ok (.istore 5, 2) := by decide +kernel
theorem dL_law_1381 : decode cL_law 1381 = .ok (.aload_n 2, 1) := by decide +kernel
theorem dL_law_1382 : decode cL_law 1382 = .ok (.aload_n 0, 1) := by decide +kernel
theorem dL_law_1383 : decode cL_law 1383 = .ok (.iload 4, 2) := by decide +kernel
theorem dL_law_1385 : decode cL_law 1385 = .ok (.iconst 1, 1) := by decide +kernel
theorem dL_law_1386 : decode cL_law 1386 = .ok (.iadd, 1) := by decide +kernel
theorem dL_law_1387 : decode cL_law 1387 = .ok (.iaload, 1) := by decide +kernel
theorem dL_law_1388 : decode cL_law 1388 = .ok (.invokevirtual 265, 3) := by decide +kernel
theorem dL_law_1391 : decode cL_law 1391 = .ok (.istore 6, 2) := by decide +kernel
theorem dL_law_1393 : decode cL_law 1393 = .ok (.aload_n 2, 1) := by decide +kernel
theorem dL_law_1394 : decode cL_law 1394 = .ok (.invokevirtual 216, 3) := by decide +kernel
theorem dL_law_1397 : decode cL_law 1397 = .ok (.iload 5, 2) := by decide +kernel
theorem dL_law_1399 : decode cL_law 1399 = .ok (.if_icmp .eq 5, 3) := by decide +kernel
theorem dL_law_1404 : decode cL_law 1404 = .ok (.iload 5, 2) := by decide +kernel
theorem dL_law_1406 : decode cL_law 1406 = .ok (.ifCond .ne 15, 3) := by decide +kernel
theorem dL_law_1409 : decode cL_law 1409 = .ok (.aload_n 3, 1) := by decide +kernel
theorem dL_law_1410 : decode cL_law 1410 = .ok (.iconst 0, 1) := by decide +kernel
theorem dL_law_1411 : decode cL_law 1411 = .ok (.laload, 1) := by decide +kernel
theorem dL_law_1412 : decode cL_law 1412 = .ok (.iload 6, 2) := by decide +kernel
theorem dL_law_1414 : decode cL_law 1414 = .ok (.i2l, 1) := by decide +kernel
theorem dL_law_1415 : decode cL_law 1415 = .ok (.lcmp, 1) := by decide +kernel
theorem dL_law_1416 : decode cL_law 1416 = .ok (.ifCond .eq 5, 3) := by decide +kernel
theorem dL_law_1421 : decode cL_law 1421 = .ok (.goto 3040, 3) := by decide +kernel
theorem dL_law_1424 : decode cL_law 1424 = .ok (.aload_n 1, 1) := by decide +kernel
theorem dL_law_1425 : decode cL_law 1425 = .ok (.invokevirtual 266, 3) := by decide +kernel
theorem dL_law_1428 : decode cL_law 1428 = .ok (.aload_n 2, 1) := by decide +kernel
theorem dL_law_1429 : decode cL_law 1429 = .ok (.invokevirtual 269, 3) := by decide +kernel
theorem dL_law_1432 : decode cL_law 1432 = .ok (.if_icmp .eq 3029, 3) := by decide +kernel
theorem dL_law_1437 : decode cL_law 1437 = .ok (.aload_n 1, 1) := by decide +kernel
theorem dL_law_1438 : decode cL_law 1438 = .ok (.invokevirtual 270, 3) := by decide +kernel
theorem dL_law_1441 : decode cL_law 1441 = .ok (.aload_n 2, 1) := by decide +kernel
theorem dL_law_1442 : decode cL_law 1442 = .ok (.invokevirtual 273, 3) := by decide +kernel
theorem dL_law_1445 : decode cL_law 1445 = .ok (.if_icmp .eq 3016, 3) := by decide +kernel
theorem dL_law_1450 : decode cL_law 1450 = .ok (.aload_n 1, 1) := by decide +kernel
theorem dL_law_1451 : decode cL_law 1451 = .ok (.invokevirtual 274, 3) := by decide +kernel
theorem dL_law_1454 : decode cL_law 1454 = .ok (.aload_n 2, 1) := by decide +kernel
theorem dL_law_1455 : decode cL_law 1455 = .ok (.invokevirtual 277, 3) := by decide +kernel
theorem dL_law_1458 : decode cL_law 1458 = .ok (.if_icmp .eq 3003, 3) := by decide +kernel
theorem dL_law_1463 : decode cL_law 1463 = .ok (.aload_n 1, 1) := by decide +kernel
theorem dL_law_1464 : decode cL_law 1464 = .ok (.aload_n 0, 1) := by decide +kernel
theorem dL_law_1465 : decode cL_law 1465 = .ok (.iload 4, 2) := by decide +kernel
theorem dL_law_1467 : decode cL_law 1467 = .ok (.iconst 1, 1) := by decide +kernel
theorem dL_law_1468 : decode cL_law 1468 = .ok (.iadd, 1) := by decide +kernel
theorem dL_law_1469 : decode cL_law 1469 = .ok (.iaload, 1) := by decide +kernel
theorem dL_law_1470 : decode cL_law 1470 = .ok (.invokevirtual 278, 3) := by decide +kernel
theorem dL_law_1473 : decode cL_law 1473 = .ok (.aload_n 2, 1) := by decide +kernel
theorem dL_law_1474 : decode cL_law 1474 = .ok (.aload_n 0, 1) := by decide +kernel
theorem dL_law_1475 : decode cL_law 1475 = .ok (.iload 4, 2) := by decide +kernel
theorem dL_law_1477 : decode cL_law 1477 = .ok (.iconst 1, 1) := by decide +kernel
theorem dL_law_1478 : decode cL_law 1478 = .ok (.iadd, 1) := by decide +kernel
theorem dL_law_1479 : decode cL_law 1479 = .ok (.iaload, 1) := by decide +kernel
theorem dL_law_1480 : decode cL_law 1480 = .ok (.invokevirtual 281, 3) := by decide +kernel
theorem dL_law_1483 : decode cL_law 1483 = .ok (.if_icmp .eq 2978, 3) := by decide +kernel
theorem dL_law_1488 : decode cL_law 1488 = .ok (.aload_n 1, 1) := by decide +kernel
theorem dL_law_1489 : decode cL_law 1489 = .ok (.aload_n 0, 1) := by decide +kernel
theorem dL_law_1490 : decode cL_law 1490 = .ok (.iload 4, 2) := by decide +kernel
theorem dL_law_1492 : decode cL_law 1492 = .ok (.iconst 1, 1) := by decide +kernel
theorem dL_law_1493 : decode cL_law 1493 = .ok (.iadd, 1) := by decide +kernel
theorem dL_law_1494 : decode cL_law 1494 = .ok (.iaload, 1) := by decide +kernel
theorem dL_law_1495 : decode cL_law 1495 = .ok (.aload_n 3, 1) := by decide +kernel
theorem dL_law_1496 : decode cL_law 1496 = .ok (.invokestatic 282, 3) := by decide +kernel
theorem dL_law_1499 : decode cL_law 1499 = .ok (.istore 5, 2) := by decide +kernel
theorem dL_law_1501 : decode cL_law 1501 = .ok (.aload_n 2, 1) := by decide +kernel
theorem dL_law_1502 : decode cL_law 1502 = .ok (.aload_n 0, 1) := by decide +kernel
theorem dL_law_1503 : decode cL_law 1503 = .ok (.iload 4, 2) := by decide +kernel
theorem dL_law_1505 : decode cL_law 1505 = .ok (.iconst 1, 1) := by decide +kernel
theorem dL_law_1506 : decode cL_law 1506 = .ok (.iadd, 1) := by decide +kernel
theorem dL_law_1507 : decode cL_law 1507 = .ok (.iaload, 1) := by decide +kernel
theorem dL_law_1508 : decode cL_law 1508 = .ok (.invokevirtual 284, 3) := by decide +kernel
theorem dL_law_1511 : decode cL_law 1511 = .ok (.istore 6, 2) := by decide +kernel
theorem dL_law_1513 : decode cL_law 1513 = .ok (.aload_n 2, 1) := by decide +kernel
theorem dL_law_1514 : decode cL_law 1514 = .ok (.invokevirtual 216, 3) := by decide +kernel
theorem dL_law_1517 : decode cL_law 1517 = .ok (.iload 5, 2) := by decide +kernel
theorem dL_law_1519 : decode cL_law 1519 = .ok (.if_icmp .eq 5, 3) := by decide +kernel
theorem dL_law_1524 : decode cL_law 1524 = .ok (.iload 5, 2) := by decide +kernel
theorem dL_law_1526 : decode cL_law 1526 = .ok (.ifCond .ne 15, 3) := by decide +kernel
theorem dL_law_1529 : decode cL_law 1529 = .ok (.aload_n 3, 1) := by decide +kernel
theorem dL_law_1530 : decode cL_law 1530 = .ok (.iconst 0, 1) := by decide +kernel
theorem dL_law_1531 : decode cL_law 1531 = .ok (.laload, 1) := by decide +kernel
theorem dL_law_1532 : decode cL_law 1532 = .ok (.iload 6, 2) := by decide +kernel
theorem dL_law_1534 : decode cL_law 1534 = .ok (.i2l, 1) := by decide +kernel
theorem dL_law_1535 : decode cL_law 1535 = .ok (.lcmp, 1) := by decide +kernel
theorem dL_law_1536 : decode cL_law 1536 = .ok (.ifCond .eq 5, 3) := by decide +kernel
theorem dL_law_1541 : decode cL_law 1541 = .ok (.goto 2920, 3) := by decide +kernel
theorem dL_law_1544 : decode cL_law 1544 = .ok (.aload_n 1, 1) := by decide +kernel
theorem dL_law_1545 : decode cL_law 1545 = .ok (.aload_n 0, 1) := by decide +kernel
theorem dL_law_1546 : decode cL_law 1546 = .ok (.iload 4, 2) := by decide +kernel
theorem dL_law_1548 : decode cL_law 1548 = .ok (.iconst 1, 1) := by decide +kernel
theorem dL_law_1549 : decode cL_law 1549 = .ok (.iadd, 1) := by decide +kernel
theorem dL_law_1550 : decode cL_law 1550 = .ok (.iaload, 1) := by decide +kernel
theorem dL_law_1551 : decode cL_law 1551 = .ok (.aload_n 3, 1) := by decide +kernel
theorem dL_law_1552 : decode cL_law 1552 = .ok (.invokestatic 285, 3) := by decide +kernel
theorem dL_law_1555 : decode cL_law 1555 = .ok (.istore 5, 2) := by decide +kernel
theorem dL_law_1557 : decode cL_law 1557 = .ok (.aload_n 2, 1) := by decide +kernel
theorem dL_law_1558 : decode cL_law 1558 = .ok (.aload_n 0, 1) := by decide +kernel
theorem dL_law_1559 : decode cL_law 1559 = .ok (.iload 4, 2) := by decide +kernel
theorem dL_law_1561 : decode cL_law 1561 = .ok (.iconst 1, 1) := by decide +kernel
theorem dL_law_1562 : decode cL_law 1562 = .ok (.iadd, 1) := by decide +kernel
theorem dL_law_1563 : decode cL_law 1563 = .ok (.iaload, 1) := by decide +kernel
theorem dL_law_1564 : decode cL_law 1564 = .ok (.invokevirtual 287, 3) := by decide +kernel
theorem dL_law_1567 : decode cL_law 1567 = .ok (.istore 6, 2) := by decide +kernel
theorem dL_law_1569 : decode cL_law 1569 = .ok (.aload_n 2, 1) := by decide +kernel
theorem dL_law_1570 : decode cL_law 1570 = .ok (.invokevirtual 216, 3) := by decide +kernel
theorem dL_law_1573 : decode cL_law 1573 = .ok (.iload 5, 2) := by decide +kernel
theorem dL_law_1575 : decode cL_law 1575 = .ok (.if_icmp .eq 5, 3) := by decide +kernel
theorem dL_law_1580 : decode cL_law 1580 = .ok (.iload 5, 2) := by decide +kernel
theorem dL_law_1582 : decode cL_law 1582 = .ok (.ifCond .ne 15, 3) := by decide +kernel
theorem dL_law_1585 : decode cL_law 1585 = .ok (.aload_n 3, 1) := by decide +kernel
theorem dL_law_1586 : decode cL_law 1586 = .ok (.iconst 0, 1) := by decide +kernel
theorem dL_law_1587 : decode cL_law 1587 = .ok (.laload, 1) := by decide +kernel
theorem dL_law_1588 : decode cL_law 1588 = .ok (.iload 6, 2) := by decide +kernel
theorem dL_law_1590 : decode cL_law 1590 = .ok (.i2l, 1) := by decide +kernel
theorem dL_law_1591 : decode cL_law 1591 = .ok (.lcmp, 1) := by decide +kernel
theorem dL_law_1592 : decode cL_law 1592 = .ok (.ifCond .eq 5, 3) := by decide +kernel
theorem dL_law_1597 : decode cL_law 1597 = .ok (.goto 2864, 3) := by decide +kernel
theorem dL_law_1600 : decode cL_law 1600 = .ok (.aload_n 1, 1) := by decide +kernel
theorem dL_law_1601 : decode cL_law 1601 = .ok (.aload_n 0, 1) := by decide +kernel
theorem dL_law_1602 : decode cL_law 1602 = .ok (.iload 4, 2) := by decide +kernel
theorem dL_law_1604 : decode cL_law 1604 = .ok (.iconst 1, 1) := by decide +kernel
theorem dL_law_1605 : decode cL_law 1605 = .ok (.iadd, 1) := by decide +kernel
theorem dL_law_1606 : decode cL_law 1606 = .ok (.iaload, 1) := by decide +kernel
theorem dL_law_1607 : decode cL_law 1607 = .ok (.aload_n 3, 1) := by decide +kernel
theorem dL_law_1608 : decode cL_law 1608 = .ok (.invokestatic 288, 3) := by decide +kernel
theorem dL_law_1611 : decode cL_law 1611 = .ok (.istore 5, 2) := by decide +kernel
theorem dL_law_1613 : decode cL_law 1613 = .ok (.aload_n 2, 1) := by decide +kernel
theorem dL_law_1614 : decode cL_law 1614 = .ok (.aload_n 0, 1) := by decide +kernel
theorem dL_law_1615 : decode cL_law 1615 = .ok (.iload 4, 2) := by decide +kernel
theorem dL_law_1617 : decode cL_law 1617 = .ok (.iconst 1, 1) := by decide +kernel
theorem dL_law_1618 : decode cL_law 1618 = .ok (.iadd, 1) := by decide +kernel
theorem dL_law_1619 : decode cL_law 1619 = .ok (.iaload, 1) := by decide +kernel
theorem dL_law_1620 : decode cL_law 1620 = .ok (.invokevirtual 290, 3) := by decide +kernel
theorem dL_law_1623 : decode cL_law 1623 = .ok (.istore 6, 2) := by decide +kernel
theorem dL_law_1625 : decode cL_law 1625 = .ok (.aload_n 2, 1) := by decide +kernel
theorem dL_law_1626 : decode cL_law 1626 = .ok (.invokevirtual 216, 3) := by decide +kernel
theorem dL_law_1629 : decode cL_law 1629 = .ok (.iload 5, 2) := by decide +kernel
theorem dL_law_1631 : decode cL_law 1631 = .ok (.if_icmp .eq 5, 3) := by decide +kernel
theorem dL_law_1636 : decode cL_law 1636 = .ok (.iload 5, 2) := by decide +kernel
theorem dL_law_1638 : decode cL_law 1638 = .ok (.ifCond .ne 15, 3) := by decide +kernel
theorem dL_law_1641 : decode cL_law 1641 = .ok (.aload_n 3, 1) := by decide +kernel
theorem dL_law_1642 : decode cL_law 1642 = .ok (.iconst 0, 1) := by decide +kernel
theorem dL_law_1643 : decode cL_law 1643 = .ok (.laload, 1) := by decide +kernel
theorem dL_law_1644 : decode cL_law 1644 = .ok (.iload 6, 2) := by decide +kernel
theorem dL_law_1646 : decode cL_law 1646 = .ok (.i2l, 1) := by decide +kernel
theorem dL_law_1647 : decode cL_law 1647 = .ok (.lcmp, 1) := by decide +kernel
theorem dL_law_1648 : decode cL_law 1648 = .ok (.ifCond .eq 5, 3) := by decide +kernel
theorem dL_law_1653 : decode cL_law 1653 = .ok (.goto 2808, 3) := by decide +kernel
theorem dL_law_1656 : decode cL_law 1656 = .ok (.aload_n 1, 1) := by decide +kernel
theorem dL_law_1657 : decode cL_law 1657 = .ok (.aload_n 0, 1) := by decide +kernel
theorem dL_law_1658 : decode cL_law 1658 = .ok (.iload 4, 2) := by decide +kernel
theorem dL_law_1660 : decode cL_law 1660 = .ok (.iconst 1, 1) := by decide +kernel
theorem dL_law_1661 : decode cL_law 1661 = .ok (.iadd, 1) := by decide +kernel
theorem dL_law_1662 : decode cL_law 1662 = .ok (.iaload, 1) := by decide +kernel
theorem dL_law_1663 : decode cL_law 1663 = .ok (.aload_n 3, 1) := by decide +kernel
theorem dL_law_1664 : decode cL_law 1664 = .ok (.invokestatic 291, 3) := by decide +kernel
theorem dL_law_1667 : decode cL_law 1667 = .ok (.istore 5, 2) := by decide +kernel
theorem dL_law_1669 : decode cL_law 1669 = .ok (.aload_n 2, 1) := by decide +kernel
theorem dL_law_1670 : decode cL_law 1670 = .ok (.aload_n 0, 1) := by decide +kernel
theorem dL_law_1671 : decode cL_law 1671 = .ok (.iload 4, 2) := by decide +kernel
theorem dL_law_1673 : decode cL_law 1673 = .ok (.iconst 1, 1) := by decide +kernel
theorem dL_law_1674 : decode cL_law 1674 = .ok (.iadd, 1) := by decide +kernel
theorem dL_law_1675 : decode cL_law 1675 = .ok (.iaload, 1) := by decide +kernel
theorem dL_law_1676 : decode cL_law 1676 = .ok (.invokevirtual 293, 3) := by decide +kernel
theorem dL_law_1679 : decode cL_law 1679 = .ok (.istore 6, 2) := by decide +kernel
theorem dL_law_1681 : decode cL_law 1681 = .ok (.aload_n 2, 1) := by decide +kernel
theorem dL_law_1682 : decode cL_law 1682 = .ok (.invokevirtual 216, 3) := by decide +kernel
theorem dL_law_1685 : decode cL_law 1685 = .ok (.iload 5, 2) := by decide +kernel
theorem dL_law_1687 : decode cL_law 1687 = .ok (.if_icmp .eq 5, 3) := by decide +kernel
theorem dL_law_1692 : decode cL_law 1692 = .ok (.iload 5, 2) := by decide +kernel
theorem dL_law_1694 : decode cL_law 1694 = .ok (.ifCond .ne 15, 3) := by decide +kernel
theorem dL_law_1697 : decode cL_law 1697 = .ok (.aload_n 3, 1) := by decide +kernel
theorem dL_law_1698 : decode cL_law 1698 = .ok (.iconst 0, 1) := by decide +kernel
theorem dL_law_1699 : decode cL_law 1699 = .ok (.laload, 1) := by decide +kernel
theorem dL_law_1700 : decode cL_law 1700 = .ok (.iload 6, 2) := by decide +kernel
theorem dL_law_1702 : decode cL_law 1702 = .ok (.i2l, 1) := by decide +kernel
theorem dL_law_1703 : decode cL_law 1703 = .ok (.lcmp, 1) := by decide +kernel
theorem dL_law_1704 : decode cL_law 1704 = .ok (.ifCond .eq 5, 3) := by decide +kernel
theorem dL_law_1709 : decode cL_law 1709 = .ok (.goto 2752, 3) := by decide +kernel
section CASE1
variable {p : Program} {l : Launch} {e : Env} {s : State} {m : MethodId} {args : Array Value} {below : List Frame} {meth : Method} {c : Code} {cells slots : Nat} {Q : State → Prop}
variable {D : va_G} {cA : Nat → ClassId} {ad : Nat → Nat → Nat} {A AC AM : Nat → Prop} {ob : Nat} {cO : ClassId}
variable {mc mm : Mm} {v : Int64} {b L i a s0 : Nat} {xs : Nat → Int32}
set_option maxRecDepth 100000 in
set_option maxHeartbeats 4000000 in
theorem case_12 (C : LC p l s m args c D cA ad A AC AM ob cO b L xs) (h : Hy a s0 mc mm (Rel (a + 400000) (s0 + 64))) (hi : i + 4 < L) (hroom : cells + 2 ≤ room_1.cells ∧ slots + 12 ≤ room_1.slots) (kk : ∀ (mc' mm' : Mm) (v' : Int64), Rel (a + 400000) (s0 + 64) mc' mm' → V p l e room_1 s m args below meth c Q 9 A (cells + 2) (slots + 12) (PL D cA ad ob cO mc' mm' v') 4461 (lvL ad ob b i) []) : V p l e room_1 s m args below meth c Q 9 A cells slots (PL D cA ad ob cO mc mm v) 1176 (lvL ad ob b i) [] := by
  have C0 := C
  obtain ⟨X, hA, hW, hZ, hX, hb1, hst, hL⟩ := C
  have hroom0 : cells ≤ room_1.cells ∧ slots ≤ room_1.slots := ⟨by omega, by omega⟩
  refine q_aload_n (j := 3) X dL_law_1176 rfl rfl ?_
  refine qL_arg C0 1 (j0 := 4) (j4 := 0) rfl (by decide) dL_law_1177 dL_law_1178 dL_law_1180 dL_law_1181 dL_law_1182 rfl rfl hi ?_
  refine q_aload_n (j := 1) X dL_law_1183 rfl rfl ?_
  refine qL_w X hA hW hZ [.ref (ad 0 1), .int (xs (i + 1)), .ref ob] rfl rfl dL_law_1184 hroom (k_L_setBond hA.1 hA.2.2.1.1 hst (xs (i + 1)) mc v _ _ (J_setBond h (xs (i + 1))) (fun _ _ hx => hx.1)) rfl rfl (gSW kw_4_229 kw_4_230 kw_1_0 kw_4_231) hy_L_setBond ⟨(Nat.le_of_ble_eq_true rfl), (Nat.le_of_ble_eq_true rfl)⟩ (fun k mc' v' hq => ?_)
  refine q_istore X dL_law_1187 (Nat.le_of_ble_eq_true rfl) rfl ?_
  refine q_aload_n (j := 3) X dL_law_1189 rfl rfl ?_
  refine qL_arg C0 1 (j0 := 5) (j4 := 1) rfl (by decide) dL_law_1190 dL_law_1191 dL_law_1193 dL_law_1194 dL_law_1195 rfl rfl hi ?_
  have hroom1 : cells + 2 ≤ room_1.cells ∧ slots + 12 ≤ room_1.slots := hroom
  rcases hq with ⟨rfl, r, rfl, hj⟩ | ⟨hk0, k0, hk, hj⟩
  · skip
    unfold jq at hj
    refine qL_m X hA hW [.int (xs (i + 1))] [] rfl rfl (Nat.le_of_ble_eq_true rfl) dL_law_1196 hroom1 (c_X10_setBond hA.2.1 (xs (i + 1)) mm _ hj) rfl rfl (gV kw_8_70 kw_8_71 kw_8_72 kw_1_11 kw_8_73) hy_X10_setBond ⟨(Nat.le_of_ble_eq_true rfl), (Nat.le_of_ble_eq_true rfl)⟩ (fun b9 mm9 hb => ?_)
    obtain ⟨h1, rfl, hK⟩ := hb
    refine q_istore X dL_law_1199 (Nat.le_of_ble_eq_true rfl) rfl ?_
    exact tailI C0 hroom1 ⟨(Nat.le_of_ble_eq_true rfl), (Nat.le_of_ble_eq_true rfl)⟩ h1 (fun _ => rfl) dL_law_1201 dL_law_1202 dL_law_1205 dL_law_1207 dL_law_1212 dL_law_1214 dL_law_1217 dL_law_1218 dL_law_1219 dL_law_1220 dL_law_1222 dL_law_1223 dL_law_1224 dL_law_1229 (by decide) (kk _ _ _ hK)
  · obtain ⟨_, hj⟩ := hj
    unfold jx at hj
    refine qL_m X hA hW [.int (xs (i + 1))] [] rfl rfl (Nat.le_of_ble_eq_true rfl) dL_law_1196 hroom1 (c_X10_setBond hA.2.1 (xs (i + 1)) mm _ hj) rfl rfl (gV kw_8_70 kw_8_71 kw_8_72 kw_1_11 kw_8_73) hy_X10_setBond ⟨(Nat.le_of_ble_eq_true rfl), (Nat.le_of_ble_eq_true rfl)⟩ (fun b9 mm9 hb => ?_)
    obtain ⟨h1, hK⟩ := hb
    refine q_istore X dL_law_1199 (Nat.le_of_ble_eq_true rfl) rfl ?_
    exact tailI C0 hroom1 ⟨(Nat.le_of_ble_eq_true rfl), (Nat.le_of_ble_eq_true rfl)⟩ (h1.trans hk.symm) (fun h0 => absurd h0 hk0) dL_law_1201 dL_law_1202 dL_law_1205 dL_law_1207 dL_law_1212 dL_law_1214 dL_law_1217 dL_law_1218 dL_law_1219 dL_law_1220 dL_law_1222 dL_law_1223 dL_law_1224 dL_law_1229 (by decide) (kk _ _ _ hK)
set_option maxRecDepth 100000 in
set_option maxHeartbeats 4000000 in
theorem case_13 (C : LC p l s m args c D cA ad A AC AM ob cO b L xs) (h : Hy a s0 mc mm (Rel (a + 400000) (s0 + 64))) (hi : i + 4 < L) (hroom : cells + 2 ≤ room_1.cells ∧ slots + 12 ≤ room_1.slots) (kk : ∀ (mc' mm' : Mm) (v' : Int64), Rel (a + 400000) (s0 + 64) mc' mm' → V p l e room_1 s m args below meth c Q 9 A (cells + 2) (slots + 12) (PL D cA ad ob cO mc' mm' v') 4461 (lvL ad ob b i) []) : V p l e room_1 s m args below meth c Q 9 A cells slots (PL D cA ad ob cO mc mm v) 1232 (lvL ad ob b i) [] := by
  have C0 := C
  obtain ⟨X, hA, hW, hZ, hX, hb1, hst, hL⟩ := C
  have hroom0 : cells ≤ room_1.cells ∧ slots ≤ room_1.slots := ⟨by omega, by omega⟩
  refine q_aload_n (j := 3) X dL_law_1232 rfl rfl ?_
  refine qL_arg C0 1 (j0 := 4) (j4 := 0) rfl (by decide) dL_law_1233 dL_law_1234 dL_law_1236 dL_law_1237 dL_law_1238 rfl rfl hi ?_
  refine qL_arg C0 2 (j0 := 4) (j4 := 0) rfl (by decide) dL_law_1239 dL_law_1240 dL_law_1242 dL_law_1243 dL_law_1244 rfl rfl hi ?_
  refine q_aload_n (j := 1) X dL_law_1245 rfl rfl ?_
  refine qL_w X hA hW hZ [.ref (ad 0 1), .int (xs (i + 1)), .int (xs (i + 2)), .ref ob] rfl rfl dL_law_1246 hroom (k_L_setRateByValue hA.1 hA.2.2.1.1 hst (xs (i + 1)) (xs (i + 2)) mc v _ _ (J_setRateByValue h (xs (i + 1)) (xs (i + 2))) (fun _ _ hx => hx.1)) rfl rfl (gSW kw_5_2 kw_5_3 kw_1_0 kw_5_4) hy_L_setRateByValue ⟨(Nat.le_of_ble_eq_true rfl), (Nat.le_of_ble_eq_true rfl)⟩ (fun k mc' v' hq => ?_)
  refine q_istore X dL_law_1249 (Nat.le_of_ble_eq_true rfl) rfl ?_
  refine q_aload_n (j := 3) X dL_law_1251 rfl rfl ?_
  refine qL_arg C0 1 (j0 := 5) (j4 := 1) rfl (by decide) dL_law_1252 dL_law_1253 dL_law_1255 dL_law_1256 dL_law_1257 rfl rfl hi ?_
  refine qL_arg C0 2 (j0 := 5) (j4 := 1) rfl (by decide) dL_law_1258 dL_law_1259 dL_law_1261 dL_law_1262 dL_law_1263 rfl rfl hi ?_
  have hroom1 : cells + 2 ≤ room_1.cells ∧ slots + 12 ≤ room_1.slots := hroom
  rcases hq with ⟨rfl, r, rfl, hj⟩ | ⟨hk0, k0, hk, hj⟩
  · skip
    unfold jq at hj
    refine qL_m X hA hW [.int (xs (i + 1)), .int (xs (i + 2))] [] rfl rfl (Nat.le_of_ble_eq_true rfl) dL_law_1264 hroom1 (c_X10_setRateByValue hA.2.1 (xs (i + 1)) (xs (i + 2)) mm _ hj) rfl rfl (gV kw_8_79 kw_8_80 kw_8_81 kw_1_11 kw_8_82) hy_X10_setRateByValue ⟨(Nat.le_of_ble_eq_true rfl), (Nat.le_of_ble_eq_true rfl)⟩ (fun b9 mm9 hb => ?_)
    obtain ⟨h1, rfl, hK⟩ := hb
    refine q_istore X dL_law_1267 (Nat.le_of_ble_eq_true rfl) rfl ?_
    exact tailI C0 hroom1 ⟨(Nat.le_of_ble_eq_true rfl), (Nat.le_of_ble_eq_true rfl)⟩ h1 (fun _ => rfl) dL_law_1269 dL_law_1270 dL_law_1273 dL_law_1275 dL_law_1280 dL_law_1282 dL_law_1285 dL_law_1286 dL_law_1287 dL_law_1288 dL_law_1290 dL_law_1291 dL_law_1292 dL_law_1297 (by decide) (kk _ _ _ hK)
  · obtain ⟨_, hj⟩ := hj
    unfold jx at hj
    refine qL_m X hA hW [.int (xs (i + 1)), .int (xs (i + 2))] [] rfl rfl (Nat.le_of_ble_eq_true rfl) dL_law_1264 hroom1 (c_X10_setRateByValue hA.2.1 (xs (i + 1)) (xs (i + 2)) mm _ hj) rfl rfl (gV kw_8_79 kw_8_80 kw_8_81 kw_1_11 kw_8_82) hy_X10_setRateByValue ⟨(Nat.le_of_ble_eq_true rfl), (Nat.le_of_ble_eq_true rfl)⟩ (fun b9 mm9 hb => ?_)
    obtain ⟨h1, hK⟩ := hb
    refine q_istore X dL_law_1267 (Nat.le_of_ble_eq_true rfl) rfl ?_
    exact tailI C0 hroom1 ⟨(Nat.le_of_ble_eq_true rfl), (Nat.le_of_ble_eq_true rfl)⟩ (h1.trans hk.symm) (fun h0 => absurd h0 hk0) dL_law_1269 dL_law_1270 dL_law_1273 dL_law_1275 dL_law_1280 dL_law_1282 dL_law_1285 dL_law_1286 dL_law_1287 dL_law_1288 dL_law_1290 dL_law_1291 dL_law_1292 dL_law_1297 (by decide) (kk _ _ _ hK)
set_option maxRecDepth 100000 in
set_option maxHeartbeats 4000000 in
theorem case_14 (C : LC p l s m args c D cA ad A AC AM ob cO b L xs) (h : Hy a s0 mc mm (Rel (a + 400000) (s0 + 64))) (hi : i + 4 < L) (hroom : cells + 2 ≤ room_1.cells ∧ slots + 12 ≤ room_1.slots) (kk : ∀ (mc' mm' : Mm) (v' : Int64), Rel (a + 400000) (s0 + 64) mc' mm' → V p l e room_1 s m args below meth c Q 9 A (cells + 2) (slots + 12) (PL D cA ad ob cO mc' mm' v') 4461 (lvL ad ob b i) []) : V p l e room_1 s m args below meth c Q 9 A cells slots (PL D cA ad ob cO mc mm v) 1300 (lvL ad ob b i) [] := by
  have C0 := C
  obtain ⟨X, hA, hW, hZ, hX, hb1, hst, hL⟩ := C
  have hroom0 : cells ≤ room_1.cells ∧ slots ≤ room_1.slots := ⟨by omega, by omega⟩
  refine q_aload_n (j := 3) X dL_law_1300 rfl rfl ?_
  refine qL_arg C0 1 (j0 := 4) (j4 := 0) rfl (by decide) dL_law_1301 dL_law_1302 dL_law_1304 dL_law_1305 dL_law_1306 rfl rfl hi ?_
  refine qL_arg C0 2 (j0 := 4) (j4 := 0) rfl (by decide) dL_law_1307 dL_law_1308 dL_law_1310 dL_law_1311 dL_law_1312 rfl rfl hi ?_
  refine q_aload_n (j := 1) X dL_law_1313 rfl rfl ?_
  refine qL_w X hA hW hZ [.ref (ad 0 1), .int (xs (i + 1)), .int (xs (i + 2)), .ref ob] rfl rfl dL_law_1314 hroom (k_L_setRateByWeight hA.1 hA.2.2.1.1 hst (xs (i + 1)) (xs (i + 2)) mc v _ _ (J_setRateByWeight h (xs (i + 1)) (xs (i + 2))) (fun _ _ hx => hx.1)) rfl rfl (gSW kw_5_13 kw_5_14 kw_1_0 kw_5_15) hy_L_setRateByWeight ⟨(Nat.le_of_ble_eq_true rfl), (Nat.le_of_ble_eq_true rfl)⟩ (fun k mc' v' hq => ?_)
  refine q_istore X dL_law_1317 (Nat.le_of_ble_eq_true rfl) rfl ?_
  refine q_aload_n (j := 3) X dL_law_1319 rfl rfl ?_
  refine qL_arg C0 1 (j0 := 5) (j4 := 1) rfl (by decide) dL_law_1320 dL_law_1321 dL_law_1323 dL_law_1324 dL_law_1325 rfl rfl hi ?_
  refine qL_arg C0 2 (j0 := 5) (j4 := 1) rfl (by decide) dL_law_1326 dL_law_1327 dL_law_1329 dL_law_1330 dL_law_1331 rfl rfl hi ?_
  have hroom1 : cells + 2 ≤ room_1.cells ∧ slots + 12 ≤ room_1.slots := hroom
  rcases hq with ⟨rfl, r, rfl, hj⟩ | ⟨hk0, k0, hk, hj⟩
  · skip
    unfold jq at hj
    refine qL_m X hA hW [.int (xs (i + 1)), .int (xs (i + 2))] [] rfl rfl (Nat.le_of_ble_eq_true rfl) dL_law_1332 hroom1 (c_X10_setRateByWeight hA.2.1 (xs (i + 1)) (xs (i + 2)) mm _ hj) rfl rfl (gV kw_8_84 kw_8_85 kw_8_86 kw_1_11 kw_8_87) hy_X10_setRateByWeight ⟨(Nat.le_of_ble_eq_true rfl), (Nat.le_of_ble_eq_true rfl)⟩ (fun b9 mm9 hb => ?_)
    obtain ⟨h1, rfl, hK⟩ := hb
    refine q_istore X dL_law_1335 (Nat.le_of_ble_eq_true rfl) rfl ?_
    exact tailI C0 hroom1 ⟨(Nat.le_of_ble_eq_true rfl), (Nat.le_of_ble_eq_true rfl)⟩ h1 (fun _ => rfl) dL_law_1337 dL_law_1338 dL_law_1341 dL_law_1343 dL_law_1348 dL_law_1350 dL_law_1353 dL_law_1354 dL_law_1355 dL_law_1356 dL_law_1358 dL_law_1359 dL_law_1360 dL_law_1365 (by decide) (kk _ _ _ hK)
  · obtain ⟨_, hj⟩ := hj
    unfold jx at hj
    refine qL_m X hA hW [.int (xs (i + 1)), .int (xs (i + 2))] [] rfl rfl (Nat.le_of_ble_eq_true rfl) dL_law_1332 hroom1 (c_X10_setRateByWeight hA.2.1 (xs (i + 1)) (xs (i + 2)) mm _ hj) rfl rfl (gV kw_8_84 kw_8_85 kw_8_86 kw_1_11 kw_8_87) hy_X10_setRateByWeight ⟨(Nat.le_of_ble_eq_true rfl), (Nat.le_of_ble_eq_true rfl)⟩ (fun b9 mm9 hb => ?_)
    obtain ⟨h1, hK⟩ := hb
    refine q_istore X dL_law_1335 (Nat.le_of_ble_eq_true rfl) rfl ?_
    exact tailI C0 hroom1 ⟨(Nat.le_of_ble_eq_true rfl), (Nat.le_of_ble_eq_true rfl)⟩ (h1.trans hk.symm) (fun h0 => absurd h0 hk0) dL_law_1337 dL_law_1338 dL_law_1341 dL_law_1343 dL_law_1348 dL_law_1350 dL_law_1353 dL_law_1354 dL_law_1355 dL_law_1356 dL_law_1358 dL_law_1359 dL_law_1360 dL_law_1365 (by decide) (kk _ _ _ hK)
set_option maxRecDepth 100000 in
set_option maxHeartbeats 4000000 in
theorem case_15 (C : LC p l s m args c D cA ad A AC AM ob cO b L xs) (h : Hy a s0 mc mm (Rel (a + 400000) (s0 + 64))) (hi : i + 4 < L) (hroom : cells + 2 ≤ room_1.cells ∧ slots + 12 ≤ room_1.slots) (kk : ∀ (mc' mm' : Mm) (v' : Int64), Rel (a + 400000) (s0 + 64) mc' mm' → V p l e room_1 s m args below meth c Q 9 A (cells + 2) (slots + 12) (PL D cA ad ob cO mc' mm' v') 4461 (lvL ad ob b i) []) : V p l e room_1 s m args below meth c Q 9 A cells slots (PL D cA ad ob cO mc mm v) 1368 (lvL ad ob b i) [] := by
  have C0 := C
  obtain ⟨X, hA, hW, hZ, hX, hb1, hst, hL⟩ := C
  have hroom0 : cells ≤ room_1.cells ∧ slots ≤ room_1.slots := ⟨by omega, by omega⟩
  refine q_aload_n (j := 3) X dL_law_1368 rfl rfl ?_
  refine qL_arg C0 1 (j0 := 4) (j4 := 0) rfl (by decide) dL_law_1369 dL_law_1370 dL_law_1372 dL_law_1373 dL_law_1374 rfl rfl hi ?_
  refine q_aload_n (j := 1) X dL_law_1375 rfl rfl ?_
  refine qL_w X hA hW hZ [.ref (ad 0 1), .int (xs (i + 1)), .ref ob] rfl rfl dL_law_1376 hroom (k_L_pass hA.1 hA.2.2.1.1 hst (xs (i + 1)) mc v _ _ (J_pass h (xs (i + 1))) (fun _ _ hx => hx.1)) rfl rfl (gSW kw_5_24 kw_5_25 kw_1_0 kw_5_26) hy_L_pass ⟨(Nat.le_of_ble_eq_true rfl), (Nat.le_of_ble_eq_true rfl)⟩ (fun k mc' v' hq => ?_)
  refine q_istore X dL_law_1379 (Nat.le_of_ble_eq_true rfl) rfl ?_
  refine q_aload_n (j := 3) X dL_law_1381 rfl rfl ?_
  refine qL_arg C0 1 (j0 := 5) (j4 := 1) rfl (by decide) dL_law_1382 dL_law_1383 dL_law_1385 dL_law_1386 dL_law_1387 rfl rfl hi ?_
  have hroom1 : cells + 2 ≤ room_1.cells ∧ slots + 12 ≤ room_1.slots := hroom
  rcases hq with ⟨rfl, r, rfl, hj⟩ | ⟨hk0, k0, hk, hj⟩
  · skip
    unfold jq at hj
    refine qL_m X hA hW [.int (xs (i + 1))] [] rfl rfl (Nat.le_of_ble_eq_true rfl) dL_law_1388 hroom1 (c_X10_pass hA.2.1 (xs (i + 1)) mm _ hj) rfl rfl (gV kw_8_89 kw_8_90 kw_8_91 kw_1_11 kw_8_92) hy_X10_pass ⟨(Nat.le_of_ble_eq_true rfl), (Nat.le_of_ble_eq_true rfl)⟩ (fun b9 mm9 hb => ?_)
    obtain ⟨h1, rfl, hK⟩ := hb
    refine q_istore X dL_law_1391 (Nat.le_of_ble_eq_true rfl) rfl ?_
    exact tailI C0 hroom1 ⟨(Nat.le_of_ble_eq_true rfl), (Nat.le_of_ble_eq_true rfl)⟩ h1 (fun _ => rfl) dL_law_1393 dL_law_1394 dL_law_1397 dL_law_1399 dL_law_1404 dL_law_1406 dL_law_1409 dL_law_1410 dL_law_1411 dL_law_1412 dL_law_1414 dL_law_1415 dL_law_1416 dL_law_1421 (by decide) (kk _ _ _ hK)
  · obtain ⟨_, hj⟩ := hj
    unfold jx at hj
    refine qL_m X hA hW [.int (xs (i + 1))] [] rfl rfl (Nat.le_of_ble_eq_true rfl) dL_law_1388 hroom1 (c_X10_pass hA.2.1 (xs (i + 1)) mm _ hj) rfl rfl (gV kw_8_89 kw_8_90 kw_8_91 kw_1_11 kw_8_92) hy_X10_pass ⟨(Nat.le_of_ble_eq_true rfl), (Nat.le_of_ble_eq_true rfl)⟩ (fun b9 mm9 hb => ?_)
    obtain ⟨h1, hK⟩ := hb
    refine q_istore X dL_law_1391 (Nat.le_of_ble_eq_true rfl) rfl ?_
    exact tailI C0 hroom1 ⟨(Nat.le_of_ble_eq_true rfl), (Nat.le_of_ble_eq_true rfl)⟩ (h1.trans hk.symm) (fun h0 => absurd h0 hk0) dL_law_1393 dL_law_1394 dL_law_1397 dL_law_1399 dL_law_1404 dL_law_1406 dL_law_1409 dL_law_1410 dL_law_1411 dL_law_1412 dL_law_1414 dL_law_1415 dL_law_1416 dL_law_1421 (by decide) (kk _ _ _ hK)
set_option maxRecDepth 100000 in
set_option maxHeartbeats 4000000 in
theorem case_16 (C : LC p l s m args c D cA ad A AC AM ob cO b L xs) (h : Hy a s0 mc mm (Rel (a + 400000) (s0 + 64))) (hi : i + 4 < L) (hroom : cells + 2 ≤ room_1.cells ∧ slots + 12 ≤ room_1.slots) (kk : ∀ (mc' mm' : Mm) (v' : Int64), Rel (a + 400000) (s0 + 64) mc' mm' → V p l e room_1 s m args below meth c Q 9 A (cells + 2) (slots + 12) (PL D cA ad ob cO mc' mm' v') 4461 (lvL ad ob b i) []) : V p l e room_1 s m args below meth c Q 9 A cells slots (PL D cA ad ob cO mc mm v) 1424 (lvL ad ob b i) [] := by
  have C0 := C
  obtain ⟨X, hA, hW, hZ, hX, hb1, hst, hL⟩ := C
  have hroom0 : cells ≤ room_1.cells ∧ slots ≤ room_1.slots := ⟨by omega, by omega⟩
  refine q_aload_n (j := 3) X dL_law_1424 rfl rfl ?_
  refine qL_c X hA hW hZ [] [] rfl rfl (Nat.le_of_ble_eq_true rfl) dL_law_1425 hroom0 (c_X9_day hA.1  mc _ (J_day (K := Rel (a + 400000) (s0 + 64)) h.1 (fun v9 => h.2.2.2 mc _ ((h.1.ref v9).mono (by omega) (by omega) h.2.2.1)) )) rfl rfl (gV kw_2_125 kw_2_126 kw_2_127 kw_1_1 kw_2_128) hy_X9_day ⟨(Nat.le_of_ble_eq_true rfl), (Nat.le_of_ble_eq_true rfl)⟩ (fun r mc' hj => ?_)
  obtain ⟨hj, rfl⟩ := hj
  unfold jn at hj
  refine q_aload_n (j := 2) X dL_law_1428 rfl rfl ?_
  refine qL_m X hA hW [] [.int r] rfl rfl (Nat.le_of_ble_eq_true rfl) dL_law_1429 hroom0 (c_X10_day hA.2.1  mm _ hj) rfl rfl (gV kw_8_98 kw_8_99 kw_8_100 kw_1_11 kw_8_101) hy_X10_day ⟨(Nat.le_of_ble_eq_true rfl), (Nat.le_of_ble_eq_true rfl)⟩ (fun b9 mm9 hb => ?_)
  obtain ⟨rfl, hK⟩ := hb
  refine q_icmp_eq X dL_law_1432 (tgt := 4461) (by decide) (fun _ => ?_) (fun h9 => absurd rfl h9)
  exact q_w (Nat.le_add_right _ _) (Nat.le_add_right _ _) (kk _ _ _ hK)
set_option maxRecDepth 100000 in
set_option maxHeartbeats 4000000 in
theorem case_17 (C : LC p l s m args c D cA ad A AC AM ob cO b L xs) (h : Hy a s0 mc mm (Rel (a + 400000) (s0 + 64))) (hi : i + 4 < L) (hroom : cells + 2 ≤ room_1.cells ∧ slots + 12 ≤ room_1.slots) (kk : ∀ (mc' mm' : Mm) (v' : Int64), Rel (a + 400000) (s0 + 64) mc' mm' → V p l e room_1 s m args below meth c Q 9 A (cells + 2) (slots + 12) (PL D cA ad ob cO mc' mm' v') 4461 (lvL ad ob b i) []) : V p l e room_1 s m args below meth c Q 9 A cells slots (PL D cA ad ob cO mc mm v) 1437 (lvL ad ob b i) [] := by
  have C0 := C
  obtain ⟨X, hA, hW, hZ, hX, hb1, hst, hL⟩ := C
  have hroom0 : cells ≤ room_1.cells ∧ slots ≤ room_1.slots := ⟨by omega, by omega⟩
  refine q_aload_n (j := 3) X dL_law_1437 rfl rfl ?_
  refine qL_c X hA hW hZ [] [] rfl rfl (Nat.le_of_ble_eq_true rfl) dL_law_1438 hroom0 (c_X9_entries hA.1  mc _ (J_entries (K := Rel (a + 400000) (s0 + 64)) h.1 (fun v9 => h.2.2.2 mc _ ((h.1.ref v9).mono (by omega) (by omega) h.2.2.1)) )) rfl rfl (gV kw_2_129 kw_2_130 kw_2_131 kw_1_1 kw_2_132) hy_X9_entries ⟨(Nat.le_of_ble_eq_true rfl), (Nat.le_of_ble_eq_true rfl)⟩ (fun r mc' hj => ?_)
  obtain ⟨hj, rfl⟩ := hj
  unfold jn at hj
  refine q_aload_n (j := 2) X dL_law_1441 rfl rfl ?_
  refine qL_m X hA hW [] [.int r] rfl rfl (Nat.le_of_ble_eq_true rfl) dL_law_1442 hroom0 (c_X10_entries hA.2.1  mm _ hj) rfl rfl (gV kw_8_106 kw_8_107 kw_8_108 kw_1_11 kw_8_109) hy_X10_entries ⟨(Nat.le_of_ble_eq_true rfl), (Nat.le_of_ble_eq_true rfl)⟩ (fun b9 mm9 hb => ?_)
  obtain ⟨rfl, hK⟩ := hb
  refine q_icmp_eq X dL_law_1445 (tgt := 4461) (by decide) (fun _ => ?_) (fun h9 => absurd rfl h9)
  exact q_w (Nat.le_add_right _ _) (Nat.le_add_right _ _) (kk _ _ _ hK)
set_option maxRecDepth 100000 in
set_option maxHeartbeats 4000000 in
theorem case_18 (C : LC p l s m args c D cA ad A AC AM ob cO b L xs) (h : Hy a s0 mc mm (Rel (a + 400000) (s0 + 64))) (hi : i + 4 < L) (hroom : cells + 2 ≤ room_1.cells ∧ slots + 12 ≤ room_1.slots) (kk : ∀ (mc' mm' : Mm) (v' : Int64), Rel (a + 400000) (s0 + 64) mc' mm' → V p l e room_1 s m args below meth c Q 9 A (cells + 2) (slots + 12) (PL D cA ad ob cO mc' mm' v') 4461 (lvL ad ob b i) []) : V p l e room_1 s m args below meth c Q 9 A cells slots (PL D cA ad ob cO mc mm v) 1450 (lvL ad ob b i) [] := by
  have C0 := C
  obtain ⟨X, hA, hW, hZ, hX, hb1, hst, hL⟩ := C
  have hroom0 : cells ≤ room_1.cells ∧ slots ≤ room_1.slots := ⟨by omega, by omega⟩
  refine q_aload_n (j := 3) X dL_law_1450 rfl rfl ?_
  refine qL_c X hA hW hZ [] [] rfl rfl (Nat.le_of_ble_eq_true rfl) dL_law_1451 hroom0 (c_X9_entriesMade hA.1  mc _ (J_entriesMade (K := Rel (a + 400000) (s0 + 64)) h.1 (fun v9 => h.2.2.2 mc _ ((h.1.ref v9).mono (by omega) (by omega) h.2.2.1)) )) rfl rfl (gV kw_2_133 kw_2_134 kw_2_135 kw_1_1 kw_2_136) hy_X9_entriesMade ⟨(Nat.le_of_ble_eq_true rfl), (Nat.le_of_ble_eq_true rfl)⟩ (fun r mc' hj => ?_)
  obtain ⟨hj, rfl⟩ := hj
  unfold jn at hj
  refine q_aload_n (j := 2) X dL_law_1454 rfl rfl ?_
  refine qL_m X hA hW [] [.int r] rfl rfl (Nat.le_of_ble_eq_true rfl) dL_law_1455 hroom0 (c_X10_entriesMade hA.2.1  mm _ hj) rfl rfl (gV kw_8_110 kw_8_111 kw_8_112 kw_1_11 kw_8_113) hy_X10_entriesMade ⟨(Nat.le_of_ble_eq_true rfl), (Nat.le_of_ble_eq_true rfl)⟩ (fun b9 mm9 hb => ?_)
  obtain ⟨rfl, hK⟩ := hb
  refine q_icmp_eq X dL_law_1458 (tgt := 4461) (by decide) (fun _ => ?_) (fun h9 => absurd rfl h9)
  exact q_w (Nat.le_add_right _ _) (Nat.le_add_right _ _) (kk _ _ _ hK)
set_option maxRecDepth 100000 in
set_option maxHeartbeats 4000000 in
theorem case_19 (C : LC p l s m args c D cA ad A AC AM ob cO b L xs) (h : Hy a s0 mc mm (Rel (a + 400000) (s0 + 64))) (hi : i + 4 < L) (hroom : cells + 2 ≤ room_1.cells ∧ slots + 12 ≤ room_1.slots) (kk : ∀ (mc' mm' : Mm) (v' : Int64), Rel (a + 400000) (s0 + 64) mc' mm' → V p l e room_1 s m args below meth c Q 9 A (cells + 2) (slots + 12) (PL D cA ad ob cO mc' mm' v') 4461 (lvL ad ob b i) []) : V p l e room_1 s m args below meth c Q 9 A cells slots (PL D cA ad ob cO mc mm v) 1463 (lvL ad ob b i) [] := by
  have C0 := C
  obtain ⟨X, hA, hW, hZ, hX, hb1, hst, hL⟩ := C
  have hroom0 : cells ≤ room_1.cells ∧ slots ≤ room_1.slots := ⟨by omega, by omega⟩
  refine q_aload_n (j := 3) X dL_law_1463 rfl rfl ?_
  refine qL_arg C0 1 (j0 := 4) (j4 := 0) rfl (by decide) dL_law_1464 dL_law_1465 dL_law_1467 dL_law_1468 dL_law_1469 rfl rfl hi ?_
  refine qL_c X hA hW hZ [.int (xs (i + 1))] [] rfl rfl (Nat.le_of_ble_eq_true rfl) dL_law_1470 hroom0 (c_X9_isOpenEntry hA.1 (xs (i + 1)) mc _ (J_isOpenEntry (K := Rel (a + 400000) (s0 + 64)) h.1 (fun v9 => h.2.2.2 mc _ ((h.1.ref v9).mono (by omega) (by omega) h.2.2.1)) (xs (i + 1)))) rfl rfl (gV kw_2_137 kw_2_138 kw_2_139 kw_1_1 kw_2_140) hy_X9_isOpenEntry ⟨(Nat.le_of_ble_eq_true rfl), (Nat.le_of_ble_eq_true rfl)⟩ (fun r mc' hj => ?_)
  obtain ⟨hj, rfl⟩ := hj
  unfold jn at hj
  refine q_aload_n (j := 2) X dL_law_1473 rfl rfl ?_
  refine qL_arg C0 1 (j0 := 4) (j4 := 0) rfl (by decide) dL_law_1474 dL_law_1475 dL_law_1477 dL_law_1478 dL_law_1479 rfl rfl hi ?_
  refine qL_m X hA hW [.int (xs (i + 1))] [.int r] rfl rfl (Nat.le_of_ble_eq_true rfl) dL_law_1480 hroom0 (c_X10_isOpenEntry hA.2.1 (xs (i + 1)) mm _ hj) rfl rfl (gV kw_8_114 kw_8_115 kw_8_116 kw_1_11 kw_8_117) hy_X10_isOpenEntry ⟨(Nat.le_of_ble_eq_true rfl), (Nat.le_of_ble_eq_true rfl)⟩ (fun b9 mm9 hb => ?_)
  obtain ⟨rfl, hK⟩ := hb
  refine q_icmp_eq X dL_law_1483 (tgt := 4461) (by decide) (fun _ => ?_) (fun h9 => absurd rfl h9)
  exact q_w (Nat.le_add_right _ _) (Nat.le_add_right _ _) (kk _ _ _ hK)
set_option maxRecDepth 100000 in
set_option maxHeartbeats 4000000 in
theorem case_20 (C : LC p l s m args c D cA ad A AC AM ob cO b L xs) (h : Hy a s0 mc mm (Rel (a + 400000) (s0 + 64))) (hi : i + 4 < L) (hroom : cells + 2 ≤ room_1.cells ∧ slots + 12 ≤ room_1.slots) (kk : ∀ (mc' mm' : Mm) (v' : Int64), Rel (a + 400000) (s0 + 64) mc' mm' → V p l e room_1 s m args below meth c Q 9 A (cells + 2) (slots + 12) (PL D cA ad ob cO mc' mm' v') 4461 (lvL ad ob b i) []) : V p l e room_1 s m args below meth c Q 9 A cells slots (PL D cA ad ob cO mc mm v) 1488 (lvL ad ob b i) [] := by
  have C0 := C
  obtain ⟨X, hA, hW, hZ, hX, hb1, hst, hL⟩ := C
  have hroom0 : cells ≤ room_1.cells ∧ slots ≤ room_1.slots := ⟨by omega, by omega⟩
  refine q_aload_n (j := 3) X dL_law_1488 rfl rfl ?_
  refine qL_arg C0 1 (j0 := 4) (j4 := 0) rfl (by decide) dL_law_1489 dL_law_1490 dL_law_1492 dL_law_1493 dL_law_1494 rfl rfl hi ?_
  refine q_aload_n (j := 1) X dL_law_1495 rfl rfl ?_
  refine qL_w X hA hW hZ [.ref (ad 0 1), .int (xs (i + 1)), .ref ob] rfl rfl dL_law_1496 hroom (k_L_entryAt hA.1 hA.2.2.1.1 hst (xs (i + 1)) mc v _ _ (J_entryAt (K := Rel (a + 400000) (s0 + 64)) h.1 (fun v9 => h.2.2.2 mc _ ((h.1.ref v9).mono (by omega) (by omega) h.2.2.1)) (xs (i + 1))) (fun _ _ hx => hx.1)) rfl rfl (gSW kw_5_40 kw_5_41 kw_1_0 kw_5_42) hy_L_entryAt ⟨(Nat.le_of_ble_eq_true rfl), (Nat.le_of_ble_eq_true rfl)⟩ (fun k mc' v' hq => ?_)
  refine q_istore X dL_law_1499 (Nat.le_of_ble_eq_true rfl) rfl ?_
  refine q_aload_n (j := 3) X dL_law_1501 rfl rfl ?_
  refine qL_arg C0 1 (j0 := 5) (j4 := 1) rfl (by decide) dL_law_1502 dL_law_1503 dL_law_1505 dL_law_1506 dL_law_1507 rfl rfl hi ?_
  have hroom1 : cells + 2 ≤ room_1.cells ∧ slots + 12 ≤ room_1.slots := hroom
  rcases hq with ⟨rfl, r, rfl, hj⟩ | ⟨hk0, k0, hk, hj⟩
  · skip
    obtain ⟨hj, rfl⟩ := hj
    unfold jq at hj
    refine qL_m X hA hW [.int (xs (i + 1))] [] rfl rfl (Nat.le_of_ble_eq_true rfl) dL_law_1508 hroom1 (c_X10_entryAt hA.2.1 (xs (i + 1)) mm _ hj) rfl rfl (gV kw_8_118 kw_8_119 kw_8_120 kw_1_11 kw_8_121) hy_X10_entryAt ⟨(Nat.le_of_ble_eq_true rfl), (Nat.le_of_ble_eq_true rfl)⟩ (fun b9 mm9 hb => ?_)
    obtain ⟨h1, rfl, hK⟩ := hb
    refine q_istore X dL_law_1511 (Nat.le_of_ble_eq_true rfl) rfl ?_
    exact tailI C0 hroom1 ⟨(Nat.le_of_ble_eq_true rfl), (Nat.le_of_ble_eq_true rfl)⟩ h1 (fun _ => rfl) dL_law_1513 dL_law_1514 dL_law_1517 dL_law_1519 dL_law_1524 dL_law_1526 dL_law_1529 dL_law_1530 dL_law_1531 dL_law_1532 dL_law_1534 dL_law_1535 dL_law_1536 dL_law_1541 (by decide) (kk _ _ _ hK)
  · obtain ⟨_, hj⟩ := hj
    unfold jx at hj
    refine qL_m X hA hW [.int (xs (i + 1))] [] rfl rfl (Nat.le_of_ble_eq_true rfl) dL_law_1508 hroom1 (c_X10_entryAt hA.2.1 (xs (i + 1)) mm _ hj) rfl rfl (gV kw_8_118 kw_8_119 kw_8_120 kw_1_11 kw_8_121) hy_X10_entryAt ⟨(Nat.le_of_ble_eq_true rfl), (Nat.le_of_ble_eq_true rfl)⟩ (fun b9 mm9 hb => ?_)
    obtain ⟨h1, hK⟩ := hb
    refine q_istore X dL_law_1511 (Nat.le_of_ble_eq_true rfl) rfl ?_
    exact tailI C0 hroom1 ⟨(Nat.le_of_ble_eq_true rfl), (Nat.le_of_ble_eq_true rfl)⟩ (h1.trans hk.symm) (fun h0 => absurd h0 hk0) dL_law_1513 dL_law_1514 dL_law_1517 dL_law_1519 dL_law_1524 dL_law_1526 dL_law_1529 dL_law_1530 dL_law_1531 dL_law_1532 dL_law_1534 dL_law_1535 dL_law_1536 dL_law_1541 (by decide) (kk _ _ _ hK)
set_option maxRecDepth 100000 in
set_option maxHeartbeats 4000000 in
theorem case_21 (C : LC p l s m args c D cA ad A AC AM ob cO b L xs) (h : Hy a s0 mc mm (Rel (a + 400000) (s0 + 64))) (hi : i + 4 < L) (hroom : cells + 2 ≤ room_1.cells ∧ slots + 12 ≤ room_1.slots) (kk : ∀ (mc' mm' : Mm) (v' : Int64), Rel (a + 400000) (s0 + 64) mc' mm' → V p l e room_1 s m args below meth c Q 9 A (cells + 2) (slots + 12) (PL D cA ad ob cO mc' mm' v') 4461 (lvL ad ob b i) []) : V p l e room_1 s m args below meth c Q 9 A cells slots (PL D cA ad ob cO mc mm v) 1544 (lvL ad ob b i) [] := by
  have C0 := C
  obtain ⟨X, hA, hW, hZ, hX, hb1, hst, hL⟩ := C
  have hroom0 : cells ≤ room_1.cells ∧ slots ≤ room_1.slots := ⟨by omega, by omega⟩
  refine q_aload_n (j := 3) X dL_law_1544 rfl rfl ?_
  refine qL_arg C0 1 (j0 := 4) (j4 := 0) rfl (by decide) dL_law_1545 dL_law_1546 dL_law_1548 dL_law_1549 dL_law_1550 rfl rfl hi ?_
  refine q_aload_n (j := 1) X dL_law_1551 rfl rfl ?_
  refine qL_w X hA hW hZ [.ref (ad 0 1), .int (xs (i + 1)), .ref ob] rfl rfl dL_law_1552 hroom (k_L_kindOf hA.1 hA.2.2.1.1 hst (xs (i + 1)) mc v _ _ (J_kindOf (K := Rel (a + 400000) (s0 + 64)) h.1 (fun v9 => h.2.2.2 mc _ ((h.1.ref v9).mono (by omega) (by omega) h.2.2.1)) (xs (i + 1))) (fun _ _ hx => hx.1)) rfl rfl (gSW kw_5_48 kw_5_49 kw_1_0 kw_5_50) hy_L_kindOf ⟨(Nat.le_of_ble_eq_true rfl), (Nat.le_of_ble_eq_true rfl)⟩ (fun k mc' v' hq => ?_)
  refine q_istore X dL_law_1555 (Nat.le_of_ble_eq_true rfl) rfl ?_
  refine q_aload_n (j := 3) X dL_law_1557 rfl rfl ?_
  refine qL_arg C0 1 (j0 := 5) (j4 := 1) rfl (by decide) dL_law_1558 dL_law_1559 dL_law_1561 dL_law_1562 dL_law_1563 rfl rfl hi ?_
  have hroom1 : cells + 2 ≤ room_1.cells ∧ slots + 12 ≤ room_1.slots := hroom
  rcases hq with ⟨rfl, r, rfl, hj⟩ | ⟨hk0, k0, hk, hj⟩
  · skip
    obtain ⟨hj, rfl⟩ := hj
    unfold jq at hj
    refine qL_m X hA hW [.int (xs (i + 1))] [] rfl rfl (Nat.le_of_ble_eq_true rfl) dL_law_1564 hroom1 (c_X10_kindOf hA.2.1 (xs (i + 1)) mm _ hj) rfl rfl (gV kw_8_122 kw_8_123 kw_8_124 kw_1_11 kw_8_125) hy_X10_kindOf ⟨(Nat.le_of_ble_eq_true rfl), (Nat.le_of_ble_eq_true rfl)⟩ (fun b9 mm9 hb => ?_)
    obtain ⟨h1, rfl, hK⟩ := hb
    refine q_istore X dL_law_1567 (Nat.le_of_ble_eq_true rfl) rfl ?_
    exact tailI C0 hroom1 ⟨(Nat.le_of_ble_eq_true rfl), (Nat.le_of_ble_eq_true rfl)⟩ h1 (fun _ => rfl) dL_law_1569 dL_law_1570 dL_law_1573 dL_law_1575 dL_law_1580 dL_law_1582 dL_law_1585 dL_law_1586 dL_law_1587 dL_law_1588 dL_law_1590 dL_law_1591 dL_law_1592 dL_law_1597 (by decide) (kk _ _ _ hK)
  · obtain ⟨_, hj⟩ := hj
    unfold jx at hj
    refine qL_m X hA hW [.int (xs (i + 1))] [] rfl rfl (Nat.le_of_ble_eq_true rfl) dL_law_1564 hroom1 (c_X10_kindOf hA.2.1 (xs (i + 1)) mm _ hj) rfl rfl (gV kw_8_122 kw_8_123 kw_8_124 kw_1_11 kw_8_125) hy_X10_kindOf ⟨(Nat.le_of_ble_eq_true rfl), (Nat.le_of_ble_eq_true rfl)⟩ (fun b9 mm9 hb => ?_)
    obtain ⟨h1, hK⟩ := hb
    refine q_istore X dL_law_1567 (Nat.le_of_ble_eq_true rfl) rfl ?_
    exact tailI C0 hroom1 ⟨(Nat.le_of_ble_eq_true rfl), (Nat.le_of_ble_eq_true rfl)⟩ (h1.trans hk.symm) (fun h0 => absurd h0 hk0) dL_law_1569 dL_law_1570 dL_law_1573 dL_law_1575 dL_law_1580 dL_law_1582 dL_law_1585 dL_law_1586 dL_law_1587 dL_law_1588 dL_law_1590 dL_law_1591 dL_law_1592 dL_law_1597 (by decide) (kk _ _ _ hK)
set_option maxRecDepth 100000 in
set_option maxHeartbeats 4000000 in
theorem case_22 (C : LC p l s m args c D cA ad A AC AM ob cO b L xs) (h : Hy a s0 mc mm (Rel (a + 400000) (s0 + 64))) (hi : i + 4 < L) (hroom : cells + 2 ≤ room_1.cells ∧ slots + 12 ≤ room_1.slots) (kk : ∀ (mc' mm' : Mm) (v' : Int64), Rel (a + 400000) (s0 + 64) mc' mm' → V p l e room_1 s m args below meth c Q 9 A (cells + 2) (slots + 12) (PL D cA ad ob cO mc' mm' v') 4461 (lvL ad ob b i) []) : V p l e room_1 s m args below meth c Q 9 A cells slots (PL D cA ad ob cO mc mm v) 1600 (lvL ad ob b i) [] := by
  have C0 := C
  obtain ⟨X, hA, hW, hZ, hX, hb1, hst, hL⟩ := C
  have hroom0 : cells ≤ room_1.cells ∧ slots ≤ room_1.slots := ⟨by omega, by omega⟩
  refine q_aload_n (j := 3) X dL_law_1600 rfl rfl ?_
  refine qL_arg C0 1 (j0 := 4) (j4 := 0) rfl (by decide) dL_law_1601 dL_law_1602 dL_law_1604 dL_law_1605 dL_law_1606 rfl rfl hi ?_
  refine q_aload_n (j := 1) X dL_law_1607 rfl rfl ?_
  refine qL_w X hA hW hZ [.ref (ad 0 1), .int (xs (i + 1)), .ref ob] rfl rfl dL_law_1608 hroom (k_L_weightOf hA.1 hA.2.2.1.1 hst (xs (i + 1)) mc v _ _ (J_weightOf (K := Rel (a + 400000) (s0 + 64)) h.1 (fun v9 => h.2.2.2 mc _ ((h.1.ref v9).mono (by omega) (by omega) h.2.2.1)) (xs (i + 1))) (fun _ _ hx => hx.1)) rfl rfl (gSW kw_5_60 kw_5_61 kw_1_0 kw_5_62) hy_L_weightOf ⟨(Nat.le_of_ble_eq_true rfl), (Nat.le_of_ble_eq_true rfl)⟩ (fun k mc' v' hq => ?_)
  refine q_istore X dL_law_1611 (Nat.le_of_ble_eq_true rfl) rfl ?_
  refine q_aload_n (j := 3) X dL_law_1613 rfl rfl ?_
  refine qL_arg C0 1 (j0 := 5) (j4 := 1) rfl (by decide) dL_law_1614 dL_law_1615 dL_law_1617 dL_law_1618 dL_law_1619 rfl rfl hi ?_
  have hroom1 : cells + 2 ≤ room_1.cells ∧ slots + 12 ≤ room_1.slots := hroom
  rcases hq with ⟨rfl, r, rfl, hj⟩ | ⟨hk0, k0, hk, hj⟩
  · skip
    obtain ⟨hj, rfl⟩ := hj
    unfold jq at hj
    refine qL_m X hA hW [.int (xs (i + 1))] [] rfl rfl (Nat.le_of_ble_eq_true rfl) dL_law_1620 hroom1 (c_X10_weightOf hA.2.1 (xs (i + 1)) mm _ hj) rfl rfl (gV kw_8_130 kw_8_131 kw_8_132 kw_1_11 kw_8_133) hy_X10_weightOf ⟨(Nat.le_of_ble_eq_true rfl), (Nat.le_of_ble_eq_true rfl)⟩ (fun b9 mm9 hb => ?_)
    obtain ⟨h1, rfl, hK⟩ := hb
    refine q_istore X dL_law_1623 (Nat.le_of_ble_eq_true rfl) rfl ?_
    exact tailI C0 hroom1 ⟨(Nat.le_of_ble_eq_true rfl), (Nat.le_of_ble_eq_true rfl)⟩ h1 (fun _ => rfl) dL_law_1625 dL_law_1626 dL_law_1629 dL_law_1631 dL_law_1636 dL_law_1638 dL_law_1641 dL_law_1642 dL_law_1643 dL_law_1644 dL_law_1646 dL_law_1647 dL_law_1648 dL_law_1653 (by decide) (kk _ _ _ hK)
  · obtain ⟨_, hj⟩ := hj
    unfold jx at hj
    refine qL_m X hA hW [.int (xs (i + 1))] [] rfl rfl (Nat.le_of_ble_eq_true rfl) dL_law_1620 hroom1 (c_X10_weightOf hA.2.1 (xs (i + 1)) mm _ hj) rfl rfl (gV kw_8_130 kw_8_131 kw_8_132 kw_1_11 kw_8_133) hy_X10_weightOf ⟨(Nat.le_of_ble_eq_true rfl), (Nat.le_of_ble_eq_true rfl)⟩ (fun b9 mm9 hb => ?_)
    obtain ⟨h1, hK⟩ := hb
    refine q_istore X dL_law_1623 (Nat.le_of_ble_eq_true rfl) rfl ?_
    exact tailI C0 hroom1 ⟨(Nat.le_of_ble_eq_true rfl), (Nat.le_of_ble_eq_true rfl)⟩ (h1.trans hk.symm) (fun h0 => absurd h0 hk0) dL_law_1625 dL_law_1626 dL_law_1629 dL_law_1631 dL_law_1636 dL_law_1638 dL_law_1641 dL_law_1642 dL_law_1643 dL_law_1644 dL_law_1646 dL_law_1647 dL_law_1648 dL_law_1653 (by decide) (kk _ _ _ hK)
set_option maxRecDepth 100000 in
set_option maxHeartbeats 4000000 in
theorem case_23 (C : LC p l s m args c D cA ad A AC AM ob cO b L xs) (h : Hy a s0 mc mm (Rel (a + 400000) (s0 + 64))) (hi : i + 4 < L) (hroom : cells + 2 ≤ room_1.cells ∧ slots + 12 ≤ room_1.slots) (kk : ∀ (mc' mm' : Mm) (v' : Int64), Rel (a + 400000) (s0 + 64) mc' mm' → V p l e room_1 s m args below meth c Q 9 A (cells + 2) (slots + 12) (PL D cA ad ob cO mc' mm' v') 4461 (lvL ad ob b i) []) : V p l e room_1 s m args below meth c Q 9 A cells slots (PL D cA ad ob cO mc mm v) 1656 (lvL ad ob b i) [] := by
  have C0 := C
  obtain ⟨X, hA, hW, hZ, hX, hb1, hst, hL⟩ := C
  have hroom0 : cells ≤ room_1.cells ∧ slots ≤ room_1.slots := ⟨by omega, by omega⟩
  refine q_aload_n (j := 3) X dL_law_1656 rfl rfl ?_
  refine qL_arg C0 1 (j0 := 4) (j4 := 0) rfl (by decide) dL_law_1657 dL_law_1658 dL_law_1660 dL_law_1661 dL_law_1662 rfl rfl hi ?_
  refine q_aload_n (j := 1) X dL_law_1663 rfl rfl ?_
  refine qL_w X hA hW hZ [.ref (ad 0 1), .int (xs (i + 1)), .ref ob] rfl rfl dL_law_1664 hroom (k_L_valueOf hA.1 hA.2.2.1.1 hst (xs (i + 1)) mc v _ _ (J_valueOf (K := Rel (a + 400000) (s0 + 64)) h.1 (fun v9 => h.2.2.2 mc _ ((h.1.ref v9).mono (by omega) (by omega) h.2.2.1)) (xs (i + 1))) (fun _ _ hx => hx.1)) rfl rfl (gSW kw_5_67 kw_5_68 kw_1_0 kw_5_69) hy_L_valueOf ⟨(Nat.le_of_ble_eq_true rfl), (Nat.le_of_ble_eq_true rfl)⟩ (fun k mc' v' hq => ?_)
  refine q_istore X dL_law_1667 (Nat.le_of_ble_eq_true rfl) rfl ?_
  refine q_aload_n (j := 3) X dL_law_1669 rfl rfl ?_
  refine qL_arg C0 1 (j0 := 5) (j4 := 1) rfl (by decide) dL_law_1670 dL_law_1671 dL_law_1673 dL_law_1674 dL_law_1675 rfl rfl hi ?_
  have hroom1 : cells + 2 ≤ room_1.cells ∧ slots + 12 ≤ room_1.slots := hroom
  rcases hq with ⟨rfl, r, rfl, hj⟩ | ⟨hk0, k0, hk, hj⟩
  · skip
    obtain ⟨hj, rfl⟩ := hj
    unfold jq at hj
    refine qL_m X hA hW [.int (xs (i + 1))] [] rfl rfl (Nat.le_of_ble_eq_true rfl) dL_law_1676 hroom1 (c_X10_valueOf hA.2.1 (xs (i + 1)) mm _ hj) rfl rfl (gV kw_8_134 kw_8_135 kw_8_136 kw_1_11 kw_8_137) hy_X10_valueOf ⟨(Nat.le_of_ble_eq_true rfl), (Nat.le_of_ble_eq_true rfl)⟩ (fun b9 mm9 hb => ?_)
    obtain ⟨h1, rfl, hK⟩ := hb
    refine q_istore X dL_law_1679 (Nat.le_of_ble_eq_true rfl) rfl ?_
    exact tailI C0 hroom1 ⟨(Nat.le_of_ble_eq_true rfl), (Nat.le_of_ble_eq_true rfl)⟩ h1 (fun _ => rfl) dL_law_1681 dL_law_1682 dL_law_1685 dL_law_1687 dL_law_1692 dL_law_1694 dL_law_1697 dL_law_1698 dL_law_1699 dL_law_1700 dL_law_1702 dL_law_1703 dL_law_1704 dL_law_1709 (by decide) (kk _ _ _ hK)
  · obtain ⟨_, hj⟩ := hj
    unfold jx at hj
    refine qL_m X hA hW [.int (xs (i + 1))] [] rfl rfl (Nat.le_of_ble_eq_true rfl) dL_law_1676 hroom1 (c_X10_valueOf hA.2.1 (xs (i + 1)) mm _ hj) rfl rfl (gV kw_8_134 kw_8_135 kw_8_136 kw_1_11 kw_8_137) hy_X10_valueOf ⟨(Nat.le_of_ble_eq_true rfl), (Nat.le_of_ble_eq_true rfl)⟩ (fun b9 mm9 hb => ?_)
    obtain ⟨h1, hK⟩ := hb
    refine q_istore X dL_law_1679 (Nat.le_of_ble_eq_true rfl) rfl ?_
    exact tailI C0 hroom1 ⟨(Nat.le_of_ble_eq_true rfl), (Nat.le_of_ble_eq_true rfl)⟩ (h1.trans hk.symm) (fun h0 => absurd h0 hk0) dL_law_1681 dL_law_1682 dL_law_1685 dL_law_1687 dL_law_1692 dL_law_1694 dL_law_1697 dL_law_1698 dL_law_1699 dL_law_1700 dL_law_1702 dL_law_1703 dL_law_1704 dL_law_1709 (by decide) (kk _ _ _ hK)
end CASE1
