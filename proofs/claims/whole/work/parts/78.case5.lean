theorem kw_6_34 : Jvm.Cond.methodLink "BondWarehouseLaw" (415 : Nat) ({ cls := "BondWarehouseLaw", name := "stockByEntries", desc := "(LBondWarehouse;I[J)I" } : Jvm.MethodName) ∈ TG := tg_6 34 rfl rfl
theorem kw_6_35 : Jvm.Cond.static ({ cls := "BondWarehouseLaw", name := "stockByEntries", desc := "(LBondWarehouse;I[J)I" } : Jvm.MethodName) ∈ TG := tg_6 35 rfl rfl
theorem kw_6_36 : Jvm.Cond.codeWith ({ cls := "BondWarehouseLaw", name := "stockByEntries", desc := "(LBondWarehouse;I[J)I" } : Jvm.MethodName) method_47_code (4 : Nat) (Option.some Jvm.ClassFile.FieldType.int) [((0 : Nat), (9 : Nat), (12 : Nat), (13 : Nat))] ∈ TG := tg_6 36 rfl rfl
theorem kw_9_58 : Jvm.Cond.methodLink "BondWarehouseLaw" (417 : Nat) ({ cls := "BondWarehouseModel", name := "stockByEntries", desc := "(I)I" } : Jvm.MethodName) ∈ TG := tg_9 58 rfl rfl
theorem kw_9_59 : Jvm.Cond.instanceMethod ({ cls := "BondWarehouseModel", name := "stockByEntries", desc := "(I)I" } : Jvm.MethodName) ∈ TG := tg_9 59 rfl rfl
theorem kw_9_60 : Jvm.Cond.selects "BondWarehouseModel" ({ cls := "BondWarehouseModel", name := "stockByEntries", desc := "(I)I" } : Jvm.MethodName) ({ cls := "BondWarehouseModel", name := "stockByEntries", desc := "(I)I" } : Jvm.MethodName) ∈ TG := tg_9 60 rfl rfl
theorem kw_9_61 : Jvm.Cond.code ({ cls := "BondWarehouseModel", name := "stockByEntries", desc := "(I)I" } : Jvm.MethodName) prog_12_method_123_code (2 : Nat) (Option.some Jvm.ClassFile.FieldType.int) ∈ TG := tg_9 61 rfl rfl
theorem kw_6_45 : Jvm.Cond.methodLink "BondWarehouseLaw" (418 : Nat) ({ cls := "BondWarehouseLaw", name := "stockByTotals", desc := "(LBondWarehouse;I[J)I" } : Jvm.MethodName) ∈ TG := tg_6 45 rfl rfl
theorem kw_6_46 : Jvm.Cond.static ({ cls := "BondWarehouseLaw", name := "stockByTotals", desc := "(LBondWarehouse;I[J)I" } : Jvm.MethodName) ∈ TG := tg_6 46 rfl rfl
theorem kw_6_47 : Jvm.Cond.codeWith ({ cls := "BondWarehouseLaw", name := "stockByTotals", desc := "(LBondWarehouse;I[J)I" } : Jvm.MethodName) method_48_code (4 : Nat) (Option.some Jvm.ClassFile.FieldType.int) [((0 : Nat), (9 : Nat), (12 : Nat), (13 : Nat))] ∈ TG := tg_6 47 rfl rfl
theorem kw_9_66 : Jvm.Cond.methodLink "BondWarehouseLaw" (420 : Nat) ({ cls := "BondWarehouseModel", name := "stockByTotals", desc := "(I)I" } : Jvm.MethodName) ∈ TG := tg_9 66 rfl rfl
theorem kw_9_67 : Jvm.Cond.instanceMethod ({ cls := "BondWarehouseModel", name := "stockByTotals", desc := "(I)I" } : Jvm.MethodName) ∈ TG := tg_9 67 rfl rfl
theorem kw_9_68 : Jvm.Cond.selects "BondWarehouseModel" ({ cls := "BondWarehouseModel", name := "stockByTotals", desc := "(I)I" } : Jvm.MethodName) ({ cls := "BondWarehouseModel", name := "stockByTotals", desc := "(I)I" } : Jvm.MethodName) ∈ TG := tg_9 68 rfl rfl
theorem kw_9_69 : Jvm.Cond.code ({ cls := "BondWarehouseModel", name := "stockByTotals", desc := "(I)I" } : Jvm.MethodName) prog_12_method_124_code (3 : Nat) (Option.some Jvm.ClassFile.FieldType.int) ∈ TG := tg_9 69 rfl rfl
theorem kw_6_52 : Jvm.Cond.methodLink "BondWarehouseLaw" (421 : Nat) ({ cls := "BondWarehouseLaw", name := "whyNoEntry", desc := "(LBondWarehouse;IIII[J)I" } : Jvm.MethodName) ∈ TG := tg_6 52 rfl rfl
theorem kw_6_53 : Jvm.Cond.static ({ cls := "BondWarehouseLaw", name := "whyNoEntry", desc := "(LBondWarehouse;IIII[J)I" } : Jvm.MethodName) ∈ TG := tg_6 53 rfl rfl
theorem kw_6_54 : Jvm.Cond.codeWith ({ cls := "BondWarehouseLaw", name := "whyNoEntry", desc := "(LBondWarehouse;IIII[J)I" } : Jvm.MethodName) method_49_code (7 : Nat) (Option.some Jvm.ClassFile.FieldType.int) [((0 : Nat), (14 : Nat), (17 : Nat), (13 : Nat))] ∈ TG := tg_6 54 rfl rfl
theorem kw_9_70 : Jvm.Cond.methodLink "BondWarehouseLaw" (423 : Nat) ({ cls := "BondWarehouseModel", name := "whyNoEntry", desc := "(IIII)I" } : Jvm.MethodName) ∈ TG := tg_9 70 rfl rfl
theorem kw_9_71 : Jvm.Cond.instanceMethod ({ cls := "BondWarehouseModel", name := "whyNoEntry", desc := "(IIII)I" } : Jvm.MethodName) ∈ TG := tg_9 71 rfl rfl
theorem kw_9_72 : Jvm.Cond.selects "BondWarehouseModel" ({ cls := "BondWarehouseModel", name := "whyNoEntry", desc := "(IIII)I" } : Jvm.MethodName) ({ cls := "BondWarehouseModel", name := "whyNoEntry", desc := "(IIII)I" } : Jvm.MethodName) ∈ TG := tg_9 72 rfl rfl
theorem kw_9_73 : Jvm.Cond.code ({ cls := "BondWarehouseModel", name := "whyNoEntry", desc := "(IIII)I" } : Jvm.MethodName) prog_12_method_125_code (5 : Nat) (Option.some Jvm.ClassFile.FieldType.int) ∈ TG := tg_9 73 rfl rfl
theorem kw_6_61 : Jvm.Cond.methodLink "BondWarehouseLaw" (424 : Nat) ({ cls := "BondWarehouseLaw", name := "whyNoWithdrawal", desc := "(LBondWarehouse;II[J)I" } : Jvm.MethodName) ∈ TG := tg_6 61 rfl rfl
theorem kw_6_62 : Jvm.Cond.static ({ cls := "BondWarehouseLaw", name := "whyNoWithdrawal", desc := "(LBondWarehouse;II[J)I" } : Jvm.MethodName) ∈ TG := tg_6 62 rfl rfl
theorem kw_6_63 : Jvm.Cond.codeWith ({ cls := "BondWarehouseLaw", name := "whyNoWithdrawal", desc := "(LBondWarehouse;II[J)I" } : Jvm.MethodName) method_50_code (5 : Nat) (Option.some Jvm.ClassFile.FieldType.int) [((0 : Nat), (10 : Nat), (13 : Nat), (21 : Nat)), ((0 : Nat), (10 : Nat), (17 : Nat), (13 : Nat))] ∈ TG := tg_6 63 rfl rfl
theorem kw_9_74 : Jvm.Cond.methodLink "BondWarehouseLaw" (426 : Nat) ({ cls := "BondWarehouseModel", name := "whyNoWithdrawal", desc := "(II)I" } : Jvm.MethodName) ∈ TG := tg_9 74 rfl rfl
theorem kw_9_75 : Jvm.Cond.instanceMethod ({ cls := "BondWarehouseModel", name := "whyNoWithdrawal", desc := "(II)I" } : Jvm.MethodName) ∈ TG := tg_9 75 rfl rfl
theorem kw_9_76 : Jvm.Cond.selects "BondWarehouseModel" ({ cls := "BondWarehouseModel", name := "whyNoWithdrawal", desc := "(II)I" } : Jvm.MethodName) ({ cls := "BondWarehouseModel", name := "whyNoWithdrawal", desc := "(II)I" } : Jvm.MethodName) ∈ TG := tg_9 76 rfl rfl
theorem kw_9_77 : Jvm.Cond.code ({ cls := "BondWarehouseModel", name := "whyNoWithdrawal", desc := "(II)I" } : Jvm.MethodName) prog_12_method_126_code (4 : Nat) (Option.some Jvm.ClassFile.FieldType.int) ∈ TG := tg_9 77 rfl rfl
theorem kw_6_69 : Jvm.Cond.methodLink "BondWarehouseLaw" (427 : Nat) ({ cls := "BondWarehouseLaw", name := "whyNoExport", desc := "(LBondWarehouse;II[J)I" } : Jvm.MethodName) ∈ TG := tg_6 69 rfl rfl
theorem kw_6_70 : Jvm.Cond.static ({ cls := "BondWarehouseLaw", name := "whyNoExport", desc := "(LBondWarehouse;II[J)I" } : Jvm.MethodName) ∈ TG := tg_6 70 rfl rfl
theorem kw_6_71 : Jvm.Cond.codeWith ({ cls := "BondWarehouseLaw", name := "whyNoExport", desc := "(LBondWarehouse;II[J)I" } : Jvm.MethodName) method_51_code (5 : Nat) (Option.some Jvm.ClassFile.FieldType.int) [((0 : Nat), (10 : Nat), (13 : Nat), (21 : Nat)), ((0 : Nat), (10 : Nat), (17 : Nat), (13 : Nat))] ∈ TG := tg_6 71 rfl rfl
theorem kw_9_78 : Jvm.Cond.methodLink "BondWarehouseLaw" (429 : Nat) ({ cls := "BondWarehouseModel", name := "whyNoExport", desc := "(II)I" } : Jvm.MethodName) ∈ TG := tg_9 78 rfl rfl
theorem kw_9_79 : Jvm.Cond.instanceMethod ({ cls := "BondWarehouseModel", name := "whyNoExport", desc := "(II)I" } : Jvm.MethodName) ∈ TG := tg_9 79 rfl rfl
theorem kw_9_80 : Jvm.Cond.selects "BondWarehouseModel" ({ cls := "BondWarehouseModel", name := "whyNoExport", desc := "(II)I" } : Jvm.MethodName) ({ cls := "BondWarehouseModel", name := "whyNoExport", desc := "(II)I" } : Jvm.MethodName) ∈ TG := tg_9 80 rfl rfl
theorem kw_9_81 : Jvm.Cond.code ({ cls := "BondWarehouseModel", name := "whyNoExport", desc := "(II)I" } : Jvm.MethodName) prog_12_method_127_code (4 : Nat) (Option.some Jvm.ClassFile.FieldType.int) ∈ TG := tg_9 81 rfl rfl
theorem kw_6_77 : Jvm.Cond.methodLink "BondWarehouseLaw" (430 : Nat) ({ cls := "BondWarehouseLaw", name := "whyNoMove", desc := "(LBondWarehouse;II[J)I" } : Jvm.MethodName) ∈ TG := tg_6 77 rfl rfl
theorem kw_6_78 : Jvm.Cond.static ({ cls := "BondWarehouseLaw", name := "whyNoMove", desc := "(LBondWarehouse;II[J)I" } : Jvm.MethodName) ∈ TG := tg_6 78 rfl rfl
theorem kw_6_79 : Jvm.Cond.codeWith ({ cls := "BondWarehouseLaw", name := "whyNoMove", desc := "(LBondWarehouse;II[J)I" } : Jvm.MethodName) method_52_code (5 : Nat) (Option.some Jvm.ClassFile.FieldType.int) [((0 : Nat), (10 : Nat), (13 : Nat), (21 : Nat))] ∈ TG := tg_6 79 rfl rfl
theorem kw_9_82 : Jvm.Cond.methodLink "BondWarehouseLaw" (432 : Nat) ({ cls := "BondWarehouseModel", name := "whyNoMove", desc := "(II)I" } : Jvm.MethodName) ∈ TG := tg_9 82 rfl rfl
theorem kw_9_83 : Jvm.Cond.instanceMethod ({ cls := "BondWarehouseModel", name := "whyNoMove", desc := "(II)I" } : Jvm.MethodName) ∈ TG := tg_9 83 rfl rfl
theorem kw_9_84 : Jvm.Cond.selects "BondWarehouseModel" ({ cls := "BondWarehouseModel", name := "whyNoMove", desc := "(II)I" } : Jvm.MethodName) ({ cls := "BondWarehouseModel", name := "whyNoMove", desc := "(II)I" } : Jvm.MethodName) ∈ TG := tg_9 84 rfl rfl
theorem kw_9_85 : Jvm.Cond.code ({ cls := "BondWarehouseModel", name := "whyNoMove", desc := "(II)I" } : Jvm.MethodName) prog_12_method_128_code (4 : Nat) (Option.some Jvm.ClassFile.FieldType.int) ∈ TG := tg_9 85 rfl rfl
theorem kw_6_85 : Jvm.Cond.methodLink "BondWarehouseLaw" (433 : Nat) ({ cls := "BondWarehouseLaw", name := "whyNoDrawback", desc := "(LBondWarehouse;II[J)I" } : Jvm.MethodName) ∈ TG := tg_6 85 rfl rfl
theorem kw_6_86 : Jvm.Cond.static ({ cls := "BondWarehouseLaw", name := "whyNoDrawback", desc := "(LBondWarehouse;II[J)I" } : Jvm.MethodName) ∈ TG := tg_6 86 rfl rfl
theorem kw_6_87 : Jvm.Cond.codeWith ({ cls := "BondWarehouseLaw", name := "whyNoDrawback", desc := "(LBondWarehouse;II[J)I" } : Jvm.MethodName) method_53_code (5 : Nat) (Option.some Jvm.ClassFile.FieldType.int) [((0 : Nat), (10 : Nat), (13 : Nat), (21 : Nat)), ((0 : Nat), (10 : Nat), (17 : Nat), (13 : Nat))] ∈ TG := tg_6 87 rfl rfl
theorem kw_9_86 : Jvm.Cond.methodLink "BondWarehouseLaw" (435 : Nat) ({ cls := "BondWarehouseModel", name := "whyNoDrawback", desc := "(II)I" } : Jvm.MethodName) ∈ TG := tg_9 86 rfl rfl
theorem kw_9_87 : Jvm.Cond.instanceMethod ({ cls := "BondWarehouseModel", name := "whyNoDrawback", desc := "(II)I" } : Jvm.MethodName) ∈ TG := tg_9 87 rfl rfl
theorem kw_9_88 : Jvm.Cond.selects "BondWarehouseModel" ({ cls := "BondWarehouseModel", name := "whyNoDrawback", desc := "(II)I" } : Jvm.MethodName) ({ cls := "BondWarehouseModel", name := "whyNoDrawback", desc := "(II)I" } : Jvm.MethodName) ∈ TG := tg_9 88 rfl rfl
theorem kw_9_89 : Jvm.Cond.code ({ cls := "BondWarehouseModel", name := "whyNoDrawback", desc := "(II)I" } : Jvm.MethodName) prog_12_method_129_code (3 : Nat) (Option.some Jvm.ClassFile.FieldType.int) ∈ TG := tg_9 89 rfl rfl
theorem kw_6_93 : Jvm.Cond.methodLink "BondWarehouseLaw" (436 : Nat) ({ cls := "BondWarehouseLaw", name := "chargeIfWeighed", desc := "(LBondWarehouse;II[J)I" } : Jvm.MethodName) ∈ TG := tg_6 93 rfl rfl
theorem kw_6_94 : Jvm.Cond.static ({ cls := "BondWarehouseLaw", name := "chargeIfWeighed", desc := "(LBondWarehouse;II[J)I" } : Jvm.MethodName) ∈ TG := tg_6 94 rfl rfl
theorem kw_6_95 : Jvm.Cond.codeWith ({ cls := "BondWarehouseLaw", name := "chargeIfWeighed", desc := "(LBondWarehouse;II[J)I" } : Jvm.MethodName) method_54_code (5 : Nat) (Option.some Jvm.ClassFile.FieldType.int) [((0 : Nat), (10 : Nat), (13 : Nat), (21 : Nat)), ((0 : Nat), (10 : Nat), (17 : Nat), (13 : Nat))] ∈ TG := tg_6 95 rfl rfl
theorem kw_9_90 : Jvm.Cond.methodLink "BondWarehouseLaw" (438 : Nat) ({ cls := "BondWarehouseModel", name := "chargeIfWeighed", desc := "(II)I" } : Jvm.MethodName) ∈ TG := tg_9 90 rfl rfl
theorem kw_9_91 : Jvm.Cond.instanceMethod ({ cls := "BondWarehouseModel", name := "chargeIfWeighed", desc := "(II)I" } : Jvm.MethodName) ∈ TG := tg_9 91 rfl rfl
theorem kw_9_92 : Jvm.Cond.selects "BondWarehouseModel" ({ cls := "BondWarehouseModel", name := "chargeIfWeighed", desc := "(II)I" } : Jvm.MethodName) ({ cls := "BondWarehouseModel", name := "chargeIfWeighed", desc := "(II)I" } : Jvm.MethodName) ∈ TG := tg_9 92 rfl rfl
theorem kw_9_93 : Jvm.Cond.code ({ cls := "BondWarehouseModel", name := "chargeIfWeighed", desc := "(II)I" } : Jvm.MethodName) prog_12_method_130_code (4 : Nat) (Option.some Jvm.ClassFile.FieldType.int) ∈ TG := tg_9 93 rfl rfl
theorem kw_6_102 : Jvm.Cond.methodLink "BondWarehouseLaw" (439 : Nat) ({ cls := "BondWarehouseLaw", name := "drawbackFor", desc := "(LBondWarehouse;II[J)I" } : Jvm.MethodName) ∈ TG := tg_6 102 rfl rfl
theorem kw_6_103 : Jvm.Cond.static ({ cls := "BondWarehouseLaw", name := "drawbackFor", desc := "(LBondWarehouse;II[J)I" } : Jvm.MethodName) ∈ TG := tg_6 103 rfl rfl
theorem kw_6_104 : Jvm.Cond.codeWith ({ cls := "BondWarehouseLaw", name := "drawbackFor", desc := "(LBondWarehouse;II[J)I" } : Jvm.MethodName) method_55_code (5 : Nat) (Option.some Jvm.ClassFile.FieldType.int) [((0 : Nat), (10 : Nat), (13 : Nat), (21 : Nat)), ((0 : Nat), (10 : Nat), (17 : Nat), (13 : Nat))] ∈ TG := tg_6 104 rfl rfl
theorem kw_9_94 : Jvm.Cond.methodLink "BondWarehouseLaw" (441 : Nat) ({ cls := "BondWarehouseModel", name := "drawbackFor", desc := "(II)I" } : Jvm.MethodName) ∈ TG := tg_9 94 rfl rfl
theorem kw_9_95 : Jvm.Cond.instanceMethod ({ cls := "BondWarehouseModel", name := "drawbackFor", desc := "(II)I" } : Jvm.MethodName) ∈ TG := tg_9 95 rfl rfl
theorem kw_9_96 : Jvm.Cond.selects "BondWarehouseModel" ({ cls := "BondWarehouseModel", name := "drawbackFor", desc := "(II)I" } : Jvm.MethodName) ({ cls := "BondWarehouseModel", name := "drawbackFor", desc := "(II)I" } : Jvm.MethodName) ∈ TG := tg_9 96 rfl rfl
theorem kw_9_97 : Jvm.Cond.code ({ cls := "BondWarehouseModel", name := "drawbackFor", desc := "(II)I" } : Jvm.MethodName) prog_12_method_131_code (3 : Nat) (Option.some Jvm.ClassFile.FieldType.int) ∈ TG := tg_9 97 rfl rfl
theorem kw_6_111 : Jvm.Cond.methodLink "BondWarehouseLaw" (442 : Nat) ({ cls := "BondWarehouseLaw", name := "dutyLater", desc := "(LBondWarehouse;II[J)I" } : Jvm.MethodName) ∈ TG := tg_6 111 rfl rfl
theorem kw_6_112 : Jvm.Cond.static ({ cls := "BondWarehouseLaw", name := "dutyLater", desc := "(LBondWarehouse;II[J)I" } : Jvm.MethodName) ∈ TG := tg_6 112 rfl rfl
theorem kw_6_113 : Jvm.Cond.codeWith ({ cls := "BondWarehouseLaw", name := "dutyLater", desc := "(LBondWarehouse;II[J)I" } : Jvm.MethodName) method_56_code (5 : Nat) (Option.some Jvm.ClassFile.FieldType.int) [((0 : Nat), (10 : Nat), (13 : Nat), (21 : Nat)), ((0 : Nat), (10 : Nat), (17 : Nat), (13 : Nat))] ∈ TG := tg_6 113 rfl rfl
theorem kw_9_98 : Jvm.Cond.methodLink "BondWarehouseLaw" (444 : Nat) ({ cls := "BondWarehouseModel", name := "dutyLater", desc := "(II)I" } : Jvm.MethodName) ∈ TG := tg_9 98 rfl rfl
theorem kw_9_99 : Jvm.Cond.instanceMethod ({ cls := "BondWarehouseModel", name := "dutyLater", desc := "(II)I" } : Jvm.MethodName) ∈ TG := tg_9 99 rfl rfl
theorem kw_9_100 : Jvm.Cond.selects "BondWarehouseModel" ({ cls := "BondWarehouseModel", name := "dutyLater", desc := "(II)I" } : Jvm.MethodName) ({ cls := "BondWarehouseModel", name := "dutyLater", desc := "(II)I" } : Jvm.MethodName) ∈ TG := tg_9 100 rfl rfl
theorem kw_9_101 : Jvm.Cond.code ({ cls := "BondWarehouseModel", name := "dutyLater", desc := "(II)I" } : Jvm.MethodName) prog_12_method_132_code (4 : Nat) (Option.some Jvm.ClassFile.FieldType.int) ∈ TG := tg_9 101 rfl rfl
theorem kw_6_118 : Jvm.Cond.methodLink "BondWarehouseLaw" (445 : Nat) ({ cls := "BondWarehouseLaw", name := "daysToOverdue", desc := "(LBondWarehouse;I[J)I" } : Jvm.MethodName) ∈ TG := tg_6 118 rfl rfl
theorem kw_6_119 : Jvm.Cond.static ({ cls := "BondWarehouseLaw", name := "daysToOverdue", desc := "(LBondWarehouse;I[J)I" } : Jvm.MethodName) ∈ TG := tg_6 119 rfl rfl
theorem kw_6_120 : Jvm.Cond.codeWith ({ cls := "BondWarehouseLaw", name := "daysToOverdue", desc := "(LBondWarehouse;I[J)I" } : Jvm.MethodName) method_57_code (4 : Nat) (Option.some Jvm.ClassFile.FieldType.int) [((0 : Nat), (9 : Nat), (12 : Nat), (21 : Nat))] ∈ TG := tg_6 120 rfl rfl
theorem kw_9_103 : Jvm.Cond.methodLink "BondWarehouseLaw" (447 : Nat) ({ cls := "BondWarehouseModel", name := "daysToOverdue", desc := "(I)I" } : Jvm.MethodName) ∈ TG := tg_9 103 rfl rfl
theorem kw_9_104 : Jvm.Cond.instanceMethod ({ cls := "BondWarehouseModel", name := "daysToOverdue", desc := "(I)I" } : Jvm.MethodName) ∈ TG := tg_9 104 rfl rfl
theorem kw_9_105 : Jvm.Cond.selects "BondWarehouseModel" ({ cls := "BondWarehouseModel", name := "daysToOverdue", desc := "(I)I" } : Jvm.MethodName) ({ cls := "BondWarehouseModel", name := "daysToOverdue", desc := "(I)I" } : Jvm.MethodName) ∈ TG := tg_9 105 rfl rfl
theorem kw_9_106 : Jvm.Cond.code ({ cls := "BondWarehouseModel", name := "daysToOverdue", desc := "(I)I" } : Jvm.MethodName) prog_12_method_133_code (3 : Nat) (Option.some Jvm.ClassFile.FieldType.int) ∈ TG := tg_9 106 rfl rfl
theorem kw_2_209 : Jvm.Cond.methodLink "BondWarehouseLaw" (448 : Nat) ({ cls := "BondWarehouse", name := "nextOverdue", desc := "()I" } : Jvm.MethodName) ∈ TG := tg_2 209 rfl rfl
theorem kw_2_210 : Jvm.Cond.instanceMethod ({ cls := "BondWarehouse", name := "nextOverdue", desc := "()I" } : Jvm.MethodName) ∈ TG := tg_2 210 rfl rfl
theorem kw_2_211 : Jvm.Cond.selects "BondWarehouse" ({ cls := "BondWarehouse", name := "nextOverdue", desc := "()I" } : Jvm.MethodName) ({ cls := "BondWarehouse", name := "nextOverdue", desc := "()I" } : Jvm.MethodName) ∈ TG := tg_2 211 rfl rfl
theorem kw_2_212 : Jvm.Cond.code ({ cls := "BondWarehouse", name := "nextOverdue", desc := "()I" } : Jvm.MethodName) prog_1_method_73_code (1 : Nat) (Option.some Jvm.ClassFile.FieldType.int) ∈ TG := tg_2 212 rfl rfl
theorem kw_9_107 : Jvm.Cond.methodLink "BondWarehouseLaw" (451 : Nat) ({ cls := "BondWarehouseModel", name := "nextOverdue", desc := "()I" } : Jvm.MethodName) ∈ TG := tg_9 107 rfl rfl
theorem kw_9_108 : Jvm.Cond.instanceMethod ({ cls := "BondWarehouseModel", name := "nextOverdue", desc := "()I" } : Jvm.MethodName) ∈ TG := tg_9 108 rfl rfl
theorem kw_9_109 : Jvm.Cond.selects "BondWarehouseModel" ({ cls := "BondWarehouseModel", name := "nextOverdue", desc := "()I" } : Jvm.MethodName) ({ cls := "BondWarehouseModel", name := "nextOverdue", desc := "()I" } : Jvm.MethodName) ∈ TG := tg_9 109 rfl rfl
theorem kw_9_110 : Jvm.Cond.code ({ cls := "BondWarehouseModel", name := "nextOverdue", desc := "()I" } : Jvm.MethodName) prog_12_method_134_code (3 : Nat) (Option.some Jvm.ClassFile.FieldType.int) ∈ TG := tg_9 110 rfl rfl
theorem hy_L_stockByEntries : yL_stockByEntries.cls ≠ "java/lang/invoke/MethodHandle" ∧ yL_stockByEntries.cls ≠ "java/lang/invoke/VarHandle" ∧ (parseMethodDescriptor yL_stockByEntries.desc).map (fun d => d.parameters.length) = some 3 := by decide +kernel
theorem hy_L_stockByTotals : yL_stockByTotals.cls ≠ "java/lang/invoke/MethodHandle" ∧ yL_stockByTotals.cls ≠ "java/lang/invoke/VarHandle" ∧ (parseMethodDescriptor yL_stockByTotals.desc).map (fun d => d.parameters.length) = some 3 := by decide +kernel
theorem hy_L_whyNoEntry : yL_whyNoEntry.cls ≠ "java/lang/invoke/MethodHandle" ∧ yL_whyNoEntry.cls ≠ "java/lang/invoke/VarHandle" ∧ (parseMethodDescriptor yL_whyNoEntry.desc).map (fun d => d.parameters.length) = some 6 := by decide +kernel
theorem hy_L_whyNoWithdrawal : yL_whyNoWithdrawal.cls ≠ "java/lang/invoke/MethodHandle" ∧ yL_whyNoWithdrawal.cls ≠ "java/lang/invoke/VarHandle" ∧ (parseMethodDescriptor yL_whyNoWithdrawal.desc).map (fun d => d.parameters.length) = some 4 := by decide +kernel
theorem hy_L_whyNoExport : yL_whyNoExport.cls ≠ "java/lang/invoke/MethodHandle" ∧ yL_whyNoExport.cls ≠ "java/lang/invoke/VarHandle" ∧ (parseMethodDescriptor yL_whyNoExport.desc).map (fun d => d.parameters.length) = some 4 := by decide +kernel
theorem hy_L_whyNoMove : yL_whyNoMove.cls ≠ "java/lang/invoke/MethodHandle" ∧ yL_whyNoMove.cls ≠ "java/lang/invoke/VarHandle" ∧ (parseMethodDescriptor yL_whyNoMove.desc).map (fun d => d.parameters.length) = some 4 := by decide +kernel
theorem hy_L_whyNoDrawback : yL_whyNoDrawback.cls ≠ "java/lang/invoke/MethodHandle" ∧ yL_whyNoDrawback.cls ≠ "java/lang/invoke/VarHandle" ∧ (parseMethodDescriptor yL_whyNoDrawback.desc).map (fun d => d.parameters.length) = some 4 := by decide +kernel
theorem hy_L_chargeIfWeighed : yL_chargeIfWeighed.cls ≠ "java/lang/invoke/MethodHandle" ∧ yL_chargeIfWeighed.cls ≠ "java/lang/invoke/VarHandle" ∧ (parseMethodDescriptor yL_chargeIfWeighed.desc).map (fun d => d.parameters.length) = some 4 := by decide +kernel
theorem hy_L_drawbackFor : yL_drawbackFor.cls ≠ "java/lang/invoke/MethodHandle" ∧ yL_drawbackFor.cls ≠ "java/lang/invoke/VarHandle" ∧ (parseMethodDescriptor yL_drawbackFor.desc).map (fun d => d.parameters.length) = some 4 := by decide +kernel
theorem hy_L_dutyLater : yL_dutyLater.cls ≠ "java/lang/invoke/MethodHandle" ∧ yL_dutyLater.cls ≠ "java/lang/invoke/VarHandle" ∧ (parseMethodDescriptor yL_dutyLater.desc).map (fun d => d.parameters.length) = some 4 := by decide +kernel
theorem hy_L_daysToOverdue : yL_daysToOverdue.cls ≠ "java/lang/invoke/MethodHandle" ∧ yL_daysToOverdue.cls ≠ "java/lang/invoke/VarHandle" ∧ (parseMethodDescriptor yL_daysToOverdue.desc).map (fun d => d.parameters.length) = some 3 := by decide +kernel
theorem dL_law_3280 : decode cL_law 3280 = .ok (.aload_n 1, 1) := by decide +kernel
theorem dL_law_3281 : decode cL_law 3281 = .ok (.aload_n 0, 1) := by decide +kernel
theorem dL_law_3282 : decode cL_law 3282 = .ok (.iload 4, 2) := by decide +kernel
theorem dL_law_3284 : decode cL_law 3284 = .ok (.iconst 1, 1) := by decide +kernel
theorem dL_law_3285 : decode cL_law 3285 = .ok (.iadd, 1) := by decide +kernel
theorem dL_law_3286 : decode cL_law 3286 = .ok (.iaload, 1) := by decide +kernel
theorem dL_law_3287 : decode cL_law 3287 = .ok (.aload_n 3, 1) := by decide +kernel
theorem dL_law_3288 : decode cL_law 3288 = .ok (.invokestatic 415, 3) := by decide +kernel
theorem dL_law_3291 : decode cL_law 3291 = .ok (.istore 5, 2) := by decide +kernel
theorem dL_law_3293 : decode cL_law 3293 = .ok (.aload_n 2, 1) := by decide +kernel
theorem dL_law_3294 : decode cL_law 3294 = .ok (.aload_n 0, 1) := by decide +kernel
theorem dL_law_3295 : decode cL_law 3295 = .ok (.iload 4, 2) := by decide +kernel
theorem dL_law_3297 : decode cL_law 3297 = .ok (.iconst 1, 1) := by decide +kernel
theorem dL_law_3298 : decode cL_law 3298 = .ok (.iadd, 1) := by decide +kernel
theorem dL_law_3299 : decode cL_law 3299 = .ok (.iaload, 1) := by decide +kernel
theorem dL_law_3300 : decode cL_law 3300 = .ok (.invokevirtual 417, 3) := by decide +kernel
theorem dL_law_3303 : decode cL_law 3303 = .ok (.istore 6, 2) := by decide +kernel
theorem dL_law_3305 : decode cL_law 3305 = .ok (.aload_n 2, 1) := by decide +kernel
theorem dL_law_3306 : decode cL_law 3306 = .ok (.invokevirtual 216, 3) := by decide +kernel
theorem dL_law_3309 : decode cL_law 3309 = .ok (.iload 5, 2) := by decide +kernel
theorem dL_law_3311 : decode cL_law 3311 = .ok (.if_icmp .eq 5, 3) := by decide +kernel
theorem dL_law_3316 : decode cL_law 3316 = .ok (.iload 5, 2) := by decide +kernel
theorem dL_law_3318 : decode cL_law 3318 = .ok (.ifCond .ne 15, 3) := by decide +kernel
theorem dL_law_3321 : decode cL_law 3321 = .ok (.aload_n 3, 1) := by decide +kernel
theorem dL_law_3322 : decode cL_law 3322 = .ok (.iconst 0, 1) := by decide +kernel
theorem dL_law_3323 : decode cL_law 3323 = .ok (.laload, 1) := by decide +kernel
theorem dL_law_3324 : decode cL_law 3324 = .ok (.iload 6, 2) := by decide +kernel
theorem dL_law_3326 : decode cL_law 3326 = .ok (.i2l, 1) := by decide +kernel
theorem dL_law_3327 : decode cL_law 3327 = .ok (.lcmp, 1) := by decide +kernel
theorem dL_law_3328 : decode cL_law 3328 = .ok (.ifCond .eq 5, 3) := by decide +kernel
theorem dL_law_3333 : decode cL_law 3333 = .ok (.goto 1128, 3) := by decide +kernel
theorem dL_law_3336 : decode cL_law 3336 = .ok (.aload_n 1, 1) := by decide +kernel
theorem dL_law_3337 : decode cL_law 3337 = .ok (.aload_n 0, 1) := by decide +kernel
theorem dL_law_3338 : decode cL_law 3338 = .ok (.iload 4, 2) := by decide +kernel
theorem dL_law_3340 : decode cL_law 3340 = .ok (.iconst 1, 1) := by decide +kernel
theorem dL_law_3341 : decode cL_law 3341 = .ok (.iadd, 1) := by decide +kernel
theorem dL_law_3342 : decode cL_law 3342 = .ok (.iaload, 1) := by decide +kernel
theorem dL_law_3343 : decode cL_law 3343 = .ok (.aload_n 3, 1) := by decide +kernel
theorem dL_law_3344 : decode cL_law 3344 = .ok (.invokestatic 418, 3) := by decide +kernel
theorem dL_law_3347 : decode cL_law 3347 = .ok (.istore 5, 2) := by decide +kernel
theorem dL_law_3349 : decode cL_law 3349 = .ok (.aload_n 2, 1) := by decide +kernel
theorem dL_law_3350 : decode cL_law 3350 = .ok (.aload_n 0, 1) := by decide +kernel
theorem dL_law_3351 : decode cL_law 3351 = .ok (.iload 4, 2) := by decide +kernel
theorem dL_law_3353 : decode cL_law 3353 = .ok (.iconst 1, 1) := by decide +kernel
theorem dL_law_3354 : decode cL_law 3354 = .ok (.iadd, 1) := by decide +kernel
theorem dL_law_3355 : decode cL_law 3355 = .ok (.iaload, 1) := by decide +kernel
theorem dL_law_3356 : decode cL_law 3356 = .ok (.invokevirtual 420, 3) := by decide +kernel
theorem dL_law_3359 : decode cL_law 3359 = .ok (.istore 6, 2) := by decide +kernel
theorem dL_law_3361 : decode cL_law 3361 = .ok (.aload_n 2, 1) := by decide +kernel
theorem dL_law_3362 : decode cL_law 3362 = .ok (.invokevirtual 216, 3) := by decide +kernel
theorem dL_law_3365 : decode cL_law 3365 = .ok (.iload 5, 2) := by decide +kernel
theorem dL_law_3367 : decode cL_law 3367 = .ok (.if_icmp .eq 5, 3) := by decide +kernel
theorem dL_law_3372 : decode cL_law 3372 = .ok (.iload 5, 2) := by decide +kernel
theorem dL_law_3374 : decode cL_law 3374 = .ok (.ifCond .ne 15, 3) := by decide +kernel
theorem dL_law_3377 : decode cL_law 3377 = .ok (.aload_n 3, 1) := by decide +kernel
theorem dL_law_3378 : decode cL_law 3378 = .ok (.iconst 0, 1) := by decide +kernel
theorem dL_law_3379 : decode cL_law 3379 = .ok (.laload, 1) := by decide +kernel
theorem dL_law_3380 : decode cL_law 3380 = .ok (.iload 6, 2) := by decide +kernel
theorem dL_law_3382 : decode cL_law 3382 = .ok (.i2l, 1) := by decide +kernel
theorem dL_law_3383 : decode cL_law 3383 = .ok (.lcmp, 1) := by decide +kernel
theorem dL_law_3384 : decode cL_law 3384 = .ok (.ifCond .eq 5, 3) := by decide +kernel
theorem dL_law_3389 : decode cL_law 3389 = .ok (.goto 1072, 3) := by decide +kernel
theorem dL_law_3392 : decode cL_law 3392 = .ok (.aload_n 1, 1) := by decide +kernel
theorem dL_law_3393 : decode cL_law 3393 = .ok (.aload_n 0, 1) := by decide +kernel
theorem dL_law_3394 : decode cL_law 3394 = .ok (.iload 4, 2) := by decide +kernel
theorem dL_law_3396 : decode cL_law 3396 = .ok (.iconst 1, 1) := by decide +kernel
theorem dL_law_3397 : decode cL_law 3397 = .ok (.iadd, 1) := by decide +kernel
theorem dL_law_3398 : decode cL_law 3398 = .ok (.iaload, 1) := by decide +kernel
theorem dL_law_3399 : decode cL_law 3399 = .ok (.aload_n 0, 1) := by decide +kernel
theorem dL_law_3400 : decode cL_law 3400 = .ok (.iload 4, 2) := by decide +kernel
theorem dL_law_3402 : decode cL_law 3402 = .ok (.iconst 2, 1) := by decide +kernel
theorem dL_law_3403 : decode cL_law 3403 = .ok (.iadd, 1) := by decide +kernel
theorem dL_law_3404 : decode cL_law 3404 = .ok (.iaload, 1) := by decide +kernel
theorem dL_law_3405 : decode cL_law 3405 = .ok (.aload_n 0, 1) := by decide +kernel
theorem dL_law_3406 : decode cL_law 3406 = .ok (.iload 4, 2) := by decide +kernel
theorem dL_law_3408 : decode cL_law 3408 = .ok (.iconst 3, 1) := by decide +kernel
theorem dL_law_3409 : decode cL_law 3409 = .ok (.iadd, 1) := by decide +kernel
theorem dL_law_3410 : decode cL_law 3410 = .ok (.iaload, 1) := by decide +kernel
theorem dL_law_3411 : decode cL_law 3411 = .ok (.aload_n 0, 1) := by decide +kernel
theorem dL_law_3412 : decode cL_law 3412 = .ok (.iload 4, 2) := by decide +kernel
theorem dL_law_3414 : decode cL_law 3414 = .ok (.iconst 4, 1) := by decide +kernel
theorem dL_law_3415 : decode cL_law 3415 = .ok (.iadd, 1) := by decide +kernel
theorem dL_law_3416 : decode cL_law 3416 = .ok (.iaload, 1) := by decide +kernel
theorem dL_law_3417 : decode cL_law 3417 = .ok (.aload_n 3, 1) := by decide +kernel
theorem dL_law_3418 : decode cL_law 3418 = .ok (.invokestatic 421, 3) := by decide +kernel
theorem dL_law_3421 : decode cL_law 3421 = .ok (.istore 5, 2) := by decide +kernel
theorem dL_law_3423 : decode cL_law 3423 = .ok (.aload_n 2, 1) := by decide +kernel
theorem dL_law_3424 : decode cL_law 3424 = .ok (.aload_n 0, 1) := by decide +kernel
theorem dL_law_3425 : decode cL_law 3425 = .ok (.iload 4, 2) := by decide +kernel
theorem dL_law_3427 : decode cL_law 3427 = .ok (.iconst 1, 1) := by decide +kernel
theorem dL_law_3428 : decode cL_law 3428 = .ok (.iadd, 1) := by decide +kernel
theorem dL_law_3429 : decode cL_law 3429 = .ok (.iaload, 1) := by decide +kernel
theorem dL_law_3430 : decode cL_law 3430 = .ok (.aload_n 0, 1) := by decide +kernel
theorem dL_law_3431 : decode cL_law 3431 = .ok (.iload 4, 2) := by decide +kernel
theorem dL_law_3433 : decode cL_law 3433 = .ok (.iconst 2, 1) := by decide +kernel
theorem dL_law_3434 : decode cL_law 3434 = .ok (.iadd, 1) := by decide +kernel
theorem dL_law_3435 : decode cL_law 3435 = .ok (.iaload, 1) := by decide +kernel
theorem dL_law_3436 : decode cL_law 3436 = .ok (.aload_n 0, 1) := by decide +kernel
theorem dL_law_3437 : decode cL_law 3437 = .ok (.iload 4, 2) := by decide +kernel
theorem dL_law_3439 : decode cL_law 3439 = .ok (.iconst 3, 1) := by decide +kernel
theorem dL_law_3440 : decode cL_law 3440 = .ok (.iadd, 1) := by decide +kernel
theorem dL_law_3441 : decode cL_law 3441 = .ok (.iaload, 1) := by decide +kernel
theorem dL_law_3442 : decode cL_law 3442 = .ok (.aload_n 0, 1) := by decide +kernel
theorem dL_law_3443 : decode cL_law 3443 = .ok (.iload 4, 2) := by decide +kernel
theorem dL_law_3445 : decode cL_law 3445 = .ok (.iconst 4, 1) := by decide +kernel
theorem dL_law_3446 : decode cL_law 3446 = .ok (.iadd, 1) := by decide +kernel
theorem dL_law_3447 : decode cL_law 3447 = .ok (.iaload, 1) := by decide +kernel
theorem dL_law_3448 : decode cL_law 3448 = .ok (.invokevirtual 423, 3) := by decide +kernel
theorem dL_law_3451 : decode cL_law 3451 = .ok (.istore 6, 2) := by decide +kernel
theorem dL_law_3453 : decode cL_law 3453 = .ok (.aload_n 2, 1) := by decide +kernel
theorem dL_law_3454 : decode cL_law 3454 = .ok (.invokevirtual 216, 3) := by decide +kernel
theorem dL_law_3457 : decode cL_law 3457 = .ok (.iload 5, 2) := by decide +kernel
theorem dL_law_3459 : decode cL_law 3459 = .ok (.if_icmp .eq 5, 3) := by decide +kernel
theorem dL_law_3464 : decode cL_law 3464 = .ok (.iload 5, 2) := by decide +kernel
theorem dL_law_3466 : decode cL_law 3466 = .ok (.ifCond .ne 15, 3) := by decide +kernel
theorem dL_law_3469 : decode cL_law 3469 = .ok (.aload_n 3, 1) := by decide +kernel
theorem dL_law_3470 : decode cL_law 3470 = .ok (.iconst 0, 1) := by decide +kernel
theorem dL_law_3471 : decode cL_law 3471 = .ok (.laload, 1) := by decide +kernel
theorem dL_law_3472 : decode cL_law 3472 = .ok (.iload 6, 2) := by decide +kernel
theorem dL_law_3474 : decode cL_law 3474 = .ok (.i2l, 1) := by decide +kernel
theorem dL_law_3475 : decode cL_law 3475 = .ok (.lcmp, 1) := by decide +kernel
theorem dL_law_3476 : decode cL_law 3476 = .ok (.ifCond .eq 5, 3) := by decide +kernel
theorem dL_law_3481 : decode cL_law 3481 = .ok (.goto 980, 3) := by decide +kernel
theorem dL_law_3484 : decode cL_law 3484 = .ok (.aload_n 1, 1) := by decide +kernel
theorem dL_law_3485 : decode cL_law 3485 = .ok (.aload_n 0, 1) := by decide +kernel
theorem dL_law_3486 : decode cL_law 3486 = .ok (.iload 4, 2) := by decide +kernel
theorem dL_law_3488 : decode cL_law 3488 = .ok (.iconst 1, 1) := by decide +kernel
theorem dL_law_3489 : decode cL_law 3489 = .ok (.iadd, 1) := by decide +kernel
theorem dL_law_3490 : decode cL_law 3490 = .ok (.iaload, 1) := by decide +kernel
theorem dL_law_3491 : decode cL_law 3491 = .ok (.aload_n 0, 1) := by decide +kernel
theorem dL_law_3492 : decode cL_law 3492 = .ok (.iload 4, 2) := by decide +kernel
theorem dL_law_3494 : decode cL_law 3494 = .ok (.iconst 2, 1) := by decide +kernel
theorem dL_law_3495 : decode cL_law 3495 = .ok (.iadd, 1) := by decide +kernel
theorem dL_law_3496 : decode cL_law 3496 = .ok (.iaload, 1) := by decide +kernel
theorem dL_law_3497 : decode cL_law 3497 = .ok (.aload_n 3, 1) := by decide +kernel
theorem dL_law_3498 : decode cL_law 3498 = .ok (.invokestatic 424, 3) := by decide +kernel
theorem dL_law_3501 : decode cL_law 3501 = .ok (.istore 5, 2) := by decide +kernel
theorem dL_law_3503 : decode cL_law 3503 = .ok (.aload_n 2, 1) := by decide +kernel
theorem dL_law_3504 : decode cL_law 3504 = .ok (.aload_n 0, 1) := by decide +kernel
theorem dL_law_3505 : decode cL_law 3505 = .ok (.iload 4, 2) := by decide +kernel
theorem dL_law_3507 : decode cL_law 3507 = .ok (.iconst 1, 1) := by decide +kernel
theorem dL_law_3508 : decode cL_law 3508 = .ok (.iadd, 1) := by decide +kernel
theorem dL_law_3509 : decode cL_law 3509 = .ok (.iaload, 1) := by decide +kernel
theorem dL_law_3510 : decode cL_law 3510 = .ok (.aload_n 0, 1) := by decide +kernel
theorem dL_law_3511 : decode cL_law 3511 = .ok (.iload 4, 2) := by decide +kernel
theorem dL_law_3513 : decode cL_law 3513 = .ok (.iconst 2, 1) := by decide +kernel
theorem dL_law_3514 : decode cL_law 3514 = .ok (.iadd, 1) := by decide +kernel
theorem dL_law_3515 : decode cL_law 3515 = .ok (.iaload, 1) := by decide +kernel
theorem dL_law_3516 : decode cL_law 3516 = .ok (.invokevirtual 426, 3) := by decide +kernel
theorem dL_law_3519 : decode cL_law 3519 = .ok (.istore 6, 2) := by decide +kernel
theorem dL_law_3521 : decode cL_law 3521 = .ok (.aload_n 2, 1) := by decide +kernel
theorem dL_law_3522 : decode cL_law 3522 = .ok (.invokevirtual 216, 3) := by decide +kernel
theorem dL_law_3525 : decode cL_law 3525 = .ok (.iload 5, 2) := by decide +kernel
theorem dL_law_3527 : decode cL_law 3527 = .ok (.if_icmp .eq 5, 3) := by decide +kernel
theorem dL_law_3532 : decode cL_law 3532 = .ok (.iload 5, 2) := by decide +kernel
theorem dL_law_3534 : decode cL_law 3534 = .ok (.ifCond .ne 15, 3) := by decide +kernel
theorem dL_law_3537 : decode cL_law 3537 = .ok (.aload_n 3, 1) := by decide +kernel
theorem dL_law_3538 : decode cL_law 3538 = .ok (.iconst 0, 1) := by decide +kernel
theorem dL_law_3539 : decode cL_law 3539 = .ok (.laload, 1) := by decide +kernel
theorem dL_law_3540 : decode cL_law 3540 = .ok (.iload 6, 2) := by decide +kernel
theorem dL_law_3542 : decode cL_law 3542 = .ok (.i2l, 1) := by decide +kernel
theorem dL_law_3543 : decode cL_law 3543 = .ok (.lcmp, 1) := by decide +kernel
theorem dL_law_3544 : decode cL_law 3544 = .ok (.ifCond .eq 5, 3) := by decide +kernel
theorem dL_law_3549 : decode cL_law 3549 = .ok (.goto 912, 3) := by decide +kernel
theorem dL_law_3552 : decode cL_law 3552 = .ok (.aload_n 1, 1) := by decide +kernel
theorem dL_law_3553 : decode cL_law 3553 = .ok (.aload_n 0, 1) := by decide +kernel
theorem dL_law_3554 : decode cL_law 3554 = .ok (.iload 4, 2) := by decide +kernel
theorem dL_law_3556 : decode cL_law 3556 = .ok (.iconst 1, 1) := by decide +kernel
theorem dL_law_3557 : decode cL_law 3557 = .ok (.iadd, 1) := by decide +kernel
theorem dL_law_3558 : decode cL_law 3558 = .ok (.iaload, 1) := by decide +kernel
theorem dL_law_3559 : decode cL_law 3559 = .ok (.aload_n 0, 1) := by decide +kernel
theorem dL_law_3560 : decode cL_law 3560 = .ok (.iload 4, 2) := by decide +kernel
theorem dL_law_3562 : decode cL_law 3562 = .ok (.iconst 2, 1) := by decide +kernel
theorem dL_law_3563 : decode cL_law 3563 = .ok (.iadd, 1) := by decide +kernel
theorem dL_law_3564 : decode cL_law 3564 = .ok (.iaload, 1) := by decide +kernel
theorem dL_law_3565 : decode cL_law 3565 = .ok (.aload_n 3, 1) := by decide +kernel
theorem dL_law_3566 : decode cL_law 3566 = .ok (.invokestatic 427, 3) := by decide +kernel
theorem dL_law_3569 : decode cL_law 3569 = .ok (.istore 5, 2) := by decide +kernel
theorem dL_law_3571 : decode cL_law 3571 = .ok (.aload_n 2, 1) := by decide +kernel
theorem dL_law_3572 : decode cL_law 3572 = .ok (.aload_n 0, 1) := by decide +kernel
theorem dL_law_3573 : decode cL_law 3573 = .ok (.iload 4, 2) := by decide +kernel
theorem dL_law_3575 : decode cL_law 3575 = .ok (.iconst 1, 1) := by decide +kernel
theorem dL_law_3576 : decode cL_law 3576 = .ok (.iadd, 1) := by decide +kernel
theorem dL_law_3577 : decode cL_law 3577 = .ok (.iaload, 1) := by decide +kernel
theorem dL_law_3578 : decode cL_law 3578 = .ok (.aload_n 0, 1) := by decide +kernel
theorem dL_law_3579 : decode cL_law 3579 = .ok (.iload 4, 2) := by decide +kernel
theorem dL_law_3581 : decode cL_law 3581 = .ok (.iconst 2, 1) := by decide +kernel
theorem dL_law_3582 : decode cL_law 3582 = .ok (.iadd, 1) := by decide +kernel
theorem dL_law_3583 : decode cL_law 3583 = .ok (.iaload, 1) := by decide +kernel
theorem dL_law_3584 : decode cL_law 3584 = .ok (.invokevirtual 429, 3) := by decide +kernel
theorem dL_law_3587 : decode cL_law 3587 = .ok (.istore 6, 2) := by decide +kernel
theorem dL_law_3589 : decode cL_law 3589 = .ok (.aload_n 2, 1) := by decide +kernel
theorem dL_law_3590 : decode cL_law 3590 = .ok (.invokevirtual 216, 3) := by decide +kernel
theorem dL_law_3593 : decode cL_law 3593 = .ok (.iload 5, 2) := by decide +kernel
theorem dL_law_3595 : decode cL_law 3595 = .ok (.if_icmp .eq 5, 3) := by decide +kernel
theorem dL_law_3600 : decode cL_law 3600 = .ok (.iload 5, 2) := by decide +kernel
theorem dL_law_3602 : decode cL_law 3602 = .ok (.ifCond .ne 15, 3) := by decide +kernel
theorem dL_law_3605 : decode cL_law 3605 = .ok (.aload_n 3, 1) := by decide +kernel
theorem dL_law_3606 : decode cL_law 3606 = .ok (.iconst 0, 1) := by decide +kernel
theorem dL_law_3607 : decode cL_law 3607 = .ok (.laload, 1) := by decide +kernel
theorem dL_law_3608 : decode cL_law 3608 = .ok (.iload 6, 2) := by decide +kernel
theorem dL_law_3610 : decode cL_law 3610 = .ok (.i2l, 1) := by decide +kernel
theorem dL_law_3611 : decode cL_law 3611 = .ok (.lcmp, 1) := by decide +kernel
theorem dL_law_3612 : decode cL_law 3612 = .ok (.ifCond .eq 5, 3) := by decide +kernel
theorem dL_law_3617 : decode cL_law 3617 = .ok (.goto 844, 3) := by decide +kernel
theorem dL_law_3620 : decode cL_law 3620 = .ok (.aload_n 1, 1) := by decide +kernel
theorem dL_law_3621 : decode cL_law 3621 = .ok (.aload_n 0, 1) := by decide +kernel
theorem dL_law_3622 : decode cL_law 3622 = .ok (.iload 4, 2) := by decide +kernel
theorem dL_law_3624 : decode cL_law 3624 = .ok (.iconst 1, 1) := by decide +kernel
theorem dL_law_3625 : decode cL_law 3625 = .ok (.iadd, 1) := by decide +kernel
theorem dL_law_3626 : decode cL_law 3626 = .ok (.iaload, 1) := by decide +kernel
theorem dL_law_3627 : decode cL_law 3627 = .ok (.aload_n 0, 1) := by decide +kernel
theorem dL_law_3628 : decode cL_law 3628 = .ok (.iload 4, 2) := by decide +kernel
theorem dL_law_3630 : decode cL_law 3630 = .ok (.iconst 2, 1) := by decide +kernel
theorem dL_law_3631 : decode cL_law 3631 = .ok (.iadd, 1) := by decide +kernel
theorem dL_law_3632 : decode cL_law 3632 = .ok (.iaload, 1) := by decide +kernel
theorem dL_law_3633 : decode cL_law 3633 = .ok (.aload_n 3, 1) := by decide +kernel
theorem dL_law_3634 : decode cL_law 3634 = .ok (.invokestatic 430, 3) := by decide +kernel
theorem dL_law_3637 : decode cL_law 3637 = .ok (.istore 5, 2) := by decide +kernel
theorem dL_law_3639 : decode cL_law 3639 = .ok (.aload_n 2, 1) := by decide +kernel
theorem dL_law_3640 : decode cL_law 3640 = .ok (.aload_n 0, 1) := by decide +kernel
theorem dL_law_3641 : decode cL_law 3641 = .ok (.iload 4, 2) := by decide +kernel
theorem dL_law_3643 : decode cL_law 3643 = .ok (.iconst 1, 1) := by decide +kernel
theorem dL_law_3644 : decode cL_law 3644 = .ok (.iadd, 1) := by decide +kernel
theorem dL_law_3645 : decode cL_law 3645 = .ok (.iaload, 1) := by decide +kernel
theorem dL_law_3646 : decode cL_law 3646 = .ok (.aload_n 0, 1) := by decide +kernel
theorem dL_law_3647 : decode cL_law 3647 = .ok (.iload 4, 2) := by decide +kernel
theorem dL_law_3649 : decode cL_law 3649 = .ok (.iconst 2, 1) := by decide +kernel
theorem dL_law_3650 : decode cL_law 3650 = .ok (.iadd, 1) := by decide +kernel
theorem dL_law_3651 : decode cL_law 3651 = .ok (.iaload, 1) := by decide +kernel
theorem dL_law_3652 : decode cL_law 3652 = .ok (.invokevirtual 432, 3) := by decide +kernel
theorem dL_law_3655 : decode cL_law 3655 = .ok (.istore 6, 2) := by decide +kernel
theorem dL_law_3657 : decode cL_law 3657 = .ok (.aload_n 2, 1) := by decide +kernel
theorem dL_law_3658 : decode cL_law 3658 = .ok (.invokevirtual 216, 3) := by decide +kernel
theorem dL_law_3661 : decode cL_law 3661 = .ok (.iload 5, 2) := by decide +kernel
theorem dL_law_3663 : decode cL_law 3663 = .ok (.if_icmp .eq 5, 3) := by decide +kernel
theorem dL_law_3668 : decode cL_law 3668 = .ok (.iload 5, 2) := by decide +kernel
theorem dL_law_3670 : decode cL_law 3670 = .ok (.ifCond .ne 15, 3) := by decide +kernel
theorem dL_law_3673 : decode cL_law 3673 = .ok (.aload_n 3, 1) := by decide +kernel
theorem dL_law_3674 : decode cL_law 3674 = .ok (.iconst 0, 1) := by decide +kernel
theorem dL_law_3675 : decode cL_law 3675 = .ok (.laload, 1) := by decide +kernel
theorem dL_law_3676 : decode cL_law 3676 = .ok (.iload 6, 2) := by decide +kernel
theorem dL_law_3678 : decode cL_law 3678 = .ok (.i2l, 1) := by decide +kernel
theorem dL_law_3679 : decode cL_law 3679 = .ok (.lcmp, 1) := by decide +kernel
theorem dL_law_3680 : decode cL_law 3680 = .ok (.ifCond .eq 5, 3) := by decide +kernel
theorem dL_law_3685 : decode cL_law 3685 = .ok (.goto 776, 3) := by decide +kernel
theorem dL_law_3688 : decode cL_law 3688 = .ok (.aload_n 1, 1) := by decide +kernel
theorem dL_law_3689 : decode cL_law 3689 = .ok (.aload_n 0, 1) := by decide +kernel
theorem dL_law_3690 : decode cL_law 3690 = .ok (.iload 4, 2) := by decide +kernel
theorem dL_law_3692 : decode cL_law 3692 = .ok (.iconst 1, 1) := by decide +kernel
theorem dL_law_3693 : decode cL_law 3693 = .ok (.iadd, 1) := by decide +kernel
theorem dL_law_3694 : decode cL_law 3694 = .ok (.iaload, 1) := by decide +kernel
theorem dL_law_3695 : decode cL_law 3695 = .ok (.aload_n 0, 1) := by decide +kernel
theorem dL_law_3696 : decode cL_law 3696 = .ok (.iload 4, 2) := by decide +kernel
theorem dL_law_3698 : decode cL_law 3698 = .ok (.iconst 2, 1) := by decide +kernel
theorem dL_law_3699 : decode cL_law 3699 = .ok (.iadd, 1) := by decide +kernel
theorem dL_law_3700 : decode cL_law 3700 = .ok (.iaload, 1) := by decide +kernel
theorem dL_law_3701 : decode cL_law 3701 = .ok (.aload_n 3, 1) := by decide +kernel
theorem dL_law_3702 : decode cL_law 3702 = .ok (.invokestatic 433, 3) := by decide +kernel
theorem dL_law_3705 : decode cL_law 3705 = .ok (.istore 5, 2) := by decide +kernel
theorem dL_law_3707 : decode cL_law 3707 = .ok (.aload_n 2, 1) := by decide +kernel
theorem dL_law_3708 : decode cL_law 3708 = .ok (.aload_n 0, 1) := by decide +kernel
theorem dL_law_3709 : decode cL_law 3709 = .ok (.iload 4, 2) := by decide +kernel
theorem dL_law_3711 : decode cL_law 3711 = .ok (.iconst 1, 1) := by decide +kernel
theorem dL_law_3712 : decode cL_law 3712 = .ok (.iadd, 1) := by decide +kernel
theorem dL_law_3713 : decode cL_law 3713 = .ok (.iaload, 1) := by decide +kernel
theorem dL_law_3714 : decode cL_law 3714 = .ok (.aload_n 0, 1) := by decide +kernel
theorem dL_law_3715 : decode cL_law 3715 = .ok (.iload 4, 2) := by decide +kernel
theorem dL_law_3717 : decode cL_law 3717 = .ok (.iconst 2, 1) := by decide +kernel
theorem dL_law_3718 : decode cL_law 3718 = .ok (.iadd, 1) := by decide +kernel
theorem dL_law_3719 : decode cL_law 3719 = .ok (.iaload, 1) := by decide +kernel
theorem dL_law_3720 : decode cL_law 3720 = .ok (.invokevirtual 435, 3) := by decide +kernel
theorem dL_law_3723 : decode cL_law 3723 = .ok (.istore 6, 2) := by decide +kernel
theorem dL_law_3725 : decode cL_law 3725 = .ok (.aload_n 2, 1) := by decide +kernel
theorem dL_law_3726 : decode cL_law 3726 = .ok (.invokevirtual 216, 3) := by decide +kernel
theorem dL_law_3729 : decode cL_law 3729 = .ok (.iload 5, 2) := by decide +kernel
theorem dL_law_3731 : decode cL_law 3731 = .ok (.if_icmp .eq 5, 3) := by decide +kernel
theorem dL_law_3736 : decode cL_law 3736 = .ok (.iload 5, 2) := by decide +kernel
theorem dL_law_3738 : decode cL_law 3738 = .ok (.ifCond .ne 15, 3) := by decide +kernel
theorem dL_law_3741 : decode cL_law 3741 = .ok (.aload_n 3, 1) := by decide +kernel
theorem dL_law_3742 : decode cL_law 3742 = .ok (.iconst 0, 1) := by decide +kernel
theorem dL_law_3743 : decode cL_law 3743 = .ok (.laload, 1) := by decide +kernel
theorem dL_law_3744 : decode cL_law 3744 = .ok (.iload 6, 2) := by decide +kernel
theorem dL_law_3746 : decode cL_law 3746 = .ok (.i2l, 1) := by decide +kernel
theorem dL_law_3747 : decode cL_law 3747 = .ok (.lcmp, 1) := by decide +kernel
theorem dL_law_3748 : decode cL_law 3748 = .ok (.ifCond .eq 5, 3) := by decide +kernel
theorem dL_law_3753 : decode cL_law 3753 = .ok (.goto 708, 3) := by decide +kernel
theorem dL_law_3756 : decode cL_law 3756 = .ok (.aload_n 1, 1) := by decide +kernel
theorem dL_law_3757 : decode cL_law 3757 = .ok (.aload_n 0, 1) := by decide +kernel
theorem dL_law_3758 : decode cL_law 3758 = .ok (.iload 4, 2) := by decide +kernel
theorem dL_law_3760 : decode cL_law 3760 = .ok (.iconst 1, 1) := by decide +kernel
theorem dL_law_3761 : decode cL_law 3761 = .ok (.iadd, 1) := by decide +kernel
theorem dL_law_3762 : decode cL_law 3762 = .ok (.iaload, 1) := by decide +kernel
theorem dL_law_3763 : decode cL_law 3763 = .ok (.aload_n 0, 1) := by decide +kernel
theorem dL_law_3764 : decode cL_law 3764 = .ok (.iload 4, 2) := by decide +kernel
theorem dL_law_3766 : decode cL_law 3766 = .ok (.iconst 2, 1) := by decide +kernel
theorem dL_law_3767 : decode cL_law 3767 = .ok (.iadd, 1) := by decide +kernel
theorem dL_law_3768 : decode cL_law 3768 = .ok (.iaload, 1) := by decide +kernel
theorem dL_law_3769 : decode cL_law 3769 = .ok (.aload_n 3, 1) := by decide +kernel
theorem dL_law_3770 : decode cL_law 3770 = .ok (.invokestatic 436, 3) := by decide +kernel
theorem dL_law_3773 : decode cL_law 3773 = .ok (.istore 5, 2) := by decide +kernel
theorem dL_law_3775 : decode cL_law 3775 = .ok (.aload_n 2, 1) := by decide +kernel
theorem dL_law_3776 : decode cL_law 3776 = .ok (.aload_n 0, 1) := by decide +kernel
theorem dL_law_3777 : decode cL_law 3777 = .ok (.iload 4, 2) := by decide +kernel
theorem dL_law_3779 : decode cL_law 3779 = .ok (.iconst 1, 1) := by decide +kernel
theorem dL_law_3780 : decode cL_law 3780 = .ok (.iadd, 1) := by decide +kernel
theorem dL_law_3781 : decode cL_law 3781 = .ok (.iaload, 1) := by decide +kernel
theorem dL_law_3782 : decode cL_law 3782 = .ok (.aload_n 0, 1) := by decide +kernel
theorem dL_law_3783 : decode cL_law 3783 = .ok (.iload 4, 2) := by decide +kernel
theorem dL_law_3785 : decode cL_law 3785 = .ok (.iconst 2, 1) := by decide +kernel
theorem dL_law_3786 : decode cL_law 3786 = .ok (.iadd, 1) := by decide +kernel
theorem dL_law_3787 : decode cL_law 3787 = .ok (.iaload, 1) := by decide +kernel
theorem dL_law_3788 : decode cL_law 3788 = .ok (.invokevirtual 438, 3) := by decide +kernel
theorem dL_law_3791 : decode cL_law 3791 = .ok (.istore 6, 2) := by decide +kernel
theorem dL_law_3793 : decode cL_law 3793 = .ok (.aload_n 2, 1) := by decide +kernel
theorem dL_law_3794 : decode cL_law 3794 = .ok (.invokevirtual 216, 3) := by decide +kernel
theorem dL_law_3797 : decode cL_law 3797 = .ok (.iload 5, 2) := by decide +kernel
theorem dL_law_3799 : decode cL_law 3799 = .ok (.if_icmp .eq 5, 3) := by decide +kernel
theorem dL_law_3804 : decode cL_law 3804 = .ok (.iload 5, 2) := by decide +kernel
theorem dL_law_3806 : decode cL_law 3806 = .ok (.ifCond .ne 15, 3) := by decide +kernel
theorem dL_law_3809 : decode cL_law 3809 = .ok (.aload_n 3, 1) := by decide +kernel
theorem dL_law_3810 : decode cL_law 3810 = .ok (.iconst 0, 1) := by decide +kernel
theorem dL_law_3811 : decode cL_law 3811 = .ok (.laload, 1) := by decide +kernel
theorem dL_law_3812 : decode cL_law 3812 = .ok (.iload 6, 2) := by decide +kernel
theorem dL_law_3814 : decode cL_law 3814 = .ok (.i2l, 1) := by decide +kernel
theorem dL_law_3815 : decode cL_law 3815 = .ok (.lcmp, 1) := by decide +kernel
theorem dL_law_3816 : decode cL_law 3816 = .ok (.ifCond .eq 5, 3) := by decide +kernel
theorem dL_law_3821 : decode cL_law 3821 = .ok (.goto 640, 3) := by decide +kernel
theorem dL_law_3824 : decode cL_law 3824 = .ok (.aload_n 1, 1) := by decide +kernel
theorem dL_law_3825 : decode cL_law 3825 = .ok (.aload_n 0, 1) := by decide +kernel
theorem dL_law_3826 : decode cL_law 3826 = .ok (.iload 4, 2) := by decide +kernel
theorem dL_law_3828 : decode cL_law 3828 = .ok (.iconst 1, 1) := by decide +kernel
theorem dL_law_3829 : decode cL_law 3829 = .ok (.iadd, 1) := by decide +kernel
theorem dL_law_3830 : decode cL_law 3830 = .ok (.iaload, 1) := by decide +kernel
theorem dL_law_3831 : decode cL_law 3831 = .ok (.aload_n 0, 1) := by decide +kernel
theorem dL_law_3832 : decode cL_law 3832 = .ok (.iload 4, 2) := by decide +kernel
theorem dL_law_3834 : decode cL_law 3834 = .ok (.iconst 2, 1) := by decide +kernel
theorem dL_law_3835 : decode cL_law 3835 = .ok (.iadd, 1) := by decide +kernel
theorem dL_law_3836 : decode cL_law 3836 = .ok (.iaload, 1) := by decide +kernel
theorem dL_law_3837 : decode cL_law 3837 = .ok (.aload_n 3, 1) := by decide +kernel
theorem dL_law_3838 : decode cL_law 3838 = .ok (.invokestatic 439, 3) := by decide +kernel
theorem dL_law_3841 : decode cL_law 3841 = .ok (.istore 5, 2) := by decide +kernel
theorem dL_law_3843 : decode cL_law 3843 = .ok (.aload_n 2, 1) := by decide +kernel
theorem dL_law_3844 : decode cL_law 3844 = .ok (.aload_n 0, 1) := by decide +kernel
theorem dL_law_3845 : decode cL_law 3845 = .ok (.iload 4, 2) := by decide +kernel
theorem dL_law_3847 : decode cL_law 3847 = .ok (.iconst 1, 1) := by decide +kernel
theorem dL_law_3848 : decode cL_law 3848 = .ok (.iadd, 1) := by decide +kernel
theorem dL_law_3849 : decode cL_law 3849 = .ok (.iaload, 1) := by decide +kernel
theorem dL_law_3850 : decode cL_law 3850 = .ok (.aload_n 0, 1) := by decide +kernel
theorem dL_law_3851 : decode cL_law 3851 = .ok (.iload 4, 2) := by decide +kernel
theorem dL_law_3853 : decode cL_law 3853 = .ok (.iconst 2, 1) := by decide +kernel
theorem dL_law_3854 : decode cL_law 3854 = .ok (.iadd, 1) := by decide +kernel
theorem dL_law_3855 : decode cL_law 3855 = .ok (.iaload, 1) := by decide +kernel
theorem dL_law_3856 : decode cL_law 3856 = .ok (.invokevirtual 441, 3) := by decide +kernel
theorem dL_law_3859 : decode cL_law 3859 = .ok (.istore 6, 2) := by decide +kernel
theorem dL_law_3861 : decode cL_law 3861 = .ok (.aload_n 2, 1) := by decide +kernel
theorem dL_law_3862 : decode cL_law 3862 = .ok (.invokevirtual 216, 3) := by decide +kernel
theorem dL_law_3865 : decode cL_law 3865 = .ok (.iload 5, 2) := by decide +kernel
theorem dL_law_3867 : decode cL_law 3867 = .ok (.if_icmp .eq 5, 3) := by decide +kernel
theorem dL_law_3872 : decode cL_law 3872 = .ok (.iload 5, 2) := by decide +kernel
theorem dL_law_3874 : decode cL_law 3874 = .ok (.ifCond .ne 15, 3) := by decide +kernel
theorem dL_law_3877 : decode cL_law 3877 = .ok (.aload_n 3, 1) := by decide +kernel
theorem dL_law_3878 : decode cL_law 3878 = .ok (.iconst 0, 1) := by decide +kernel
theorem dL_law_3879 : decode cL_law 3879 = .ok (.laload, 1) := by decide +kernel
theorem dL_law_3880 : decode cL_law 3880 = .ok (.iload 6, 2) := by decide +kernel
theorem dL_law_3882 : decode cL_law 3882 = .ok (.i2l, 1) := by decide +kernel
theorem dL_law_3883 : decode cL_law 3883 = .ok (.lcmp, 1) := by decide +kernel
theorem dL_law_3884 : decode cL_law 3884 = .ok (.ifCond .eq 5, 3) := by decide +kernel
theorem dL_law_3889 : decode cL_law 3889 = .ok (.goto 572, 3) := by decide +kernel
theorem dL_law_3892 : decode cL_law 3892 = .ok (.aload_n 1, 1) := by decide +kernel
theorem dL_law_3893 : decode cL_law 3893 = .ok (.aload_n 0, 1) := by decide +kernel
theorem dL_law_3894 : decode cL_law 3894 = .ok (.iload 4, 2) := by decide +kernel
theorem dL_law_3896 : decode cL_law 3896 = .ok (.iconst 1, 1) := by decide +kernel
theorem dL_law_3897 : decode cL_law 3897 = .ok (.iadd, 1) := by decide +kernel
theorem dL_law_3898 : decode cL_law 3898 = .ok (.iaload, 1) := by decide +kernel
theorem dL_law_3899 : decode cL_law 3899 = .ok (.aload_n 0, 1) := by decide +kernel
theorem dL_law_3900 : decode cL_law 3900 = .ok (.iload 4, 2) := by decide +kernel
theorem dL_law_3902 : decode cL_law 3902 = .ok (.iconst 2, 1) := by decide +kernel
theorem dL_law_3903 : decode cL_law 3903 = .ok (.iadd, 1) := by decide +kernel
theorem dL_law_3904 : decode cL_law 3904 = .ok (.iaload, 1) := by decide +kernel
theorem dL_law_3905 : decode cL_law 3905 = .ok (.aload_n 3, 1) := by decide +kernel
theorem dL_law_3906 : decode cL_law 3906 = .ok (.invokestatic 442, 3) := by decide +kernel
theorem dL_law_3909 : decode cL_law 3909 = .ok (.istore 5, 2) := by decide +kernel
theorem dL_law_3911 : decode cL_law 3911 = .ok (.aload_n 2, 1) := by decide +kernel
theorem dL_law_3912 : decode cL_law 3912 = .ok (.aload_n 0, 1) := by decide +kernel
theorem dL_law_3913 : decode cL_law 3913 = .ok (.iload 4, 2) := by decide +kernel
theorem dL_law_3915 : decode cL_law 3915 = .ok (.iconst 1, 1) := by decide +kernel
theorem dL_law_3916 : decode cL_law 3916 = .ok (.iadd, 1) := by decide +kernel
theorem dL_law_3917 : decode cL_law 3917 = .ok (.iaload, 1) := by decide +kernel
theorem dL_law_3918 : decode cL_law 3918 = .ok (.aload_n 0, 1) := by decide +kernel
theorem dL_law_3919 : decode cL_law 3919 = .ok (.iload 4, 2) := by decide +kernel
theorem dL_law_3921 : decode cL_law 3921 = .ok (.iconst 2, 1) := by decide +kernel
theorem dL_law_3922 : decode cL_law 3922 = .ok (.iadd, 1) := by decide +kernel
theorem dL_law_3923 : decode cL_law 3923 = .ok (.iaload, 1) := by decide +kernel
theorem dL_law_3924 : decode cL_law 3924 = .ok (.invokevirtual 444, 3) := by decide +kernel
theorem dL_law_3927 : decode cL_law 3927 = .ok (.istore 6, 2) := by decide +kernel
theorem dL_law_3929 : decode cL_law 3929 = .ok (.aload_n 2, 1) := by decide +kernel
theorem dL_law_3930 : decode cL_law 3930 = .ok (.invokevirtual 216, 3) := by decide +kernel
theorem dL_law_3933 : decode cL_law 3933 = .ok (.iload 5, 2) := by decide +kernel
theorem dL_law_3935 : decode cL_law 3935 = .ok (.if_icmp .eq 5, 3) := by decide +kernel
theorem dL_law_3940 : decode cL_law 3940 = .ok (.iload 5, 2) := by decide +kernel
theorem dL_law_3942 : decode cL_law 3942 = .ok (.ifCond .ne 15, 3) := by decide +kernel
theorem dL_law_3945 : decode cL_law 3945 = .ok (.aload_n 3, 1) := by decide +kernel
theorem dL_law_3946 : decode cL_law 3946 = .ok (.iconst 0, 1) := by decide +kernel
theorem dL_law_3947 : decode cL_law 3947 = .ok (.laload, 1) := by decide +kernel
theorem dL_law_3948 : decode cL_law 3948 = .ok (.iload 6, 2) := by decide +kernel
theorem dL_law_3950 : decode cL_law 3950 = .ok (.i2l, 1) := by decide +kernel
theorem dL_law_3951 : decode cL_law 3951 = .ok (.lcmp, 1) := by decide +kernel
theorem dL_law_3952 : decode cL_law 3952 = .ok (.ifCond .eq 5, 3) := by decide +kernel
theorem dL_law_3957 : decode cL_law 3957 = .ok (.goto 504, 3) := by decide +kernel
theorem dL_law_3960 : decode cL_law 3960 = .ok (.aload_n 1, 1) := by decide +kernel
theorem dL_law_3961 : decode cL_law 3961 = .ok (.aload_n 0, 1) := by decide +kernel
theorem dL_law_3962 : decode cL_law 3962 = .ok (.iload 4, 2) := by decide +kernel
theorem dL_law_3964 : decode cL_law 3964 = .ok (.iconst 1, 1) := by decide +kernel
theorem dL_law_3965 : decode cL_law 3965 = .ok (.iadd, 1) := by decide +kernel
theorem dL_law_3966 : decode cL_law 3966 = .ok (.iaload, 1) := by decide +kernel
theorem dL_law_3967 : decode cL_law 3967 = .ok (.aload_n 3, 1) := by decide +kernel
theorem dL_law_3968 : decode cL_law 3968 = .ok (.invokestatic 445, 3) := by decide +kernel
theorem dL_law_3971 : decode cL_law 3971 = .ok (.istore 5, 2) := by decide +kernel
theorem dL_law_3973 : decode cL_law 3973 = .ok (.aload_n 2, 1) := by decide +kernel
theorem dL_law_3974 : decode cL_law 3974 = .ok (.aload_n 0, 1) := by decide +kernel
theorem dL_law_3975 : decode cL_law 3975 = .ok (.iload 4, 2) := by decide +kernel
theorem dL_law_3977 : decode cL_law 3977 = .ok (.iconst 1, 1) := by decide +kernel
theorem dL_law_3978 : decode cL_law 3978 = .ok (.iadd, 1) := by decide +kernel
theorem dL_law_3979 : decode cL_law 3979 = .ok (.iaload, 1) := by decide +kernel
theorem dL_law_3980 : decode cL_law 3980 = .ok (.invokevirtual 447, 3) := by decide +kernel
theorem dL_law_3983 : decode cL_law 3983 = .ok (.istore 6, 2) := by decide +kernel
theorem dL_law_3985 : decode cL_law 3985 = .ok (.aload_n 2, 1) := by decide +kernel
theorem dL_law_3986 : decode cL_law 3986 = .ok (.invokevirtual 216, 3) := by decide +kernel
theorem dL_law_3989 : decode cL_law 3989 = .ok (.iload 5, 2) := by decide +kernel
theorem dL_law_3991 : decode cL_law 3991 = .ok (.if_icmp .eq 5, 3) := by decide +kernel
theorem dL_law_3996 : decode cL_law 3996 = .ok (.iload 5, 2) := by decide +kernel
theorem dL_law_3998 : decode cL_law 3998 = .ok (.ifCond .ne 15, 3) := by decide +kernel
theorem dL_law_4001 : decode cL_law 4001 = .ok (.aload_n 3, 1) := by decide +kernel
theorem dL_law_4002 : decode cL_law 4002 = .ok (.iconst 0, 1) := by decide +kernel
theorem dL_law_4003 : decode cL_law 4003 = .ok (.laload, 1) := by decide +kernel
theorem dL_law_4004 : decode cL_law 4004 = .ok (.iload 6, 2) := by decide +kernel
theorem dL_law_4006 : decode cL_law 4006 = .ok (.i2l, 1) := by decide +kernel
theorem dL_law_4007 : decode cL_law 4007 = .ok (.lcmp, 1) := by decide +kernel
theorem dL_law_4008 : decode cL_law 4008 = .ok (.ifCond .eq 5, 3) := by decide +kernel
theorem dL_law_4013 : decode cL_law 4013 = .ok (.goto 448, 3) := by decide +kernel
theorem dL_law_4016 : decode cL_law 4016 = .ok (.aload_n 1, 1) := by decide +kernel
theorem dL_law_4017 : decode cL_law 4017 = .ok (.invokevirtual 448, 3) := by decide +kernel
theorem dL_law_4020 : decode cL_law 4020 = .ok (.aload_n 2, 1) := by decide +kernel
theorem dL_law_4021 : decode cL_law 4021 = .ok (.invokevirtual 451, 3) := by decide +kernel
theorem dL_law_4024 : decode cL_law 4024 = .ok (.if_icmp .eq 437, 3) := by decide +kernel
section CASE5
variable {p : Program} {l : Launch} {e : Env} {s : State} {m : MethodId} {args : Array Value} {below : List Frame} {meth : Method} {c : Code} {cells slots : Nat} {Q : State → Prop}
variable {D : va_G} {cA : Nat → ClassId} {ad : Nat → Nat → Nat} {A AC AM : Nat → Prop} {ob : Nat} {cO : ClassId}
variable {mc mm : Mm} {v : Int64} {b L i a s0 : Nat} {xs : Nat → Int32}
set_option maxRecDepth 100000 in
set_option maxHeartbeats 4000000 in
theorem case_60 (C : LC p l s m args c D cA ad A AC AM ob cO b L xs) (h : Hy a s0 mc mm (Rel (a + 400000) (s0 + 64))) (hi : i + 4 < L) (hroom : cells + 2 ≤ room_1.cells ∧ slots + 12 ≤ room_1.slots) (kk : ∀ (mc' mm' : Mm) (v' : Int64), Rel (a + 400000) (s0 + 64) mc' mm' → V p l e room_1 s m args below meth c Q 9 A (cells + 2) (slots + 12) (PL D cA ad ob cO mc' mm' v') 4461 (lvL ad ob b i) []) : V p l e room_1 s m args below meth c Q 9 A cells slots (PL D cA ad ob cO mc mm v) 3280 (lvL ad ob b i) [] := by
  have C0 := C
  obtain ⟨X, hA, hW, hZ, hX, hb1, hst, hL⟩ := C
  have hroom0 : cells ≤ room_1.cells ∧ slots ≤ room_1.slots := ⟨by omega, by omega⟩
  refine q_aload_n (j := 3) X dL_law_3280 rfl rfl ?_
  refine qL_arg C0 1 (j0 := 4) (j4 := 0) rfl (by decide) dL_law_3281 dL_law_3282 dL_law_3284 dL_law_3285 dL_law_3286 rfl rfl hi ?_
  refine q_aload_n (j := 1) X dL_law_3287 rfl rfl ?_
  refine qL_w X hA hW hZ [.ref (ad 0 1), .int (xs (i + 1)), .ref ob] rfl rfl dL_law_3288 hroom (k_L_stockByEntries hA.1 hA.2.2.1.1 hst (xs (i + 1)) mc v _ _ (J_stockByEntries (K := Rel (a + 400000) (s0 + 64)) h.1 (fun v9 => h.2.2.2 mc _ ((h.1.ref v9).mono (by omega) (by omega) h.2.2.1)) (xs (i + 1))) (fun _ _ hx => hx.1)) rfl rfl (gSW kw_6_34 kw_6_35 kw_1_0 kw_6_36) hy_L_stockByEntries ⟨(Nat.le_of_ble_eq_true rfl), (Nat.le_of_ble_eq_true rfl)⟩ (fun k mc' v' hq => ?_)
  refine q_istore X dL_law_3291 (Nat.le_of_ble_eq_true rfl) rfl ?_
  refine q_aload_n (j := 3) X dL_law_3293 rfl rfl ?_
  refine qL_arg C0 1 (j0 := 5) (j4 := 1) rfl (by decide) dL_law_3294 dL_law_3295 dL_law_3297 dL_law_3298 dL_law_3299 rfl rfl hi ?_
  have hroom1 : cells + 2 ≤ room_1.cells ∧ slots + 12 ≤ room_1.slots := hroom
  rcases hq with ⟨rfl, r, rfl, hj⟩ | ⟨hk0, k0, hk, hj⟩
  · skip
    obtain ⟨hj, rfl⟩ := hj
    unfold jq at hj
    refine qL_m X hA hW [.int (xs (i + 1))] [] rfl rfl (Nat.le_of_ble_eq_true rfl) dL_law_3300 hroom1 (c_X10_stockByEntries hA.2.1 (xs (i + 1)) mm _ hj) rfl rfl (gV kw_9_58 kw_9_59 kw_9_60 kw_1_11 kw_9_61) hy_X10_stockByEntries ⟨(Nat.le_of_ble_eq_true rfl), (Nat.le_of_ble_eq_true rfl)⟩ (fun b9 mm9 hb => ?_)
    obtain ⟨h1, rfl, hK⟩ := hb
    refine q_istore X dL_law_3303 (Nat.le_of_ble_eq_true rfl) rfl ?_
    exact tailI C0 hroom1 ⟨(Nat.le_of_ble_eq_true rfl), (Nat.le_of_ble_eq_true rfl)⟩ h1 (fun _ => rfl) dL_law_3305 dL_law_3306 dL_law_3309 dL_law_3311 dL_law_3316 dL_law_3318 dL_law_3321 dL_law_3322 dL_law_3323 dL_law_3324 dL_law_3326 dL_law_3327 dL_law_3328 dL_law_3333 (by decide) (kk _ _ _ hK)
  · obtain ⟨_, hj⟩ := hj
    unfold jx at hj
    refine qL_m X hA hW [.int (xs (i + 1))] [] rfl rfl (Nat.le_of_ble_eq_true rfl) dL_law_3300 hroom1 (c_X10_stockByEntries hA.2.1 (xs (i + 1)) mm _ hj) rfl rfl (gV kw_9_58 kw_9_59 kw_9_60 kw_1_11 kw_9_61) hy_X10_stockByEntries ⟨(Nat.le_of_ble_eq_true rfl), (Nat.le_of_ble_eq_true rfl)⟩ (fun b9 mm9 hb => ?_)
    obtain ⟨h1, hK⟩ := hb
    refine q_istore X dL_law_3303 (Nat.le_of_ble_eq_true rfl) rfl ?_
    exact tailI C0 hroom1 ⟨(Nat.le_of_ble_eq_true rfl), (Nat.le_of_ble_eq_true rfl)⟩ (h1.trans hk.symm) (fun h0 => absurd h0 hk0) dL_law_3305 dL_law_3306 dL_law_3309 dL_law_3311 dL_law_3316 dL_law_3318 dL_law_3321 dL_law_3322 dL_law_3323 dL_law_3324 dL_law_3326 dL_law_3327 dL_law_3328 dL_law_3333 (by decide) (kk _ _ _ hK)
set_option maxRecDepth 100000 in
set_option maxHeartbeats 4000000 in
theorem case_61 (C : LC p l s m args c D cA ad A AC AM ob cO b L xs) (h : Hy a s0 mc mm (Rel (a + 400000) (s0 + 64))) (hi : i + 4 < L) (hroom : cells + 2 ≤ room_1.cells ∧ slots + 12 ≤ room_1.slots) (kk : ∀ (mc' mm' : Mm) (v' : Int64), Rel (a + 400000) (s0 + 64) mc' mm' → V p l e room_1 s m args below meth c Q 9 A (cells + 2) (slots + 12) (PL D cA ad ob cO mc' mm' v') 4461 (lvL ad ob b i) []) : V p l e room_1 s m args below meth c Q 9 A cells slots (PL D cA ad ob cO mc mm v) 3336 (lvL ad ob b i) [] := by
  have C0 := C
  obtain ⟨X, hA, hW, hZ, hX, hb1, hst, hL⟩ := C
  have hroom0 : cells ≤ room_1.cells ∧ slots ≤ room_1.slots := ⟨by omega, by omega⟩
  refine q_aload_n (j := 3) X dL_law_3336 rfl rfl ?_
  refine qL_arg C0 1 (j0 := 4) (j4 := 0) rfl (by decide) dL_law_3337 dL_law_3338 dL_law_3340 dL_law_3341 dL_law_3342 rfl rfl hi ?_
  refine q_aload_n (j := 1) X dL_law_3343 rfl rfl ?_
  refine qL_w X hA hW hZ [.ref (ad 0 1), .int (xs (i + 1)), .ref ob] rfl rfl dL_law_3344 hroom (k_L_stockByTotals hA.1 hA.2.2.1.1 hst (xs (i + 1)) mc v _ _ (J_stockByTotals (K := Rel (a + 400000) (s0 + 64)) h.1 (fun v9 => h.2.2.2 mc _ ((h.1.ref v9).mono (by omega) (by omega) h.2.2.1)) (xs (i + 1))) (fun _ _ hx => hx.1)) rfl rfl (gSW kw_6_45 kw_6_46 kw_1_0 kw_6_47) hy_L_stockByTotals ⟨(Nat.le_of_ble_eq_true rfl), (Nat.le_of_ble_eq_true rfl)⟩ (fun k mc' v' hq => ?_)
  refine q_istore X dL_law_3347 (Nat.le_of_ble_eq_true rfl) rfl ?_
  refine q_aload_n (j := 3) X dL_law_3349 rfl rfl ?_
  refine qL_arg C0 1 (j0 := 5) (j4 := 1) rfl (by decide) dL_law_3350 dL_law_3351 dL_law_3353 dL_law_3354 dL_law_3355 rfl rfl hi ?_
  have hroom1 : cells + 2 ≤ room_1.cells ∧ slots + 12 ≤ room_1.slots := hroom
  rcases hq with ⟨rfl, r, rfl, hj⟩ | ⟨hk0, k0, hk, hj⟩
  · skip
    obtain ⟨hj, rfl⟩ := hj
    unfold jq at hj
    refine qL_m X hA hW [.int (xs (i + 1))] [] rfl rfl (Nat.le_of_ble_eq_true rfl) dL_law_3356 hroom1 (c_X10_stockByTotals hA.2.1 (xs (i + 1)) mm _ hj) rfl rfl (gV kw_9_66 kw_9_67 kw_9_68 kw_1_11 kw_9_69) hy_X10_stockByTotals ⟨(Nat.le_of_ble_eq_true rfl), (Nat.le_of_ble_eq_true rfl)⟩ (fun b9 mm9 hb => ?_)
    obtain ⟨h1, rfl, hK⟩ := hb
    refine q_istore X dL_law_3359 (Nat.le_of_ble_eq_true rfl) rfl ?_
    exact tailI C0 hroom1 ⟨(Nat.le_of_ble_eq_true rfl), (Nat.le_of_ble_eq_true rfl)⟩ h1 (fun _ => rfl) dL_law_3361 dL_law_3362 dL_law_3365 dL_law_3367 dL_law_3372 dL_law_3374 dL_law_3377 dL_law_3378 dL_law_3379 dL_law_3380 dL_law_3382 dL_law_3383 dL_law_3384 dL_law_3389 (by decide) (kk _ _ _ hK)
  · obtain ⟨_, hj⟩ := hj
    unfold jx at hj
    refine qL_m X hA hW [.int (xs (i + 1))] [] rfl rfl (Nat.le_of_ble_eq_true rfl) dL_law_3356 hroom1 (c_X10_stockByTotals hA.2.1 (xs (i + 1)) mm _ hj) rfl rfl (gV kw_9_66 kw_9_67 kw_9_68 kw_1_11 kw_9_69) hy_X10_stockByTotals ⟨(Nat.le_of_ble_eq_true rfl), (Nat.le_of_ble_eq_true rfl)⟩ (fun b9 mm9 hb => ?_)
    obtain ⟨h1, hK⟩ := hb
    refine q_istore X dL_law_3359 (Nat.le_of_ble_eq_true rfl) rfl ?_
    exact tailI C0 hroom1 ⟨(Nat.le_of_ble_eq_true rfl), (Nat.le_of_ble_eq_true rfl)⟩ (h1.trans hk.symm) (fun h0 => absurd h0 hk0) dL_law_3361 dL_law_3362 dL_law_3365 dL_law_3367 dL_law_3372 dL_law_3374 dL_law_3377 dL_law_3378 dL_law_3379 dL_law_3380 dL_law_3382 dL_law_3383 dL_law_3384 dL_law_3389 (by decide) (kk _ _ _ hK)
set_option maxRecDepth 100000 in
set_option maxHeartbeats 4000000 in
theorem case_62 (C : LC p l s m args c D cA ad A AC AM ob cO b L xs) (h : Hy a s0 mc mm (Rel (a + 400000) (s0 + 64))) (hi : i + 4 < L) (hroom : cells + 2 ≤ room_1.cells ∧ slots + 12 ≤ room_1.slots) (kk : ∀ (mc' mm' : Mm) (v' : Int64), Rel (a + 400000) (s0 + 64) mc' mm' → V p l e room_1 s m args below meth c Q 9 A (cells + 2) (slots + 12) (PL D cA ad ob cO mc' mm' v') 4461 (lvL ad ob b i) []) : V p l e room_1 s m args below meth c Q 9 A cells slots (PL D cA ad ob cO mc mm v) 3392 (lvL ad ob b i) [] := by
  have C0 := C
  obtain ⟨X, hA, hW, hZ, hX, hb1, hst, hL⟩ := C
  have hroom0 : cells ≤ room_1.cells ∧ slots ≤ room_1.slots := ⟨by omega, by omega⟩
  refine q_aload_n (j := 3) X dL_law_3392 rfl rfl ?_
  refine qL_arg C0 1 (j0 := 4) (j4 := 0) rfl (by decide) dL_law_3393 dL_law_3394 dL_law_3396 dL_law_3397 dL_law_3398 rfl rfl hi ?_
  refine qL_arg C0 2 (j0 := 4) (j4 := 0) rfl (by decide) dL_law_3399 dL_law_3400 dL_law_3402 dL_law_3403 dL_law_3404 rfl rfl hi ?_
  refine qL_arg C0 3 (j0 := 4) (j4 := 0) rfl (by decide) dL_law_3405 dL_law_3406 dL_law_3408 dL_law_3409 dL_law_3410 rfl rfl hi ?_
  refine qL_arg C0 4 (j0 := 4) (j4 := 0) rfl (by decide) dL_law_3411 dL_law_3412 dL_law_3414 dL_law_3415 dL_law_3416 rfl rfl hi ?_
  refine q_aload_n (j := 1) X dL_law_3417 rfl rfl ?_
  refine qL_w X hA hW hZ [.ref (ad 0 1), .int (xs (i + 1)), .int (xs (i + 2)), .int (xs (i + 3)), .int (xs (i + 4)), .ref ob] rfl rfl dL_law_3418 hroom (k_L_whyNoEntry hA.1 hA.2.2.1.1 hst (xs (i + 1)) (xs (i + 2)) (xs (i + 3)) (xs (i + 4)) mc v _ _ (J_whyNoEntry (K := Rel (a + 400000) (s0 + 64)) h.1 (fun v9 => h.2.2.2 mc _ ((h.1.ref v9).mono (by omega) (by omega) h.2.2.1)) (xs (i + 1)) (xs (i + 2)) (xs (i + 3)) (xs (i + 4))) (fun _ _ hx => hx.1)) rfl rfl (gSW kw_6_52 kw_6_53 kw_1_0 kw_6_54) hy_L_whyNoEntry ⟨(Nat.le_of_ble_eq_true rfl), (Nat.le_of_ble_eq_true rfl)⟩ (fun k mc' v' hq => ?_)
  refine q_istore X dL_law_3421 (Nat.le_of_ble_eq_true rfl) rfl ?_
  refine q_aload_n (j := 3) X dL_law_3423 rfl rfl ?_
  refine qL_arg C0 1 (j0 := 5) (j4 := 1) rfl (by decide) dL_law_3424 dL_law_3425 dL_law_3427 dL_law_3428 dL_law_3429 rfl rfl hi ?_
  refine qL_arg C0 2 (j0 := 5) (j4 := 1) rfl (by decide) dL_law_3430 dL_law_3431 dL_law_3433 dL_law_3434 dL_law_3435 rfl rfl hi ?_
  refine qL_arg C0 3 (j0 := 5) (j4 := 1) rfl (by decide) dL_law_3436 dL_law_3437 dL_law_3439 dL_law_3440 dL_law_3441 rfl rfl hi ?_
  refine qL_arg C0 4 (j0 := 5) (j4 := 1) rfl (by decide) dL_law_3442 dL_law_3443 dL_law_3445 dL_law_3446 dL_law_3447 rfl rfl hi ?_
  have hroom1 : cells + 2 ≤ room_1.cells ∧ slots + 12 ≤ room_1.slots := hroom
  rcases hq with ⟨rfl, r, rfl, hj⟩ | ⟨hk0, k0, hk, hj⟩
  · skip
    obtain ⟨hj, rfl⟩ := hj
    unfold jq at hj
    refine qL_m X hA hW [.int (xs (i + 1)), .int (xs (i + 2)), .int (xs (i + 3)), .int (xs (i + 4))] [] rfl rfl (Nat.le_of_ble_eq_true rfl) dL_law_3448 hroom1 (c_X10_whyNoEntry hA.2.1 (xs (i + 1)) (xs (i + 2)) (xs (i + 3)) (xs (i + 4)) mm _ hj) rfl rfl (gV kw_9_70 kw_9_71 kw_9_72 kw_1_11 kw_9_73) hy_X10_whyNoEntry ⟨(Nat.le_of_ble_eq_true rfl), (Nat.le_of_ble_eq_true rfl)⟩ (fun b9 mm9 hb => ?_)
    obtain ⟨h1, rfl, hK⟩ := hb
    refine q_istore X dL_law_3451 (Nat.le_of_ble_eq_true rfl) rfl ?_
    exact tailI C0 hroom1 ⟨(Nat.le_of_ble_eq_true rfl), (Nat.le_of_ble_eq_true rfl)⟩ h1 (fun _ => rfl) dL_law_3453 dL_law_3454 dL_law_3457 dL_law_3459 dL_law_3464 dL_law_3466 dL_law_3469 dL_law_3470 dL_law_3471 dL_law_3472 dL_law_3474 dL_law_3475 dL_law_3476 dL_law_3481 (by decide) (kk _ _ _ hK)
  · obtain ⟨_, hj⟩ := hj
    unfold jx at hj
    refine qL_m X hA hW [.int (xs (i + 1)), .int (xs (i + 2)), .int (xs (i + 3)), .int (xs (i + 4))] [] rfl rfl (Nat.le_of_ble_eq_true rfl) dL_law_3448 hroom1 (c_X10_whyNoEntry hA.2.1 (xs (i + 1)) (xs (i + 2)) (xs (i + 3)) (xs (i + 4)) mm _ hj) rfl rfl (gV kw_9_70 kw_9_71 kw_9_72 kw_1_11 kw_9_73) hy_X10_whyNoEntry ⟨(Nat.le_of_ble_eq_true rfl), (Nat.le_of_ble_eq_true rfl)⟩ (fun b9 mm9 hb => ?_)
    obtain ⟨h1, hK⟩ := hb
    refine q_istore X dL_law_3451 (Nat.le_of_ble_eq_true rfl) rfl ?_
    exact tailI C0 hroom1 ⟨(Nat.le_of_ble_eq_true rfl), (Nat.le_of_ble_eq_true rfl)⟩ (h1.trans hk.symm) (fun h0 => absurd h0 hk0) dL_law_3453 dL_law_3454 dL_law_3457 dL_law_3459 dL_law_3464 dL_law_3466 dL_law_3469 dL_law_3470 dL_law_3471 dL_law_3472 dL_law_3474 dL_law_3475 dL_law_3476 dL_law_3481 (by decide) (kk _ _ _ hK)
set_option maxRecDepth 100000 in
set_option maxHeartbeats 4000000 in
theorem case_63 (C : LC p l s m args c D cA ad A AC AM ob cO b L xs) (h : Hy a s0 mc mm (Rel (a + 400000) (s0 + 64))) (hi : i + 4 < L) (hroom : cells + 2 ≤ room_1.cells ∧ slots + 12 ≤ room_1.slots) (kk : ∀ (mc' mm' : Mm) (v' : Int64), Rel (a + 400000) (s0 + 64) mc' mm' → V p l e room_1 s m args below meth c Q 9 A (cells + 2) (slots + 12) (PL D cA ad ob cO mc' mm' v') 4461 (lvL ad ob b i) []) : V p l e room_1 s m args below meth c Q 9 A cells slots (PL D cA ad ob cO mc mm v) 3484 (lvL ad ob b i) [] := by
  have C0 := C
  obtain ⟨X, hA, hW, hZ, hX, hb1, hst, hL⟩ := C
  have hroom0 : cells ≤ room_1.cells ∧ slots ≤ room_1.slots := ⟨by omega, by omega⟩
  refine q_aload_n (j := 3) X dL_law_3484 rfl rfl ?_
  refine qL_arg C0 1 (j0 := 4) (j4 := 0) rfl (by decide) dL_law_3485 dL_law_3486 dL_law_3488 dL_law_3489 dL_law_3490 rfl rfl hi ?_
  refine qL_arg C0 2 (j0 := 4) (j4 := 0) rfl (by decide) dL_law_3491 dL_law_3492 dL_law_3494 dL_law_3495 dL_law_3496 rfl rfl hi ?_
  refine q_aload_n (j := 1) X dL_law_3497 rfl rfl ?_
  refine qL_w X hA hW hZ [.ref (ad 0 1), .int (xs (i + 1)), .int (xs (i + 2)), .ref ob] rfl rfl dL_law_3498 hroom (k_L_whyNoWithdrawal hA.1 hA.2.2.1.1 hst (xs (i + 1)) (xs (i + 2)) mc v _ _ (J_whyNoWithdrawal (K := Rel (a + 400000) (s0 + 64)) h.1 (fun v9 => h.2.2.2 mc _ ((h.1.ref v9).mono (by omega) (by omega) h.2.2.1)) (xs (i + 1)) (xs (i + 2))) (fun _ _ hx => hx.1)) rfl rfl (gSW kw_6_61 kw_6_62 kw_1_0 kw_6_63) hy_L_whyNoWithdrawal ⟨(Nat.le_of_ble_eq_true rfl), (Nat.le_of_ble_eq_true rfl)⟩ (fun k mc' v' hq => ?_)
  refine q_istore X dL_law_3501 (Nat.le_of_ble_eq_true rfl) rfl ?_
  refine q_aload_n (j := 3) X dL_law_3503 rfl rfl ?_
  refine qL_arg C0 1 (j0 := 5) (j4 := 1) rfl (by decide) dL_law_3504 dL_law_3505 dL_law_3507 dL_law_3508 dL_law_3509 rfl rfl hi ?_
  refine qL_arg C0 2 (j0 := 5) (j4 := 1) rfl (by decide) dL_law_3510 dL_law_3511 dL_law_3513 dL_law_3514 dL_law_3515 rfl rfl hi ?_
  have hroom1 : cells + 2 ≤ room_1.cells ∧ slots + 12 ≤ room_1.slots := hroom
  rcases hq with ⟨rfl, r, rfl, hj⟩ | ⟨hk0, k0, hk, hj⟩
  · skip
    obtain ⟨hj, rfl⟩ := hj
    unfold jq at hj
    refine qL_m X hA hW [.int (xs (i + 1)), .int (xs (i + 2))] [] rfl rfl (Nat.le_of_ble_eq_true rfl) dL_law_3516 hroom1 (c_X10_whyNoWithdrawal hA.2.1 (xs (i + 1)) (xs (i + 2)) mm _ hj) rfl rfl (gV kw_9_74 kw_9_75 kw_9_76 kw_1_11 kw_9_77) hy_X10_whyNoWithdrawal ⟨(Nat.le_of_ble_eq_true rfl), (Nat.le_of_ble_eq_true rfl)⟩ (fun b9 mm9 hb => ?_)
    obtain ⟨h1, rfl, hK⟩ := hb
    refine q_istore X dL_law_3519 (Nat.le_of_ble_eq_true rfl) rfl ?_
    exact tailI C0 hroom1 ⟨(Nat.le_of_ble_eq_true rfl), (Nat.le_of_ble_eq_true rfl)⟩ h1 (fun _ => rfl) dL_law_3521 dL_law_3522 dL_law_3525 dL_law_3527 dL_law_3532 dL_law_3534 dL_law_3537 dL_law_3538 dL_law_3539 dL_law_3540 dL_law_3542 dL_law_3543 dL_law_3544 dL_law_3549 (by decide) (kk _ _ _ hK)
  · obtain ⟨_, hj⟩ := hj
    unfold jx at hj
    refine qL_m X hA hW [.int (xs (i + 1)), .int (xs (i + 2))] [] rfl rfl (Nat.le_of_ble_eq_true rfl) dL_law_3516 hroom1 (c_X10_whyNoWithdrawal hA.2.1 (xs (i + 1)) (xs (i + 2)) mm _ hj) rfl rfl (gV kw_9_74 kw_9_75 kw_9_76 kw_1_11 kw_9_77) hy_X10_whyNoWithdrawal ⟨(Nat.le_of_ble_eq_true rfl), (Nat.le_of_ble_eq_true rfl)⟩ (fun b9 mm9 hb => ?_)
    obtain ⟨h1, hK⟩ := hb
    refine q_istore X dL_law_3519 (Nat.le_of_ble_eq_true rfl) rfl ?_
    exact tailI C0 hroom1 ⟨(Nat.le_of_ble_eq_true rfl), (Nat.le_of_ble_eq_true rfl)⟩ (h1.trans hk.symm) (fun h0 => absurd h0 hk0) dL_law_3521 dL_law_3522 dL_law_3525 dL_law_3527 dL_law_3532 dL_law_3534 dL_law_3537 dL_law_3538 dL_law_3539 dL_law_3540 dL_law_3542 dL_law_3543 dL_law_3544 dL_law_3549 (by decide) (kk _ _ _ hK)
set_option maxRecDepth 100000 in
set_option maxHeartbeats 4000000 in
theorem case_64 (C : LC p l s m args c D cA ad A AC AM ob cO b L xs) (h : Hy a s0 mc mm (Rel (a + 400000) (s0 + 64))) (hi : i + 4 < L) (hroom : cells + 2 ≤ room_1.cells ∧ slots + 12 ≤ room_1.slots) (kk : ∀ (mc' mm' : Mm) (v' : Int64), Rel (a + 400000) (s0 + 64) mc' mm' → V p l e room_1 s m args below meth c Q 9 A (cells + 2) (slots + 12) (PL D cA ad ob cO mc' mm' v') 4461 (lvL ad ob b i) []) : V p l e room_1 s m args below meth c Q 9 A cells slots (PL D cA ad ob cO mc mm v) 3552 (lvL ad ob b i) [] := by
  have C0 := C
  obtain ⟨X, hA, hW, hZ, hX, hb1, hst, hL⟩ := C
  have hroom0 : cells ≤ room_1.cells ∧ slots ≤ room_1.slots := ⟨by omega, by omega⟩
  refine q_aload_n (j := 3) X dL_law_3552 rfl rfl ?_
  refine qL_arg C0 1 (j0 := 4) (j4 := 0) rfl (by decide) dL_law_3553 dL_law_3554 dL_law_3556 dL_law_3557 dL_law_3558 rfl rfl hi ?_
  refine qL_arg C0 2 (j0 := 4) (j4 := 0) rfl (by decide) dL_law_3559 dL_law_3560 dL_law_3562 dL_law_3563 dL_law_3564 rfl rfl hi ?_
  refine q_aload_n (j := 1) X dL_law_3565 rfl rfl ?_
  refine qL_w X hA hW hZ [.ref (ad 0 1), .int (xs (i + 1)), .int (xs (i + 2)), .ref ob] rfl rfl dL_law_3566 hroom (k_L_whyNoExport hA.1 hA.2.2.1.1 hst (xs (i + 1)) (xs (i + 2)) mc v _ _ (J_whyNoExport (K := Rel (a + 400000) (s0 + 64)) h.1 (fun v9 => h.2.2.2 mc _ ((h.1.ref v9).mono (by omega) (by omega) h.2.2.1)) (xs (i + 1)) (xs (i + 2))) (fun _ _ hx => hx.1)) rfl rfl (gSW kw_6_69 kw_6_70 kw_1_0 kw_6_71) hy_L_whyNoExport ⟨(Nat.le_of_ble_eq_true rfl), (Nat.le_of_ble_eq_true rfl)⟩ (fun k mc' v' hq => ?_)
  refine q_istore X dL_law_3569 (Nat.le_of_ble_eq_true rfl) rfl ?_
  refine q_aload_n (j := 3) X dL_law_3571 rfl rfl ?_
  refine qL_arg C0 1 (j0 := 5) (j4 := 1) rfl (by decide) dL_law_3572 dL_law_3573 dL_law_3575 dL_law_3576 dL_law_3577 rfl rfl hi ?_
  refine qL_arg C0 2 (j0 := 5) (j4 := 1) rfl (by decide) dL_law_3578 dL_law_3579 dL_law_3581 dL_law_3582 dL_law_3583 rfl rfl hi ?_
  have hroom1 : cells + 2 ≤ room_1.cells ∧ slots + 12 ≤ room_1.slots := hroom
  rcases hq with ⟨rfl, r, rfl, hj⟩ | ⟨hk0, k0, hk, hj⟩
  · skip
    obtain ⟨hj, rfl⟩ := hj
    unfold jq at hj
    refine qL_m X hA hW [.int (xs (i + 1)), .int (xs (i + 2))] [] rfl rfl (Nat.le_of_ble_eq_true rfl) dL_law_3584 hroom1 (c_X10_whyNoExport hA.2.1 (xs (i + 1)) (xs (i + 2)) mm _ hj) rfl rfl (gV kw_9_78 kw_9_79 kw_9_80 kw_1_11 kw_9_81) hy_X10_whyNoExport ⟨(Nat.le_of_ble_eq_true rfl), (Nat.le_of_ble_eq_true rfl)⟩ (fun b9 mm9 hb => ?_)
    obtain ⟨h1, rfl, hK⟩ := hb
    refine q_istore X dL_law_3587 (Nat.le_of_ble_eq_true rfl) rfl ?_
    exact tailI C0 hroom1 ⟨(Nat.le_of_ble_eq_true rfl), (Nat.le_of_ble_eq_true rfl)⟩ h1 (fun _ => rfl) dL_law_3589 dL_law_3590 dL_law_3593 dL_law_3595 dL_law_3600 dL_law_3602 dL_law_3605 dL_law_3606 dL_law_3607 dL_law_3608 dL_law_3610 dL_law_3611 dL_law_3612 dL_law_3617 (by decide) (kk _ _ _ hK)
  · obtain ⟨_, hj⟩ := hj
    unfold jx at hj
    refine qL_m X hA hW [.int (xs (i + 1)), .int (xs (i + 2))] [] rfl rfl (Nat.le_of_ble_eq_true rfl) dL_law_3584 hroom1 (c_X10_whyNoExport hA.2.1 (xs (i + 1)) (xs (i + 2)) mm _ hj) rfl rfl (gV kw_9_78 kw_9_79 kw_9_80 kw_1_11 kw_9_81) hy_X10_whyNoExport ⟨(Nat.le_of_ble_eq_true rfl), (Nat.le_of_ble_eq_true rfl)⟩ (fun b9 mm9 hb => ?_)
    obtain ⟨h1, hK⟩ := hb
    refine q_istore X dL_law_3587 (Nat.le_of_ble_eq_true rfl) rfl ?_
    exact tailI C0 hroom1 ⟨(Nat.le_of_ble_eq_true rfl), (Nat.le_of_ble_eq_true rfl)⟩ (h1.trans hk.symm) (fun h0 => absurd h0 hk0) dL_law_3589 dL_law_3590 dL_law_3593 dL_law_3595 dL_law_3600 dL_law_3602 dL_law_3605 dL_law_3606 dL_law_3607 dL_law_3608 dL_law_3610 dL_law_3611 dL_law_3612 dL_law_3617 (by decide) (kk _ _ _ hK)
set_option maxRecDepth 100000 in
set_option maxHeartbeats 4000000 in
theorem case_65 (C : LC p l s m args c D cA ad A AC AM ob cO b L xs) (h : Hy a s0 mc mm (Rel (a + 400000) (s0 + 64))) (hi : i + 4 < L) (hroom : cells + 2 ≤ room_1.cells ∧ slots + 12 ≤ room_1.slots) (kk : ∀ (mc' mm' : Mm) (v' : Int64), Rel (a + 400000) (s0 + 64) mc' mm' → V p l e room_1 s m args below meth c Q 9 A (cells + 2) (slots + 12) (PL D cA ad ob cO mc' mm' v') 4461 (lvL ad ob b i) []) : V p l e room_1 s m args below meth c Q 9 A cells slots (PL D cA ad ob cO mc mm v) 3620 (lvL ad ob b i) [] := by
  have C0 := C
  obtain ⟨X, hA, hW, hZ, hX, hb1, hst, hL⟩ := C
  have hroom0 : cells ≤ room_1.cells ∧ slots ≤ room_1.slots := ⟨by omega, by omega⟩
  refine q_aload_n (j := 3) X dL_law_3620 rfl rfl ?_
  refine qL_arg C0 1 (j0 := 4) (j4 := 0) rfl (by decide) dL_law_3621 dL_law_3622 dL_law_3624 dL_law_3625 dL_law_3626 rfl rfl hi ?_
  refine qL_arg C0 2 (j0 := 4) (j4 := 0) rfl (by decide) dL_law_3627 dL_law_3628 dL_law_3630 dL_law_3631 dL_law_3632 rfl rfl hi ?_
  refine q_aload_n (j := 1) X dL_law_3633 rfl rfl ?_
  refine qL_w X hA hW hZ [.ref (ad 0 1), .int (xs (i + 1)), .int (xs (i + 2)), .ref ob] rfl rfl dL_law_3634 hroom (k_L_whyNoMove hA.1 hA.2.2.1.1 hst (xs (i + 1)) (xs (i + 2)) mc v _ _ (J_whyNoMove (K := Rel (a + 400000) (s0 + 64)) h.1 (fun v9 => h.2.2.2 mc _ ((h.1.ref v9).mono (by omega) (by omega) h.2.2.1)) (xs (i + 1)) (xs (i + 2))) (fun _ _ hx => hx.1)) rfl rfl (gSW kw_6_77 kw_6_78 kw_1_0 kw_6_79) hy_L_whyNoMove ⟨(Nat.le_of_ble_eq_true rfl), (Nat.le_of_ble_eq_true rfl)⟩ (fun k mc' v' hq => ?_)
  refine q_istore X dL_law_3637 (Nat.le_of_ble_eq_true rfl) rfl ?_
  refine q_aload_n (j := 3) X dL_law_3639 rfl rfl ?_
  refine qL_arg C0 1 (j0 := 5) (j4 := 1) rfl (by decide) dL_law_3640 dL_law_3641 dL_law_3643 dL_law_3644 dL_law_3645 rfl rfl hi ?_
  refine qL_arg C0 2 (j0 := 5) (j4 := 1) rfl (by decide) dL_law_3646 dL_law_3647 dL_law_3649 dL_law_3650 dL_law_3651 rfl rfl hi ?_
  have hroom1 : cells + 2 ≤ room_1.cells ∧ slots + 12 ≤ room_1.slots := hroom
  rcases hq with ⟨rfl, r, rfl, hj⟩ | ⟨hk0, k0, hk, hj⟩
  · skip
    obtain ⟨hj, rfl⟩ := hj
    unfold jq at hj
    refine qL_m X hA hW [.int (xs (i + 1)), .int (xs (i + 2))] [] rfl rfl (Nat.le_of_ble_eq_true rfl) dL_law_3652 hroom1 (c_X10_whyNoMove hA.2.1 (xs (i + 1)) (xs (i + 2)) mm _ hj) rfl rfl (gV kw_9_82 kw_9_83 kw_9_84 kw_1_11 kw_9_85) hy_X10_whyNoMove ⟨(Nat.le_of_ble_eq_true rfl), (Nat.le_of_ble_eq_true rfl)⟩ (fun b9 mm9 hb => ?_)
    obtain ⟨h1, rfl, hK⟩ := hb
    refine q_istore X dL_law_3655 (Nat.le_of_ble_eq_true rfl) rfl ?_
    exact tailI C0 hroom1 ⟨(Nat.le_of_ble_eq_true rfl), (Nat.le_of_ble_eq_true rfl)⟩ h1 (fun _ => rfl) dL_law_3657 dL_law_3658 dL_law_3661 dL_law_3663 dL_law_3668 dL_law_3670 dL_law_3673 dL_law_3674 dL_law_3675 dL_law_3676 dL_law_3678 dL_law_3679 dL_law_3680 dL_law_3685 (by decide) (kk _ _ _ hK)
  · obtain ⟨_, hj⟩ := hj
    unfold jx at hj
    refine qL_m X hA hW [.int (xs (i + 1)), .int (xs (i + 2))] [] rfl rfl (Nat.le_of_ble_eq_true rfl) dL_law_3652 hroom1 (c_X10_whyNoMove hA.2.1 (xs (i + 1)) (xs (i + 2)) mm _ hj) rfl rfl (gV kw_9_82 kw_9_83 kw_9_84 kw_1_11 kw_9_85) hy_X10_whyNoMove ⟨(Nat.le_of_ble_eq_true rfl), (Nat.le_of_ble_eq_true rfl)⟩ (fun b9 mm9 hb => ?_)
    obtain ⟨h1, hK⟩ := hb
    refine q_istore X dL_law_3655 (Nat.le_of_ble_eq_true rfl) rfl ?_
    exact tailI C0 hroom1 ⟨(Nat.le_of_ble_eq_true rfl), (Nat.le_of_ble_eq_true rfl)⟩ (h1.trans hk.symm) (fun h0 => absurd h0 hk0) dL_law_3657 dL_law_3658 dL_law_3661 dL_law_3663 dL_law_3668 dL_law_3670 dL_law_3673 dL_law_3674 dL_law_3675 dL_law_3676 dL_law_3678 dL_law_3679 dL_law_3680 dL_law_3685 (by decide) (kk _ _ _ hK)
set_option maxRecDepth 100000 in
set_option maxHeartbeats 4000000 in
theorem case_66 (C : LC p l s m args c D cA ad A AC AM ob cO b L xs) (h : Hy a s0 mc mm (Rel (a + 400000) (s0 + 64))) (hi : i + 4 < L) (hroom : cells + 2 ≤ room_1.cells ∧ slots + 12 ≤ room_1.slots) (kk : ∀ (mc' mm' : Mm) (v' : Int64), Rel (a + 400000) (s0 + 64) mc' mm' → V p l e room_1 s m args below meth c Q 9 A (cells + 2) (slots + 12) (PL D cA ad ob cO mc' mm' v') 4461 (lvL ad ob b i) []) : V p l e room_1 s m args below meth c Q 9 A cells slots (PL D cA ad ob cO mc mm v) 3688 (lvL ad ob b i) [] := by
  have C0 := C
  obtain ⟨X, hA, hW, hZ, hX, hb1, hst, hL⟩ := C
  have hroom0 : cells ≤ room_1.cells ∧ slots ≤ room_1.slots := ⟨by omega, by omega⟩
  refine q_aload_n (j := 3) X dL_law_3688 rfl rfl ?_
  refine qL_arg C0 1 (j0 := 4) (j4 := 0) rfl (by decide) dL_law_3689 dL_law_3690 dL_law_3692 dL_law_3693 dL_law_3694 rfl rfl hi ?_
  refine qL_arg C0 2 (j0 := 4) (j4 := 0) rfl (by decide) dL_law_3695 dL_law_3696 dL_law_3698 dL_law_3699 dL_law_3700 rfl rfl hi ?_
  refine q_aload_n (j := 1) X dL_law_3701 rfl rfl ?_
  refine qL_w X hA hW hZ [.ref (ad 0 1), .int (xs (i + 1)), .int (xs (i + 2)), .ref ob] rfl rfl dL_law_3702 hroom (k_L_whyNoDrawback hA.1 hA.2.2.1.1 hst (xs (i + 1)) (xs (i + 2)) mc v _ _ (J_whyNoDrawback (K := Rel (a + 400000) (s0 + 64)) h.1 (fun v9 => h.2.2.2 mc _ ((h.1.ref v9).mono (by omega) (by omega) h.2.2.1)) (xs (i + 1)) (xs (i + 2))) (fun _ _ hx => hx.1)) rfl rfl (gSW kw_6_85 kw_6_86 kw_1_0 kw_6_87) hy_L_whyNoDrawback ⟨(Nat.le_of_ble_eq_true rfl), (Nat.le_of_ble_eq_true rfl)⟩ (fun k mc' v' hq => ?_)
  refine q_istore X dL_law_3705 (Nat.le_of_ble_eq_true rfl) rfl ?_
  refine q_aload_n (j := 3) X dL_law_3707 rfl rfl ?_
  refine qL_arg C0 1 (j0 := 5) (j4 := 1) rfl (by decide) dL_law_3708 dL_law_3709 dL_law_3711 dL_law_3712 dL_law_3713 rfl rfl hi ?_
  refine qL_arg C0 2 (j0 := 5) (j4 := 1) rfl (by decide) dL_law_3714 dL_law_3715 dL_law_3717 dL_law_3718 dL_law_3719 rfl rfl hi ?_
  have hroom1 : cells + 2 ≤ room_1.cells ∧ slots + 12 ≤ room_1.slots := hroom
  rcases hq with ⟨rfl, r, rfl, hj⟩ | ⟨hk0, k0, hk, hj⟩
  · skip
    obtain ⟨hj, rfl⟩ := hj
    unfold jq at hj
    refine qL_m X hA hW [.int (xs (i + 1)), .int (xs (i + 2))] [] rfl rfl (Nat.le_of_ble_eq_true rfl) dL_law_3720 hroom1 (c_X10_whyNoDrawback hA.2.1 (xs (i + 1)) (xs (i + 2)) mm _ hj) rfl rfl (gV kw_9_86 kw_9_87 kw_9_88 kw_1_11 kw_9_89) hy_X10_whyNoDrawback ⟨(Nat.le_of_ble_eq_true rfl), (Nat.le_of_ble_eq_true rfl)⟩ (fun b9 mm9 hb => ?_)
    obtain ⟨h1, rfl, hK⟩ := hb
    refine q_istore X dL_law_3723 (Nat.le_of_ble_eq_true rfl) rfl ?_
    exact tailI C0 hroom1 ⟨(Nat.le_of_ble_eq_true rfl), (Nat.le_of_ble_eq_true rfl)⟩ h1 (fun _ => rfl) dL_law_3725 dL_law_3726 dL_law_3729 dL_law_3731 dL_law_3736 dL_law_3738 dL_law_3741 dL_law_3742 dL_law_3743 dL_law_3744 dL_law_3746 dL_law_3747 dL_law_3748 dL_law_3753 (by decide) (kk _ _ _ hK)
  · obtain ⟨_, hj⟩ := hj
    unfold jx at hj
    refine qL_m X hA hW [.int (xs (i + 1)), .int (xs (i + 2))] [] rfl rfl (Nat.le_of_ble_eq_true rfl) dL_law_3720 hroom1 (c_X10_whyNoDrawback hA.2.1 (xs (i + 1)) (xs (i + 2)) mm _ hj) rfl rfl (gV kw_9_86 kw_9_87 kw_9_88 kw_1_11 kw_9_89) hy_X10_whyNoDrawback ⟨(Nat.le_of_ble_eq_true rfl), (Nat.le_of_ble_eq_true rfl)⟩ (fun b9 mm9 hb => ?_)
    obtain ⟨h1, hK⟩ := hb
    refine q_istore X dL_law_3723 (Nat.le_of_ble_eq_true rfl) rfl ?_
    exact tailI C0 hroom1 ⟨(Nat.le_of_ble_eq_true rfl), (Nat.le_of_ble_eq_true rfl)⟩ (h1.trans hk.symm) (fun h0 => absurd h0 hk0) dL_law_3725 dL_law_3726 dL_law_3729 dL_law_3731 dL_law_3736 dL_law_3738 dL_law_3741 dL_law_3742 dL_law_3743 dL_law_3744 dL_law_3746 dL_law_3747 dL_law_3748 dL_law_3753 (by decide) (kk _ _ _ hK)
set_option maxRecDepth 100000 in
set_option maxHeartbeats 4000000 in
theorem case_67 (C : LC p l s m args c D cA ad A AC AM ob cO b L xs) (h : Hy a s0 mc mm (Rel (a + 400000) (s0 + 64))) (hi : i + 4 < L) (hroom : cells + 2 ≤ room_1.cells ∧ slots + 12 ≤ room_1.slots) (kk : ∀ (mc' mm' : Mm) (v' : Int64), Rel (a + 400000) (s0 + 64) mc' mm' → V p l e room_1 s m args below meth c Q 9 A (cells + 2) (slots + 12) (PL D cA ad ob cO mc' mm' v') 4461 (lvL ad ob b i) []) : V p l e room_1 s m args below meth c Q 9 A cells slots (PL D cA ad ob cO mc mm v) 3756 (lvL ad ob b i) [] := by
  have C0 := C
  obtain ⟨X, hA, hW, hZ, hX, hb1, hst, hL⟩ := C
  have hroom0 : cells ≤ room_1.cells ∧ slots ≤ room_1.slots := ⟨by omega, by omega⟩
  refine q_aload_n (j := 3) X dL_law_3756 rfl rfl ?_
  refine qL_arg C0 1 (j0 := 4) (j4 := 0) rfl (by decide) dL_law_3757 dL_law_3758 dL_law_3760 dL_law_3761 dL_law_3762 rfl rfl hi ?_
  refine qL_arg C0 2 (j0 := 4) (j4 := 0) rfl (by decide) dL_law_3763 dL_law_3764 dL_law_3766 dL_law_3767 dL_law_3768 rfl rfl hi ?_
  refine q_aload_n (j := 1) X dL_law_3769 rfl rfl ?_
  refine qL_w X hA hW hZ [.ref (ad 0 1), .int (xs (i + 1)), .int (xs (i + 2)), .ref ob] rfl rfl dL_law_3770 hroom (k_L_chargeIfWeighed hA.1 hA.2.2.1.1 hst (xs (i + 1)) (xs (i + 2)) mc v _ _ (J_chargeIfWeighed (K := Rel (a + 400000) (s0 + 64)) h.1 (fun v9 => h.2.2.2 mc _ ((h.1.ref v9).mono (by omega) (by omega) h.2.2.1)) (xs (i + 1)) (xs (i + 2))) (fun _ _ hx => hx.1)) rfl rfl (gSW kw_6_93 kw_6_94 kw_1_0 kw_6_95) hy_L_chargeIfWeighed ⟨(Nat.le_of_ble_eq_true rfl), (Nat.le_of_ble_eq_true rfl)⟩ (fun k mc' v' hq => ?_)
  refine q_istore X dL_law_3773 (Nat.le_of_ble_eq_true rfl) rfl ?_
  refine q_aload_n (j := 3) X dL_law_3775 rfl rfl ?_
  refine qL_arg C0 1 (j0 := 5) (j4 := 1) rfl (by decide) dL_law_3776 dL_law_3777 dL_law_3779 dL_law_3780 dL_law_3781 rfl rfl hi ?_
  refine qL_arg C0 2 (j0 := 5) (j4 := 1) rfl (by decide) dL_law_3782 dL_law_3783 dL_law_3785 dL_law_3786 dL_law_3787 rfl rfl hi ?_
  have hroom1 : cells + 2 ≤ room_1.cells ∧ slots + 12 ≤ room_1.slots := hroom
  rcases hq with ⟨rfl, r, rfl, hj⟩ | ⟨hk0, k0, hk, hj⟩
  · skip
    obtain ⟨hj, rfl⟩ := hj
    unfold jq at hj
    refine qL_m X hA hW [.int (xs (i + 1)), .int (xs (i + 2))] [] rfl rfl (Nat.le_of_ble_eq_true rfl) dL_law_3788 hroom1 (c_X10_chargeIfWeighed hA.2.1 (xs (i + 1)) (xs (i + 2)) mm _ hj) rfl rfl (gV kw_9_90 kw_9_91 kw_9_92 kw_1_11 kw_9_93) hy_X10_chargeIfWeighed ⟨(Nat.le_of_ble_eq_true rfl), (Nat.le_of_ble_eq_true rfl)⟩ (fun b9 mm9 hb => ?_)
    obtain ⟨h1, rfl, hK⟩ := hb
    refine q_istore X dL_law_3791 (Nat.le_of_ble_eq_true rfl) rfl ?_
    exact tailI C0 hroom1 ⟨(Nat.le_of_ble_eq_true rfl), (Nat.le_of_ble_eq_true rfl)⟩ h1 (fun _ => rfl) dL_law_3793 dL_law_3794 dL_law_3797 dL_law_3799 dL_law_3804 dL_law_3806 dL_law_3809 dL_law_3810 dL_law_3811 dL_law_3812 dL_law_3814 dL_law_3815 dL_law_3816 dL_law_3821 (by decide) (kk _ _ _ hK)
  · obtain ⟨_, hj⟩ := hj
    unfold jx at hj
    refine qL_m X hA hW [.int (xs (i + 1)), .int (xs (i + 2))] [] rfl rfl (Nat.le_of_ble_eq_true rfl) dL_law_3788 hroom1 (c_X10_chargeIfWeighed hA.2.1 (xs (i + 1)) (xs (i + 2)) mm _ hj) rfl rfl (gV kw_9_90 kw_9_91 kw_9_92 kw_1_11 kw_9_93) hy_X10_chargeIfWeighed ⟨(Nat.le_of_ble_eq_true rfl), (Nat.le_of_ble_eq_true rfl)⟩ (fun b9 mm9 hb => ?_)
    obtain ⟨h1, hK⟩ := hb
    refine q_istore X dL_law_3791 (Nat.le_of_ble_eq_true rfl) rfl ?_
    exact tailI C0 hroom1 ⟨(Nat.le_of_ble_eq_true rfl), (Nat.le_of_ble_eq_true rfl)⟩ (h1.trans hk.symm) (fun h0 => absurd h0 hk0) dL_law_3793 dL_law_3794 dL_law_3797 dL_law_3799 dL_law_3804 dL_law_3806 dL_law_3809 dL_law_3810 dL_law_3811 dL_law_3812 dL_law_3814 dL_law_3815 dL_law_3816 dL_law_3821 (by decide) (kk _ _ _ hK)
set_option maxRecDepth 100000 in
set_option maxHeartbeats 4000000 in
theorem case_68 (C : LC p l s m args c D cA ad A AC AM ob cO b L xs) (h : Hy a s0 mc mm (Rel (a + 400000) (s0 + 64))) (hi : i + 4 < L) (hroom : cells + 2 ≤ room_1.cells ∧ slots + 12 ≤ room_1.slots) (kk : ∀ (mc' mm' : Mm) (v' : Int64), Rel (a + 400000) (s0 + 64) mc' mm' → V p l e room_1 s m args below meth c Q 9 A (cells + 2) (slots + 12) (PL D cA ad ob cO mc' mm' v') 4461 (lvL ad ob b i) []) : V p l e room_1 s m args below meth c Q 9 A cells slots (PL D cA ad ob cO mc mm v) 3824 (lvL ad ob b i) [] := by
  have C0 := C
  obtain ⟨X, hA, hW, hZ, hX, hb1, hst, hL⟩ := C
  have hroom0 : cells ≤ room_1.cells ∧ slots ≤ room_1.slots := ⟨by omega, by omega⟩
  refine q_aload_n (j := 3) X dL_law_3824 rfl rfl ?_
  refine qL_arg C0 1 (j0 := 4) (j4 := 0) rfl (by decide) dL_law_3825 dL_law_3826 dL_law_3828 dL_law_3829 dL_law_3830 rfl rfl hi ?_
  refine qL_arg C0 2 (j0 := 4) (j4 := 0) rfl (by decide) dL_law_3831 dL_law_3832 dL_law_3834 dL_law_3835 dL_law_3836 rfl rfl hi ?_
  refine q_aload_n (j := 1) X dL_law_3837 rfl rfl ?_
  refine qL_w X hA hW hZ [.ref (ad 0 1), .int (xs (i + 1)), .int (xs (i + 2)), .ref ob] rfl rfl dL_law_3838 hroom (k_L_drawbackFor hA.1 hA.2.2.1.1 hst (xs (i + 1)) (xs (i + 2)) mc v _ _ (J_drawbackFor (K := Rel (a + 400000) (s0 + 64)) h.1 (fun v9 => h.2.2.2 mc _ ((h.1.ref v9).mono (by omega) (by omega) h.2.2.1)) (xs (i + 1)) (xs (i + 2))) (fun _ _ hx => hx.1)) rfl rfl (gSW kw_6_102 kw_6_103 kw_1_0 kw_6_104) hy_L_drawbackFor ⟨(Nat.le_of_ble_eq_true rfl), (Nat.le_of_ble_eq_true rfl)⟩ (fun k mc' v' hq => ?_)
  refine q_istore X dL_law_3841 (Nat.le_of_ble_eq_true rfl) rfl ?_
  refine q_aload_n (j := 3) X dL_law_3843 rfl rfl ?_
  refine qL_arg C0 1 (j0 := 5) (j4 := 1) rfl (by decide) dL_law_3844 dL_law_3845 dL_law_3847 dL_law_3848 dL_law_3849 rfl rfl hi ?_
  refine qL_arg C0 2 (j0 := 5) (j4 := 1) rfl (by decide) dL_law_3850 dL_law_3851 dL_law_3853 dL_law_3854 dL_law_3855 rfl rfl hi ?_
  have hroom1 : cells + 2 ≤ room_1.cells ∧ slots + 12 ≤ room_1.slots := hroom
  rcases hq with ⟨rfl, r, rfl, hj⟩ | ⟨hk0, k0, hk, hj⟩
  · skip
    obtain ⟨hj, rfl⟩ := hj
    unfold jq at hj
    refine qL_m X hA hW [.int (xs (i + 1)), .int (xs (i + 2))] [] rfl rfl (Nat.le_of_ble_eq_true rfl) dL_law_3856 hroom1 (c_X10_drawbackFor hA.2.1 (xs (i + 1)) (xs (i + 2)) mm _ hj) rfl rfl (gV kw_9_94 kw_9_95 kw_9_96 kw_1_11 kw_9_97) hy_X10_drawbackFor ⟨(Nat.le_of_ble_eq_true rfl), (Nat.le_of_ble_eq_true rfl)⟩ (fun b9 mm9 hb => ?_)
    obtain ⟨h1, rfl, hK⟩ := hb
    refine q_istore X dL_law_3859 (Nat.le_of_ble_eq_true rfl) rfl ?_
    exact tailI C0 hroom1 ⟨(Nat.le_of_ble_eq_true rfl), (Nat.le_of_ble_eq_true rfl)⟩ h1 (fun _ => rfl) dL_law_3861 dL_law_3862 dL_law_3865 dL_law_3867 dL_law_3872 dL_law_3874 dL_law_3877 dL_law_3878 dL_law_3879 dL_law_3880 dL_law_3882 dL_law_3883 dL_law_3884 dL_law_3889 (by decide) (kk _ _ _ hK)
  · obtain ⟨_, hj⟩ := hj
    unfold jx at hj
    refine qL_m X hA hW [.int (xs (i + 1)), .int (xs (i + 2))] [] rfl rfl (Nat.le_of_ble_eq_true rfl) dL_law_3856 hroom1 (c_X10_drawbackFor hA.2.1 (xs (i + 1)) (xs (i + 2)) mm _ hj) rfl rfl (gV kw_9_94 kw_9_95 kw_9_96 kw_1_11 kw_9_97) hy_X10_drawbackFor ⟨(Nat.le_of_ble_eq_true rfl), (Nat.le_of_ble_eq_true rfl)⟩ (fun b9 mm9 hb => ?_)
    obtain ⟨h1, hK⟩ := hb
    refine q_istore X dL_law_3859 (Nat.le_of_ble_eq_true rfl) rfl ?_
    exact tailI C0 hroom1 ⟨(Nat.le_of_ble_eq_true rfl), (Nat.le_of_ble_eq_true rfl)⟩ (h1.trans hk.symm) (fun h0 => absurd h0 hk0) dL_law_3861 dL_law_3862 dL_law_3865 dL_law_3867 dL_law_3872 dL_law_3874 dL_law_3877 dL_law_3878 dL_law_3879 dL_law_3880 dL_law_3882 dL_law_3883 dL_law_3884 dL_law_3889 (by decide) (kk _ _ _ hK)
set_option maxRecDepth 100000 in
set_option maxHeartbeats 4000000 in
theorem case_69 (C : LC p l s m args c D cA ad A AC AM ob cO b L xs) (h : Hy a s0 mc mm (Rel (a + 400000) (s0 + 64))) (hi : i + 4 < L) (hroom : cells + 2 ≤ room_1.cells ∧ slots + 12 ≤ room_1.slots) (kk : ∀ (mc' mm' : Mm) (v' : Int64), Rel (a + 400000) (s0 + 64) mc' mm' → V p l e room_1 s m args below meth c Q 9 A (cells + 2) (slots + 12) (PL D cA ad ob cO mc' mm' v') 4461 (lvL ad ob b i) []) : V p l e room_1 s m args below meth c Q 9 A cells slots (PL D cA ad ob cO mc mm v) 3892 (lvL ad ob b i) [] := by
  have C0 := C
  obtain ⟨X, hA, hW, hZ, hX, hb1, hst, hL⟩ := C
  have hroom0 : cells ≤ room_1.cells ∧ slots ≤ room_1.slots := ⟨by omega, by omega⟩
  refine q_aload_n (j := 3) X dL_law_3892 rfl rfl ?_
  refine qL_arg C0 1 (j0 := 4) (j4 := 0) rfl (by decide) dL_law_3893 dL_law_3894 dL_law_3896 dL_law_3897 dL_law_3898 rfl rfl hi ?_
  refine qL_arg C0 2 (j0 := 4) (j4 := 0) rfl (by decide) dL_law_3899 dL_law_3900 dL_law_3902 dL_law_3903 dL_law_3904 rfl rfl hi ?_
  refine q_aload_n (j := 1) X dL_law_3905 rfl rfl ?_
  refine qL_w X hA hW hZ [.ref (ad 0 1), .int (xs (i + 1)), .int (xs (i + 2)), .ref ob] rfl rfl dL_law_3906 hroom (k_L_dutyLater hA.1 hA.2.2.1.1 hst (xs (i + 1)) (xs (i + 2)) mc v _ _ (J_dutyLater (K := Rel (a + 400000) (s0 + 64)) h.1 (fun v9 => h.2.2.2 mc _ ((h.1.ref v9).mono (by omega) (by omega) h.2.2.1)) (xs (i + 1)) (xs (i + 2))) (fun _ _ hx => hx.1)) rfl rfl (gSW kw_6_111 kw_6_112 kw_1_0 kw_6_113) hy_L_dutyLater ⟨(Nat.le_of_ble_eq_true rfl), (Nat.le_of_ble_eq_true rfl)⟩ (fun k mc' v' hq => ?_)
  refine q_istore X dL_law_3909 (Nat.le_of_ble_eq_true rfl) rfl ?_
  refine q_aload_n (j := 3) X dL_law_3911 rfl rfl ?_
  refine qL_arg C0 1 (j0 := 5) (j4 := 1) rfl (by decide) dL_law_3912 dL_law_3913 dL_law_3915 dL_law_3916 dL_law_3917 rfl rfl hi ?_
  refine qL_arg C0 2 (j0 := 5) (j4 := 1) rfl (by decide) dL_law_3918 dL_law_3919 dL_law_3921 dL_law_3922 dL_law_3923 rfl rfl hi ?_
  have hroom1 : cells + 2 ≤ room_1.cells ∧ slots + 12 ≤ room_1.slots := hroom
  rcases hq with ⟨rfl, r, rfl, hj⟩ | ⟨hk0, k0, hk, hj⟩
  · skip
    obtain ⟨hj, rfl⟩ := hj
    unfold jq at hj
    refine qL_m X hA hW [.int (xs (i + 1)), .int (xs (i + 2))] [] rfl rfl (Nat.le_of_ble_eq_true rfl) dL_law_3924 hroom1 (c_X10_dutyLater hA.2.1 (xs (i + 1)) (xs (i + 2)) mm _ hj) rfl rfl (gV kw_9_98 kw_9_99 kw_9_100 kw_1_11 kw_9_101) hy_X10_dutyLater ⟨(Nat.le_of_ble_eq_true rfl), (Nat.le_of_ble_eq_true rfl)⟩ (fun b9 mm9 hb => ?_)
    obtain ⟨h1, rfl, hK⟩ := hb
    refine q_istore X dL_law_3927 (Nat.le_of_ble_eq_true rfl) rfl ?_
    exact tailI C0 hroom1 ⟨(Nat.le_of_ble_eq_true rfl), (Nat.le_of_ble_eq_true rfl)⟩ h1 (fun _ => rfl) dL_law_3929 dL_law_3930 dL_law_3933 dL_law_3935 dL_law_3940 dL_law_3942 dL_law_3945 dL_law_3946 dL_law_3947 dL_law_3948 dL_law_3950 dL_law_3951 dL_law_3952 dL_law_3957 (by decide) (kk _ _ _ hK)
  · obtain ⟨_, hj⟩ := hj
    unfold jx at hj
    refine qL_m X hA hW [.int (xs (i + 1)), .int (xs (i + 2))] [] rfl rfl (Nat.le_of_ble_eq_true rfl) dL_law_3924 hroom1 (c_X10_dutyLater hA.2.1 (xs (i + 1)) (xs (i + 2)) mm _ hj) rfl rfl (gV kw_9_98 kw_9_99 kw_9_100 kw_1_11 kw_9_101) hy_X10_dutyLater ⟨(Nat.le_of_ble_eq_true rfl), (Nat.le_of_ble_eq_true rfl)⟩ (fun b9 mm9 hb => ?_)
    obtain ⟨h1, hK⟩ := hb
    refine q_istore X dL_law_3927 (Nat.le_of_ble_eq_true rfl) rfl ?_
    exact tailI C0 hroom1 ⟨(Nat.le_of_ble_eq_true rfl), (Nat.le_of_ble_eq_true rfl)⟩ (h1.trans hk.symm) (fun h0 => absurd h0 hk0) dL_law_3929 dL_law_3930 dL_law_3933 dL_law_3935 dL_law_3940 dL_law_3942 dL_law_3945 dL_law_3946 dL_law_3947 dL_law_3948 dL_law_3950 dL_law_3951 dL_law_3952 dL_law_3957 (by decide) (kk _ _ _ hK)
set_option maxRecDepth 100000 in
set_option maxHeartbeats 4000000 in
theorem case_70 (C : LC p l s m args c D cA ad A AC AM ob cO b L xs) (h : Hy a s0 mc mm (Rel (a + 400000) (s0 + 64))) (hi : i + 4 < L) (hroom : cells + 2 ≤ room_1.cells ∧ slots + 12 ≤ room_1.slots) (kk : ∀ (mc' mm' : Mm) (v' : Int64), Rel (a + 400000) (s0 + 64) mc' mm' → V p l e room_1 s m args below meth c Q 9 A (cells + 2) (slots + 12) (PL D cA ad ob cO mc' mm' v') 4461 (lvL ad ob b i) []) : V p l e room_1 s m args below meth c Q 9 A cells slots (PL D cA ad ob cO mc mm v) 3960 (lvL ad ob b i) [] := by
  have C0 := C
  obtain ⟨X, hA, hW, hZ, hX, hb1, hst, hL⟩ := C
  have hroom0 : cells ≤ room_1.cells ∧ slots ≤ room_1.slots := ⟨by omega, by omega⟩
  refine q_aload_n (j := 3) X dL_law_3960 rfl rfl ?_
  refine qL_arg C0 1 (j0 := 4) (j4 := 0) rfl (by decide) dL_law_3961 dL_law_3962 dL_law_3964 dL_law_3965 dL_law_3966 rfl rfl hi ?_
  refine q_aload_n (j := 1) X dL_law_3967 rfl rfl ?_
  refine qL_w X hA hW hZ [.ref (ad 0 1), .int (xs (i + 1)), .ref ob] rfl rfl dL_law_3968 hroom (k_L_daysToOverdue hA.1 hA.2.2.1.1 hst (xs (i + 1)) mc v _ _ (J_daysToOverdue (K := Rel (a + 400000) (s0 + 64)) h.1 (fun v9 => h.2.2.2 mc _ ((h.1.ref v9).mono (by omega) (by omega) h.2.2.1)) (xs (i + 1))) (fun _ _ hx => hx.1)) rfl rfl (gSW kw_6_118 kw_6_119 kw_1_0 kw_6_120) hy_L_daysToOverdue ⟨(Nat.le_of_ble_eq_true rfl), (Nat.le_of_ble_eq_true rfl)⟩ (fun k mc' v' hq => ?_)
  refine q_istore X dL_law_3971 (Nat.le_of_ble_eq_true rfl) rfl ?_
  refine q_aload_n (j := 3) X dL_law_3973 rfl rfl ?_
  refine qL_arg C0 1 (j0 := 5) (j4 := 1) rfl (by decide) dL_law_3974 dL_law_3975 dL_law_3977 dL_law_3978 dL_law_3979 rfl rfl hi ?_
  have hroom1 : cells + 2 ≤ room_1.cells ∧ slots + 12 ≤ room_1.slots := hroom
  rcases hq with ⟨rfl, r, rfl, hj⟩ | ⟨hk0, k0, hk, hj⟩
  · skip
    obtain ⟨hj, rfl⟩ := hj
    unfold jq at hj
    refine qL_m X hA hW [.int (xs (i + 1))] [] rfl rfl (Nat.le_of_ble_eq_true rfl) dL_law_3980 hroom1 (c_X10_daysToOverdue hA.2.1 (xs (i + 1)) mm _ hj) rfl rfl (gV kw_9_103 kw_9_104 kw_9_105 kw_1_11 kw_9_106) hy_X10_daysToOverdue ⟨(Nat.le_of_ble_eq_true rfl), (Nat.le_of_ble_eq_true rfl)⟩ (fun b9 mm9 hb => ?_)
    obtain ⟨h1, rfl, hK⟩ := hb
    refine q_istore X dL_law_3983 (Nat.le_of_ble_eq_true rfl) rfl ?_
    exact tailI C0 hroom1 ⟨(Nat.le_of_ble_eq_true rfl), (Nat.le_of_ble_eq_true rfl)⟩ h1 (fun _ => rfl) dL_law_3985 dL_law_3986 dL_law_3989 dL_law_3991 dL_law_3996 dL_law_3998 dL_law_4001 dL_law_4002 dL_law_4003 dL_law_4004 dL_law_4006 dL_law_4007 dL_law_4008 dL_law_4013 (by decide) (kk _ _ _ hK)
  · obtain ⟨_, hj⟩ := hj
    unfold jx at hj
    refine qL_m X hA hW [.int (xs (i + 1))] [] rfl rfl (Nat.le_of_ble_eq_true rfl) dL_law_3980 hroom1 (c_X10_daysToOverdue hA.2.1 (xs (i + 1)) mm _ hj) rfl rfl (gV kw_9_103 kw_9_104 kw_9_105 kw_1_11 kw_9_106) hy_X10_daysToOverdue ⟨(Nat.le_of_ble_eq_true rfl), (Nat.le_of_ble_eq_true rfl)⟩ (fun b9 mm9 hb => ?_)
    obtain ⟨h1, hK⟩ := hb
    refine q_istore X dL_law_3983 (Nat.le_of_ble_eq_true rfl) rfl ?_
    exact tailI C0 hroom1 ⟨(Nat.le_of_ble_eq_true rfl), (Nat.le_of_ble_eq_true rfl)⟩ (h1.trans hk.symm) (fun h0 => absurd h0 hk0) dL_law_3985 dL_law_3986 dL_law_3989 dL_law_3991 dL_law_3996 dL_law_3998 dL_law_4001 dL_law_4002 dL_law_4003 dL_law_4004 dL_law_4006 dL_law_4007 dL_law_4008 dL_law_4013 (by decide) (kk _ _ _ hK)
set_option maxRecDepth 100000 in
set_option maxHeartbeats 4000000 in
theorem case_71 (C : LC p l s m args c D cA ad A AC AM ob cO b L xs) (h : Hy a s0 mc mm (Rel (a + 400000) (s0 + 64))) (hi : i + 4 < L) (hroom : cells + 2 ≤ room_1.cells ∧ slots + 12 ≤ room_1.slots) (kk : ∀ (mc' mm' : Mm) (v' : Int64), Rel (a + 400000) (s0 + 64) mc' mm' → V p l e room_1 s m args below meth c Q 9 A (cells + 2) (slots + 12) (PL D cA ad ob cO mc' mm' v') 4461 (lvL ad ob b i) []) : V p l e room_1 s m args below meth c Q 9 A cells slots (PL D cA ad ob cO mc mm v) 4016 (lvL ad ob b i) [] := by
  have C0 := C
  obtain ⟨X, hA, hW, hZ, hX, hb1, hst, hL⟩ := C
  have hroom0 : cells ≤ room_1.cells ∧ slots ≤ room_1.slots := ⟨by omega, by omega⟩
  refine q_aload_n (j := 3) X dL_law_4016 rfl rfl ?_
  refine qL_c X hA hW hZ [] [] rfl rfl (Nat.le_of_ble_eq_true rfl) dL_law_4017 hroom0 (c_X9_nextOverdue hA.1  mc _ (J_nextOverdue (K := Rel (a + 400000) (s0 + 64)) h.1 (fun v9 => h.2.2.2 mc _ ((h.1.ref v9).mono (by omega) (by omega) h.2.2.1)) )) rfl rfl (gV kw_2_209 kw_2_210 kw_2_211 kw_1_1 kw_2_212) hy_X9_nextOverdue ⟨(Nat.le_of_ble_eq_true rfl), (Nat.le_of_ble_eq_true rfl)⟩ (fun r mc' hj => ?_)
  obtain ⟨hj, rfl⟩ := hj
  unfold jn at hj
  refine q_aload_n (j := 2) X dL_law_4020 rfl rfl ?_
  refine qL_m X hA hW [] [.int r] rfl rfl (Nat.le_of_ble_eq_true rfl) dL_law_4021 hroom0 (c_X10_nextOverdue hA.2.1  mm _ hj) rfl rfl (gV kw_9_107 kw_9_108 kw_9_109 kw_1_11 kw_9_110) hy_X10_nextOverdue ⟨(Nat.le_of_ble_eq_true rfl), (Nat.le_of_ble_eq_true rfl)⟩ (fun b9 mm9 hb => ?_)
  obtain ⟨rfl, hK⟩ := hb
  refine q_icmp_eq X dL_law_4024 (tgt := 4461) (by decide) (fun _ => ?_) (fun h9 => absurd rfl h9)
  exact q_w (Nat.le_add_right _ _) (Nat.le_add_right _ _) (kk _ _ _ hK)
end CASE5
