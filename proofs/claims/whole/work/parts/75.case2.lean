theorem kw_5_74 : Jvm.Cond.methodLink "BondWarehouseLaw" (294 : Nat) ({ cls := "BondWarehouseLaw", name := "chamberOf", desc := "(LBondWarehouse;I[J)I" } : Jvm.MethodName) ∈ TG := tg_5 74 rfl rfl
theorem kw_5_75 : Jvm.Cond.static ({ cls := "BondWarehouseLaw", name := "chamberOf", desc := "(LBondWarehouse;I[J)I" } : Jvm.MethodName) ∈ TG := tg_5 75 rfl rfl
theorem kw_5_76 : Jvm.Cond.codeWith ({ cls := "BondWarehouseLaw", name := "chamberOf", desc := "(LBondWarehouse;I[J)I" } : Jvm.MethodName) method_23_code (4 : Nat) (Option.some Jvm.ClassFile.FieldType.int) [((0 : Nat), (9 : Nat), (12 : Nat), (21 : Nat))] ∈ TG := tg_5 76 rfl rfl
theorem kw_8_138 : Jvm.Cond.methodLink "BondWarehouseLaw" (296 : Nat) ({ cls := "BondWarehouseModel", name := "chamberOf", desc := "(I)I" } : Jvm.MethodName) ∈ TG := tg_8 138 rfl rfl
theorem kw_8_139 : Jvm.Cond.instanceMethod ({ cls := "BondWarehouseModel", name := "chamberOf", desc := "(I)I" } : Jvm.MethodName) ∈ TG := tg_8 139 rfl rfl
theorem kw_8_140 : Jvm.Cond.selects "BondWarehouseModel" ({ cls := "BondWarehouseModel", name := "chamberOf", desc := "(I)I" } : Jvm.MethodName) ({ cls := "BondWarehouseModel", name := "chamberOf", desc := "(I)I" } : Jvm.MethodName) ∈ TG := tg_8 140 rfl rfl
theorem kw_8_141 : Jvm.Cond.code ({ cls := "BondWarehouseModel", name := "chamberOf", desc := "(I)I" } : Jvm.MethodName) prog_12_method_82_code (2 : Nat) (Option.some Jvm.ClassFile.FieldType.int) ∈ TG := tg_8 141 rfl rfl
theorem kw_5_81 : Jvm.Cond.methodLink "BondWarehouseLaw" (297 : Nat) ({ cls := "BondWarehouseLaw", name := "ageOf", desc := "(LBondWarehouse;I[J)I" } : Jvm.MethodName) ∈ TG := tg_5 81 rfl rfl
theorem kw_5_82 : Jvm.Cond.static ({ cls := "BondWarehouseLaw", name := "ageOf", desc := "(LBondWarehouse;I[J)I" } : Jvm.MethodName) ∈ TG := tg_5 82 rfl rfl
theorem kw_5_83 : Jvm.Cond.codeWith ({ cls := "BondWarehouseLaw", name := "ageOf", desc := "(LBondWarehouse;I[J)I" } : Jvm.MethodName) method_24_code (4 : Nat) (Option.some Jvm.ClassFile.FieldType.int) [((0 : Nat), (9 : Nat), (12 : Nat), (21 : Nat))] ∈ TG := tg_5 83 rfl rfl
theorem kw_8_142 : Jvm.Cond.methodLink "BondWarehouseLaw" (299 : Nat) ({ cls := "BondWarehouseModel", name := "ageOf", desc := "(I)I" } : Jvm.MethodName) ∈ TG := tg_8 142 rfl rfl
theorem kw_8_143 : Jvm.Cond.instanceMethod ({ cls := "BondWarehouseModel", name := "ageOf", desc := "(I)I" } : Jvm.MethodName) ∈ TG := tg_8 143 rfl rfl
theorem kw_8_144 : Jvm.Cond.selects "BondWarehouseModel" ({ cls := "BondWarehouseModel", name := "ageOf", desc := "(I)I" } : Jvm.MethodName) ({ cls := "BondWarehouseModel", name := "ageOf", desc := "(I)I" } : Jvm.MethodName) ∈ TG := tg_8 144 rfl rfl
theorem kw_8_145 : Jvm.Cond.code ({ cls := "BondWarehouseModel", name := "ageOf", desc := "(I)I" } : Jvm.MethodName) prog_12_method_83_code (2 : Nat) (Option.some Jvm.ClassFile.FieldType.int) ∈ TG := tg_8 145 rfl rfl
theorem kw_5_89 : Jvm.Cond.methodLink "BondWarehouseLaw" (300 : Nat) ({ cls := "BondWarehouseLaw", name := "isProved", desc := "(LBondWarehouse;I[J)I" } : Jvm.MethodName) ∈ TG := tg_5 89 rfl rfl
theorem kw_5_90 : Jvm.Cond.static ({ cls := "BondWarehouseLaw", name := "isProved", desc := "(LBondWarehouse;I[J)I" } : Jvm.MethodName) ∈ TG := tg_5 90 rfl rfl
theorem kw_5_91 : Jvm.Cond.codeWith ({ cls := "BondWarehouseLaw", name := "isProved", desc := "(LBondWarehouse;I[J)I" } : Jvm.MethodName) method_25_code (4 : Nat) (Option.some Jvm.ClassFile.FieldType.int) [((0 : Nat), (16 : Nat), (19 : Nat), (21 : Nat))] ∈ TG := tg_5 91 rfl rfl
theorem kw_8_146 : Jvm.Cond.methodLink "BondWarehouseLaw" (302 : Nat) ({ cls := "BondWarehouseModel", name := "isProved", desc := "(I)Z" } : Jvm.MethodName) ∈ TG := tg_8 146 rfl rfl
theorem kw_8_147 : Jvm.Cond.instanceMethod ({ cls := "BondWarehouseModel", name := "isProved", desc := "(I)Z" } : Jvm.MethodName) ∈ TG := tg_8 147 rfl rfl
theorem kw_8_148 : Jvm.Cond.selects "BondWarehouseModel" ({ cls := "BondWarehouseModel", name := "isProved", desc := "(I)Z" } : Jvm.MethodName) ({ cls := "BondWarehouseModel", name := "isProved", desc := "(I)Z" } : Jvm.MethodName) ∈ TG := tg_8 148 rfl rfl
theorem kw_8_149 : Jvm.Cond.code ({ cls := "BondWarehouseModel", name := "isProved", desc := "(I)Z" } : Jvm.MethodName) prog_12_method_84_code (2 : Nat) (Option.some Jvm.ClassFile.FieldType.boolean) ∈ TG := tg_8 149 rfl rfl
theorem kw_5_96 : Jvm.Cond.methodLink "BondWarehouseLaw" (303 : Nat) ({ cls := "BondWarehouseLaw", name := "isOverdue", desc := "(LBondWarehouse;I[J)I" } : Jvm.MethodName) ∈ TG := tg_5 96 rfl rfl
theorem kw_5_97 : Jvm.Cond.static ({ cls := "BondWarehouseLaw", name := "isOverdue", desc := "(LBondWarehouse;I[J)I" } : Jvm.MethodName) ∈ TG := tg_5 97 rfl rfl
theorem kw_5_98 : Jvm.Cond.codeWith ({ cls := "BondWarehouseLaw", name := "isOverdue", desc := "(LBondWarehouse;I[J)I" } : Jvm.MethodName) method_26_code (4 : Nat) (Option.some Jvm.ClassFile.FieldType.int) [((0 : Nat), (16 : Nat), (19 : Nat), (21 : Nat))] ∈ TG := tg_5 98 rfl rfl
theorem kw_8_150 : Jvm.Cond.methodLink "BondWarehouseLaw" (305 : Nat) ({ cls := "BondWarehouseModel", name := "isOverdue", desc := "(I)Z" } : Jvm.MethodName) ∈ TG := tg_8 150 rfl rfl
theorem kw_8_151 : Jvm.Cond.instanceMethod ({ cls := "BondWarehouseModel", name := "isOverdue", desc := "(I)Z" } : Jvm.MethodName) ∈ TG := tg_8 151 rfl rfl
theorem kw_8_152 : Jvm.Cond.selects "BondWarehouseModel" ({ cls := "BondWarehouseModel", name := "isOverdue", desc := "(I)Z" } : Jvm.MethodName) ({ cls := "BondWarehouseModel", name := "isOverdue", desc := "(I)Z" } : Jvm.MethodName) ∈ TG := tg_8 152 rfl rfl
theorem kw_8_153 : Jvm.Cond.code ({ cls := "BondWarehouseModel", name := "isOverdue", desc := "(I)Z" } : Jvm.MethodName) prog_12_method_85_code (2 : Nat) (Option.some Jvm.ClassFile.FieldType.boolean) ∈ TG := tg_8 153 rfl rfl
theorem kw_5_104 : Jvm.Cond.methodLink "BondWarehouseLaw" (306 : Nat) ({ cls := "BondWarehouseLaw", name := "dutyOfPart", desc := "(LBondWarehouse;II[J)I" } : Jvm.MethodName) ∈ TG := tg_5 104 rfl rfl
theorem kw_5_105 : Jvm.Cond.static ({ cls := "BondWarehouseLaw", name := "dutyOfPart", desc := "(LBondWarehouse;II[J)I" } : Jvm.MethodName) ∈ TG := tg_5 105 rfl rfl
theorem kw_5_106 : Jvm.Cond.codeWith ({ cls := "BondWarehouseLaw", name := "dutyOfPart", desc := "(LBondWarehouse;II[J)I" } : Jvm.MethodName) method_27_code (5 : Nat) (Option.some Jvm.ClassFile.FieldType.int) [((0 : Nat), (10 : Nat), (13 : Nat), (21 : Nat)), ((0 : Nat), (10 : Nat), (17 : Nat), (13 : Nat))] ∈ TG := tg_5 106 rfl rfl
theorem kw_8_154 : Jvm.Cond.methodLink "BondWarehouseLaw" (308 : Nat) ({ cls := "BondWarehouseModel", name := "dutyOfPart", desc := "(II)I" } : Jvm.MethodName) ∈ TG := tg_8 154 rfl rfl
theorem kw_8_155 : Jvm.Cond.instanceMethod ({ cls := "BondWarehouseModel", name := "dutyOfPart", desc := "(II)I" } : Jvm.MethodName) ∈ TG := tg_8 155 rfl rfl
theorem kw_8_156 : Jvm.Cond.selects "BondWarehouseModel" ({ cls := "BondWarehouseModel", name := "dutyOfPart", desc := "(II)I" } : Jvm.MethodName) ({ cls := "BondWarehouseModel", name := "dutyOfPart", desc := "(II)I" } : Jvm.MethodName) ∈ TG := tg_8 156 rfl rfl
theorem kw_8_157 : Jvm.Cond.code ({ cls := "BondWarehouseModel", name := "dutyOfPart", desc := "(II)I" } : Jvm.MethodName) prog_12_method_86_code (4 : Nat) (Option.some Jvm.ClassFile.FieldType.int) ∈ TG := tg_8 157 rfl rfl
theorem kw_5_115 : Jvm.Cond.methodLink "BondWarehouseLaw" (309 : Nat) ({ cls := "BondWarehouseLaw", name := "dutyOf", desc := "(LBondWarehouse;I[J)I" } : Jvm.MethodName) ∈ TG := tg_5 115 rfl rfl
theorem kw_5_116 : Jvm.Cond.static ({ cls := "BondWarehouseLaw", name := "dutyOf", desc := "(LBondWarehouse;I[J)I" } : Jvm.MethodName) ∈ TG := tg_5 116 rfl rfl
theorem kw_5_117 : Jvm.Cond.codeWith ({ cls := "BondWarehouseLaw", name := "dutyOf", desc := "(LBondWarehouse;I[J)I" } : Jvm.MethodName) method_28_code (4 : Nat) (Option.some Jvm.ClassFile.FieldType.int) [((0 : Nat), (9 : Nat), (12 : Nat), (21 : Nat))] ∈ TG := tg_5 117 rfl rfl
theorem kw_8_158 : Jvm.Cond.methodLink "BondWarehouseLaw" (311 : Nat) ({ cls := "BondWarehouseModel", name := "dutyOf", desc := "(I)I" } : Jvm.MethodName) ∈ TG := tg_8 158 rfl rfl
theorem kw_8_159 : Jvm.Cond.instanceMethod ({ cls := "BondWarehouseModel", name := "dutyOf", desc := "(I)I" } : Jvm.MethodName) ∈ TG := tg_8 159 rfl rfl
theorem kw_8_160 : Jvm.Cond.selects "BondWarehouseModel" ({ cls := "BondWarehouseModel", name := "dutyOf", desc := "(I)I" } : Jvm.MethodName) ({ cls := "BondWarehouseModel", name := "dutyOf", desc := "(I)I" } : Jvm.MethodName) ∈ TG := tg_8 160 rfl rfl
theorem kw_8_161 : Jvm.Cond.code ({ cls := "BondWarehouseModel", name := "dutyOf", desc := "(I)I" } : Jvm.MethodName) prog_12_method_87_code (3 : Nat) (Option.some Jvm.ClassFile.FieldType.int) ∈ TG := tg_8 161 rfl rfl
theorem kw_5_123 : Jvm.Cond.methodLink "BondWarehouseLaw" (312 : Nat) ({ cls := "BondWarehouseLaw", name := "allowedWaste", desc := "(LBondWarehouse;I[J)I" } : Jvm.MethodName) ∈ TG := tg_5 123 rfl rfl
theorem kw_5_124 : Jvm.Cond.static ({ cls := "BondWarehouseLaw", name := "allowedWaste", desc := "(LBondWarehouse;I[J)I" } : Jvm.MethodName) ∈ TG := tg_5 124 rfl rfl
theorem kw_5_125 : Jvm.Cond.codeWith ({ cls := "BondWarehouseLaw", name := "allowedWaste", desc := "(LBondWarehouse;I[J)I" } : Jvm.MethodName) method_29_code (4 : Nat) (Option.some Jvm.ClassFile.FieldType.int) [((0 : Nat), (9 : Nat), (12 : Nat), (21 : Nat))] ∈ TG := tg_5 125 rfl rfl
theorem kw_8_162 : Jvm.Cond.methodLink "BondWarehouseLaw" (314 : Nat) ({ cls := "BondWarehouseModel", name := "allowedWaste", desc := "(I)I" } : Jvm.MethodName) ∈ TG := tg_8 162 rfl rfl
theorem kw_8_163 : Jvm.Cond.instanceMethod ({ cls := "BondWarehouseModel", name := "allowedWaste", desc := "(I)I" } : Jvm.MethodName) ∈ TG := tg_8 163 rfl rfl
theorem kw_8_164 : Jvm.Cond.selects "BondWarehouseModel" ({ cls := "BondWarehouseModel", name := "allowedWaste", desc := "(I)I" } : Jvm.MethodName) ({ cls := "BondWarehouseModel", name := "allowedWaste", desc := "(I)I" } : Jvm.MethodName) ∈ TG := tg_8 164 rfl rfl
theorem kw_8_165 : Jvm.Cond.code ({ cls := "BondWarehouseModel", name := "allowedWaste", desc := "(I)I" } : Jvm.MethodName) prog_12_method_88_code (3 : Nat) (Option.some Jvm.ClassFile.FieldType.int) ∈ TG := tg_8 165 rfl rfl
theorem kw_2_145 : Jvm.Cond.methodLink "BondWarehouseLaw" (315 : Nat) ({ cls := "BondWarehouse", name := "meanDuty", desc := "()D" } : Jvm.MethodName) ∈ TG := tg_2 145 rfl rfl
theorem kw_2_146 : Jvm.Cond.instanceMethod ({ cls := "BondWarehouse", name := "meanDuty", desc := "()D" } : Jvm.MethodName) ∈ TG := tg_2 146 rfl rfl
theorem kw_2_147 : Jvm.Cond.selects "BondWarehouse" ({ cls := "BondWarehouse", name := "meanDuty", desc := "()D" } : Jvm.MethodName) ({ cls := "BondWarehouse", name := "meanDuty", desc := "()D" } : Jvm.MethodName) ∈ TG := tg_2 147 rfl rfl
theorem kw_2_148 : Jvm.Cond.code ({ cls := "BondWarehouse", name := "meanDuty", desc := "()D" } : Jvm.MethodName) prog_1_method_33_code (1 : Nat) (Option.some Jvm.ClassFile.FieldType.double) ∈ TG := tg_2 148 rfl rfl
theorem kw_8_166 : Jvm.Cond.methodLink "BondWarehouseLaw" (319 : Nat) ({ cls := "BondWarehouseModel", name := "meanDuty", desc := "()D" } : Jvm.MethodName) ∈ TG := tg_8 166 rfl rfl
theorem kw_8_167 : Jvm.Cond.instanceMethod ({ cls := "BondWarehouseModel", name := "meanDuty", desc := "()D" } : Jvm.MethodName) ∈ TG := tg_8 167 rfl rfl
theorem kw_8_168 : Jvm.Cond.selects "BondWarehouseModel" ({ cls := "BondWarehouseModel", name := "meanDuty", desc := "()D" } : Jvm.MethodName) ({ cls := "BondWarehouseModel", name := "meanDuty", desc := "()D" } : Jvm.MethodName) ∈ TG := tg_8 168 rfl rfl
theorem kw_8_169 : Jvm.Cond.code ({ cls := "BondWarehouseModel", name := "meanDuty", desc := "()D" } : Jvm.MethodName) prog_12_method_89_code (1 : Nat) (Option.some Jvm.ClassFile.FieldType.double) ∈ TG := tg_8 169 rfl rfl
theorem kw_5_131 : Jvm.Cond.methodLink "BondWarehouseLaw" (320 : Nat) ({ cls := "BondWarehouseLaw", name := "isLocked", desc := "(LBondWarehouse;I[J)I" } : Jvm.MethodName) ∈ TG := tg_5 131 rfl rfl
theorem kw_5_132 : Jvm.Cond.static ({ cls := "BondWarehouseLaw", name := "isLocked", desc := "(LBondWarehouse;I[J)I" } : Jvm.MethodName) ∈ TG := tg_5 132 rfl rfl
theorem kw_5_133 : Jvm.Cond.codeWith ({ cls := "BondWarehouseLaw", name := "isLocked", desc := "(LBondWarehouse;I[J)I" } : Jvm.MethodName) method_30_code (4 : Nat) (Option.some Jvm.ClassFile.FieldType.int) [((0 : Nat), (16 : Nat), (19 : Nat), (21 : Nat))] ∈ TG := tg_5 133 rfl rfl
theorem kw_8_170 : Jvm.Cond.methodLink "BondWarehouseLaw" (322 : Nat) ({ cls := "BondWarehouseModel", name := "isLocked", desc := "(I)Z" } : Jvm.MethodName) ∈ TG := tg_8 170 rfl rfl
theorem kw_8_171 : Jvm.Cond.instanceMethod ({ cls := "BondWarehouseModel", name := "isLocked", desc := "(I)Z" } : Jvm.MethodName) ∈ TG := tg_8 171 rfl rfl
theorem kw_8_172 : Jvm.Cond.selects "BondWarehouseModel" ({ cls := "BondWarehouseModel", name := "isLocked", desc := "(I)Z" } : Jvm.MethodName) ({ cls := "BondWarehouseModel", name := "isLocked", desc := "(I)Z" } : Jvm.MethodName) ∈ TG := tg_8 172 rfl rfl
theorem kw_8_173 : Jvm.Cond.code ({ cls := "BondWarehouseModel", name := "isLocked", desc := "(I)Z" } : Jvm.MethodName) prog_12_method_91_code (2 : Nat) (Option.some Jvm.ClassFile.FieldType.boolean) ∈ TG := tg_8 173 rfl rfl
theorem kw_5_147 : Jvm.Cond.methodLink "BondWarehouseLaw" (323 : Nat) ({ cls := "BondWarehouseLaw", name := "sealOf", desc := "(LBondWarehouse;I[J)I" } : Jvm.MethodName) ∈ TG := tg_5 147 rfl rfl
theorem kw_5_148 : Jvm.Cond.static ({ cls := "BondWarehouseLaw", name := "sealOf", desc := "(LBondWarehouse;I[J)I" } : Jvm.MethodName) ∈ TG := tg_5 148 rfl rfl
theorem kw_5_149 : Jvm.Cond.codeWith ({ cls := "BondWarehouseLaw", name := "sealOf", desc := "(LBondWarehouse;I[J)I" } : Jvm.MethodName) method_31_code (4 : Nat) (Option.some Jvm.ClassFile.FieldType.int) [((0 : Nat), (9 : Nat), (12 : Nat), (21 : Nat))] ∈ TG := tg_5 149 rfl rfl
theorem kw_8_178 : Jvm.Cond.methodLink "BondWarehouseLaw" (325 : Nat) ({ cls := "BondWarehouseModel", name := "sealOf", desc := "(I)I" } : Jvm.MethodName) ∈ TG := tg_8 178 rfl rfl
theorem kw_8_179 : Jvm.Cond.instanceMethod ({ cls := "BondWarehouseModel", name := "sealOf", desc := "(I)I" } : Jvm.MethodName) ∈ TG := tg_8 179 rfl rfl
theorem kw_8_180 : Jvm.Cond.selects "BondWarehouseModel" ({ cls := "BondWarehouseModel", name := "sealOf", desc := "(I)I" } : Jvm.MethodName) ({ cls := "BondWarehouseModel", name := "sealOf", desc := "(I)I" } : Jvm.MethodName) ∈ TG := tg_8 180 rfl rfl
theorem kw_8_181 : Jvm.Cond.code ({ cls := "BondWarehouseModel", name := "sealOf", desc := "(I)I" } : Jvm.MethodName) prog_12_method_92_code (2 : Nat) (Option.some Jvm.ClassFile.FieldType.int) ∈ TG := tg_8 181 rfl rfl
theorem kw_5_154 : Jvm.Cond.methodLink "BondWarehouseLaw" (326 : Nat) ({ cls := "BondWarehouseLaw", name := "isSealBroken", desc := "(LBondWarehouse;I[J)I" } : Jvm.MethodName) ∈ TG := tg_5 154 rfl rfl
theorem kw_5_155 : Jvm.Cond.static ({ cls := "BondWarehouseLaw", name := "isSealBroken", desc := "(LBondWarehouse;I[J)I" } : Jvm.MethodName) ∈ TG := tg_5 155 rfl rfl
theorem kw_5_156 : Jvm.Cond.codeWith ({ cls := "BondWarehouseLaw", name := "isSealBroken", desc := "(LBondWarehouse;I[J)I" } : Jvm.MethodName) method_32_code (4 : Nat) (Option.some Jvm.ClassFile.FieldType.int) [((0 : Nat), (16 : Nat), (19 : Nat), (21 : Nat))] ∈ TG := tg_5 156 rfl rfl
theorem kw_8_182 : Jvm.Cond.methodLink "BondWarehouseLaw" (328 : Nat) ({ cls := "BondWarehouseModel", name := "isSealBroken", desc := "(I)Z" } : Jvm.MethodName) ∈ TG := tg_8 182 rfl rfl
theorem kw_8_183 : Jvm.Cond.instanceMethod ({ cls := "BondWarehouseModel", name := "isSealBroken", desc := "(I)Z" } : Jvm.MethodName) ∈ TG := tg_8 183 rfl rfl
theorem kw_8_184 : Jvm.Cond.selects "BondWarehouseModel" ({ cls := "BondWarehouseModel", name := "isSealBroken", desc := "(I)Z" } : Jvm.MethodName) ({ cls := "BondWarehouseModel", name := "isSealBroken", desc := "(I)Z" } : Jvm.MethodName) ∈ TG := tg_8 184 rfl rfl
theorem kw_8_185 : Jvm.Cond.code ({ cls := "BondWarehouseModel", name := "isSealBroken", desc := "(I)Z" } : Jvm.MethodName) prog_12_method_93_code (2 : Nat) (Option.some Jvm.ClassFile.FieldType.boolean) ∈ TG := tg_8 185 rfl rfl
theorem kw_5_161 : Jvm.Cond.methodLink "BondWarehouseLaw" (329 : Nat) ({ cls := "BondWarehouseLaw", name := "entriesIn", desc := "(LBondWarehouse;I[J)I" } : Jvm.MethodName) ∈ TG := tg_5 161 rfl rfl
theorem kw_5_162 : Jvm.Cond.static ({ cls := "BondWarehouseLaw", name := "entriesIn", desc := "(LBondWarehouse;I[J)I" } : Jvm.MethodName) ∈ TG := tg_5 162 rfl rfl
theorem kw_5_163 : Jvm.Cond.codeWith ({ cls := "BondWarehouseLaw", name := "entriesIn", desc := "(LBondWarehouse;I[J)I" } : Jvm.MethodName) method_33_code (4 : Nat) (Option.some Jvm.ClassFile.FieldType.int) [((0 : Nat), (9 : Nat), (12 : Nat), (21 : Nat))] ∈ TG := tg_5 163 rfl rfl
theorem kw_8_186 : Jvm.Cond.methodLink "BondWarehouseLaw" (331 : Nat) ({ cls := "BondWarehouseModel", name := "entriesIn", desc := "(I)I" } : Jvm.MethodName) ∈ TG := tg_8 186 rfl rfl
theorem kw_8_187 : Jvm.Cond.instanceMethod ({ cls := "BondWarehouseModel", name := "entriesIn", desc := "(I)I" } : Jvm.MethodName) ∈ TG := tg_8 187 rfl rfl
theorem kw_8_188 : Jvm.Cond.selects "BondWarehouseModel" ({ cls := "BondWarehouseModel", name := "entriesIn", desc := "(I)I" } : Jvm.MethodName) ({ cls := "BondWarehouseModel", name := "entriesIn", desc := "(I)I" } : Jvm.MethodName) ∈ TG := tg_8 188 rfl rfl
theorem kw_8_189 : Jvm.Cond.code ({ cls := "BondWarehouseModel", name := "entriesIn", desc := "(I)I" } : Jvm.MethodName) prog_12_method_94_code (4 : Nat) (Option.some Jvm.ClassFile.FieldType.int) ∈ TG := tg_8 189 rfl rfl
theorem hy_L_chamberOf : yL_chamberOf.cls ≠ "java/lang/invoke/MethodHandle" ∧ yL_chamberOf.cls ≠ "java/lang/invoke/VarHandle" ∧ (parseMethodDescriptor yL_chamberOf.desc).map (fun d => d.parameters.length) = some 3 := by decide +kernel
theorem hy_L_ageOf : yL_ageOf.cls ≠ "java/lang/invoke/MethodHandle" ∧ yL_ageOf.cls ≠ "java/lang/invoke/VarHandle" ∧ (parseMethodDescriptor yL_ageOf.desc).map (fun d => d.parameters.length) = some 3 := by decide +kernel
theorem hy_L_isProved : yL_isProved.cls ≠ "java/lang/invoke/MethodHandle" ∧ yL_isProved.cls ≠ "java/lang/invoke/VarHandle" ∧ (parseMethodDescriptor yL_isProved.desc).map (fun d => d.parameters.length) = some 3 := by decide +kernel
theorem hy_L_isOverdue : yL_isOverdue.cls ≠ "java/lang/invoke/MethodHandle" ∧ yL_isOverdue.cls ≠ "java/lang/invoke/VarHandle" ∧ (parseMethodDescriptor yL_isOverdue.desc).map (fun d => d.parameters.length) = some 3 := by decide +kernel
theorem hy_L_dutyOfPart : yL_dutyOfPart.cls ≠ "java/lang/invoke/MethodHandle" ∧ yL_dutyOfPart.cls ≠ "java/lang/invoke/VarHandle" ∧ (parseMethodDescriptor yL_dutyOfPart.desc).map (fun d => d.parameters.length) = some 4 := by decide +kernel
theorem hy_L_dutyOf : yL_dutyOf.cls ≠ "java/lang/invoke/MethodHandle" ∧ yL_dutyOf.cls ≠ "java/lang/invoke/VarHandle" ∧ (parseMethodDescriptor yL_dutyOf.desc).map (fun d => d.parameters.length) = some 3 := by decide +kernel
theorem hy_L_allowedWaste : yL_allowedWaste.cls ≠ "java/lang/invoke/MethodHandle" ∧ yL_allowedWaste.cls ≠ "java/lang/invoke/VarHandle" ∧ (parseMethodDescriptor yL_allowedWaste.desc).map (fun d => d.parameters.length) = some 3 := by decide +kernel
theorem hy_L_isLocked : yL_isLocked.cls ≠ "java/lang/invoke/MethodHandle" ∧ yL_isLocked.cls ≠ "java/lang/invoke/VarHandle" ∧ (parseMethodDescriptor yL_isLocked.desc).map (fun d => d.parameters.length) = some 3 := by decide +kernel
theorem hy_L_sealOf : yL_sealOf.cls ≠ "java/lang/invoke/MethodHandle" ∧ yL_sealOf.cls ≠ "java/lang/invoke/VarHandle" ∧ (parseMethodDescriptor yL_sealOf.desc).map (fun d => d.parameters.length) = some 3 := by decide +kernel
theorem hy_L_isSealBroken : yL_isSealBroken.cls ≠ "java/lang/invoke/MethodHandle" ∧ yL_isSealBroken.cls ≠ "java/lang/invoke/VarHandle" ∧ (parseMethodDescriptor yL_isSealBroken.desc).map (fun d => d.parameters.length) = some 3 := by decide +kernel
theorem hy_L_entriesIn : yL_entriesIn.cls ≠ "java/lang/invoke/MethodHandle" ∧ yL_entriesIn.cls ≠ "java/lang/invoke/VarHandle" ∧ (parseMethodDescriptor yL_entriesIn.desc).map (fun d => d.parameters.length) = some 3 := by decide +kernel
theorem dL_law_1712 : decode cL_law 1712 = .ok (.aload_n 1, 1) := by decide +kernel
theorem dL_law_1713 : decode cL_law 1713 = .ok (.aload_n 0, 1) := by decide +kernel
theorem dL_law_1714 : decode cL_law 1714 = .ok (.iload 4, 2) := by decide +kernel
theorem dL_law_1716 : decode cL_law 1716 = .ok (.iconst 1, 1) := by decide +kernel
theorem dL_law_1717 : decode cL_law 1717 = .ok (.iadd, 1) := by decide +kernel
theorem dL_law_1718 : decode cL_law 1718 = .ok (.iaload, 1) := by decide +kernel
theorem dL_law_1719 : decode cL_law 1719 = .ok (.aload_n 3, 1) := by decide +kernel
theorem dL_law_1720 : decode cL_law 1720 = .ok (.invokestatic 294, 3) := by decide +kernel
theorem dL_law_1723 : decode cL_law 1723 = .ok (.istore 5, 2) := by decide +kernel
theorem dL_law_1725 : decode cL_law 1725 = .ok (.aload_n 2, 1) := by decide +kernel
theorem dL_law_1726 : decode cL_law 1726 = .ok (.aload_n 0, 1) := by decide +kernel
theorem dL_law_1727 : decode cL_law 1727 = .ok (.iload 4, 2) := by decide +kernel
theorem dL_law_1729 : decode cL_law 1729 = .ok (.iconst 1, 1) := by decide +kernel
theorem dL_law_1730 : decode cL_law 1730 = .ok (.iadd, 1) := by decide +kernel
theorem dL_law_1731 : decode cL_law 1731 = .ok (.iaload, 1) := by decide +kernel
theorem dL_law_1732 : decode cL_law 1732 = .ok (.invokevirtual 296, 3) := by decide +kernel
theorem dL_law_1735 : decode cL_law 1735 = .ok (.istore 6, 2) := by decide +kernel
theorem dL_law_1737 : decode cL_law 1737 = .ok (.aload_n 2, 1) := by decide +kernel
theorem dL_law_1738 : decode cL_law 1738 = .ok (.invokevirtual 216, 3) := by decide +kernel
theorem dL_law_1741 : decode cL_law 1741 = .ok (.iload 5, 2) := by decide +kernel
theorem dL_law_1743 : decode cL_law 1743 = .ok (.if_icmp .eq 5, 3) := by decide +kernel
theorem dL_law_1748 : decode cL_law 1748 = .ok (.iload 5, 2) := by decide +kernel
theorem dL_law_1750 : decode cL_law 1750 = .ok (.ifCond .ne 15, 3) := by decide +kernel
theorem dL_law_1753 : decode cL_law 1753 = .ok (.aload_n 3, 1) := by decide +kernel
theorem dL_law_1754 : decode cL_law 1754 = .ok (.iconst 0, 1) := by decide +kernel
theorem dL_law_1755 : decode cL_law 1755 = .ok (.laload, 1) := by decide +kernel
theorem dL_law_1756 : decode cL_law 1756 = .ok (.iload 6, 2) := by decide +kernel
theorem dL_law_1758 : decode cL_law 1758 = .ok (.i2l, 1) := by decide +kernel
theorem dL_law_1759 : decode cL_law 1759 = .ok (.lcmp, 1) := by decide +kernel
theorem dL_law_1760 : decode cL_law 1760 = .ok (.ifCond .eq 5, 3) := by decide +kernel
theorem dL_law_1765 : decode cL_law 1765 = .ok (.goto 2696, 3) := by decide +kernel
theorem dL_law_1768 : decode cL_law 1768 = .ok (.aload_n 1, 1) := by decide +kernel
theorem dL_law_1769 : decode cL_law 1769 = .ok (.aload_n 0, 1) := by decide +kernel
theorem dL_law_1770 : decode cL_law 1770 = .ok (.iload 4, 2) := by decide +kernel
theorem dL_law_1772 : decode cL_law 1772 = .ok (.iconst 1, 1) := by decide +kernel
theorem dL_law_1773 : decode cL_law 1773 = .ok (.iadd, 1) := by decide +kernel
theorem dL_law_1774 : decode cL_law 1774 = .ok (.iaload, 1) := by decide +kernel
theorem dL_law_1775 : decode cL_law 1775 = .ok (.aload_n 3, 1) := by decide +kernel
theorem dL_law_1776 : decode cL_law 1776 = .ok (.invokestatic 297, 3) := by decide +kernel
theorem dL_law_1779 : decode cL_law 1779 = .ok (.istore 5, 2) := by decide +kernel
theorem dL_law_1781 : decode cL_law 1781 = .ok (.aload_n 2, 1) := by decide +kernel
theorem dL_law_1782 : decode cL_law 1782 = .ok (.aload_n 0, 1) := by decide +kernel
theorem dL_law_1783 : decode cL_law 1783 = .ok (.iload 4, 2) := by decide +kernel
theorem dL_law_1785 : decode cL_law 1785 = .ok (.iconst 1, 1) := by decide +kernel
theorem dL_law_1786 : decode cL_law 1786 = .ok (.iadd, 1) := by decide +kernel
theorem dL_law_1787 : decode cL_law 1787 = .ok (.iaload, 1) := by decide +kernel
theorem dL_law_1788 : decode cL_law 1788 = .ok (.invokevirtual 299, 3) := by decide +kernel
theorem dL_law_1791 : decode cL_law 1791 = .ok (.istore 6, 2) := by decide +kernel
theorem dL_law_1793 : decode cL_law 1793 = .ok (.aload_n 2, 1) := by decide +kernel
theorem dL_law_1794 : decode cL_law 1794 = .ok (.invokevirtual 216, 3) := by decide +kernel
theorem dL_law_1797 : decode cL_law 1797 = .ok (.iload 5, 2) := by decide +kernel
theorem dL_law_1799 : decode cL_law 1799 = .ok (.if_icmp .eq 5, 3) := by decide +kernel
theorem dL_law_1804 : decode cL_law 1804 = .ok (.iload 5, 2) := by decide +kernel
theorem dL_law_1806 : decode cL_law 1806 = .ok (.ifCond .ne 15, 3) := by decide +kernel
theorem dL_law_1809 : decode cL_law 1809 = .ok (.aload_n 3, 1) := by decide +kernel
theorem dL_law_1810 : decode cL_law 1810 = .ok (.iconst 0, 1) := by decide +kernel
theorem dL_law_1811 : decode cL_law 1811 = .ok (.laload, 1) := by decide +kernel
theorem dL_law_1812 : decode cL_law 1812 = .ok (.iload 6, 2) := by decide +kernel
theorem dL_law_1814 : decode cL_law 1814 = .ok (.i2l, 1) := by decide +kernel
theorem dL_law_1815 : decode cL_law 1815 = .ok (.lcmp, 1) := by decide +kernel
theorem dL_law_1816 : decode cL_law 1816 = .ok (.ifCond .eq 5, 3) := by decide +kernel
theorem dL_law_1821 : decode cL_law 1821 = .ok (.goto 2640, 3) := by decide +kernel
theorem dL_law_1824 : decode cL_law 1824 = .ok (.aload_n 1, 1) := by decide +kernel
theorem dL_law_1825 : decode cL_law 1825 = .ok (.aload_n 0, 1) := by decide +kernel
theorem dL_law_1826 : decode cL_law 1826 = .ok (.iload 4, 2) := by decide +kernel
theorem dL_law_1828 : decode cL_law 1828 = .ok (.iconst 1, 1) := by decide +kernel
theorem dL_law_1829 : decode cL_law 1829 = .ok (.iadd, 1) := by decide +kernel
theorem dL_law_1830 : decode cL_law 1830 = .ok (.iaload, 1) := by decide +kernel
theorem dL_law_1831 : decode cL_law 1831 = .ok (.aload_n 3, 1) := by decide +kernel
theorem dL_law_1832 : decode cL_law 1832 = .ok (.invokestatic 300, 3) := by decide +kernel
theorem dL_law_1835 : decode cL_law 1835 = .ok (.istore 5, 2) := by decide +kernel
theorem dL_law_1837 : decode cL_law 1837 = .ok (.aload_n 2, 1) := by decide +kernel
theorem dL_law_1838 : decode cL_law 1838 = .ok (.aload_n 0, 1) := by decide +kernel
theorem dL_law_1839 : decode cL_law 1839 = .ok (.iload 4, 2) := by decide +kernel
theorem dL_law_1841 : decode cL_law 1841 = .ok (.iconst 1, 1) := by decide +kernel
theorem dL_law_1842 : decode cL_law 1842 = .ok (.iadd, 1) := by decide +kernel
theorem dL_law_1843 : decode cL_law 1843 = .ok (.iaload, 1) := by decide +kernel
theorem dL_law_1844 : decode cL_law 1844 = .ok (.invokevirtual 302, 3) := by decide +kernel
theorem dL_law_1847 : decode cL_law 1847 = .ok (.istore 6, 2) := by decide +kernel
theorem dL_law_1849 : decode cL_law 1849 = .ok (.aload_n 2, 1) := by decide +kernel
theorem dL_law_1850 : decode cL_law 1850 = .ok (.invokevirtual 216, 3) := by decide +kernel
theorem dL_law_1853 : decode cL_law 1853 = .ok (.iload 5, 2) := by decide +kernel
theorem dL_law_1855 : decode cL_law 1855 = .ok (.if_icmp .eq 5, 3) := by decide +kernel
theorem dL_law_1860 : decode cL_law 1860 = .ok (.iload 5, 2) := by decide +kernel
theorem dL_law_1862 : decode cL_law 1862 = .ok (.ifCond .ne 22, 3) := by decide +kernel
theorem dL_law_1865 : decode cL_law 1865 = .ok (.aload_n 3, 1) := by decide +kernel
theorem dL_law_1866 : decode cL_law 1866 = .ok (.iconst 0, 1) := by decide +kernel
theorem dL_law_1867 : decode cL_law 1867 = .ok (.laload, 1) := by decide +kernel
theorem dL_law_1868 : decode cL_law 1868 = .ok (.iload 6, 2) := by decide +kernel
theorem dL_law_1870 : decode cL_law 1870 = .ok (.ifCond .eq 7, 3) := by decide +kernel
theorem dL_law_1873 : decode cL_law 1873 = .ok (.lconst 1, 1) := by decide +kernel
theorem dL_law_1874 : decode cL_law 1874 = .ok (.goto 4, 3) := by decide +kernel
theorem dL_law_1877 : decode cL_law 1877 = .ok (.lconst 0, 1) := by decide +kernel
theorem dL_law_1878 : decode cL_law 1878 = .ok (.lcmp, 1) := by decide +kernel
theorem dL_law_1879 : decode cL_law 1879 = .ok (.ifCond .eq 5, 3) := by decide +kernel
theorem dL_law_1884 : decode cL_law 1884 = .ok (.goto 2577, 3) := by decide +kernel
theorem dL_law_1887 : decode cL_law 1887 = .ok (.aload_n 1, 1) := by decide +kernel
theorem dL_law_1888 : decode cL_law 1888 = .ok (.aload_n 0, 1) := by decide +kernel
theorem dL_law_1889 : decode cL_law 1889 = .ok (.iload 4, 2) := by decide +kernel
theorem dL_law_1891 : decode cL_law 1891 = .ok (.iconst 1, 1) := by decide +kernel
theorem dL_law_1892 : decode cL_law 1892 = .ok (.iadd, 1) := by decide +kernel
theorem dL_law_1893 : decode cL_law 1893 = .ok (.iaload, 1) := by decide +kernel
theorem dL_law_1894 : decode cL_law 1894 = .ok (.aload_n 3, 1) := by decide +kernel
theorem dL_law_1895 : decode cL_law 1895 = .ok (.invokestatic 303, 3) := by decide +kernel
theorem dL_law_1898 : decode cL_law 1898 = .ok (.istore 5, 2) := by decide +kernel
theorem dL_law_1900 : decode cL_law 1900 = .ok (.aload_n 2, 1) := by decide +kernel
theorem dL_law_1901 : decode cL_law 1901 = .ok (.aload_n 0, 1) := by decide +kernel
theorem dL_law_1902 : decode cL_law 1902 = .ok (.iload 4, 2) := by decide +kernel
theorem dL_law_1904 : decode cL_law 1904 = .ok (.iconst 1, 1) := by decide +kernel
theorem dL_law_1905 : decode cL_law 1905 = .ok (.iadd, 1) := by decide +kernel
theorem dL_law_1906 : decode cL_law 1906 = .ok (.iaload, 1) := by decide +kernel
theorem dL_law_1907 : decode cL_law 1907 = .ok (.invokevirtual 305, 3) := by decide +kernel
theorem dL_law_1910 : decode cL_law 1910 = .ok (.istore 6, 2) := by decide +kernel
theorem dL_law_1912 : decode cL_law 1912 = .ok (.aload_n 2, 1) := by decide +kernel
theorem dL_law_1913 : decode cL_law 1913 = .ok (.invokevirtual 216, 3) := by decide +kernel
theorem dL_law_1916 : decode cL_law 1916 = .ok (.iload 5, 2) := by decide +kernel
theorem dL_law_1918 : decode cL_law 1918 = .ok (.if_icmp .eq 5, 3) := by decide +kernel
theorem dL_law_1923 : decode cL_law 1923 = .ok (.iload 5, 2) := by decide +kernel
theorem dL_law_1925 : decode cL_law 1925 = .ok (.ifCond .ne 22, 3) := by decide +kernel
theorem dL_law_1928 : decode cL_law 1928 = .ok (.aload_n 3, 1) := by decide +kernel
theorem dL_law_1929 : decode cL_law 1929 = .ok (.iconst 0, 1) := by decide +kernel
theorem dL_law_1930 : decode cL_law 1930 = .ok (.laload, 1) := by decide +kernel
theorem dL_law_1931 : decode cL_law 1931 = .ok (.iload 6, 2) := by decide +kernel
theorem dL_law_1933 : decode cL_law 1933 = .ok (.ifCond .eq 7, 3) := by decide +kernel
theorem dL_law_1936 : decode cL_law 1936 = .ok (.lconst 1, 1) := by decide +kernel
theorem dL_law_1937 : decode cL_law 1937 = .ok (.goto 4, 3) := by decide +kernel
theorem dL_law_1940 : decode cL_law 1940 = .ok (.lconst 0, 1) := by decide +kernel
theorem dL_law_1941 : decode cL_law 1941 = .ok (.lcmp, 1) := by decide +kernel
theorem dL_law_1942 : decode cL_law 1942 = .ok (.ifCond .eq 5, 3) := by decide +kernel
theorem dL_law_1947 : decode cL_law 1947 = .ok (.goto 2514, 3) := by decide +kernel
theorem dL_law_1950 : decode cL_law 1950 = .ok (.aload_n 1, 1) := by decide +kernel
theorem dL_law_1951 : decode cL_law 1951 = .ok (.aload_n 0, 1) := by decide +kernel
theorem dL_law_1952 : decode cL_law 1952 = .ok (.iload 4, 2) := by decide +kernel
theorem dL_law_1954 : decode cL_law 1954 = .ok (.iconst 1, 1) := by decide +kernel
theorem dL_law_1955 : decode cL_law 1955 = .ok (.iadd, 1) := by decide +kernel
theorem dL_law_1956 : decode cL_law 1956 = .ok (.iaload, 1) := by decide +kernel
theorem dL_law_1957 : decode cL_law 1957 = .ok (.aload_n 0, 1) := by decide +kernel
theorem dL_law_1958 : decode cL_law 1958 = .ok (.iload 4, 2) := by decide +kernel
theorem dL_law_1960 : decode cL_law 1960 = .ok (.iconst 2, 1) := by decide +kernel
theorem dL_law_1961 : decode cL_law 1961 = .ok (.iadd, 1) := by decide +kernel
theorem dL_law_1962 : decode cL_law 1962 = .ok (.iaload, 1) := by decide +kernel
theorem dL_law_1963 : decode cL_law 1963 = .ok (.aload_n 3, 1) := by decide +kernel
theorem dL_law_1964 : decode cL_law 1964 = .ok (.invokestatic 306, 3) := by decide +kernel
theorem dL_law_1967 : decode cL_law 1967 = .ok (.istore 5, 2) := by decide +kernel
theorem dL_law_1969 : decode cL_law 1969 = .ok (.aload_n 2, 1) := by decide +kernel
theorem dL_law_1970 : decode cL_law 1970 = .ok (.aload_n 0, 1) := by decide +kernel
theorem dL_law_1971 : decode cL_law 1971 = .ok (.iload 4, 2) := by decide +kernel
theorem dL_law_1973 : decode cL_law 1973 = .ok (.iconst 1, 1) := by decide +kernel
theorem dL_law_1974 : decode cL_law 1974 = .ok (.iadd, 1) := by decide +kernel
theorem dL_law_1975 : decode cL_law 1975 = .ok (.iaload, 1) := by decide +kernel
theorem dL_law_1976 : decode cL_law 1976 = .ok (.aload_n 0, 1) := by decide +kernel
theorem dL_law_1977 : decode cL_law 1977 = .ok (.iload 4, 2) := by decide +kernel
theorem dL_law_1979 : decode cL_law 1979 = .ok (.iconst 2, 1) := by decide +kernel
theorem dL_law_1980 : decode cL_law 1980 = .ok (.iadd, 1) := by decide +kernel
theorem dL_law_1981 : decode cL_law 1981 = .ok (.iaload, 1) := by decide +kernel
theorem dL_law_1982 : decode cL_law 1982 = .ok (.invokevirtual 308, 3) := by decide +kernel
theorem dL_law_1985 : decode cL_law 1985 = .ok (.istore 6, 2) := by decide +kernel
theorem dL_law_1987 : decode cL_law 1987 = .ok (.aload_n 2, 1) := by decide +kernel
theorem dL_law_1988 : decode cL_law 1988 = .ok (.invokevirtual 216, 3) := by decide +kernel
theorem dL_law_1991 : decode cL_law 1991 = .ok (.iload 5, 2) := by decide +kernel
theorem dL_law_1993 : decode cL_law 1993 = .ok (.if_icmp .eq 5, 3) := by decide +kernel
theorem dL_law_1998 : decode cL_law 1998 = .ok (.iload 5, 2) := by decide +kernel
theorem dL_law_2000 : decode cL_law 2000 = .ok (.ifCond .ne 15, 3) := by decide +kernel
theorem dL_law_2003 : decode cL_law 2003 = .ok (.aload_n 3, 1) := by decide +kernel
theorem dL_law_2004 : decode cL_law 2004 = .ok (.iconst 0, 1) := by decide +kernel
theorem dL_law_2005 : decode cL_law 2005 = .ok (.laload, 1) := by decide +kernel
theorem dL_law_2006 : decode cL_law 2006 = .ok (.iload 6, 2) := by decide +kernel
theorem dL_law_2008 : decode cL_law 2008 = .ok (.i2l, 1) := by decide +kernel
theorem dL_law_2009 : decode cL_law 2009 = .ok (.lcmp, 1) := by decide +kernel
theorem dL_law_2010 : decode cL_law 2010 = .ok (.ifCond .eq 5, 3) := by decide +kernel
theorem dL_law_2015 : decode cL_law 2015 = .ok (.goto 2446, 3) := by decide +kernel
theorem dL_law_2018 : decode cL_law 2018 = .ok (.aload_n 1, 1) := by decide +kernel
theorem dL_law_2019 : decode cL_law 2019 = .ok (.aload_n 0, 1) := by decide +kernel
theorem dL_law_2020 : decode cL_law 2020 = .ok (.iload 4, 2) := by decide +kernel
theorem dL_law_2022 : decode cL_law 2022 = .ok (.iconst 1, 1) := by decide +kernel
theorem dL_law_2023 : decode cL_law 2023 = .ok (.iadd, 1) := by decide +kernel
theorem dL_law_2024 : decode cL_law 2024 = .ok (.iaload, 1) := by decide +kernel
theorem dL_law_2025 : decode cL_law 2025 = .ok (.aload_n 3, 1) := by decide +kernel
theorem dL_law_2026 : decode cL_law 2026 = .ok (.invokestatic 309, 3) := by decide +kernel
theorem dL_law_2029 : decode cL_law 2029 = .ok (.istore 5, 2) := by decide +kernel
theorem dL_law_2031 : decode cL_law 2031 = .ok (.aload_n 2, 1) := by decide +kernel
theorem dL_law_2032 : decode cL_law 2032 = .ok (.aload_n 0, 1) := by decide +kernel
theorem dL_law_2033 : decode cL_law 2033 = .ok (.iload 4, 2) := by decide +kernel
theorem dL_law_2035 : decode cL_law 2035 = .ok (.iconst 1, 1) := by decide +kernel
theorem dL_law_2036 : decode cL_law 2036 = .ok (.iadd, 1) := by decide +kernel
theorem dL_law_2037 : decode cL_law 2037 = .ok (.iaload, 1) := by decide +kernel
theorem dL_law_2038 : decode cL_law 2038 = .ok (.invokevirtual 311, 3) := by decide +kernel
theorem dL_law_2041 : decode cL_law 2041 = .ok (.istore 6, 2) := by decide +kernel
theorem dL_law_2043 : decode cL_law 2043 = .ok (.aload_n 2, 1) := by decide +kernel
theorem dL_law_2044 : decode cL_law 2044 = .ok (.invokevirtual 216, 3) := by decide +kernel
theorem dL_law_2047 : decode cL_law 2047 = .ok (.iload 5, 2) := by decide +kernel
theorem dL_law_2049 : decode cL_law 2049 = .ok (.if_icmp .eq 5, 3) := by decide +kernel
theorem dL_law_2054 : decode cL_law 2054 = .ok (.iload 5, 2) := by decide +kernel
theorem dL_law_2056 : decode cL_law 2056 = .ok (.ifCond .ne 15, 3) := by decide +kernel
theorem dL_law_2059 : decode cL_law 2059 = .ok (.aload_n 3, 1) := by decide +kernel
theorem dL_law_2060 : decode cL_law 2060 = .ok (.iconst 0, 1) := by decide +kernel
theorem dL_law_2061 : decode cL_law 2061 = .ok (.laload, 1) := by decide +kernel
theorem dL_law_2062 : decode cL_law 2062 = .ok (.iload 6, 2) := by decide +kernel
theorem dL_law_2064 : decode cL_law 2064 = .ok (.i2l, 1) := by decide +kernel
theorem dL_law_2065 : decode cL_law 2065 = .ok (.lcmp, 1) := by decide +kernel
theorem dL_law_2066 : decode cL_law 2066 = .ok (.ifCond .eq 5, 3) := by decide +kernel
theorem dL_law_2071 : decode cL_law 2071 = .ok (.goto 2390, 3) := by decide +kernel
theorem dL_law_2074 : decode cL_law 2074 = .ok (.aload_n 1, 1) := by decide +kernel
theorem dL_law_2075 : decode cL_law 2075 = .ok (.aload_n 0, 1) := by decide +kernel
theorem dL_law_2076 : decode cL_law 2076 = .ok (.iload 4, 2) := by decide +kernel
theorem dL_law_2078 : decode cL_law 2078 = .ok (.iconst 1, 1) := by decide +kernel
theorem dL_law_2079 : decode cL_law 2079 = .ok (.iadd, 1) := by decide +kernel
theorem dL_law_2080 : decode cL_law 2080 = .ok (.iaload, 1) := by decide +kernel
theorem dL_law_2081 : decode cL_law 2081 = .ok (.aload_n 3, 1) := by decide +kernel
theorem dL_law_2082 : decode cL_law 2082 = .ok (.invokestatic 312, 3) := by decide +kernel
theorem dL_law_2085 : decode cL_law 2085 = .ok (.istore 5, 2) := by decide +kernel
theorem dL_law_2087 : decode cL_law 2087 = .ok (.aload_n 2, 1) := by decide +kernel
theorem dL_law_2088 : decode cL_law 2088 = .ok (.aload_n 0, 1) := by decide +kernel
theorem dL_law_2089 : decode cL_law 2089 = .ok (.iload 4, 2) := by decide +kernel
theorem dL_law_2091 : decode cL_law 2091 = .ok (.iconst 1, 1) := by decide +kernel
theorem dL_law_2092 : decode cL_law 2092 = .ok (.iadd, 1) := by decide +kernel
theorem dL_law_2093 : decode cL_law 2093 = .ok (.iaload, 1) := by decide +kernel
theorem dL_law_2094 : decode cL_law 2094 = .ok (.invokevirtual 314, 3) := by decide +kernel
theorem dL_law_2097 : decode cL_law 2097 = .ok (.istore 6, 2) := by decide +kernel
theorem dL_law_2099 : decode cL_law 2099 = .ok (.aload_n 2, 1) := by decide +kernel
theorem dL_law_2100 : decode cL_law 2100 = .ok (.invokevirtual 216, 3) := by decide +kernel
theorem dL_law_2103 : decode cL_law 2103 = .ok (.iload 5, 2) := by decide +kernel
theorem dL_law_2105 : decode cL_law 2105 = .ok (.if_icmp .eq 5, 3) := by decide +kernel
theorem dL_law_2110 : decode cL_law 2110 = .ok (.iload 5, 2) := by decide +kernel
theorem dL_law_2112 : decode cL_law 2112 = .ok (.ifCond .ne 15, 3) := by decide +kernel
theorem dL_law_2115 : decode cL_law 2115 = .ok (.aload_n 3, 1) := by decide +kernel
theorem dL_law_2116 : decode cL_law 2116 = .ok (.iconst 0, 1) := by decide +kernel
theorem dL_law_2117 : decode cL_law 2117 = .ok (.laload, 1) := by decide +kernel
theorem dL_law_2118 : decode cL_law 2118 = .ok (.iload 6, 2) := by decide +kernel
theorem dL_law_2120 : decode cL_law 2120 = .ok (.i2l, 1) := by decide +kernel
theorem dL_law_2121 : decode cL_law 2121 = .ok (.lcmp, 1) := by decide +kernel
theorem dL_law_2122 : decode cL_law 2122 = .ok (.ifCond .eq 5, 3) := by decide +kernel
theorem dL_law_2127 : decode cL_law 2127 = .ok (.goto 2334, 3) := by decide +kernel
theorem dL_law_2130 : decode cL_law 2130 = .ok (.aload_n 1, 1) := by decide +kernel
theorem dL_law_2131 : decode cL_law 2131 = .ok (.invokevirtual 315, 3) := by decide +kernel
theorem dL_law_2134 : decode cL_law 2134 = .ok (.dstore 5, 2) := by decide +kernel
theorem dL_law_2136 : decode cL_law 2136 = .ok (.aload_n 2, 1) := by decide +kernel
theorem dL_law_2137 : decode cL_law 2137 = .ok (.invokevirtual 319, 3) := by decide +kernel
theorem dL_law_2140 : decode cL_law 2140 = .ok (.dstore 7, 2) := by decide +kernel
theorem dL_law_2142 : decode cL_law 2142 = .ok (.dload 5, 2) := by decide +kernel
theorem dL_law_2144 : decode cL_law 2144 = .ok (.dload 7, 2) := by decide +kernel
theorem dL_law_2146 : decode cL_law 2146 = .ok (.dcmp .l, 1) := by decide +kernel
theorem dL_law_2147 : decode cL_law 2147 = .ok (.ifCond .eq 21, 3) := by decide +kernel
theorem dL_law_2168 : decode cL_law 2168 = .ok (.goto 2293, 3) := by decide +kernel
theorem dL_law_2171 : decode cL_law 2171 = .ok (.aload_n 1, 1) := by decide +kernel
theorem dL_law_2172 : decode cL_law 2172 = .ok (.aload_n 0, 1) := by decide +kernel
theorem dL_law_2173 : decode cL_law 2173 = .ok (.iload 4, 2) := by decide +kernel
theorem dL_law_2175 : decode cL_law 2175 = .ok (.iconst 1, 1) := by decide +kernel
theorem dL_law_2176 : decode cL_law 2176 = .ok (.iadd, 1) := by decide +kernel
theorem dL_law_2177 : decode cL_law 2177 = .ok (.iaload, 1) := by decide +kernel
theorem dL_law_2178 : decode cL_law 2178 = .ok (.aload_n 3, 1) := by decide +kernel
theorem dL_law_2179 : decode cL_law 2179 = .ok (.invokestatic 320, 3) := by decide +kernel
theorem dL_law_2182 : decode cL_law 2182 = .ok (.istore 5, 2) := by decide +kernel
theorem dL_law_2184 : decode cL_law 2184 = .ok (.aload_n 2, 1) := by decide +kernel
theorem dL_law_2185 : decode cL_law 2185 = .ok (.aload_n 0, 1) := by decide +kernel
theorem dL_law_2186 : decode cL_law 2186 = .ok (.iload 4, 2) := by decide +kernel
theorem dL_law_2188 : decode cL_law 2188 = .ok (.iconst 1, 1) := by decide +kernel
theorem dL_law_2189 : decode cL_law 2189 = .ok (.iadd, 1) := by decide +kernel
theorem dL_law_2190 : decode cL_law 2190 = .ok (.iaload, 1) := by decide +kernel
theorem dL_law_2191 : decode cL_law 2191 = .ok (.invokevirtual 322, 3) := by decide +kernel
theorem dL_law_2194 : decode cL_law 2194 = .ok (.istore 6, 2) := by decide +kernel
theorem dL_law_2196 : decode cL_law 2196 = .ok (.aload_n 2, 1) := by decide +kernel
theorem dL_law_2197 : decode cL_law 2197 = .ok (.invokevirtual 216, 3) := by decide +kernel
theorem dL_law_2200 : decode cL_law 2200 = .ok (.iload 5, 2) := by decide +kernel
theorem dL_law_2202 : decode cL_law 2202 = .ok (.if_icmp .eq 5, 3) := by decide +kernel
theorem dL_law_2207 : decode cL_law 2207 = .ok (.iload 5, 2) := by decide +kernel
theorem dL_law_2209 : decode cL_law 2209 = .ok (.ifCond .ne 22, 3) := by decide +kernel
theorem dL_law_2212 : decode cL_law 2212 = .ok (.aload_n 3, 1) := by decide +kernel
theorem dL_law_2213 : decode cL_law 2213 = .ok (.iconst 0, 1) := by decide +kernel
theorem dL_law_2214 : decode cL_law 2214 = .ok (.laload, 1) := by decide +kernel
theorem dL_law_2215 : decode cL_law 2215 = .ok (.iload 6, 2) := by decide +kernel
theorem dL_law_2217 : decode cL_law 2217 = .ok (.ifCond .eq 7, 3) := by decide +kernel
theorem dL_law_2220 : decode cL_law 2220 = .ok (.lconst 1, 1) := by decide +kernel
theorem dL_law_2221 : decode cL_law 2221 = .ok (.goto 4, 3) := by decide +kernel
theorem dL_law_2224 : decode cL_law 2224 = .ok (.lconst 0, 1) := by decide +kernel
theorem dL_law_2225 : decode cL_law 2225 = .ok (.lcmp, 1) := by decide +kernel
theorem dL_law_2226 : decode cL_law 2226 = .ok (.ifCond .eq 5, 3) := by decide +kernel
theorem dL_law_2231 : decode cL_law 2231 = .ok (.goto 2230, 3) := by decide +kernel
theorem dL_law_2234 : decode cL_law 2234 = .ok (.aload_n 1, 1) := by decide +kernel
theorem dL_law_2235 : decode cL_law 2235 = .ok (.aload_n 0, 1) := by decide +kernel
theorem dL_law_2236 : decode cL_law 2236 = .ok (.iload 4, 2) := by decide +kernel
theorem dL_law_2238 : decode cL_law 2238 = .ok (.iconst 1, 1) := by decide +kernel
theorem dL_law_2239 : decode cL_law 2239 = .ok (.iadd, 1) := by decide +kernel
theorem dL_law_2240 : decode cL_law 2240 = .ok (.iaload, 1) := by decide +kernel
theorem dL_law_2241 : decode cL_law 2241 = .ok (.aload_n 3, 1) := by decide +kernel
theorem dL_law_2242 : decode cL_law 2242 = .ok (.invokestatic 323, 3) := by decide +kernel
theorem dL_law_2245 : decode cL_law 2245 = .ok (.istore 5, 2) := by decide +kernel
theorem dL_law_2247 : decode cL_law 2247 = .ok (.aload_n 2, 1) := by decide +kernel
theorem dL_law_2248 : decode cL_law 2248 = .ok (.aload_n 0, 1) := by decide +kernel
theorem dL_law_2249 : decode cL_law 2249 = .ok (.iload 4, 2) := by decide +kernel
theorem dL_law_2251 : decode cL_law 2251 = .ok (.iconst 1, 1) := by decide +kernel
theorem dL_law_2252 : decode cL_law 2252 = .ok (.iadd, 1) := by decide +kernel
theorem dL_law_2253 : decode cL_law 2253 = .ok (.iaload, 1) := by decide +kernel
theorem dL_law_2254 : decode cL_law 2254 = .ok (.invokevirtual 325, 3) := by decide +kernel
theorem dL_law_2257 : decode cL_law 2257 = .ok (.istore 6, 2) := by decide +kernel
theorem dL_law_2259 : decode cL_law 2259 = .ok (.aload_n 2, 1) := by decide +kernel
theorem dL_law_2260 : decode cL_law 2260 = .ok (.invokevirtual 216, 3) := by decide +kernel
theorem dL_law_2263 : decode cL_law 2263 = .ok (.iload 5, 2) := by decide +kernel
theorem dL_law_2265 : decode cL_law 2265 = .ok (.if_icmp .eq 5, 3) := by decide +kernel
theorem dL_law_2270 : decode cL_law 2270 = .ok (.iload 5, 2) := by decide +kernel
theorem dL_law_2272 : decode cL_law 2272 = .ok (.ifCond .ne 15, 3) := by decide +kernel
theorem dL_law_2275 : decode cL_law 2275 = .ok (.aload_n 3, 1) := by decide +kernel
theorem dL_law_2276 : decode cL_law 2276 = .ok (.iconst 0, 1) := by decide +kernel
theorem dL_law_2277 : decode cL_law 2277 = .ok (.laload, 1) := by decide +kernel
theorem dL_law_2278 : decode cL_law 2278 = .ok (.iload 6, 2) := by decide +kernel
theorem dL_law_2280 : decode cL_law 2280 = .ok (.i2l, 1) := by decide +kernel
theorem dL_law_2281 : decode cL_law 2281 = .ok (.lcmp, 1) := by decide +kernel
theorem dL_law_2282 : decode cL_law 2282 = .ok (.ifCond .eq 5, 3) := by decide +kernel
theorem dL_law_2287 : decode cL_law 2287 = .ok (.goto 2174, 3) := by decide +kernel
theorem dL_law_2290 : decode cL_law 2290 = .ok (.aload_n 1, 1) := by decide +kernel
theorem dL_law_2291 : decode cL_law 2291 = .ok (.aload_n 0, 1) := by decide +kernel
theorem dL_law_2292 : decode cL_law 2292 = .ok (.iload 4, 2) := by decide +kernel
theorem dL_law_2294 : decode cL_law 2294 = .ok (.iconst 1, 1) := by decide +kernel
theorem dL_law_2295 : decode cL_law 2295 = .ok (.iadd, 1) := by decide +kernel
theorem dL_law_2296 : decode cL_law 2296 = .ok (.iaload, 1) := by decide +kernel
theorem dL_law_2297 : decode cL_law 2297 = .ok (.aload_n 3, 1) := by decide +kernel
theorem dL_law_2298 : decode cL_law 2298 = .ok (.invokestatic 326, 3) := by decide +kernel
theorem dL_law_2301 : decode cL_law 2301 = .ok (.istore 5, 2) := by decide +kernel
theorem dL_law_2303 : decode cL_law 2303 = .ok (.aload_n 2, 1) := by decide +kernel
theorem dL_law_2304 : decode cL_law 2304 = .ok (.aload_n 0, 1) := by decide +kernel
theorem dL_law_2305 : decode cL_law 2305 = .ok (.iload 4, 2) := by decide +kernel
theorem dL_law_2307 : decode cL_law 2307 = .ok (.iconst 1, 1) := by decide +kernel
theorem dL_law_2308 : decode cL_law 2308 = .ok (.iadd, 1) := by decide +kernel
theorem dL_law_2309 : decode cL_law 2309 = .ok (.iaload, 1) := by decide +kernel
theorem dL_law_2310 : decode cL_law 2310 = .ok (.invokevirtual 328, 3) := by decide +kernel
theorem dL_law_2313 : decode cL_law 2313 = .ok (.istore 6, 2) := by decide +kernel
theorem dL_law_2315 : decode cL_law 2315 = .ok (.aload_n 2, 1) := by decide +kernel
theorem dL_law_2316 : decode cL_law 2316 = .ok (.invokevirtual 216, 3) := by decide +kernel
theorem dL_law_2319 : decode cL_law 2319 = .ok (.iload 5, 2) := by decide +kernel
theorem dL_law_2321 : decode cL_law 2321 = .ok (.if_icmp .eq 5, 3) := by decide +kernel
theorem dL_law_2326 : decode cL_law 2326 = .ok (.iload 5, 2) := by decide +kernel
theorem dL_law_2328 : decode cL_law 2328 = .ok (.ifCond .ne 22, 3) := by decide +kernel
theorem dL_law_2331 : decode cL_law 2331 = .ok (.aload_n 3, 1) := by decide +kernel
theorem dL_law_2332 : decode cL_law 2332 = .ok (.iconst 0, 1) := by decide +kernel
theorem dL_law_2333 : decode cL_law 2333 = .ok (.laload, 1) := by decide +kernel
theorem dL_law_2334 : decode cL_law 2334 = .ok (.iload 6, 2) := by decide +kernel
theorem dL_law_2336 : decode cL_law 2336 = .ok (.ifCond .eq 7, 3) := by decide +kernel
theorem dL_law_2339 : decode cL_law 2339 = .ok (.lconst 1, 1) := by decide +kernel
theorem dL_law_2340 : decode cL_law 2340 = .ok (.goto 4, 3) := by decide +kernel
theorem dL_law_2343 : decode cL_law 2343 = .ok (.lconst 0, 1) := by decide +kernel
theorem dL_law_2344 : decode cL_law 2344 = .ok (.lcmp, 1) := by decide +kernel
theorem dL_law_2345 : decode cL_law 2345 = .ok (.ifCond .eq 5, 3) := by decide +kernel
theorem dL_law_2350 : decode cL_law 2350 = .ok (.goto 2111, 3) := by decide +kernel
theorem dL_law_2353 : decode cL_law 2353 = .ok (.aload_n 1, 1) := by decide +kernel
theorem dL_law_2354 : decode cL_law 2354 = .ok (.aload_n 0, 1) := by decide +kernel
theorem dL_law_2355 : decode cL_law 2355 = .ok (.iload 4, 2) := by decide +kernel
theorem dL_law_2357 : decode cL_law 2357 = .ok (.iconst 1, 1) := by decide +kernel
theorem dL_law_2358 : decode cL_law 2358 = .ok (.iadd, 1) := by decide +kernel
theorem dL_law_2359 : decode cL_law 2359 = .ok (.iaload, 1) := by decide +kernel
theorem dL_law_2360 : decode cL_law 2360 = .ok (.aload_n 3, 1) := by decide +kernel
theorem dL_law_2361 : decode cL_law 2361 = .ok (.invokestatic 329, 3) := by decide +kernel
theorem dL_law_2364 : decode cL_law 2364 = .ok (.istore 5, 2) := by decide +kernel
theorem dL_law_2366 : decode cL_law 2366 = .ok (.aload_n 2, 1) := by decide +kernel
theorem dL_law_2367 : decode cL_law 2367 = .ok (.aload_n 0, 1) := by decide +kernel
theorem dL_law_2368 : decode cL_law 2368 = .ok (.iload 4, 2) := by decide +kernel
theorem dL_law_2370 : decode cL_law 2370 = .ok (.iconst 1, 1) := by decide +kernel
theorem dL_law_2371 : decode cL_law 2371 = .ok (.iadd, 1) := by decide +kernel
theorem dL_law_2372 : decode cL_law 2372 = .ok (.iaload, 1) := by decide +kernel
theorem dL_law_2373 : decode cL_law 2373 = .ok (.invokevirtual 331, 3) := by decide +kernel
theorem dL_law_2376 : decode cL_law 2376 = .ok (.istore 6, 2) := by decide +kernel
theorem dL_law_2378 : decode cL_law 2378 = .ok (.aload_n 2, 1) := by decide +kernel
theorem dL_law_2379 : decode cL_law 2379 = .ok (.invokevirtual 216, 3) := by decide +kernel
theorem dL_law_2382 : decode cL_law 2382 = .ok (.iload 5, 2) := by decide +kernel
theorem dL_law_2384 : decode cL_law 2384 = .ok (.if_icmp .eq 5, 3) := by decide +kernel
theorem dL_law_2389 : decode cL_law 2389 = .ok (.iload 5, 2) := by decide +kernel
theorem dL_law_2391 : decode cL_law 2391 = .ok (.ifCond .ne 15, 3) := by decide +kernel
theorem dL_law_2394 : decode cL_law 2394 = .ok (.aload_n 3, 1) := by decide +kernel
theorem dL_law_2395 : decode cL_law 2395 = .ok (.iconst 0, 1) := by decide +kernel
theorem dL_law_2396 : decode cL_law 2396 = .ok (.laload, 1) := by decide +kernel
theorem dL_law_2397 : decode cL_law 2397 = .ok (.iload 6, 2) := by decide +kernel
theorem dL_law_2399 : decode cL_law 2399 = .ok (.i2l, 1) := by decide +kernel
theorem dL_law_2400 : decode cL_law 2400 = .ok (.lcmp, 1) := by decide +kernel
theorem dL_law_2401 : decode cL_law 2401 = .ok (.ifCond .eq 5, 3) := by decide +kernel
theorem dL_law_2406 : decode cL_law 2406 = .ok (.goto 2055, 3) := by decide +kernel
section CASE2
variable {p : Program} {l : Launch} {e : Env} {s : State} {m : MethodId} {args : Array Value} {below : List Frame} {meth : Method} {c : Code} {cells slots : Nat} {Q : State → Prop}
variable {D : va_G} {cA : Nat → ClassId} {ad : Nat → Nat → Nat} {A AC AM : Nat → Prop} {ob : Nat} {cO : ClassId}
variable {mc mm : Mm} {v : Int64} {b L i a s0 : Nat} {xs : Nat → Int32}
set_option maxRecDepth 100000 in
set_option maxHeartbeats 4000000 in
theorem case_24 (C : LC p l s m args c D cA ad A AC AM ob cO b L xs) (h : Hy a s0 mc mm (Rel (a + 400000) (s0 + 64))) (hi : i + 4 < L) (hroom : cells + 2 ≤ room_1.cells ∧ slots + 12 ≤ room_1.slots) (kk : ∀ (mc' mm' : Mm) (v' : Int64), Rel (a + 400000) (s0 + 64) mc' mm' → V p l e room_1 s m args below meth c Q 9 A (cells + 2) (slots + 12) (PL D cA ad ob cO mc' mm' v') 4461 (lvL ad ob b i) []) : V p l e room_1 s m args below meth c Q 9 A cells slots (PL D cA ad ob cO mc mm v) 1712 (lvL ad ob b i) [] := by
  have C0 := C
  obtain ⟨X, hA, hW, hZ, hX, hb1, hst, hL⟩ := C
  have hroom0 : cells ≤ room_1.cells ∧ slots ≤ room_1.slots := ⟨by omega, by omega⟩
  refine q_aload_n (j := 3) X dL_law_1712 rfl rfl ?_
  refine qL_arg C0 1 (j0 := 4) (j4 := 0) rfl (by decide) dL_law_1713 dL_law_1714 dL_law_1716 dL_law_1717 dL_law_1718 rfl rfl hi ?_
  refine q_aload_n (j := 1) X dL_law_1719 rfl rfl ?_
  refine qL_w X hA hW hZ [.ref (ad 0 1), .int (xs (i + 1)), .ref ob] rfl rfl dL_law_1720 hroom (k_L_chamberOf hA.1 hA.2.2.1.1 hst (xs (i + 1)) mc v _ _ (J_chamberOf (K := Rel (a + 400000) (s0 + 64)) h.1 (fun v9 => h.2.2.2 mc _ ((h.1.ref v9).mono (by omega) (by omega) h.2.2.1)) (xs (i + 1))) (fun _ _ hx => hx.1)) rfl rfl (gSW kw_5_74 kw_5_75 kw_1_0 kw_5_76) hy_L_chamberOf ⟨(Nat.le_of_ble_eq_true rfl), (Nat.le_of_ble_eq_true rfl)⟩ (fun k mc' v' hq => ?_)
  refine q_istore X dL_law_1723 (Nat.le_of_ble_eq_true rfl) rfl ?_
  refine q_aload_n (j := 3) X dL_law_1725 rfl rfl ?_
  refine qL_arg C0 1 (j0 := 5) (j4 := 1) rfl (by decide) dL_law_1726 dL_law_1727 dL_law_1729 dL_law_1730 dL_law_1731 rfl rfl hi ?_
  have hroom1 : cells + 2 ≤ room_1.cells ∧ slots + 12 ≤ room_1.slots := hroom
  rcases hq with ⟨rfl, r, rfl, hj⟩ | ⟨hk0, k0, hk, hj⟩
  · skip
    obtain ⟨hj, rfl⟩ := hj
    unfold jq at hj
    refine qL_m X hA hW [.int (xs (i + 1))] [] rfl rfl (Nat.le_of_ble_eq_true rfl) dL_law_1732 hroom1 (c_X10_chamberOf hA.2.1 (xs (i + 1)) mm _ hj) rfl rfl (gV kw_8_138 kw_8_139 kw_8_140 kw_1_11 kw_8_141) hy_X10_chamberOf ⟨(Nat.le_of_ble_eq_true rfl), (Nat.le_of_ble_eq_true rfl)⟩ (fun b9 mm9 hb => ?_)
    obtain ⟨h1, rfl, hK⟩ := hb
    refine q_istore X dL_law_1735 (Nat.le_of_ble_eq_true rfl) rfl ?_
    exact tailI C0 hroom1 ⟨(Nat.le_of_ble_eq_true rfl), (Nat.le_of_ble_eq_true rfl)⟩ h1 (fun _ => rfl) dL_law_1737 dL_law_1738 dL_law_1741 dL_law_1743 dL_law_1748 dL_law_1750 dL_law_1753 dL_law_1754 dL_law_1755 dL_law_1756 dL_law_1758 dL_law_1759 dL_law_1760 dL_law_1765 (by decide) (kk _ _ _ hK)
  · obtain ⟨_, hj⟩ := hj
    unfold jx at hj
    refine qL_m X hA hW [.int (xs (i + 1))] [] rfl rfl (Nat.le_of_ble_eq_true rfl) dL_law_1732 hroom1 (c_X10_chamberOf hA.2.1 (xs (i + 1)) mm _ hj) rfl rfl (gV kw_8_138 kw_8_139 kw_8_140 kw_1_11 kw_8_141) hy_X10_chamberOf ⟨(Nat.le_of_ble_eq_true rfl), (Nat.le_of_ble_eq_true rfl)⟩ (fun b9 mm9 hb => ?_)
    obtain ⟨h1, hK⟩ := hb
    refine q_istore X dL_law_1735 (Nat.le_of_ble_eq_true rfl) rfl ?_
    exact tailI C0 hroom1 ⟨(Nat.le_of_ble_eq_true rfl), (Nat.le_of_ble_eq_true rfl)⟩ (h1.trans hk.symm) (fun h0 => absurd h0 hk0) dL_law_1737 dL_law_1738 dL_law_1741 dL_law_1743 dL_law_1748 dL_law_1750 dL_law_1753 dL_law_1754 dL_law_1755 dL_law_1756 dL_law_1758 dL_law_1759 dL_law_1760 dL_law_1765 (by decide) (kk _ _ _ hK)
set_option maxRecDepth 100000 in
set_option maxHeartbeats 4000000 in
theorem case_25 (C : LC p l s m args c D cA ad A AC AM ob cO b L xs) (h : Hy a s0 mc mm (Rel (a + 400000) (s0 + 64))) (hi : i + 4 < L) (hroom : cells + 2 ≤ room_1.cells ∧ slots + 12 ≤ room_1.slots) (kk : ∀ (mc' mm' : Mm) (v' : Int64), Rel (a + 400000) (s0 + 64) mc' mm' → V p l e room_1 s m args below meth c Q 9 A (cells + 2) (slots + 12) (PL D cA ad ob cO mc' mm' v') 4461 (lvL ad ob b i) []) : V p l e room_1 s m args below meth c Q 9 A cells slots (PL D cA ad ob cO mc mm v) 1768 (lvL ad ob b i) [] := by
  have C0 := C
  obtain ⟨X, hA, hW, hZ, hX, hb1, hst, hL⟩ := C
  have hroom0 : cells ≤ room_1.cells ∧ slots ≤ room_1.slots := ⟨by omega, by omega⟩
  refine q_aload_n (j := 3) X dL_law_1768 rfl rfl ?_
  refine qL_arg C0 1 (j0 := 4) (j4 := 0) rfl (by decide) dL_law_1769 dL_law_1770 dL_law_1772 dL_law_1773 dL_law_1774 rfl rfl hi ?_
  refine q_aload_n (j := 1) X dL_law_1775 rfl rfl ?_
  refine qL_w X hA hW hZ [.ref (ad 0 1), .int (xs (i + 1)), .ref ob] rfl rfl dL_law_1776 hroom (k_L_ageOf hA.1 hA.2.2.1.1 hst (xs (i + 1)) mc v _ _ (J_ageOf (K := Rel (a + 400000) (s0 + 64)) h.1 (fun v9 => h.2.2.2 mc _ ((h.1.ref v9).mono (by omega) (by omega) h.2.2.1)) (xs (i + 1))) (fun _ _ hx => hx.1)) rfl rfl (gSW kw_5_81 kw_5_82 kw_1_0 kw_5_83) hy_L_ageOf ⟨(Nat.le_of_ble_eq_true rfl), (Nat.le_of_ble_eq_true rfl)⟩ (fun k mc' v' hq => ?_)
  refine q_istore X dL_law_1779 (Nat.le_of_ble_eq_true rfl) rfl ?_
  refine q_aload_n (j := 3) X dL_law_1781 rfl rfl ?_
  refine qL_arg C0 1 (j0 := 5) (j4 := 1) rfl (by decide) dL_law_1782 dL_law_1783 dL_law_1785 dL_law_1786 dL_law_1787 rfl rfl hi ?_
  have hroom1 : cells + 2 ≤ room_1.cells ∧ slots + 12 ≤ room_1.slots := hroom
  rcases hq with ⟨rfl, r, rfl, hj⟩ | ⟨hk0, k0, hk, hj⟩
  · skip
    obtain ⟨hj, rfl⟩ := hj
    unfold jq at hj
    refine qL_m X hA hW [.int (xs (i + 1))] [] rfl rfl (Nat.le_of_ble_eq_true rfl) dL_law_1788 hroom1 (c_X10_ageOf hA.2.1 (xs (i + 1)) mm _ hj) rfl rfl (gV kw_8_142 kw_8_143 kw_8_144 kw_1_11 kw_8_145) hy_X10_ageOf ⟨(Nat.le_of_ble_eq_true rfl), (Nat.le_of_ble_eq_true rfl)⟩ (fun b9 mm9 hb => ?_)
    obtain ⟨h1, rfl, hK⟩ := hb
    refine q_istore X dL_law_1791 (Nat.le_of_ble_eq_true rfl) rfl ?_
    exact tailI C0 hroom1 ⟨(Nat.le_of_ble_eq_true rfl), (Nat.le_of_ble_eq_true rfl)⟩ h1 (fun _ => rfl) dL_law_1793 dL_law_1794 dL_law_1797 dL_law_1799 dL_law_1804 dL_law_1806 dL_law_1809 dL_law_1810 dL_law_1811 dL_law_1812 dL_law_1814 dL_law_1815 dL_law_1816 dL_law_1821 (by decide) (kk _ _ _ hK)
  · obtain ⟨_, hj⟩ := hj
    unfold jx at hj
    refine qL_m X hA hW [.int (xs (i + 1))] [] rfl rfl (Nat.le_of_ble_eq_true rfl) dL_law_1788 hroom1 (c_X10_ageOf hA.2.1 (xs (i + 1)) mm _ hj) rfl rfl (gV kw_8_142 kw_8_143 kw_8_144 kw_1_11 kw_8_145) hy_X10_ageOf ⟨(Nat.le_of_ble_eq_true rfl), (Nat.le_of_ble_eq_true rfl)⟩ (fun b9 mm9 hb => ?_)
    obtain ⟨h1, hK⟩ := hb
    refine q_istore X dL_law_1791 (Nat.le_of_ble_eq_true rfl) rfl ?_
    exact tailI C0 hroom1 ⟨(Nat.le_of_ble_eq_true rfl), (Nat.le_of_ble_eq_true rfl)⟩ (h1.trans hk.symm) (fun h0 => absurd h0 hk0) dL_law_1793 dL_law_1794 dL_law_1797 dL_law_1799 dL_law_1804 dL_law_1806 dL_law_1809 dL_law_1810 dL_law_1811 dL_law_1812 dL_law_1814 dL_law_1815 dL_law_1816 dL_law_1821 (by decide) (kk _ _ _ hK)
set_option maxRecDepth 100000 in
set_option maxHeartbeats 4000000 in
theorem case_26 (C : LC p l s m args c D cA ad A AC AM ob cO b L xs) (h : Hy a s0 mc mm (Rel (a + 400000) (s0 + 64))) (hi : i + 4 < L) (hroom : cells + 2 ≤ room_1.cells ∧ slots + 12 ≤ room_1.slots) (kk : ∀ (mc' mm' : Mm) (v' : Int64), Rel (a + 400000) (s0 + 64) mc' mm' → V p l e room_1 s m args below meth c Q 9 A (cells + 2) (slots + 12) (PL D cA ad ob cO mc' mm' v') 4461 (lvL ad ob b i) []) : V p l e room_1 s m args below meth c Q 9 A cells slots (PL D cA ad ob cO mc mm v) 1824 (lvL ad ob b i) [] := by
  have C0 := C
  obtain ⟨X, hA, hW, hZ, hX, hb1, hst, hL⟩ := C
  have hroom0 : cells ≤ room_1.cells ∧ slots ≤ room_1.slots := ⟨by omega, by omega⟩
  refine q_aload_n (j := 3) X dL_law_1824 rfl rfl ?_
  refine qL_arg C0 1 (j0 := 4) (j4 := 0) rfl (by decide) dL_law_1825 dL_law_1826 dL_law_1828 dL_law_1829 dL_law_1830 rfl rfl hi ?_
  refine q_aload_n (j := 1) X dL_law_1831 rfl rfl ?_
  refine qL_w X hA hW hZ [.ref (ad 0 1), .int (xs (i + 1)), .ref ob] rfl rfl dL_law_1832 hroom (k_L_isProved hA.1 hA.2.2.1.1 hst (xs (i + 1)) mc v _ _ (J_isProved (K := Rel (a + 400000) (s0 + 64)) h.1 (fun v9 => h.2.2.2 mc _ ((h.1.ref v9).mono (by omega) (by omega) h.2.2.1)) (xs (i + 1))) (fun _ _ hx => hx.1)) rfl rfl (gSW kw_5_89 kw_5_90 kw_1_0 kw_5_91) hy_L_isProved ⟨(Nat.le_of_ble_eq_true rfl), (Nat.le_of_ble_eq_true rfl)⟩ (fun k mc' v' hq => ?_)
  refine q_istore X dL_law_1835 (Nat.le_of_ble_eq_true rfl) rfl ?_
  refine q_aload_n (j := 3) X dL_law_1837 rfl rfl ?_
  refine qL_arg C0 1 (j0 := 5) (j4 := 1) rfl (by decide) dL_law_1838 dL_law_1839 dL_law_1841 dL_law_1842 dL_law_1843 rfl rfl hi ?_
  have hroom1 : cells + 2 ≤ room_1.cells ∧ slots + 12 ≤ room_1.slots := hroom
  rcases hq with ⟨rfl, r, rfl, hj⟩ | ⟨hk0, k0, hk, hj⟩
  · skip
    obtain ⟨hj, rfl⟩ := hj
    unfold jq at hj
    refine qL_m X hA hW [.int (xs (i + 1))] [] rfl rfl (Nat.le_of_ble_eq_true rfl) dL_law_1844 hroom1 (c_X10_isProved hA.2.1 (xs (i + 1)) mm _ hj) rfl rfl (gV kw_8_146 kw_8_147 kw_8_148 kw_1_11 kw_8_149) hy_X10_isProved ⟨(Nat.le_of_ble_eq_true rfl), (Nat.le_of_ble_eq_true rfl)⟩ (fun b9 mm9 hb => ?_)
    obtain ⟨h1, rfl, hK⟩ := hb
    refine q_istore X dL_law_1847 (Nat.le_of_ble_eq_true rfl) rfl ?_
    exact tailB C0 hroom1 ⟨(Nat.le_of_ble_eq_true rfl), (Nat.le_of_ble_eq_true rfl)⟩ h1 (fun _ => rfl) dL_law_1849 dL_law_1850 dL_law_1853 dL_law_1855 dL_law_1860 dL_law_1862 dL_law_1865 dL_law_1866 dL_law_1867 dL_law_1868 dL_law_1870 dL_law_1873 dL_law_1874 dL_law_1877 dL_law_1878 dL_law_1879 dL_law_1884 (by decide) (kk _ _ _ hK)
  · obtain ⟨_, hj⟩ := hj
    unfold jx at hj
    refine qL_m X hA hW [.int (xs (i + 1))] [] rfl rfl (Nat.le_of_ble_eq_true rfl) dL_law_1844 hroom1 (c_X10_isProved hA.2.1 (xs (i + 1)) mm _ hj) rfl rfl (gV kw_8_146 kw_8_147 kw_8_148 kw_1_11 kw_8_149) hy_X10_isProved ⟨(Nat.le_of_ble_eq_true rfl), (Nat.le_of_ble_eq_true rfl)⟩ (fun b9 mm9 hb => ?_)
    obtain ⟨h1, hK⟩ := hb
    refine q_istore X dL_law_1847 (Nat.le_of_ble_eq_true rfl) rfl ?_
    exact tailB C0 hroom1 ⟨(Nat.le_of_ble_eq_true rfl), (Nat.le_of_ble_eq_true rfl)⟩ (h1.trans hk.symm) (fun h0 => absurd h0 hk0) dL_law_1849 dL_law_1850 dL_law_1853 dL_law_1855 dL_law_1860 dL_law_1862 dL_law_1865 dL_law_1866 dL_law_1867 dL_law_1868 dL_law_1870 dL_law_1873 dL_law_1874 dL_law_1877 dL_law_1878 dL_law_1879 dL_law_1884 (by decide) (kk _ _ _ hK)
set_option maxRecDepth 100000 in
set_option maxHeartbeats 4000000 in
theorem case_27 (C : LC p l s m args c D cA ad A AC AM ob cO b L xs) (h : Hy a s0 mc mm (Rel (a + 400000) (s0 + 64))) (hi : i + 4 < L) (hroom : cells + 2 ≤ room_1.cells ∧ slots + 12 ≤ room_1.slots) (kk : ∀ (mc' mm' : Mm) (v' : Int64), Rel (a + 400000) (s0 + 64) mc' mm' → V p l e room_1 s m args below meth c Q 9 A (cells + 2) (slots + 12) (PL D cA ad ob cO mc' mm' v') 4461 (lvL ad ob b i) []) : V p l e room_1 s m args below meth c Q 9 A cells slots (PL D cA ad ob cO mc mm v) 1887 (lvL ad ob b i) [] := by
  have C0 := C
  obtain ⟨X, hA, hW, hZ, hX, hb1, hst, hL⟩ := C
  have hroom0 : cells ≤ room_1.cells ∧ slots ≤ room_1.slots := ⟨by omega, by omega⟩
  refine q_aload_n (j := 3) X dL_law_1887 rfl rfl ?_
  refine qL_arg C0 1 (j0 := 4) (j4 := 0) rfl (by decide) dL_law_1888 dL_law_1889 dL_law_1891 dL_law_1892 dL_law_1893 rfl rfl hi ?_
  refine q_aload_n (j := 1) X dL_law_1894 rfl rfl ?_
  refine qL_w X hA hW hZ [.ref (ad 0 1), .int (xs (i + 1)), .ref ob] rfl rfl dL_law_1895 hroom (k_L_isOverdue hA.1 hA.2.2.1.1 hst (xs (i + 1)) mc v _ _ (J_isOverdue (K := Rel (a + 400000) (s0 + 64)) h.1 (fun v9 => h.2.2.2 mc _ ((h.1.ref v9).mono (by omega) (by omega) h.2.2.1)) (xs (i + 1))) (fun _ _ hx => hx.1)) rfl rfl (gSW kw_5_96 kw_5_97 kw_1_0 kw_5_98) hy_L_isOverdue ⟨(Nat.le_of_ble_eq_true rfl), (Nat.le_of_ble_eq_true rfl)⟩ (fun k mc' v' hq => ?_)
  refine q_istore X dL_law_1898 (Nat.le_of_ble_eq_true rfl) rfl ?_
  refine q_aload_n (j := 3) X dL_law_1900 rfl rfl ?_
  refine qL_arg C0 1 (j0 := 5) (j4 := 1) rfl (by decide) dL_law_1901 dL_law_1902 dL_law_1904 dL_law_1905 dL_law_1906 rfl rfl hi ?_
  have hroom1 : cells + 2 ≤ room_1.cells ∧ slots + 12 ≤ room_1.slots := hroom
  rcases hq with ⟨rfl, r, rfl, hj⟩ | ⟨hk0, k0, hk, hj⟩
  · skip
    obtain ⟨hj, rfl⟩ := hj
    unfold jq at hj
    refine qL_m X hA hW [.int (xs (i + 1))] [] rfl rfl (Nat.le_of_ble_eq_true rfl) dL_law_1907 hroom1 (c_X10_isOverdue hA.2.1 (xs (i + 1)) mm _ hj) rfl rfl (gV kw_8_150 kw_8_151 kw_8_152 kw_1_11 kw_8_153) hy_X10_isOverdue ⟨(Nat.le_of_ble_eq_true rfl), (Nat.le_of_ble_eq_true rfl)⟩ (fun b9 mm9 hb => ?_)
    obtain ⟨h1, rfl, hK⟩ := hb
    refine q_istore X dL_law_1910 (Nat.le_of_ble_eq_true rfl) rfl ?_
    exact tailB C0 hroom1 ⟨(Nat.le_of_ble_eq_true rfl), (Nat.le_of_ble_eq_true rfl)⟩ h1 (fun _ => rfl) dL_law_1912 dL_law_1913 dL_law_1916 dL_law_1918 dL_law_1923 dL_law_1925 dL_law_1928 dL_law_1929 dL_law_1930 dL_law_1931 dL_law_1933 dL_law_1936 dL_law_1937 dL_law_1940 dL_law_1941 dL_law_1942 dL_law_1947 (by decide) (kk _ _ _ hK)
  · obtain ⟨_, hj⟩ := hj
    unfold jx at hj
    refine qL_m X hA hW [.int (xs (i + 1))] [] rfl rfl (Nat.le_of_ble_eq_true rfl) dL_law_1907 hroom1 (c_X10_isOverdue hA.2.1 (xs (i + 1)) mm _ hj) rfl rfl (gV kw_8_150 kw_8_151 kw_8_152 kw_1_11 kw_8_153) hy_X10_isOverdue ⟨(Nat.le_of_ble_eq_true rfl), (Nat.le_of_ble_eq_true rfl)⟩ (fun b9 mm9 hb => ?_)
    obtain ⟨h1, hK⟩ := hb
    refine q_istore X dL_law_1910 (Nat.le_of_ble_eq_true rfl) rfl ?_
    exact tailB C0 hroom1 ⟨(Nat.le_of_ble_eq_true rfl), (Nat.le_of_ble_eq_true rfl)⟩ (h1.trans hk.symm) (fun h0 => absurd h0 hk0) dL_law_1912 dL_law_1913 dL_law_1916 dL_law_1918 dL_law_1923 dL_law_1925 dL_law_1928 dL_law_1929 dL_law_1930 dL_law_1931 dL_law_1933 dL_law_1936 dL_law_1937 dL_law_1940 dL_law_1941 dL_law_1942 dL_law_1947 (by decide) (kk _ _ _ hK)
set_option maxRecDepth 100000 in
set_option maxHeartbeats 4000000 in
theorem case_28 (C : LC p l s m args c D cA ad A AC AM ob cO b L xs) (h : Hy a s0 mc mm (Rel (a + 400000) (s0 + 64))) (hi : i + 4 < L) (hroom : cells + 2 ≤ room_1.cells ∧ slots + 12 ≤ room_1.slots) (kk : ∀ (mc' mm' : Mm) (v' : Int64), Rel (a + 400000) (s0 + 64) mc' mm' → V p l e room_1 s m args below meth c Q 9 A (cells + 2) (slots + 12) (PL D cA ad ob cO mc' mm' v') 4461 (lvL ad ob b i) []) : V p l e room_1 s m args below meth c Q 9 A cells slots (PL D cA ad ob cO mc mm v) 1950 (lvL ad ob b i) [] := by
  have C0 := C
  obtain ⟨X, hA, hW, hZ, hX, hb1, hst, hL⟩ := C
  have hroom0 : cells ≤ room_1.cells ∧ slots ≤ room_1.slots := ⟨by omega, by omega⟩
  refine q_aload_n (j := 3) X dL_law_1950 rfl rfl ?_
  refine qL_arg C0 1 (j0 := 4) (j4 := 0) rfl (by decide) dL_law_1951 dL_law_1952 dL_law_1954 dL_law_1955 dL_law_1956 rfl rfl hi ?_
  refine qL_arg C0 2 (j0 := 4) (j4 := 0) rfl (by decide) dL_law_1957 dL_law_1958 dL_law_1960 dL_law_1961 dL_law_1962 rfl rfl hi ?_
  refine q_aload_n (j := 1) X dL_law_1963 rfl rfl ?_
  refine qL_w X hA hW hZ [.ref (ad 0 1), .int (xs (i + 1)), .int (xs (i + 2)), .ref ob] rfl rfl dL_law_1964 hroom (k_L_dutyOfPart hA.1 hA.2.2.1.1 hst (xs (i + 1)) (xs (i + 2)) mc v _ _ (J_dutyOfPart (K := Rel (a + 400000) (s0 + 64)) h.1 (fun v9 => h.2.2.2 mc _ ((h.1.ref v9).mono (by omega) (by omega) h.2.2.1)) (xs (i + 1)) (xs (i + 2))) (fun _ _ hx => hx.1)) rfl rfl (gSW kw_5_104 kw_5_105 kw_1_0 kw_5_106) hy_L_dutyOfPart ⟨(Nat.le_of_ble_eq_true rfl), (Nat.le_of_ble_eq_true rfl)⟩ (fun k mc' v' hq => ?_)
  refine q_istore X dL_law_1967 (Nat.le_of_ble_eq_true rfl) rfl ?_
  refine q_aload_n (j := 3) X dL_law_1969 rfl rfl ?_
  refine qL_arg C0 1 (j0 := 5) (j4 := 1) rfl (by decide) dL_law_1970 dL_law_1971 dL_law_1973 dL_law_1974 dL_law_1975 rfl rfl hi ?_
  refine qL_arg C0 2 (j0 := 5) (j4 := 1) rfl (by decide) dL_law_1976 dL_law_1977 dL_law_1979 dL_law_1980 dL_law_1981 rfl rfl hi ?_
  have hroom1 : cells + 2 ≤ room_1.cells ∧ slots + 12 ≤ room_1.slots := hroom
  rcases hq with ⟨rfl, r, rfl, hj⟩ | ⟨hk0, k0, hk, hj⟩
  · skip
    obtain ⟨hj, rfl⟩ := hj
    unfold jq at hj
    refine qL_m X hA hW [.int (xs (i + 1)), .int (xs (i + 2))] [] rfl rfl (Nat.le_of_ble_eq_true rfl) dL_law_1982 hroom1 (c_X10_dutyOfPart hA.2.1 (xs (i + 1)) (xs (i + 2)) mm _ hj) rfl rfl (gV kw_8_154 kw_8_155 kw_8_156 kw_1_11 kw_8_157) hy_X10_dutyOfPart ⟨(Nat.le_of_ble_eq_true rfl), (Nat.le_of_ble_eq_true rfl)⟩ (fun b9 mm9 hb => ?_)
    obtain ⟨h1, rfl, hK⟩ := hb
    refine q_istore X dL_law_1985 (Nat.le_of_ble_eq_true rfl) rfl ?_
    exact tailI C0 hroom1 ⟨(Nat.le_of_ble_eq_true rfl), (Nat.le_of_ble_eq_true rfl)⟩ h1 (fun _ => rfl) dL_law_1987 dL_law_1988 dL_law_1991 dL_law_1993 dL_law_1998 dL_law_2000 dL_law_2003 dL_law_2004 dL_law_2005 dL_law_2006 dL_law_2008 dL_law_2009 dL_law_2010 dL_law_2015 (by decide) (kk _ _ _ hK)
  · obtain ⟨_, hj⟩ := hj
    unfold jx at hj
    refine qL_m X hA hW [.int (xs (i + 1)), .int (xs (i + 2))] [] rfl rfl (Nat.le_of_ble_eq_true rfl) dL_law_1982 hroom1 (c_X10_dutyOfPart hA.2.1 (xs (i + 1)) (xs (i + 2)) mm _ hj) rfl rfl (gV kw_8_154 kw_8_155 kw_8_156 kw_1_11 kw_8_157) hy_X10_dutyOfPart ⟨(Nat.le_of_ble_eq_true rfl), (Nat.le_of_ble_eq_true rfl)⟩ (fun b9 mm9 hb => ?_)
    obtain ⟨h1, hK⟩ := hb
    refine q_istore X dL_law_1985 (Nat.le_of_ble_eq_true rfl) rfl ?_
    exact tailI C0 hroom1 ⟨(Nat.le_of_ble_eq_true rfl), (Nat.le_of_ble_eq_true rfl)⟩ (h1.trans hk.symm) (fun h0 => absurd h0 hk0) dL_law_1987 dL_law_1988 dL_law_1991 dL_law_1993 dL_law_1998 dL_law_2000 dL_law_2003 dL_law_2004 dL_law_2005 dL_law_2006 dL_law_2008 dL_law_2009 dL_law_2010 dL_law_2015 (by decide) (kk _ _ _ hK)
set_option maxRecDepth 100000 in
set_option maxHeartbeats 4000000 in
theorem case_29 (C : LC p l s m args c D cA ad A AC AM ob cO b L xs) (h : Hy a s0 mc mm (Rel (a + 400000) (s0 + 64))) (hi : i + 4 < L) (hroom : cells + 2 ≤ room_1.cells ∧ slots + 12 ≤ room_1.slots) (kk : ∀ (mc' mm' : Mm) (v' : Int64), Rel (a + 400000) (s0 + 64) mc' mm' → V p l e room_1 s m args below meth c Q 9 A (cells + 2) (slots + 12) (PL D cA ad ob cO mc' mm' v') 4461 (lvL ad ob b i) []) : V p l e room_1 s m args below meth c Q 9 A cells slots (PL D cA ad ob cO mc mm v) 2018 (lvL ad ob b i) [] := by
  have C0 := C
  obtain ⟨X, hA, hW, hZ, hX, hb1, hst, hL⟩ := C
  have hroom0 : cells ≤ room_1.cells ∧ slots ≤ room_1.slots := ⟨by omega, by omega⟩
  refine q_aload_n (j := 3) X dL_law_2018 rfl rfl ?_
  refine qL_arg C0 1 (j0 := 4) (j4 := 0) rfl (by decide) dL_law_2019 dL_law_2020 dL_law_2022 dL_law_2023 dL_law_2024 rfl rfl hi ?_
  refine q_aload_n (j := 1) X dL_law_2025 rfl rfl ?_
  refine qL_w X hA hW hZ [.ref (ad 0 1), .int (xs (i + 1)), .ref ob] rfl rfl dL_law_2026 hroom (k_L_dutyOf hA.1 hA.2.2.1.1 hst (xs (i + 1)) mc v _ _ (J_dutyOf (K := Rel (a + 400000) (s0 + 64)) h.1 (fun v9 => h.2.2.2 mc _ ((h.1.ref v9).mono (by omega) (by omega) h.2.2.1)) (xs (i + 1))) (fun _ _ hx => hx.1)) rfl rfl (gSW kw_5_115 kw_5_116 kw_1_0 kw_5_117) hy_L_dutyOf ⟨(Nat.le_of_ble_eq_true rfl), (Nat.le_of_ble_eq_true rfl)⟩ (fun k mc' v' hq => ?_)
  refine q_istore X dL_law_2029 (Nat.le_of_ble_eq_true rfl) rfl ?_
  refine q_aload_n (j := 3) X dL_law_2031 rfl rfl ?_
  refine qL_arg C0 1 (j0 := 5) (j4 := 1) rfl (by decide) dL_law_2032 dL_law_2033 dL_law_2035 dL_law_2036 dL_law_2037 rfl rfl hi ?_
  have hroom1 : cells + 2 ≤ room_1.cells ∧ slots + 12 ≤ room_1.slots := hroom
  rcases hq with ⟨rfl, r, rfl, hj⟩ | ⟨hk0, k0, hk, hj⟩
  · skip
    obtain ⟨hj, rfl⟩ := hj
    unfold jq at hj
    refine qL_m X hA hW [.int (xs (i + 1))] [] rfl rfl (Nat.le_of_ble_eq_true rfl) dL_law_2038 hroom1 (c_X10_dutyOf hA.2.1 (xs (i + 1)) mm _ hj) rfl rfl (gV kw_8_158 kw_8_159 kw_8_160 kw_1_11 kw_8_161) hy_X10_dutyOf ⟨(Nat.le_of_ble_eq_true rfl), (Nat.le_of_ble_eq_true rfl)⟩ (fun b9 mm9 hb => ?_)
    obtain ⟨h1, rfl, hK⟩ := hb
    refine q_istore X dL_law_2041 (Nat.le_of_ble_eq_true rfl) rfl ?_
    exact tailI C0 hroom1 ⟨(Nat.le_of_ble_eq_true rfl), (Nat.le_of_ble_eq_true rfl)⟩ h1 (fun _ => rfl) dL_law_2043 dL_law_2044 dL_law_2047 dL_law_2049 dL_law_2054 dL_law_2056 dL_law_2059 dL_law_2060 dL_law_2061 dL_law_2062 dL_law_2064 dL_law_2065 dL_law_2066 dL_law_2071 (by decide) (kk _ _ _ hK)
  · obtain ⟨_, hj⟩ := hj
    unfold jx at hj
    refine qL_m X hA hW [.int (xs (i + 1))] [] rfl rfl (Nat.le_of_ble_eq_true rfl) dL_law_2038 hroom1 (c_X10_dutyOf hA.2.1 (xs (i + 1)) mm _ hj) rfl rfl (gV kw_8_158 kw_8_159 kw_8_160 kw_1_11 kw_8_161) hy_X10_dutyOf ⟨(Nat.le_of_ble_eq_true rfl), (Nat.le_of_ble_eq_true rfl)⟩ (fun b9 mm9 hb => ?_)
    obtain ⟨h1, hK⟩ := hb
    refine q_istore X dL_law_2041 (Nat.le_of_ble_eq_true rfl) rfl ?_
    exact tailI C0 hroom1 ⟨(Nat.le_of_ble_eq_true rfl), (Nat.le_of_ble_eq_true rfl)⟩ (h1.trans hk.symm) (fun h0 => absurd h0 hk0) dL_law_2043 dL_law_2044 dL_law_2047 dL_law_2049 dL_law_2054 dL_law_2056 dL_law_2059 dL_law_2060 dL_law_2061 dL_law_2062 dL_law_2064 dL_law_2065 dL_law_2066 dL_law_2071 (by decide) (kk _ _ _ hK)
set_option maxRecDepth 100000 in
set_option maxHeartbeats 4000000 in
theorem case_30 (C : LC p l s m args c D cA ad A AC AM ob cO b L xs) (h : Hy a s0 mc mm (Rel (a + 400000) (s0 + 64))) (hi : i + 4 < L) (hroom : cells + 2 ≤ room_1.cells ∧ slots + 12 ≤ room_1.slots) (kk : ∀ (mc' mm' : Mm) (v' : Int64), Rel (a + 400000) (s0 + 64) mc' mm' → V p l e room_1 s m args below meth c Q 9 A (cells + 2) (slots + 12) (PL D cA ad ob cO mc' mm' v') 4461 (lvL ad ob b i) []) : V p l e room_1 s m args below meth c Q 9 A cells slots (PL D cA ad ob cO mc mm v) 2074 (lvL ad ob b i) [] := by
  have C0 := C
  obtain ⟨X, hA, hW, hZ, hX, hb1, hst, hL⟩ := C
  have hroom0 : cells ≤ room_1.cells ∧ slots ≤ room_1.slots := ⟨by omega, by omega⟩
  refine q_aload_n (j := 3) X dL_law_2074 rfl rfl ?_
  refine qL_arg C0 1 (j0 := 4) (j4 := 0) rfl (by decide) dL_law_2075 dL_law_2076 dL_law_2078 dL_law_2079 dL_law_2080 rfl rfl hi ?_
  refine q_aload_n (j := 1) X dL_law_2081 rfl rfl ?_
  refine qL_w X hA hW hZ [.ref (ad 0 1), .int (xs (i + 1)), .ref ob] rfl rfl dL_law_2082 hroom (k_L_allowedWaste hA.1 hA.2.2.1.1 hst (xs (i + 1)) mc v _ _ (J_allowedWaste (K := Rel (a + 400000) (s0 + 64)) h.1 (fun v9 => h.2.2.2 mc _ ((h.1.ref v9).mono (by omega) (by omega) h.2.2.1)) (xs (i + 1))) (fun _ _ hx => hx.1)) rfl rfl (gSW kw_5_123 kw_5_124 kw_1_0 kw_5_125) hy_L_allowedWaste ⟨(Nat.le_of_ble_eq_true rfl), (Nat.le_of_ble_eq_true rfl)⟩ (fun k mc' v' hq => ?_)
  refine q_istore X dL_law_2085 (Nat.le_of_ble_eq_true rfl) rfl ?_
  refine q_aload_n (j := 3) X dL_law_2087 rfl rfl ?_
  refine qL_arg C0 1 (j0 := 5) (j4 := 1) rfl (by decide) dL_law_2088 dL_law_2089 dL_law_2091 dL_law_2092 dL_law_2093 rfl rfl hi ?_
  have hroom1 : cells + 2 ≤ room_1.cells ∧ slots + 12 ≤ room_1.slots := hroom
  rcases hq with ⟨rfl, r, rfl, hj⟩ | ⟨hk0, k0, hk, hj⟩
  · skip
    obtain ⟨hj, rfl⟩ := hj
    unfold jq at hj
    refine qL_m X hA hW [.int (xs (i + 1))] [] rfl rfl (Nat.le_of_ble_eq_true rfl) dL_law_2094 hroom1 (c_X10_allowedWaste hA.2.1 (xs (i + 1)) mm _ hj) rfl rfl (gV kw_8_162 kw_8_163 kw_8_164 kw_1_11 kw_8_165) hy_X10_allowedWaste ⟨(Nat.le_of_ble_eq_true rfl), (Nat.le_of_ble_eq_true rfl)⟩ (fun b9 mm9 hb => ?_)
    obtain ⟨h1, rfl, hK⟩ := hb
    refine q_istore X dL_law_2097 (Nat.le_of_ble_eq_true rfl) rfl ?_
    exact tailI C0 hroom1 ⟨(Nat.le_of_ble_eq_true rfl), (Nat.le_of_ble_eq_true rfl)⟩ h1 (fun _ => rfl) dL_law_2099 dL_law_2100 dL_law_2103 dL_law_2105 dL_law_2110 dL_law_2112 dL_law_2115 dL_law_2116 dL_law_2117 dL_law_2118 dL_law_2120 dL_law_2121 dL_law_2122 dL_law_2127 (by decide) (kk _ _ _ hK)
  · obtain ⟨_, hj⟩ := hj
    unfold jx at hj
    refine qL_m X hA hW [.int (xs (i + 1))] [] rfl rfl (Nat.le_of_ble_eq_true rfl) dL_law_2094 hroom1 (c_X10_allowedWaste hA.2.1 (xs (i + 1)) mm _ hj) rfl rfl (gV kw_8_162 kw_8_163 kw_8_164 kw_1_11 kw_8_165) hy_X10_allowedWaste ⟨(Nat.le_of_ble_eq_true rfl), (Nat.le_of_ble_eq_true rfl)⟩ (fun b9 mm9 hb => ?_)
    obtain ⟨h1, hK⟩ := hb
    refine q_istore X dL_law_2097 (Nat.le_of_ble_eq_true rfl) rfl ?_
    exact tailI C0 hroom1 ⟨(Nat.le_of_ble_eq_true rfl), (Nat.le_of_ble_eq_true rfl)⟩ (h1.trans hk.symm) (fun h0 => absurd h0 hk0) dL_law_2099 dL_law_2100 dL_law_2103 dL_law_2105 dL_law_2110 dL_law_2112 dL_law_2115 dL_law_2116 dL_law_2117 dL_law_2118 dL_law_2120 dL_law_2121 dL_law_2122 dL_law_2127 (by decide) (kk _ _ _ hK)
set_option maxRecDepth 100000 in
set_option maxHeartbeats 4000000 in
theorem case_31 (C : LC p l s m args c D cA ad A AC AM ob cO b L xs) (h : Hy a s0 mc mm (Rel (a + 400000) (s0 + 64))) (hi : i + 4 < L) (hroom : cells + 2 ≤ room_1.cells ∧ slots + 12 ≤ room_1.slots) (kk : ∀ (mc' mm' : Mm) (v' : Int64), Rel (a + 400000) (s0 + 64) mc' mm' → V p l e room_1 s m args below meth c Q 9 A (cells + 2) (slots + 12) (PL D cA ad ob cO mc' mm' v') 4461 (lvL ad ob b i) []) : V p l e room_1 s m args below meth c Q 9 A cells slots (PL D cA ad ob cO mc mm v) 2130 (lvL ad ob b i) [] := by
  have C0 := C
  obtain ⟨X, hA, hW, hZ, hX, hb1, hst, hL⟩ := C
  have hroom0 : cells ≤ room_1.cells ∧ slots ≤ room_1.slots := ⟨by omega, by omega⟩
  refine q_aload_n (j := 3) X dL_law_2130 rfl rfl ?_
  refine qL_cd X hA hW hZ [] [] rfl rfl (Nat.le_of_ble_eq_true rfl) dL_law_2131 hroom0 (c_X9_meanDuty hA.1  mc _ (J_meanDuty (K := Rel (a + 400000) (s0 + 64)) h.1 (fun v9 => h.2.2.2 mc _ ((h.1.ref v9).mono (by omega) (by omega) h.2.2.1)) )) rfl rfl (gV kw_2_145 kw_2_146 kw_2_147 kw_1_1 kw_2_148) hy_X9_meanDuty ⟨(Nat.le_of_ble_eq_true rfl), (Nat.le_of_ble_eq_true rfl)⟩ (fun r mc' hj => ?_)
  obtain ⟨hj, rfl⟩ := hj
  refine q_dstore X dL_law_2134 (Nat.le_of_ble_eq_true rfl) rfl ?_
  refine q_aload_n (j := 3) X dL_law_2136 rfl rfl ?_
  refine qL_md X hA hW [] [] rfl rfl (Nat.le_of_ble_eq_true rfl) dL_law_2137 hroom0 (c_X10_meanDuty hA.2.1  mm _ hj) rfl rfl (gV kw_8_166 kw_8_167 kw_8_168 kw_1_11 kw_8_169) hy_X10_meanDuty ⟨(Nat.le_of_ble_eq_true rfl), (Nat.le_of_ble_eq_true rfl)⟩ (fun b9 mm9 hb => ?_)
  obtain ⟨hc, hK⟩ := hb
  refine q_dstore X dL_law_2140 (Nat.le_of_ble_eq_true rfl) rfl ?_
  refine q_dload (j := 1) X dL_law_2142 rfl ?_
  refine q_dload (j := 0) X dL_law_2144 rfl ?_
  refine q_dcmp X dL_law_2146 ?_
  rw [hc]
  refine q_if_eq X dL_law_2147 (tgt := 2168) (by decide) (fun _ => ?_) (fun h9 => absurd rfl h9)
  refine q_goto X dL_law_2168 (tgt := 4461) (by decide) ?_
  refine q_sub [2, 3, 4, 5, 6] rfl ?_
  exact q_w (Nat.le_add_right _ _) (Nat.le_add_right _ _) (kk _ _ _ hK)
set_option maxRecDepth 100000 in
set_option maxHeartbeats 4000000 in
theorem case_32 (C : LC p l s m args c D cA ad A AC AM ob cO b L xs) (h : Hy a s0 mc mm (Rel (a + 400000) (s0 + 64))) (hi : i + 4 < L) (hroom : cells + 2 ≤ room_1.cells ∧ slots + 12 ≤ room_1.slots) (kk : ∀ (mc' mm' : Mm) (v' : Int64), Rel (a + 400000) (s0 + 64) mc' mm' → V p l e room_1 s m args below meth c Q 9 A (cells + 2) (slots + 12) (PL D cA ad ob cO mc' mm' v') 4461 (lvL ad ob b i) []) : V p l e room_1 s m args below meth c Q 9 A cells slots (PL D cA ad ob cO mc mm v) 2171 (lvL ad ob b i) [] := by
  have C0 := C
  obtain ⟨X, hA, hW, hZ, hX, hb1, hst, hL⟩ := C
  have hroom0 : cells ≤ room_1.cells ∧ slots ≤ room_1.slots := ⟨by omega, by omega⟩
  refine q_aload_n (j := 3) X dL_law_2171 rfl rfl ?_
  refine qL_arg C0 1 (j0 := 4) (j4 := 0) rfl (by decide) dL_law_2172 dL_law_2173 dL_law_2175 dL_law_2176 dL_law_2177 rfl rfl hi ?_
  refine q_aload_n (j := 1) X dL_law_2178 rfl rfl ?_
  refine qL_w X hA hW hZ [.ref (ad 0 1), .int (xs (i + 1)), .ref ob] rfl rfl dL_law_2179 hroom (k_L_isLocked hA.1 hA.2.2.1.1 hst (xs (i + 1)) mc v _ _ (J_isLocked (K := Rel (a + 400000) (s0 + 64)) h.1 (fun v9 => h.2.2.2 mc _ ((h.1.ref v9).mono (by omega) (by omega) h.2.2.1)) (xs (i + 1))) (fun _ _ hx => hx.1)) rfl rfl (gSW kw_5_131 kw_5_132 kw_1_0 kw_5_133) hy_L_isLocked ⟨(Nat.le_of_ble_eq_true rfl), (Nat.le_of_ble_eq_true rfl)⟩ (fun k mc' v' hq => ?_)
  refine q_istore X dL_law_2182 (Nat.le_of_ble_eq_true rfl) rfl ?_
  refine q_aload_n (j := 3) X dL_law_2184 rfl rfl ?_
  refine qL_arg C0 1 (j0 := 5) (j4 := 1) rfl (by decide) dL_law_2185 dL_law_2186 dL_law_2188 dL_law_2189 dL_law_2190 rfl rfl hi ?_
  have hroom1 : cells + 2 ≤ room_1.cells ∧ slots + 12 ≤ room_1.slots := hroom
  rcases hq with ⟨rfl, r, rfl, hj⟩ | ⟨hk0, k0, hk, hj⟩
  · skip
    obtain ⟨hj, rfl⟩ := hj
    unfold jq at hj
    refine qL_m X hA hW [.int (xs (i + 1))] [] rfl rfl (Nat.le_of_ble_eq_true rfl) dL_law_2191 hroom1 (c_X10_isLocked hA.2.1 (xs (i + 1)) mm _ hj) rfl rfl (gV kw_8_170 kw_8_171 kw_8_172 kw_1_11 kw_8_173) hy_X10_isLocked ⟨(Nat.le_of_ble_eq_true rfl), (Nat.le_of_ble_eq_true rfl)⟩ (fun b9 mm9 hb => ?_)
    obtain ⟨h1, rfl, hK⟩ := hb
    refine q_istore X dL_law_2194 (Nat.le_of_ble_eq_true rfl) rfl ?_
    exact tailB C0 hroom1 ⟨(Nat.le_of_ble_eq_true rfl), (Nat.le_of_ble_eq_true rfl)⟩ h1 (fun _ => rfl) dL_law_2196 dL_law_2197 dL_law_2200 dL_law_2202 dL_law_2207 dL_law_2209 dL_law_2212 dL_law_2213 dL_law_2214 dL_law_2215 dL_law_2217 dL_law_2220 dL_law_2221 dL_law_2224 dL_law_2225 dL_law_2226 dL_law_2231 (by decide) (kk _ _ _ hK)
  · obtain ⟨_, hj⟩ := hj
    unfold jx at hj
    refine qL_m X hA hW [.int (xs (i + 1))] [] rfl rfl (Nat.le_of_ble_eq_true rfl) dL_law_2191 hroom1 (c_X10_isLocked hA.2.1 (xs (i + 1)) mm _ hj) rfl rfl (gV kw_8_170 kw_8_171 kw_8_172 kw_1_11 kw_8_173) hy_X10_isLocked ⟨(Nat.le_of_ble_eq_true rfl), (Nat.le_of_ble_eq_true rfl)⟩ (fun b9 mm9 hb => ?_)
    obtain ⟨h1, hK⟩ := hb
    refine q_istore X dL_law_2194 (Nat.le_of_ble_eq_true rfl) rfl ?_
    exact tailB C0 hroom1 ⟨(Nat.le_of_ble_eq_true rfl), (Nat.le_of_ble_eq_true rfl)⟩ (h1.trans hk.symm) (fun h0 => absurd h0 hk0) dL_law_2196 dL_law_2197 dL_law_2200 dL_law_2202 dL_law_2207 dL_law_2209 dL_law_2212 dL_law_2213 dL_law_2214 dL_law_2215 dL_law_2217 dL_law_2220 dL_law_2221 dL_law_2224 dL_law_2225 dL_law_2226 dL_law_2231 (by decide) (kk _ _ _ hK)
set_option maxRecDepth 100000 in
set_option maxHeartbeats 4000000 in
theorem case_33 (C : LC p l s m args c D cA ad A AC AM ob cO b L xs) (h : Hy a s0 mc mm (Rel (a + 400000) (s0 + 64))) (hi : i + 4 < L) (hroom : cells + 2 ≤ room_1.cells ∧ slots + 12 ≤ room_1.slots) (kk : ∀ (mc' mm' : Mm) (v' : Int64), Rel (a + 400000) (s0 + 64) mc' mm' → V p l e room_1 s m args below meth c Q 9 A (cells + 2) (slots + 12) (PL D cA ad ob cO mc' mm' v') 4461 (lvL ad ob b i) []) : V p l e room_1 s m args below meth c Q 9 A cells slots (PL D cA ad ob cO mc mm v) 2234 (lvL ad ob b i) [] := by
  have C0 := C
  obtain ⟨X, hA, hW, hZ, hX, hb1, hst, hL⟩ := C
  have hroom0 : cells ≤ room_1.cells ∧ slots ≤ room_1.slots := ⟨by omega, by omega⟩
  refine q_aload_n (j := 3) X dL_law_2234 rfl rfl ?_
  refine qL_arg C0 1 (j0 := 4) (j4 := 0) rfl (by decide) dL_law_2235 dL_law_2236 dL_law_2238 dL_law_2239 dL_law_2240 rfl rfl hi ?_
  refine q_aload_n (j := 1) X dL_law_2241 rfl rfl ?_
  refine qL_w X hA hW hZ [.ref (ad 0 1), .int (xs (i + 1)), .ref ob] rfl rfl dL_law_2242 hroom (k_L_sealOf hA.1 hA.2.2.1.1 hst (xs (i + 1)) mc v _ _ (J_sealOf (K := Rel (a + 400000) (s0 + 64)) h.1 (fun v9 => h.2.2.2 mc _ ((h.1.ref v9).mono (by omega) (by omega) h.2.2.1)) (xs (i + 1))) (fun _ _ hx => hx.1)) rfl rfl (gSW kw_5_147 kw_5_148 kw_1_0 kw_5_149) hy_L_sealOf ⟨(Nat.le_of_ble_eq_true rfl), (Nat.le_of_ble_eq_true rfl)⟩ (fun k mc' v' hq => ?_)
  refine q_istore X dL_law_2245 (Nat.le_of_ble_eq_true rfl) rfl ?_
  refine q_aload_n (j := 3) X dL_law_2247 rfl rfl ?_
  refine qL_arg C0 1 (j0 := 5) (j4 := 1) rfl (by decide) dL_law_2248 dL_law_2249 dL_law_2251 dL_law_2252 dL_law_2253 rfl rfl hi ?_
  have hroom1 : cells + 2 ≤ room_1.cells ∧ slots + 12 ≤ room_1.slots := hroom
  rcases hq with ⟨rfl, r, rfl, hj⟩ | ⟨hk0, k0, hk, hj⟩
  · skip
    obtain ⟨hj, rfl⟩ := hj
    unfold jq at hj
    refine qL_m X hA hW [.int (xs (i + 1))] [] rfl rfl (Nat.le_of_ble_eq_true rfl) dL_law_2254 hroom1 (c_X10_sealOf hA.2.1 (xs (i + 1)) mm _ hj) rfl rfl (gV kw_8_178 kw_8_179 kw_8_180 kw_1_11 kw_8_181) hy_X10_sealOf ⟨(Nat.le_of_ble_eq_true rfl), (Nat.le_of_ble_eq_true rfl)⟩ (fun b9 mm9 hb => ?_)
    obtain ⟨h1, rfl, hK⟩ := hb
    refine q_istore X dL_law_2257 (Nat.le_of_ble_eq_true rfl) rfl ?_
    exact tailI C0 hroom1 ⟨(Nat.le_of_ble_eq_true rfl), (Nat.le_of_ble_eq_true rfl)⟩ h1 (fun _ => rfl) dL_law_2259 dL_law_2260 dL_law_2263 dL_law_2265 dL_law_2270 dL_law_2272 dL_law_2275 dL_law_2276 dL_law_2277 dL_law_2278 dL_law_2280 dL_law_2281 dL_law_2282 dL_law_2287 (by decide) (kk _ _ _ hK)
  · obtain ⟨_, hj⟩ := hj
    unfold jx at hj
    refine qL_m X hA hW [.int (xs (i + 1))] [] rfl rfl (Nat.le_of_ble_eq_true rfl) dL_law_2254 hroom1 (c_X10_sealOf hA.2.1 (xs (i + 1)) mm _ hj) rfl rfl (gV kw_8_178 kw_8_179 kw_8_180 kw_1_11 kw_8_181) hy_X10_sealOf ⟨(Nat.le_of_ble_eq_true rfl), (Nat.le_of_ble_eq_true rfl)⟩ (fun b9 mm9 hb => ?_)
    obtain ⟨h1, hK⟩ := hb
    refine q_istore X dL_law_2257 (Nat.le_of_ble_eq_true rfl) rfl ?_
    exact tailI C0 hroom1 ⟨(Nat.le_of_ble_eq_true rfl), (Nat.le_of_ble_eq_true rfl)⟩ (h1.trans hk.symm) (fun h0 => absurd h0 hk0) dL_law_2259 dL_law_2260 dL_law_2263 dL_law_2265 dL_law_2270 dL_law_2272 dL_law_2275 dL_law_2276 dL_law_2277 dL_law_2278 dL_law_2280 dL_law_2281 dL_law_2282 dL_law_2287 (by decide) (kk _ _ _ hK)
set_option maxRecDepth 100000 in
set_option maxHeartbeats 4000000 in
theorem case_34 (C : LC p l s m args c D cA ad A AC AM ob cO b L xs) (h : Hy a s0 mc mm (Rel (a + 400000) (s0 + 64))) (hi : i + 4 < L) (hroom : cells + 2 ≤ room_1.cells ∧ slots + 12 ≤ room_1.slots) (kk : ∀ (mc' mm' : Mm) (v' : Int64), Rel (a + 400000) (s0 + 64) mc' mm' → V p l e room_1 s m args below meth c Q 9 A (cells + 2) (slots + 12) (PL D cA ad ob cO mc' mm' v') 4461 (lvL ad ob b i) []) : V p l e room_1 s m args below meth c Q 9 A cells slots (PL D cA ad ob cO mc mm v) 2290 (lvL ad ob b i) [] := by
  have C0 := C
  obtain ⟨X, hA, hW, hZ, hX, hb1, hst, hL⟩ := C
  have hroom0 : cells ≤ room_1.cells ∧ slots ≤ room_1.slots := ⟨by omega, by omega⟩
  refine q_aload_n (j := 3) X dL_law_2290 rfl rfl ?_
  refine qL_arg C0 1 (j0 := 4) (j4 := 0) rfl (by decide) dL_law_2291 dL_law_2292 dL_law_2294 dL_law_2295 dL_law_2296 rfl rfl hi ?_
  refine q_aload_n (j := 1) X dL_law_2297 rfl rfl ?_
  refine qL_w X hA hW hZ [.ref (ad 0 1), .int (xs (i + 1)), .ref ob] rfl rfl dL_law_2298 hroom (k_L_isSealBroken hA.1 hA.2.2.1.1 hst (xs (i + 1)) mc v _ _ (J_isSealBroken (K := Rel (a + 400000) (s0 + 64)) h.1 (fun v9 => h.2.2.2 mc _ ((h.1.ref v9).mono (by omega) (by omega) h.2.2.1)) (xs (i + 1))) (fun _ _ hx => hx.1)) rfl rfl (gSW kw_5_154 kw_5_155 kw_1_0 kw_5_156) hy_L_isSealBroken ⟨(Nat.le_of_ble_eq_true rfl), (Nat.le_of_ble_eq_true rfl)⟩ (fun k mc' v' hq => ?_)
  refine q_istore X dL_law_2301 (Nat.le_of_ble_eq_true rfl) rfl ?_
  refine q_aload_n (j := 3) X dL_law_2303 rfl rfl ?_
  refine qL_arg C0 1 (j0 := 5) (j4 := 1) rfl (by decide) dL_law_2304 dL_law_2305 dL_law_2307 dL_law_2308 dL_law_2309 rfl rfl hi ?_
  have hroom1 : cells + 2 ≤ room_1.cells ∧ slots + 12 ≤ room_1.slots := hroom
  rcases hq with ⟨rfl, r, rfl, hj⟩ | ⟨hk0, k0, hk, hj⟩
  · skip
    obtain ⟨hj, rfl⟩ := hj
    unfold jq at hj
    refine qL_m X hA hW [.int (xs (i + 1))] [] rfl rfl (Nat.le_of_ble_eq_true rfl) dL_law_2310 hroom1 (c_X10_isSealBroken hA.2.1 (xs (i + 1)) mm _ hj) rfl rfl (gV kw_8_182 kw_8_183 kw_8_184 kw_1_11 kw_8_185) hy_X10_isSealBroken ⟨(Nat.le_of_ble_eq_true rfl), (Nat.le_of_ble_eq_true rfl)⟩ (fun b9 mm9 hb => ?_)
    obtain ⟨h1, rfl, hK⟩ := hb
    refine q_istore X dL_law_2313 (Nat.le_of_ble_eq_true rfl) rfl ?_
    exact tailB C0 hroom1 ⟨(Nat.le_of_ble_eq_true rfl), (Nat.le_of_ble_eq_true rfl)⟩ h1 (fun _ => rfl) dL_law_2315 dL_law_2316 dL_law_2319 dL_law_2321 dL_law_2326 dL_law_2328 dL_law_2331 dL_law_2332 dL_law_2333 dL_law_2334 dL_law_2336 dL_law_2339 dL_law_2340 dL_law_2343 dL_law_2344 dL_law_2345 dL_law_2350 (by decide) (kk _ _ _ hK)
  · obtain ⟨_, hj⟩ := hj
    unfold jx at hj
    refine qL_m X hA hW [.int (xs (i + 1))] [] rfl rfl (Nat.le_of_ble_eq_true rfl) dL_law_2310 hroom1 (c_X10_isSealBroken hA.2.1 (xs (i + 1)) mm _ hj) rfl rfl (gV kw_8_182 kw_8_183 kw_8_184 kw_1_11 kw_8_185) hy_X10_isSealBroken ⟨(Nat.le_of_ble_eq_true rfl), (Nat.le_of_ble_eq_true rfl)⟩ (fun b9 mm9 hb => ?_)
    obtain ⟨h1, hK⟩ := hb
    refine q_istore X dL_law_2313 (Nat.le_of_ble_eq_true rfl) rfl ?_
    exact tailB C0 hroom1 ⟨(Nat.le_of_ble_eq_true rfl), (Nat.le_of_ble_eq_true rfl)⟩ (h1.trans hk.symm) (fun h0 => absurd h0 hk0) dL_law_2315 dL_law_2316 dL_law_2319 dL_law_2321 dL_law_2326 dL_law_2328 dL_law_2331 dL_law_2332 dL_law_2333 dL_law_2334 dL_law_2336 dL_law_2339 dL_law_2340 dL_law_2343 dL_law_2344 dL_law_2345 dL_law_2350 (by decide) (kk _ _ _ hK)
set_option maxRecDepth 100000 in
set_option maxHeartbeats 4000000 in
theorem case_35 (C : LC p l s m args c D cA ad A AC AM ob cO b L xs) (h : Hy a s0 mc mm (Rel (a + 400000) (s0 + 64))) (hi : i + 4 < L) (hroom : cells + 2 ≤ room_1.cells ∧ slots + 12 ≤ room_1.slots) (kk : ∀ (mc' mm' : Mm) (v' : Int64), Rel (a + 400000) (s0 + 64) mc' mm' → V p l e room_1 s m args below meth c Q 9 A (cells + 2) (slots + 12) (PL D cA ad ob cO mc' mm' v') 4461 (lvL ad ob b i) []) : V p l e room_1 s m args below meth c Q 9 A cells slots (PL D cA ad ob cO mc mm v) 2353 (lvL ad ob b i) [] := by
  have C0 := C
  obtain ⟨X, hA, hW, hZ, hX, hb1, hst, hL⟩ := C
  have hroom0 : cells ≤ room_1.cells ∧ slots ≤ room_1.slots := ⟨by omega, by omega⟩
  refine q_aload_n (j := 3) X dL_law_2353 rfl rfl ?_
  refine qL_arg C0 1 (j0 := 4) (j4 := 0) rfl (by decide) dL_law_2354 dL_law_2355 dL_law_2357 dL_law_2358 dL_law_2359 rfl rfl hi ?_
  refine q_aload_n (j := 1) X dL_law_2360 rfl rfl ?_
  refine qL_w X hA hW hZ [.ref (ad 0 1), .int (xs (i + 1)), .ref ob] rfl rfl dL_law_2361 hroom (k_L_entriesIn hA.1 hA.2.2.1.1 hst (xs (i + 1)) mc v _ _ (J_entriesIn (K := Rel (a + 400000) (s0 + 64)) h.1 (fun v9 => h.2.2.2 mc _ ((h.1.ref v9).mono (by omega) (by omega) h.2.2.1)) (xs (i + 1))) (fun _ _ hx => hx.1)) rfl rfl (gSW kw_5_161 kw_5_162 kw_1_0 kw_5_163) hy_L_entriesIn ⟨(Nat.le_of_ble_eq_true rfl), (Nat.le_of_ble_eq_true rfl)⟩ (fun k mc' v' hq => ?_)
  refine q_istore X dL_law_2364 (Nat.le_of_ble_eq_true rfl) rfl ?_
  refine q_aload_n (j := 3) X dL_law_2366 rfl rfl ?_
  refine qL_arg C0 1 (j0 := 5) (j4 := 1) rfl (by decide) dL_law_2367 dL_law_2368 dL_law_2370 dL_law_2371 dL_law_2372 rfl rfl hi ?_
  have hroom1 : cells + 2 ≤ room_1.cells ∧ slots + 12 ≤ room_1.slots := hroom
  rcases hq with ⟨rfl, r, rfl, hj⟩ | ⟨hk0, k0, hk, hj⟩
  · skip
    obtain ⟨hj, rfl⟩ := hj
    unfold jq at hj
    refine qL_m X hA hW [.int (xs (i + 1))] [] rfl rfl (Nat.le_of_ble_eq_true rfl) dL_law_2373 hroom1 (c_X10_entriesIn hA.2.1 (xs (i + 1)) mm _ hj) rfl rfl (gV kw_8_186 kw_8_187 kw_8_188 kw_1_11 kw_8_189) hy_X10_entriesIn ⟨(Nat.le_of_ble_eq_true rfl), (Nat.le_of_ble_eq_true rfl)⟩ (fun b9 mm9 hb => ?_)
    obtain ⟨h1, rfl, hK⟩ := hb
    refine q_istore X dL_law_2376 (Nat.le_of_ble_eq_true rfl) rfl ?_
    exact tailI C0 hroom1 ⟨(Nat.le_of_ble_eq_true rfl), (Nat.le_of_ble_eq_true rfl)⟩ h1 (fun _ => rfl) dL_law_2378 dL_law_2379 dL_law_2382 dL_law_2384 dL_law_2389 dL_law_2391 dL_law_2394 dL_law_2395 dL_law_2396 dL_law_2397 dL_law_2399 dL_law_2400 dL_law_2401 dL_law_2406 (by decide) (kk _ _ _ hK)
  · obtain ⟨_, hj⟩ := hj
    unfold jx at hj
    refine qL_m X hA hW [.int (xs (i + 1))] [] rfl rfl (Nat.le_of_ble_eq_true rfl) dL_law_2373 hroom1 (c_X10_entriesIn hA.2.1 (xs (i + 1)) mm _ hj) rfl rfl (gV kw_8_186 kw_8_187 kw_8_188 kw_1_11 kw_8_189) hy_X10_entriesIn ⟨(Nat.le_of_ble_eq_true rfl), (Nat.le_of_ble_eq_true rfl)⟩ (fun b9 mm9 hb => ?_)
    obtain ⟨h1, hK⟩ := hb
    refine q_istore X dL_law_2376 (Nat.le_of_ble_eq_true rfl) rfl ?_
    exact tailI C0 hroom1 ⟨(Nat.le_of_ble_eq_true rfl), (Nat.le_of_ble_eq_true rfl)⟩ (h1.trans hk.symm) (fun h0 => absurd h0 hk0) dL_law_2378 dL_law_2379 dL_law_2382 dL_law_2384 dL_law_2389 dL_law_2391 dL_law_2394 dL_law_2395 dL_law_2396 dL_law_2397 dL_law_2399 dL_law_2400 dL_law_2401 dL_law_2406 (by decide) (kk _ _ _ hK)
end CASE2
