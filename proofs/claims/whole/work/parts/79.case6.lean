theorem kw_6_126 : Jvm.Cond.methodLink "BondWarehouseLaw" (452 : Nat) ({ cls := "BondWarehouseLaw", name := "cheapestEntry", desc := "(LBondWarehouse;I[J)I" } : Jvm.MethodName) ∈ TG := tg_6 126 rfl rfl
theorem kw_6_127 : Jvm.Cond.static ({ cls := "BondWarehouseLaw", name := "cheapestEntry", desc := "(LBondWarehouse;I[J)I" } : Jvm.MethodName) ∈ TG := tg_6 127 rfl rfl
theorem kw_6_128 : Jvm.Cond.codeWith ({ cls := "BondWarehouseLaw", name := "cheapestEntry", desc := "(LBondWarehouse;I[J)I" } : Jvm.MethodName) method_58_code (4 : Nat) (Option.some Jvm.ClassFile.FieldType.int) [((0 : Nat), (9 : Nat), (12 : Nat), (13 : Nat))] ∈ TG := tg_6 128 rfl rfl
theorem kw_9_111 : Jvm.Cond.methodLink "BondWarehouseLaw" (454 : Nat) ({ cls := "BondWarehouseModel", name := "cheapestEntry", desc := "(I)I" } : Jvm.MethodName) ∈ TG := tg_9 111 rfl rfl
theorem kw_9_112 : Jvm.Cond.instanceMethod ({ cls := "BondWarehouseModel", name := "cheapestEntry", desc := "(I)I" } : Jvm.MethodName) ∈ TG := tg_9 112 rfl rfl
theorem kw_9_113 : Jvm.Cond.selects "BondWarehouseModel" ({ cls := "BondWarehouseModel", name := "cheapestEntry", desc := "(I)I" } : Jvm.MethodName) ({ cls := "BondWarehouseModel", name := "cheapestEntry", desc := "(I)I" } : Jvm.MethodName) ∈ TG := tg_9 113 rfl rfl
theorem kw_9_114 : Jvm.Cond.code ({ cls := "BondWarehouseModel", name := "cheapestEntry", desc := "(I)I" } : Jvm.MethodName) prog_12_method_137_code (3 : Nat) (Option.some Jvm.ClassFile.FieldType.int) ∈ TG := tg_9 114 rfl rfl
theorem kw_6_142 : Jvm.Cond.methodLink "BondWarehouseLaw" (455 : Nat) ({ cls := "BondWarehouseLaw", name := "dutyFromCheapest", desc := "(LBondWarehouse;II[J)I" } : Jvm.MethodName) ∈ TG := tg_6 142 rfl rfl
theorem kw_6_143 : Jvm.Cond.static ({ cls := "BondWarehouseLaw", name := "dutyFromCheapest", desc := "(LBondWarehouse;II[J)I" } : Jvm.MethodName) ∈ TG := tg_6 143 rfl rfl
theorem kw_6_144 : Jvm.Cond.codeWith ({ cls := "BondWarehouseLaw", name := "dutyFromCheapest", desc := "(LBondWarehouse;II[J)I" } : Jvm.MethodName) method_59_code (5 : Nat) (Option.some Jvm.ClassFile.FieldType.int) [((0 : Nat), (10 : Nat), (13 : Nat), (13 : Nat))] ∈ TG := tg_6 144 rfl rfl
theorem kw_9_123 : Jvm.Cond.methodLink "BondWarehouseLaw" (457 : Nat) ({ cls := "BondWarehouseModel", name := "dutyFromCheapest", desc := "(II)I" } : Jvm.MethodName) ∈ TG := tg_9 123 rfl rfl
theorem kw_9_124 : Jvm.Cond.instanceMethod ({ cls := "BondWarehouseModel", name := "dutyFromCheapest", desc := "(II)I" } : Jvm.MethodName) ∈ TG := tg_9 124 rfl rfl
theorem kw_9_125 : Jvm.Cond.selects "BondWarehouseModel" ({ cls := "BondWarehouseModel", name := "dutyFromCheapest", desc := "(II)I" } : Jvm.MethodName) ({ cls := "BondWarehouseModel", name := "dutyFromCheapest", desc := "(II)I" } : Jvm.MethodName) ∈ TG := tg_9 125 rfl rfl
theorem kw_9_126 : Jvm.Cond.code ({ cls := "BondWarehouseModel", name := "dutyFromCheapest", desc := "(II)I" } : Jvm.MethodName) prog_12_method_138_code (7 : Nat) (Option.some Jvm.ClassFile.FieldType.int) ∈ TG := tg_9 126 rfl rfl
theorem kw_2_228 : Jvm.Cond.methodLink "BondWarehouseLaw" (458 : Nat) ({ cls := "BondWarehouse", name := "dearestEntry", desc := "()I" } : Jvm.MethodName) ∈ TG := tg_2 228 rfl rfl
theorem kw_2_229 : Jvm.Cond.instanceMethod ({ cls := "BondWarehouse", name := "dearestEntry", desc := "()I" } : Jvm.MethodName) ∈ TG := tg_2 229 rfl rfl
theorem kw_2_230 : Jvm.Cond.selects "BondWarehouse" ({ cls := "BondWarehouse", name := "dearestEntry", desc := "()I" } : Jvm.MethodName) ({ cls := "BondWarehouse", name := "dearestEntry", desc := "()I" } : Jvm.MethodName) ∈ TG := tg_2 230 rfl rfl
theorem kw_2_231 : Jvm.Cond.code ({ cls := "BondWarehouse", name := "dearestEntry", desc := "()I" } : Jvm.MethodName) prog_1_method_76_code (1 : Nat) (Option.some Jvm.ClassFile.FieldType.int) ∈ TG := tg_2 231 rfl rfl
theorem kw_9_127 : Jvm.Cond.methodLink "BondWarehouseLaw" (461 : Nat) ({ cls := "BondWarehouseModel", name := "dearestEntry", desc := "()I" } : Jvm.MethodName) ∈ TG := tg_9 127 rfl rfl
theorem kw_9_128 : Jvm.Cond.instanceMethod ({ cls := "BondWarehouseModel", name := "dearestEntry", desc := "()I" } : Jvm.MethodName) ∈ TG := tg_9 128 rfl rfl
theorem kw_9_129 : Jvm.Cond.selects "BondWarehouseModel" ({ cls := "BondWarehouseModel", name := "dearestEntry", desc := "()I" } : Jvm.MethodName) ({ cls := "BondWarehouseModel", name := "dearestEntry", desc := "()I" } : Jvm.MethodName) ∈ TG := tg_9 129 rfl rfl
theorem kw_9_130 : Jvm.Cond.code ({ cls := "BondWarehouseModel", name := "dearestEntry", desc := "()I" } : Jvm.MethodName) prog_12_method_139_code (3 : Nat) (Option.some Jvm.ClassFile.FieldType.int) ∈ TG := tg_9 130 rfl rfl
theorem kw_6_155 : Jvm.Cond.methodLink "BondWarehouseLaw" (462 : Nat) ({ cls := "BondWarehouseLaw", name := "append", desc := "(LBondWarehouse;I[J)I" } : Jvm.MethodName) ∈ TG := tg_6 155 rfl rfl
theorem kw_6_156 : Jvm.Cond.static ({ cls := "BondWarehouseLaw", name := "append", desc := "(LBondWarehouse;I[J)I" } : Jvm.MethodName) ∈ TG := tg_6 156 rfl rfl
theorem kw_6_157 : Jvm.Cond.codeWith ({ cls := "BondWarehouseLaw", name := "append", desc := "(LBondWarehouse;I[J)I" } : Jvm.MethodName) method_60_code (4 : Nat) (Option.some Jvm.ClassFile.FieldType.int) [((0 : Nat), (9 : Nat), (12 : Nat), (13 : Nat)), ((0 : Nat), (9 : Nat), (15 : Nat), (15 : Nat))] ∈ TG := tg_6 157 rfl rfl
theorem kw_9_131 : Jvm.Cond.methodLink "BondWarehouseLaw" (464 : Nat) ({ cls := "BondWarehouseModel", name := "append", desc := "(I)I" } : Jvm.MethodName) ∈ TG := tg_9 131 rfl rfl
theorem kw_9_132 : Jvm.Cond.instanceMethod ({ cls := "BondWarehouseModel", name := "append", desc := "(I)I" } : Jvm.MethodName) ∈ TG := tg_9 132 rfl rfl
theorem kw_9_133 : Jvm.Cond.selects "BondWarehouseModel" ({ cls := "BondWarehouseModel", name := "append", desc := "(I)I" } : Jvm.MethodName) ({ cls := "BondWarehouseModel", name := "append", desc := "(I)I" } : Jvm.MethodName) ∈ TG := tg_9 133 rfl rfl
theorem kw_9_134 : Jvm.Cond.code ({ cls := "BondWarehouseModel", name := "append", desc := "(I)I" } : Jvm.MethodName) prog_12_method_140_code (2 : Nat) (Option.some Jvm.ClassFile.FieldType.int) ∈ TG := tg_9 134 rfl rfl
theorem kw_3_0 : Jvm.Cond.methodLink "BondWarehouseLaw" (465 : Nat) ({ cls := "BondWarehouse", name := "clearText", desc := "()I" } : Jvm.MethodName) ∈ TG := tg_3 0 rfl rfl
theorem kw_3_1 : Jvm.Cond.instanceMethod ({ cls := "BondWarehouse", name := "clearText", desc := "()I" } : Jvm.MethodName) ∈ TG := tg_3 1 rfl rfl
theorem kw_3_2 : Jvm.Cond.selects "BondWarehouse" ({ cls := "BondWarehouse", name := "clearText", desc := "()I" } : Jvm.MethodName) ({ cls := "BondWarehouse", name := "clearText", desc := "()I" } : Jvm.MethodName) ∈ TG := tg_3 2 rfl rfl
theorem kw_3_3 : Jvm.Cond.code ({ cls := "BondWarehouse", name := "clearText", desc := "()I" } : Jvm.MethodName) prog_1_method_78_code (1 : Nat) (Option.some Jvm.ClassFile.FieldType.int) ∈ TG := tg_3 3 rfl rfl
theorem kw_9_137 : Jvm.Cond.methodLink "BondWarehouseLaw" (468 : Nat) ({ cls := "BondWarehouseModel", name := "clearText", desc := "()I" } : Jvm.MethodName) ∈ TG := tg_9 137 rfl rfl
theorem kw_9_138 : Jvm.Cond.instanceMethod ({ cls := "BondWarehouseModel", name := "clearText", desc := "()I" } : Jvm.MethodName) ∈ TG := tg_9 138 rfl rfl
theorem kw_9_139 : Jvm.Cond.selects "BondWarehouseModel" ({ cls := "BondWarehouseModel", name := "clearText", desc := "()I" } : Jvm.MethodName) ({ cls := "BondWarehouseModel", name := "clearText", desc := "()I" } : Jvm.MethodName) ∈ TG := tg_9 139 rfl rfl
theorem kw_9_140 : Jvm.Cond.code ({ cls := "BondWarehouseModel", name := "clearText", desc := "()I" } : Jvm.MethodName) prog_12_method_141_code (2 : Nat) (Option.some Jvm.ClassFile.FieldType.int) ∈ TG := tg_9 140 rfl rfl
theorem kw_3_8 : Jvm.Cond.methodLink "BondWarehouseLaw" (469 : Nat) ({ cls := "BondWarehouse", name := "firstError", desc := "()I" } : Jvm.MethodName) ∈ TG := tg_3 8 rfl rfl
theorem kw_3_9 : Jvm.Cond.instanceMethod ({ cls := "BondWarehouse", name := "firstError", desc := "()I" } : Jvm.MethodName) ∈ TG := tg_3 9 rfl rfl
theorem kw_3_10 : Jvm.Cond.selects "BondWarehouse" ({ cls := "BondWarehouse", name := "firstError", desc := "()I" } : Jvm.MethodName) ({ cls := "BondWarehouse", name := "firstError", desc := "()I" } : Jvm.MethodName) ∈ TG := tg_3 10 rfl rfl
theorem kw_3_11 : Jvm.Cond.code ({ cls := "BondWarehouse", name := "firstError", desc := "()I" } : Jvm.MethodName) prog_1_method_79_code (1 : Nat) (Option.some Jvm.ClassFile.FieldType.int) ∈ TG := tg_3 11 rfl rfl
theorem kw_9_141 : Jvm.Cond.methodLink "BondWarehouseLaw" (472 : Nat) ({ cls := "BondWarehouseModel", name := "firstError", desc := "()I" } : Jvm.MethodName) ∈ TG := tg_9 141 rfl rfl
theorem kw_9_142 : Jvm.Cond.instanceMethod ({ cls := "BondWarehouseModel", name := "firstError", desc := "()I" } : Jvm.MethodName) ∈ TG := tg_9 142 rfl rfl
theorem kw_9_143 : Jvm.Cond.selects "BondWarehouseModel" ({ cls := "BondWarehouseModel", name := "firstError", desc := "()I" } : Jvm.MethodName) ({ cls := "BondWarehouseModel", name := "firstError", desc := "()I" } : Jvm.MethodName) ∈ TG := tg_9 143 rfl rfl
theorem kw_9_144 : Jvm.Cond.code ({ cls := "BondWarehouseModel", name := "firstError", desc := "()I" } : Jvm.MethodName) prog_12_method_151_code (1 : Nat) (Option.some Jvm.ClassFile.FieldType.int) ∈ TG := tg_9 144 rfl rfl
theorem kw_6_167 : Jvm.Cond.methodLink "BondWarehouseLaw" (473 : Nat) ({ cls := "BondWarehouseLaw", name := "run", desc := "(LBondWarehouse;[J)I" } : Jvm.MethodName) ∈ TG := tg_6 167 rfl rfl
theorem kw_6_168 : Jvm.Cond.static ({ cls := "BondWarehouseLaw", name := "run", desc := "(LBondWarehouse;[J)I" } : Jvm.MethodName) ∈ TG := tg_6 168 rfl rfl
theorem kw_6_169 : Jvm.Cond.codeWith ({ cls := "BondWarehouseLaw", name := "run", desc := "(LBondWarehouse;[J)I" } : Jvm.MethodName) method_61_code (3 : Nat) (Option.some Jvm.ClassFile.FieldType.int) [((0 : Nat), (8 : Nat), (11 : Nat), (13 : Nat))] ∈ TG := tg_6 169 rfl rfl
theorem kw_9_182 : Jvm.Cond.methodLink "BondWarehouseLaw" (476 : Nat) ({ cls := "BondWarehouseModel", name := "run", desc := "()I" } : Jvm.MethodName) ∈ TG := tg_9 182 rfl rfl
theorem kw_9_183 : Jvm.Cond.instanceMethod ({ cls := "BondWarehouseModel", name := "run", desc := "()I" } : Jvm.MethodName) ∈ TG := tg_9 183 rfl rfl
theorem kw_9_184 : Jvm.Cond.selects "BondWarehouseModel" ({ cls := "BondWarehouseModel", name := "run", desc := "()I" } : Jvm.MethodName) ({ cls := "BondWarehouseModel", name := "run", desc := "()I" } : Jvm.MethodName) ∈ TG := tg_9 184 rfl rfl
theorem kw_9_185 : Jvm.Cond.code ({ cls := "BondWarehouseModel", name := "run", desc := "()I" } : Jvm.MethodName) prog_12_method_152_code (1 : Nat) (Option.some Jvm.ClassFile.FieldType.int) ∈ TG := tg_9 185 rfl rfl
theorem kw_6_205 : Jvm.Cond.methodLink "BondWarehouseLaw" (477 : Nat) ({ cls := "BondWarehouseLaw", name := "undo", desc := "(LBondWarehouse;[J)I" } : Jvm.MethodName) ∈ TG := tg_6 205 rfl rfl
theorem kw_6_206 : Jvm.Cond.static ({ cls := "BondWarehouseLaw", name := "undo", desc := "(LBondWarehouse;[J)I" } : Jvm.MethodName) ∈ TG := tg_6 206 rfl rfl
theorem kw_6_207 : Jvm.Cond.codeWith ({ cls := "BondWarehouseLaw", name := "undo", desc := "(LBondWarehouse;[J)I" } : Jvm.MethodName) method_62_code (3 : Nat) (Option.some Jvm.ClassFile.FieldType.int) [((0 : Nat), (8 : Nat), (11 : Nat), (15 : Nat))] ∈ TG := tg_6 207 rfl rfl
theorem kw_9_186 : Jvm.Cond.methodLink "BondWarehouseLaw" (479 : Nat) ({ cls := "BondWarehouseModel", name := "undo", desc := "()I" } : Jvm.MethodName) ∈ TG := tg_9 186 rfl rfl
theorem kw_9_187 : Jvm.Cond.instanceMethod ({ cls := "BondWarehouseModel", name := "undo", desc := "()I" } : Jvm.MethodName) ∈ TG := tg_9 187 rfl rfl
theorem kw_9_188 : Jvm.Cond.selects "BondWarehouseModel" ({ cls := "BondWarehouseModel", name := "undo", desc := "()I" } : Jvm.MethodName) ({ cls := "BondWarehouseModel", name := "undo", desc := "()I" } : Jvm.MethodName) ∈ TG := tg_9 188 rfl rfl
theorem kw_9_189 : Jvm.Cond.code ({ cls := "BondWarehouseModel", name := "undo", desc := "()I" } : Jvm.MethodName) prog_12_method_153_code (1 : Nat) (Option.some Jvm.ClassFile.FieldType.int) ∈ TG := tg_9 189 rfl rfl
theorem kw_3_61 : Jvm.Cond.methodLink "BondWarehouseLaw" (480 : Nat) ({ cls := "BondWarehouse", name := "savedStates", desc := "()I" } : Jvm.MethodName) ∈ TG := tg_3 61 rfl rfl
theorem kw_3_62 : Jvm.Cond.instanceMethod ({ cls := "BondWarehouse", name := "savedStates", desc := "()I" } : Jvm.MethodName) ∈ TG := tg_3 62 rfl rfl
theorem kw_3_63 : Jvm.Cond.selects "BondWarehouse" ({ cls := "BondWarehouse", name := "savedStates", desc := "()I" } : Jvm.MethodName) ({ cls := "BondWarehouse", name := "savedStates", desc := "()I" } : Jvm.MethodName) ∈ TG := tg_3 63 rfl rfl
theorem kw_3_64 : Jvm.Cond.code ({ cls := "BondWarehouse", name := "savedStates", desc := "()I" } : Jvm.MethodName) prog_1_method_82_code (1 : Nat) (Option.some Jvm.ClassFile.FieldType.int) ∈ TG := tg_3 64 rfl rfl
theorem kw_9_190 : Jvm.Cond.methodLink "BondWarehouseLaw" (483 : Nat) ({ cls := "BondWarehouseModel", name := "savedStates", desc := "()I" } : Jvm.MethodName) ∈ TG := tg_9 190 rfl rfl
theorem kw_9_191 : Jvm.Cond.instanceMethod ({ cls := "BondWarehouseModel", name := "savedStates", desc := "()I" } : Jvm.MethodName) ∈ TG := tg_9 191 rfl rfl
theorem kw_9_192 : Jvm.Cond.selects "BondWarehouseModel" ({ cls := "BondWarehouseModel", name := "savedStates", desc := "()I" } : Jvm.MethodName) ({ cls := "BondWarehouseModel", name := "savedStates", desc := "()I" } : Jvm.MethodName) ∈ TG := tg_9 192 rfl rfl
theorem kw_9_193 : Jvm.Cond.code ({ cls := "BondWarehouseModel", name := "savedStates", desc := "()I" } : Jvm.MethodName) prog_12_method_154_code (1 : Nat) (Option.some Jvm.ClassFile.FieldType.int) ∈ TG := tg_9 193 rfl rfl
theorem kw_6_217 : Jvm.Cond.methodLink "BondWarehouseLaw" (484 : Nat) ({ cls := "BondWarehouseLaw", name := "keep", desc := "(LBondWarehouse;I[J)I" } : Jvm.MethodName) ∈ TG := tg_6 217 rfl rfl
theorem kw_6_218 : Jvm.Cond.static ({ cls := "BondWarehouseLaw", name := "keep", desc := "(LBondWarehouse;I[J)I" } : Jvm.MethodName) ∈ TG := tg_6 218 rfl rfl
theorem kw_6_219 : Jvm.Cond.codeWith ({ cls := "BondWarehouseLaw", name := "keep", desc := "(LBondWarehouse;I[J)I" } : Jvm.MethodName) method_63_code (4 : Nat) (Option.some Jvm.ClassFile.FieldType.int) [((0 : Nat), (9 : Nat), (12 : Nat), (21 : Nat))] ∈ TG := tg_6 219 rfl rfl
theorem kw_9_194 : Jvm.Cond.methodLink "BondWarehouseLaw" (486 : Nat) ({ cls := "BondWarehouseModel", name := "keep", desc := "(I)I" } : Jvm.MethodName) ∈ TG := tg_9 194 rfl rfl
theorem kw_9_195 : Jvm.Cond.instanceMethod ({ cls := "BondWarehouseModel", name := "keep", desc := "(I)I" } : Jvm.MethodName) ∈ TG := tg_9 195 rfl rfl
theorem kw_9_196 : Jvm.Cond.selects "BondWarehouseModel" ({ cls := "BondWarehouseModel", name := "keep", desc := "(I)I" } : Jvm.MethodName) ({ cls := "BondWarehouseModel", name := "keep", desc := "(I)I" } : Jvm.MethodName) ∈ TG := tg_9 196 rfl rfl
theorem kw_9_197 : Jvm.Cond.code ({ cls := "BondWarehouseModel", name := "keep", desc := "(I)I" } : Jvm.MethodName) prog_12_method_155_code (2 : Nat) (Option.some Jvm.ClassFile.FieldType.int) ∈ TG := tg_9 197 rfl rfl
theorem kw_6_232 : Jvm.Cond.methodLink "BondWarehouseLaw" (487 : Nat) ({ cls := "BondWarehouseLaw", name := "goBack", desc := "(LBondWarehouse;I[J)I" } : Jvm.MethodName) ∈ TG := tg_6 232 rfl rfl
theorem kw_6_233 : Jvm.Cond.static ({ cls := "BondWarehouseLaw", name := "goBack", desc := "(LBondWarehouse;I[J)I" } : Jvm.MethodName) ∈ TG := tg_6 233 rfl rfl
theorem kw_6_234 : Jvm.Cond.codeWith ({ cls := "BondWarehouseLaw", name := "goBack", desc := "(LBondWarehouse;I[J)I" } : Jvm.MethodName) method_64_code (4 : Nat) (Option.some Jvm.ClassFile.FieldType.int) [((0 : Nat), (9 : Nat), (12 : Nat), (21 : Nat)), ((0 : Nat), (9 : Nat), (15 : Nat), (15 : Nat))] ∈ TG := tg_6 234 rfl rfl
theorem kw_9_198 : Jvm.Cond.methodLink "BondWarehouseLaw" (489 : Nat) ({ cls := "BondWarehouseModel", name := "goBack", desc := "(I)I" } : Jvm.MethodName) ∈ TG := tg_9 198 rfl rfl
theorem kw_9_199 : Jvm.Cond.instanceMethod ({ cls := "BondWarehouseModel", name := "goBack", desc := "(I)I" } : Jvm.MethodName) ∈ TG := tg_9 199 rfl rfl
theorem kw_9_200 : Jvm.Cond.selects "BondWarehouseModel" ({ cls := "BondWarehouseModel", name := "goBack", desc := "(I)I" } : Jvm.MethodName) ({ cls := "BondWarehouseModel", name := "goBack", desc := "(I)I" } : Jvm.MethodName) ∈ TG := tg_9 200 rfl rfl
theorem kw_9_201 : Jvm.Cond.code ({ cls := "BondWarehouseModel", name := "goBack", desc := "(I)I" } : Jvm.MethodName) prog_12_method_156_code (2 : Nat) (Option.some Jvm.ClassFile.FieldType.int) ∈ TG := tg_9 201 rfl rfl
theorem hy_L_cheapestEntry : yL_cheapestEntry.cls ≠ "java/lang/invoke/MethodHandle" ∧ yL_cheapestEntry.cls ≠ "java/lang/invoke/VarHandle" ∧ (parseMethodDescriptor yL_cheapestEntry.desc).map (fun d => d.parameters.length) = some 3 := by decide +kernel
theorem hy_L_dutyFromCheapest : yL_dutyFromCheapest.cls ≠ "java/lang/invoke/MethodHandle" ∧ yL_dutyFromCheapest.cls ≠ "java/lang/invoke/VarHandle" ∧ (parseMethodDescriptor yL_dutyFromCheapest.desc).map (fun d => d.parameters.length) = some 4 := by decide +kernel
theorem hy_L_append : yL_append.cls ≠ "java/lang/invoke/MethodHandle" ∧ yL_append.cls ≠ "java/lang/invoke/VarHandle" ∧ (parseMethodDescriptor yL_append.desc).map (fun d => d.parameters.length) = some 3 := by decide +kernel
theorem hy_L_run : yL_run.cls ≠ "java/lang/invoke/MethodHandle" ∧ yL_run.cls ≠ "java/lang/invoke/VarHandle" ∧ (parseMethodDescriptor yL_run.desc).map (fun d => d.parameters.length) = some 2 := by decide +kernel
theorem hy_L_undo : yL_undo.cls ≠ "java/lang/invoke/MethodHandle" ∧ yL_undo.cls ≠ "java/lang/invoke/VarHandle" ∧ (parseMethodDescriptor yL_undo.desc).map (fun d => d.parameters.length) = some 2 := by decide +kernel
theorem hy_L_keep : yL_keep.cls ≠ "java/lang/invoke/MethodHandle" ∧ yL_keep.cls ≠ "java/lang/invoke/VarHandle" ∧ (parseMethodDescriptor yL_keep.desc).map (fun d => d.parameters.length) = some 3 := by decide +kernel
theorem hy_L_goBack : yL_goBack.cls ≠ "java/lang/invoke/MethodHandle" ∧ yL_goBack.cls ≠ "java/lang/invoke/VarHandle" ∧ (parseMethodDescriptor yL_goBack.desc).map (fun d => d.parameters.length) = some 3 := by decide +kernel
theorem dL_law_4029 : decode cL_law 4029 = .ok (.aload_n 1, 1) := by decide +kernel
theorem dL_law_4030 : decode cL_law 4030 = .ok (.aload_n 0, 1) := by decide +kernel
theorem dL_law_4031 : decode cL_law 4031 = .ok (.iload 4, 2) := by decide +kernel
theorem dL_law_4033 : decode cL_law 4033 = .ok (.iconst 1, 1) := by decide +kernel
theorem dL_law_4034 : decode cL_law 4034 = .ok (.iadd, 1) := by decide +kernel
theorem dL_law_4035 : decode cL_law 4035 = .ok (.iaload, 1) := by decide +kernel
theorem dL_law_4036 : decode cL_law 4036 = .ok (.aload_n 3, 1) := by decide +kernel
theorem dL_law_4037 : decode cL_law 4037 = .ok (.invokestatic 452, 3) := by decide +kernel
theorem dL_law_4040 : decode cL_law 4040 = .ok (.istore 5, 2) := by decide +kernel
theorem dL_law_4042 : decode cL_law 4042 = .ok (.aload_n 2, 1) := by decide +kernel
theorem dL_law_4043 : decode cL_law 4043 = .ok (.aload_n 0, 1) := by decide +kernel
theorem dL_law_4044 : decode cL_law 4044 = .ok (.iload 4, 2) := by decide +kernel
theorem dL_law_4046 : decode cL_law 4046 = .ok (.iconst 1, 1) := by decide +kernel
theorem dL_law_4047 : decode cL_law 4047 = .ok (.iadd, 1) := by decide +kernel
theorem dL_law_4048 : decode cL_law 4048 = .ok (.iaload, 1) := by decide +kernel
theorem dL_law_4049 : decode cL_law 4049 = .ok (.invokevirtual 454, 3) := by decide +kernel
theorem dL_law_4052 : decode cL_law 4052 = .ok (.istore 6, 2) := by decide +kernel
theorem dL_law_4054 : decode cL_law 4054 = .ok (.aload_n 2, 1) := by decide +kernel
theorem dL_law_4055 : decode cL_law 4055 = .ok (.invokevirtual 216, 3) := by decide +kernel
theorem dL_law_4058 : decode cL_law 4058 = .ok (.iload 5, 2) := by decide +kernel
theorem dL_law_4060 : decode cL_law 4060 = .ok (.if_icmp .eq 5, 3) := by decide +kernel
theorem dL_law_4065 : decode cL_law 4065 = .ok (.iload 5, 2) := by decide +kernel
theorem dL_law_4067 : decode cL_law 4067 = .ok (.ifCond .ne 15, 3) := by decide +kernel
theorem dL_law_4070 : decode cL_law 4070 = .ok (.aload_n 3, 1) := by decide +kernel
theorem dL_law_4071 : decode cL_law 4071 = .ok (.iconst 0, 1) := by decide +kernel
theorem dL_law_4072 : decode cL_law 4072 = .ok (.laload, 1) := by decide +kernel
theorem dL_law_4073 : decode cL_law 4073 = .ok (.iload 6, 2) := by decide +kernel
theorem dL_law_4075 : decode cL_law 4075 = .ok (.i2l, 1) := by decide +kernel
theorem dL_law_4076 : decode cL_law 4076 = .ok (.lcmp, 1) := by decide +kernel
theorem dL_law_4077 : decode cL_law 4077 = .ok (.ifCond .eq 5, 3) := by decide +kernel
theorem dL_law_4082 : decode cL_law 4082 = .ok (.goto 379, 3) := by decide +kernel
theorem dL_law_4085 : decode cL_law 4085 = .ok (.aload_n 1, 1) := by decide +kernel
theorem dL_law_4086 : decode cL_law 4086 = .ok (.aload_n 0, 1) := by decide +kernel
theorem dL_law_4087 : decode cL_law 4087 = .ok (.iload 4, 2) := by decide +kernel
theorem dL_law_4089 : decode cL_law 4089 = .ok (.iconst 1, 1) := by decide +kernel
theorem dL_law_4090 : decode cL_law 4090 = .ok (.iadd, 1) := by decide +kernel
theorem dL_law_4091 : decode cL_law 4091 = .ok (.iaload, 1) := by decide +kernel
theorem dL_law_4092 : decode cL_law 4092 = .ok (.aload_n 0, 1) := by decide +kernel
theorem dL_law_4093 : decode cL_law 4093 = .ok (.iload 4, 2) := by decide +kernel
theorem dL_law_4095 : decode cL_law 4095 = .ok (.iconst 2, 1) := by decide +kernel
theorem dL_law_4096 : decode cL_law 4096 = .ok (.iadd, 1) := by decide +kernel
theorem dL_law_4097 : decode cL_law 4097 = .ok (.iaload, 1) := by decide +kernel
theorem dL_law_4098 : decode cL_law 4098 = .ok (.aload_n 3, 1) := by decide +kernel
theorem dL_law_4099 : decode cL_law 4099 = .ok (.invokestatic 455, 3) := by decide +kernel
theorem dL_law_4102 : decode cL_law 4102 = .ok (.istore 5, 2) := by decide +kernel
theorem dL_law_4104 : decode cL_law 4104 = .ok (.aload_n 2, 1) := by decide +kernel
theorem dL_law_4105 : decode cL_law 4105 = .ok (.aload_n 0, 1) := by decide +kernel
theorem dL_law_4106 : decode cL_law 4106 = .ok (.iload 4, 2) := by decide +kernel
theorem dL_law_4108 : decode cL_law 4108 = .ok (.iconst 1, 1) := by decide +kernel
theorem dL_law_4109 : decode cL_law 4109 = .ok (.iadd, 1) := by decide +kernel
theorem dL_law_4110 : decode cL_law 4110 = .ok (.iaload, 1) := by decide +kernel
theorem dL_law_4111 : decode cL_law 4111 = .ok (.aload_n 0, 1) := by decide +kernel
theorem dL_law_4112 : decode cL_law 4112 = .ok (.iload 4, 2) := by decide +kernel
theorem dL_law_4114 : decode cL_law 4114 = .ok (.iconst 2, 1) := by decide +kernel
theorem dL_law_4115 : decode cL_law 4115 = .ok (.iadd, 1) := by decide +kernel
theorem dL_law_4116 : decode cL_law 4116 = .ok (.iaload, 1) := by decide +kernel
theorem dL_law_4117 : decode cL_law 4117 = .ok (.invokevirtual 457, 3) := by decide +kernel
theorem dL_law_4120 : decode cL_law 4120 = .ok (.istore 6, 2) := by decide +kernel
theorem dL_law_4122 : decode cL_law 4122 = .ok (.aload_n 2, 1) := by decide +kernel
theorem dL_law_4123 : decode cL_law 4123 = .ok (.invokevirtual 216, 3) := by decide +kernel
theorem dL_law_4126 : decode cL_law 4126 = .ok (.iload 5, 2) := by decide +kernel
theorem dL_law_4128 : decode cL_law 4128 = .ok (.if_icmp .eq 5, 3) := by decide +kernel
theorem dL_law_4133 : decode cL_law 4133 = .ok (.iload 5, 2) := by decide +kernel
theorem dL_law_4135 : decode cL_law 4135 = .ok (.ifCond .ne 15, 3) := by decide +kernel
theorem dL_law_4138 : decode cL_law 4138 = .ok (.aload_n 3, 1) := by decide +kernel
theorem dL_law_4139 : decode cL_law 4139 = .ok (.iconst 0, 1) := by decide +kernel
theorem dL_law_4140 : decode cL_law 4140 = .ok (.laload, 1) := by decide +kernel
theorem dL_law_4141 : decode cL_law 4141 = .ok (.iload 6, 2) := by decide +kernel
theorem dL_law_4143 : decode cL_law 4143 = .ok (.i2l, 1) := by decide +kernel
theorem dL_law_4144 : decode cL_law 4144 = .ok (.lcmp, 1) := by decide +kernel
theorem dL_law_4145 : decode cL_law 4145 = .ok (.ifCond .eq 5, 3) := by decide +kernel
theorem dL_law_4150 : decode cL_law 4150 = .ok (.goto 311, 3) := by decide +kernel
theorem dL_law_4153 : decode cL_law 4153 = .ok (.aload_n 1, 1) := by decide +kernel
theorem dL_law_4154 : decode cL_law 4154 = .ok (.invokevirtual 458, 3) := by decide +kernel
theorem dL_law_4157 : decode cL_law 4157 = .ok (.aload_n 2, 1) := by decide +kernel
theorem dL_law_4158 : decode cL_law 4158 = .ok (.invokevirtual 461, 3) := by decide +kernel
theorem dL_law_4161 : decode cL_law 4161 = .ok (.if_icmp .eq 300, 3) := by decide +kernel
theorem dL_law_4166 : decode cL_law 4166 = .ok (.aload_n 1, 1) := by decide +kernel
theorem dL_law_4167 : decode cL_law 4167 = .ok (.aload_n 0, 1) := by decide +kernel
theorem dL_law_4168 : decode cL_law 4168 = .ok (.iload 4, 2) := by decide +kernel
theorem dL_law_4170 : decode cL_law 4170 = .ok (.iconst 1, 1) := by decide +kernel
theorem dL_law_4171 : decode cL_law 4171 = .ok (.iadd, 1) := by decide +kernel
theorem dL_law_4172 : decode cL_law 4172 = .ok (.iaload, 1) := by decide +kernel
theorem dL_law_4173 : decode cL_law 4173 = .ok (.aload_n 3, 1) := by decide +kernel
theorem dL_law_4174 : decode cL_law 4174 = .ok (.invokestatic 462, 3) := by decide +kernel
theorem dL_law_4177 : decode cL_law 4177 = .ok (.istore 5, 2) := by decide +kernel
theorem dL_law_4179 : decode cL_law 4179 = .ok (.aload_n 2, 1) := by decide +kernel
theorem dL_law_4180 : decode cL_law 4180 = .ok (.aload_n 0, 1) := by decide +kernel
theorem dL_law_4181 : decode cL_law 4181 = .ok (.iload 4, 2) := by decide +kernel
theorem dL_law_4183 : decode cL_law 4183 = .ok (.iconst 1, 1) := by decide +kernel
theorem dL_law_4184 : decode cL_law 4184 = .ok (.iadd, 1) := by decide +kernel
theorem dL_law_4185 : decode cL_law 4185 = .ok (.iaload, 1) := by decide +kernel
theorem dL_law_4186 : decode cL_law 4186 = .ok (.invokevirtual 464, 3) := by decide +kernel
theorem dL_law_4189 : decode cL_law 4189 = .ok (.istore 6, 2) := by decide +kernel
theorem dL_law_4191 : decode cL_law 4191 = .ok (.aload_n 2, 1) := by decide +kernel
theorem dL_law_4192 : decode cL_law 4192 = .ok (.invokevirtual 216, 3) := by decide +kernel
theorem dL_law_4195 : decode cL_law 4195 = .ok (.iload 5, 2) := by decide +kernel
theorem dL_law_4197 : decode cL_law 4197 = .ok (.if_icmp .eq 5, 3) := by decide +kernel
theorem dL_law_4202 : decode cL_law 4202 = .ok (.iload 5, 2) := by decide +kernel
theorem dL_law_4204 : decode cL_law 4204 = .ok (.ifCond .ne 15, 3) := by decide +kernel
theorem dL_law_4207 : decode cL_law 4207 = .ok (.aload_n 3, 1) := by decide +kernel
theorem dL_law_4208 : decode cL_law 4208 = .ok (.iconst 0, 1) := by decide +kernel
theorem dL_law_4209 : decode cL_law 4209 = .ok (.laload, 1) := by decide +kernel
theorem dL_law_4210 : decode cL_law 4210 = .ok (.iload 6, 2) := by decide +kernel
theorem dL_law_4212 : decode cL_law 4212 = .ok (.i2l, 1) := by decide +kernel
theorem dL_law_4213 : decode cL_law 4213 = .ok (.lcmp, 1) := by decide +kernel
theorem dL_law_4214 : decode cL_law 4214 = .ok (.ifCond .eq 5, 3) := by decide +kernel
theorem dL_law_4219 : decode cL_law 4219 = .ok (.goto 242, 3) := by decide +kernel
theorem dL_law_4222 : decode cL_law 4222 = .ok (.aload_n 1, 1) := by decide +kernel
theorem dL_law_4223 : decode cL_law 4223 = .ok (.invokevirtual 465, 3) := by decide +kernel
theorem dL_law_4226 : decode cL_law 4226 = .ok (.aload_n 2, 1) := by decide +kernel
theorem dL_law_4227 : decode cL_law 4227 = .ok (.invokevirtual 468, 3) := by decide +kernel
theorem dL_law_4230 : decode cL_law 4230 = .ok (.if_icmp .eq 231, 3) := by decide +kernel
theorem dL_law_4235 : decode cL_law 4235 = .ok (.aload_n 1, 1) := by decide +kernel
theorem dL_law_4236 : decode cL_law 4236 = .ok (.invokevirtual 469, 3) := by decide +kernel
theorem dL_law_4239 : decode cL_law 4239 = .ok (.aload_n 2, 1) := by decide +kernel
theorem dL_law_4240 : decode cL_law 4240 = .ok (.invokevirtual 472, 3) := by decide +kernel
theorem dL_law_4243 : decode cL_law 4243 = .ok (.if_icmp .eq 218, 3) := by decide +kernel
theorem dL_law_4248 : decode cL_law 4248 = .ok (.aload_n 1, 1) := by decide +kernel
theorem dL_law_4249 : decode cL_law 4249 = .ok (.aload_n 3, 1) := by decide +kernel
theorem dL_law_4250 : decode cL_law 4250 = .ok (.invokestatic 473, 3) := by decide +kernel
theorem dL_law_4253 : decode cL_law 4253 = .ok (.istore 5, 2) := by decide +kernel
theorem dL_law_4255 : decode cL_law 4255 = .ok (.aload_n 2, 1) := by decide +kernel
theorem dL_law_4256 : decode cL_law 4256 = .ok (.invokevirtual 476, 3) := by decide +kernel
theorem dL_law_4259 : decode cL_law 4259 = .ok (.istore 6, 2) := by decide +kernel
theorem dL_law_4261 : decode cL_law 4261 = .ok (.aload_n 2, 1) := by decide +kernel
theorem dL_law_4262 : decode cL_law 4262 = .ok (.invokevirtual 216, 3) := by decide +kernel
theorem dL_law_4265 : decode cL_law 4265 = .ok (.iload 5, 2) := by decide +kernel
theorem dL_law_4267 : decode cL_law 4267 = .ok (.if_icmp .eq 5, 3) := by decide +kernel
theorem dL_law_4272 : decode cL_law 4272 = .ok (.iload 5, 2) := by decide +kernel
theorem dL_law_4274 : decode cL_law 4274 = .ok (.ifCond .ne 15, 3) := by decide +kernel
theorem dL_law_4277 : decode cL_law 4277 = .ok (.aload_n 3, 1) := by decide +kernel
theorem dL_law_4278 : decode cL_law 4278 = .ok (.iconst 0, 1) := by decide +kernel
theorem dL_law_4279 : decode cL_law 4279 = .ok (.laload, 1) := by decide +kernel
theorem dL_law_4280 : decode cL_law 4280 = .ok (.iload 6, 2) := by decide +kernel
theorem dL_law_4282 : decode cL_law 4282 = .ok (.i2l, 1) := by decide +kernel
theorem dL_law_4283 : decode cL_law 4283 = .ok (.lcmp, 1) := by decide +kernel
theorem dL_law_4284 : decode cL_law 4284 = .ok (.ifCond .eq 5, 3) := by decide +kernel
theorem dL_law_4289 : decode cL_law 4289 = .ok (.goto 172, 3) := by decide +kernel
theorem dL_law_4292 : decode cL_law 4292 = .ok (.aload_n 1, 1) := by decide +kernel
theorem dL_law_4293 : decode cL_law 4293 = .ok (.aload_n 3, 1) := by decide +kernel
theorem dL_law_4294 : decode cL_law 4294 = .ok (.invokestatic 477, 3) := by decide +kernel
theorem dL_law_4297 : decode cL_law 4297 = .ok (.istore 5, 2) := by decide +kernel
theorem dL_law_4299 : decode cL_law 4299 = .ok (.aload_n 2, 1) := by decide +kernel
theorem dL_law_4300 : decode cL_law 4300 = .ok (.invokevirtual 479, 3) := by decide +kernel
theorem dL_law_4303 : decode cL_law 4303 = .ok (.istore 6, 2) := by decide +kernel
theorem dL_law_4305 : decode cL_law 4305 = .ok (.aload_n 2, 1) := by decide +kernel
theorem dL_law_4306 : decode cL_law 4306 = .ok (.invokevirtual 216, 3) := by decide +kernel
theorem dL_law_4309 : decode cL_law 4309 = .ok (.iload 5, 2) := by decide +kernel
theorem dL_law_4311 : decode cL_law 4311 = .ok (.if_icmp .eq 5, 3) := by decide +kernel
theorem dL_law_4316 : decode cL_law 4316 = .ok (.iload 5, 2) := by decide +kernel
theorem dL_law_4318 : decode cL_law 4318 = .ok (.ifCond .ne 15, 3) := by decide +kernel
theorem dL_law_4321 : decode cL_law 4321 = .ok (.aload_n 3, 1) := by decide +kernel
theorem dL_law_4322 : decode cL_law 4322 = .ok (.iconst 0, 1) := by decide +kernel
theorem dL_law_4323 : decode cL_law 4323 = .ok (.laload, 1) := by decide +kernel
theorem dL_law_4324 : decode cL_law 4324 = .ok (.iload 6, 2) := by decide +kernel
theorem dL_law_4326 : decode cL_law 4326 = .ok (.i2l, 1) := by decide +kernel
theorem dL_law_4327 : decode cL_law 4327 = .ok (.lcmp, 1) := by decide +kernel
theorem dL_law_4328 : decode cL_law 4328 = .ok (.ifCond .eq 5, 3) := by decide +kernel
theorem dL_law_4333 : decode cL_law 4333 = .ok (.goto 128, 3) := by decide +kernel
theorem dL_law_4336 : decode cL_law 4336 = .ok (.aload_n 1, 1) := by decide +kernel
theorem dL_law_4337 : decode cL_law 4337 = .ok (.invokevirtual 480, 3) := by decide +kernel
theorem dL_law_4340 : decode cL_law 4340 = .ok (.aload_n 2, 1) := by decide +kernel
theorem dL_law_4341 : decode cL_law 4341 = .ok (.invokevirtual 483, 3) := by decide +kernel
theorem dL_law_4344 : decode cL_law 4344 = .ok (.if_icmp .eq 117, 3) := by decide +kernel
theorem dL_law_4349 : decode cL_law 4349 = .ok (.aload_n 1, 1) := by decide +kernel
theorem dL_law_4350 : decode cL_law 4350 = .ok (.aload_n 0, 1) := by decide +kernel
theorem dL_law_4351 : decode cL_law 4351 = .ok (.iload 4, 2) := by decide +kernel
theorem dL_law_4353 : decode cL_law 4353 = .ok (.iconst 1, 1) := by decide +kernel
theorem dL_law_4354 : decode cL_law 4354 = .ok (.iadd, 1) := by decide +kernel
theorem dL_law_4355 : decode cL_law 4355 = .ok (.iaload, 1) := by decide +kernel
theorem dL_law_4356 : decode cL_law 4356 = .ok (.aload_n 3, 1) := by decide +kernel
theorem dL_law_4357 : decode cL_law 4357 = .ok (.invokestatic 484, 3) := by decide +kernel
theorem dL_law_4360 : decode cL_law 4360 = .ok (.istore 5, 2) := by decide +kernel
theorem dL_law_4362 : decode cL_law 4362 = .ok (.aload_n 2, 1) := by decide +kernel
theorem dL_law_4363 : decode cL_law 4363 = .ok (.aload_n 0, 1) := by decide +kernel
theorem dL_law_4364 : decode cL_law 4364 = .ok (.iload 4, 2) := by decide +kernel
theorem dL_law_4366 : decode cL_law 4366 = .ok (.iconst 1, 1) := by decide +kernel
theorem dL_law_4367 : decode cL_law 4367 = .ok (.iadd, 1) := by decide +kernel
theorem dL_law_4368 : decode cL_law 4368 = .ok (.iaload, 1) := by decide +kernel
theorem dL_law_4369 : decode cL_law 4369 = .ok (.invokevirtual 486, 3) := by decide +kernel
theorem dL_law_4372 : decode cL_law 4372 = .ok (.istore 6, 2) := by decide +kernel
theorem dL_law_4374 : decode cL_law 4374 = .ok (.aload_n 2, 1) := by decide +kernel
theorem dL_law_4375 : decode cL_law 4375 = .ok (.invokevirtual 216, 3) := by decide +kernel
theorem dL_law_4378 : decode cL_law 4378 = .ok (.iload 5, 2) := by decide +kernel
theorem dL_law_4380 : decode cL_law 4380 = .ok (.if_icmp .eq 5, 3) := by decide +kernel
theorem dL_law_4385 : decode cL_law 4385 = .ok (.iload 5, 2) := by decide +kernel
theorem dL_law_4387 : decode cL_law 4387 = .ok (.ifCond .ne 15, 3) := by decide +kernel
theorem dL_law_4390 : decode cL_law 4390 = .ok (.aload_n 3, 1) := by decide +kernel
theorem dL_law_4391 : decode cL_law 4391 = .ok (.iconst 0, 1) := by decide +kernel
theorem dL_law_4392 : decode cL_law 4392 = .ok (.laload, 1) := by decide +kernel
theorem dL_law_4393 : decode cL_law 4393 = .ok (.iload 6, 2) := by decide +kernel
theorem dL_law_4395 : decode cL_law 4395 = .ok (.i2l, 1) := by decide +kernel
theorem dL_law_4396 : decode cL_law 4396 = .ok (.lcmp, 1) := by decide +kernel
theorem dL_law_4397 : decode cL_law 4397 = .ok (.ifCond .eq 5, 3) := by decide +kernel
theorem dL_law_4402 : decode cL_law 4402 = .ok (.goto 59, 3) := by decide +kernel
theorem dL_law_4405 : decode cL_law 4405 = .ok (.aload_n 1, 1) := by decide +kernel
theorem dL_law_4406 : decode cL_law 4406 = .ok (.aload_n 0, 1) := by decide +kernel
theorem dL_law_4407 : decode cL_law 4407 = .ok (.iload 4, 2) := by decide +kernel
theorem dL_law_4409 : decode cL_law 4409 = .ok (.iconst 1, 1) := by decide +kernel
theorem dL_law_4410 : decode cL_law 4410 = .ok (.iadd, 1) := by decide +kernel
theorem dL_law_4411 : decode cL_law 4411 = .ok (.iaload, 1) := by decide +kernel
theorem dL_law_4412 : decode cL_law 4412 = .ok (.aload_n 3, 1) := by decide +kernel
theorem dL_law_4413 : decode cL_law 4413 = .ok (.invokestatic 487, 3) := by decide +kernel
theorem dL_law_4416 : decode cL_law 4416 = .ok (.istore 5, 2) := by decide +kernel
theorem dL_law_4418 : decode cL_law 4418 = .ok (.aload_n 2, 1) := by decide +kernel
theorem dL_law_4419 : decode cL_law 4419 = .ok (.aload_n 0, 1) := by decide +kernel
theorem dL_law_4420 : decode cL_law 4420 = .ok (.iload 4, 2) := by decide +kernel
theorem dL_law_4422 : decode cL_law 4422 = .ok (.iconst 1, 1) := by decide +kernel
theorem dL_law_4423 : decode cL_law 4423 = .ok (.iadd, 1) := by decide +kernel
theorem dL_law_4424 : decode cL_law 4424 = .ok (.iaload, 1) := by decide +kernel
theorem dL_law_4425 : decode cL_law 4425 = .ok (.invokevirtual 489, 3) := by decide +kernel
theorem dL_law_4428 : decode cL_law 4428 = .ok (.istore 6, 2) := by decide +kernel
theorem dL_law_4430 : decode cL_law 4430 = .ok (.aload_n 2, 1) := by decide +kernel
theorem dL_law_4431 : decode cL_law 4431 = .ok (.invokevirtual 216, 3) := by decide +kernel
theorem dL_law_4434 : decode cL_law 4434 = .ok (.iload 5, 2) := by decide +kernel
theorem dL_law_4436 : decode cL_law 4436 = .ok (.if_icmp .eq 5, 3) := by decide +kernel
theorem dL_law_4441 : decode cL_law 4441 = .ok (.iload 5, 2) := by decide +kernel
theorem dL_law_4443 : decode cL_law 4443 = .ok (.ifCond .ne 15, 3) := by decide +kernel
theorem dL_law_4446 : decode cL_law 4446 = .ok (.aload_n 3, 1) := by decide +kernel
theorem dL_law_4447 : decode cL_law 4447 = .ok (.iconst 0, 1) := by decide +kernel
theorem dL_law_4448 : decode cL_law 4448 = .ok (.laload, 1) := by decide +kernel
theorem dL_law_4449 : decode cL_law 4449 = .ok (.iload 6, 2) := by decide +kernel
theorem dL_law_4451 : decode cL_law 4451 = .ok (.i2l, 1) := by decide +kernel
theorem dL_law_4452 : decode cL_law 4452 = .ok (.lcmp, 1) := by decide +kernel
theorem dL_law_4453 : decode cL_law 4453 = .ok (.ifCond .eq 5, 3) := by decide +kernel
theorem dL_law_4458 : decode cL_law 4458 = .ok (.goto 3, 3) := by decide +kernel
section CASE6
variable {p : Program} {l : Launch} {e : Env} {s : State} {m : MethodId} {args : Array Value} {below : List Frame} {meth : Method} {c : Code} {cells slots : Nat} {Q : State → Prop}
variable {D : va_G} {cA : Nat → ClassId} {ad : Nat → Nat → Nat} {A AC AM : Nat → Prop} {ob : Nat} {cO : ClassId}
variable {mc mm : Mm} {v : Int64} {b L i a s0 : Nat} {xs : Nat → Int32}
set_option maxRecDepth 100000 in
set_option maxHeartbeats 4000000 in
theorem case_72 (C : LC p l s m args c D cA ad A AC AM ob cO b L xs) (h : Hy a s0 mc mm (Rel (a + 400000) (s0 + 64))) (hi : i + 4 < L) (hroom : cells + 2 ≤ room_1.cells ∧ slots + 12 ≤ room_1.slots) (kk : ∀ (mc' mm' : Mm) (v' : Int64), Rel (a + 400000) (s0 + 64) mc' mm' → V p l e room_1 s m args below meth c Q 9 A (cells + 2) (slots + 12) (PL D cA ad ob cO mc' mm' v') 4461 (lvL ad ob b i) []) : V p l e room_1 s m args below meth c Q 9 A cells slots (PL D cA ad ob cO mc mm v) 4029 (lvL ad ob b i) [] := by
  have C0 := C
  obtain ⟨X, hA, hW, hZ, hX, hb1, hst, hL⟩ := C
  have hroom0 : cells ≤ room_1.cells ∧ slots ≤ room_1.slots := ⟨by omega, by omega⟩
  refine q_aload_n (j := 3) X dL_law_4029 rfl rfl ?_
  refine qL_arg C0 1 (j0 := 4) (j4 := 0) rfl (by decide) dL_law_4030 dL_law_4031 dL_law_4033 dL_law_4034 dL_law_4035 rfl rfl hi ?_
  refine q_aload_n (j := 1) X dL_law_4036 rfl rfl ?_
  refine qL_w X hA hW hZ [.ref (ad 0 1), .int (xs (i + 1)), .ref ob] rfl rfl dL_law_4037 hroom (k_L_cheapestEntry hA.1 hA.2.2.1.1 hst (xs (i + 1)) mc v _ _ (J_cheapestEntry (K := Rel (a + 400000) (s0 + 64)) h.1 (fun m1 m2 h9 => h.2.2.2 m1 m2 (h9.mono (by omega) (by omega) h.2.2.1)) (xs (i + 1))) (fun _ _ hx => hx.1)) rfl rfl (gSW kw_6_126 kw_6_127 kw_1_0 kw_6_128) hy_L_cheapestEntry ⟨(Nat.le_of_ble_eq_true rfl), (Nat.le_of_ble_eq_true rfl)⟩ (fun k mc' v' hq => ?_)
  refine q_istore X dL_law_4040 (Nat.le_of_ble_eq_true rfl) rfl ?_
  refine q_aload_n (j := 3) X dL_law_4042 rfl rfl ?_
  refine qL_arg C0 1 (j0 := 5) (j4 := 1) rfl (by decide) dL_law_4043 dL_law_4044 dL_law_4046 dL_law_4047 dL_law_4048 rfl rfl hi ?_
  have hroom1 : cells + 2 ≤ room_1.cells ∧ slots + 12 ≤ room_1.slots := hroom
  rcases hq with ⟨rfl, r, rfl, hj⟩ | ⟨hk0, k0, hk, hj⟩
  · skip
    unfold jq at hj
    refine qL_m X hA hW [.int (xs (i + 1))] [] rfl rfl (Nat.le_of_ble_eq_true rfl) dL_law_4049 hroom1 (c_X10_cheapestEntry hA.2.1 (xs (i + 1)) mm _ hj) rfl rfl (gV kw_9_111 kw_9_112 kw_9_113 kw_1_11 kw_9_114) hy_X10_cheapestEntry ⟨(Nat.le_of_ble_eq_true rfl), (Nat.le_of_ble_eq_true rfl)⟩ (fun b9 mm9 hb => ?_)
    obtain ⟨h1, rfl, hK⟩ := hb
    refine q_istore X dL_law_4052 (Nat.le_of_ble_eq_true rfl) rfl ?_
    exact tailI C0 hroom1 ⟨(Nat.le_of_ble_eq_true rfl), (Nat.le_of_ble_eq_true rfl)⟩ h1 (fun _ => rfl) dL_law_4054 dL_law_4055 dL_law_4058 dL_law_4060 dL_law_4065 dL_law_4067 dL_law_4070 dL_law_4071 dL_law_4072 dL_law_4073 dL_law_4075 dL_law_4076 dL_law_4077 dL_law_4082 (by decide) (kk _ _ _ hK)
  · obtain ⟨_, hj⟩ := hj
    unfold jx at hj
    refine qL_m X hA hW [.int (xs (i + 1))] [] rfl rfl (Nat.le_of_ble_eq_true rfl) dL_law_4049 hroom1 (c_X10_cheapestEntry hA.2.1 (xs (i + 1)) mm _ hj) rfl rfl (gV kw_9_111 kw_9_112 kw_9_113 kw_1_11 kw_9_114) hy_X10_cheapestEntry ⟨(Nat.le_of_ble_eq_true rfl), (Nat.le_of_ble_eq_true rfl)⟩ (fun b9 mm9 hb => ?_)
    obtain ⟨h1, hK⟩ := hb
    refine q_istore X dL_law_4052 (Nat.le_of_ble_eq_true rfl) rfl ?_
    exact tailI C0 hroom1 ⟨(Nat.le_of_ble_eq_true rfl), (Nat.le_of_ble_eq_true rfl)⟩ (h1.trans hk.symm) (fun h0 => absurd h0 hk0) dL_law_4054 dL_law_4055 dL_law_4058 dL_law_4060 dL_law_4065 dL_law_4067 dL_law_4070 dL_law_4071 dL_law_4072 dL_law_4073 dL_law_4075 dL_law_4076 dL_law_4077 dL_law_4082 (by decide) (kk _ _ _ hK)
set_option maxRecDepth 100000 in
set_option maxHeartbeats 4000000 in
theorem case_73 (C : LC p l s m args c D cA ad A AC AM ob cO b L xs) (h : Hy a s0 mc mm (Rel (a + 400000) (s0 + 64))) (hi : i + 4 < L) (hroom : cells + 2 ≤ room_1.cells ∧ slots + 12 ≤ room_1.slots) (kk : ∀ (mc' mm' : Mm) (v' : Int64), Rel (a + 400000) (s0 + 64) mc' mm' → V p l e room_1 s m args below meth c Q 9 A (cells + 2) (slots + 12) (PL D cA ad ob cO mc' mm' v') 4461 (lvL ad ob b i) []) : V p l e room_1 s m args below meth c Q 9 A cells slots (PL D cA ad ob cO mc mm v) 4085 (lvL ad ob b i) [] := by
  have C0 := C
  obtain ⟨X, hA, hW, hZ, hX, hb1, hst, hL⟩ := C
  have hroom0 : cells ≤ room_1.cells ∧ slots ≤ room_1.slots := ⟨by omega, by omega⟩
  refine q_aload_n (j := 3) X dL_law_4085 rfl rfl ?_
  refine qL_arg C0 1 (j0 := 4) (j4 := 0) rfl (by decide) dL_law_4086 dL_law_4087 dL_law_4089 dL_law_4090 dL_law_4091 rfl rfl hi ?_
  refine qL_arg C0 2 (j0 := 4) (j4 := 0) rfl (by decide) dL_law_4092 dL_law_4093 dL_law_4095 dL_law_4096 dL_law_4097 rfl rfl hi ?_
  refine q_aload_n (j := 1) X dL_law_4098 rfl rfl ?_
  refine qL_w X hA hW hZ [.ref (ad 0 1), .int (xs (i + 1)), .int (xs (i + 2)), .ref ob] rfl rfl dL_law_4099 hroom (k_L_dutyFromCheapest hA.1 hA.2.2.1.1 hst (xs (i + 1)) (xs (i + 2)) mc v _ _ (J_dutyFromCheapest (K := Rel (a + 400000) (s0 + 64)) h.1 (fun m1 m2 h9 => h.2.2.2 m1 m2 (h9.mono (by omega) (by omega) h.2.2.1)) (xs (i + 1)) (xs (i + 2))) (fun _ _ hx => hx.1)) rfl rfl (gSW kw_6_142 kw_6_143 kw_1_0 kw_6_144) hy_L_dutyFromCheapest ⟨(Nat.le_of_ble_eq_true rfl), (Nat.le_of_ble_eq_true rfl)⟩ (fun k mc' v' hq => ?_)
  refine q_istore X dL_law_4102 (Nat.le_of_ble_eq_true rfl) rfl ?_
  refine q_aload_n (j := 3) X dL_law_4104 rfl rfl ?_
  refine qL_arg C0 1 (j0 := 5) (j4 := 1) rfl (by decide) dL_law_4105 dL_law_4106 dL_law_4108 dL_law_4109 dL_law_4110 rfl rfl hi ?_
  refine qL_arg C0 2 (j0 := 5) (j4 := 1) rfl (by decide) dL_law_4111 dL_law_4112 dL_law_4114 dL_law_4115 dL_law_4116 rfl rfl hi ?_
  have hroom1 : cells + 2 ≤ room_1.cells ∧ slots + 12 ≤ room_1.slots := hroom
  rcases hq with ⟨rfl, r, rfl, hj⟩ | ⟨hk0, k0, hk, hj⟩
  · skip
    unfold jq at hj
    refine qL_m X hA hW [.int (xs (i + 1)), .int (xs (i + 2))] [] rfl rfl (Nat.le_of_ble_eq_true rfl) dL_law_4117 hroom1 (c_X10_dutyFromCheapest hA.2.1 (xs (i + 1)) (xs (i + 2)) mm _ hj) rfl rfl (gV kw_9_123 kw_9_124 kw_9_125 kw_1_11 kw_9_126) hy_X10_dutyFromCheapest ⟨(Nat.le_of_ble_eq_true rfl), (Nat.le_of_ble_eq_true rfl)⟩ (fun b9 mm9 hb => ?_)
    obtain ⟨h1, rfl, hK⟩ := hb
    refine q_istore X dL_law_4120 (Nat.le_of_ble_eq_true rfl) rfl ?_
    exact tailI C0 hroom1 ⟨(Nat.le_of_ble_eq_true rfl), (Nat.le_of_ble_eq_true rfl)⟩ h1 (fun _ => rfl) dL_law_4122 dL_law_4123 dL_law_4126 dL_law_4128 dL_law_4133 dL_law_4135 dL_law_4138 dL_law_4139 dL_law_4140 dL_law_4141 dL_law_4143 dL_law_4144 dL_law_4145 dL_law_4150 (by decide) (kk _ _ _ hK)
  · obtain ⟨_, hj⟩ := hj
    unfold jx at hj
    refine qL_m X hA hW [.int (xs (i + 1)), .int (xs (i + 2))] [] rfl rfl (Nat.le_of_ble_eq_true rfl) dL_law_4117 hroom1 (c_X10_dutyFromCheapest hA.2.1 (xs (i + 1)) (xs (i + 2)) mm _ hj) rfl rfl (gV kw_9_123 kw_9_124 kw_9_125 kw_1_11 kw_9_126) hy_X10_dutyFromCheapest ⟨(Nat.le_of_ble_eq_true rfl), (Nat.le_of_ble_eq_true rfl)⟩ (fun b9 mm9 hb => ?_)
    obtain ⟨h1, hK⟩ := hb
    refine q_istore X dL_law_4120 (Nat.le_of_ble_eq_true rfl) rfl ?_
    exact tailI C0 hroom1 ⟨(Nat.le_of_ble_eq_true rfl), (Nat.le_of_ble_eq_true rfl)⟩ (h1.trans hk.symm) (fun h0 => absurd h0 hk0) dL_law_4122 dL_law_4123 dL_law_4126 dL_law_4128 dL_law_4133 dL_law_4135 dL_law_4138 dL_law_4139 dL_law_4140 dL_law_4141 dL_law_4143 dL_law_4144 dL_law_4145 dL_law_4150 (by decide) (kk _ _ _ hK)
set_option maxRecDepth 100000 in
set_option maxHeartbeats 4000000 in
theorem case_74 (C : LC p l s m args c D cA ad A AC AM ob cO b L xs) (h : Hy a s0 mc mm (Rel (a + 400000) (s0 + 64))) (hi : i + 4 < L) (hroom : cells + 2 ≤ room_1.cells ∧ slots + 12 ≤ room_1.slots) (kk : ∀ (mc' mm' : Mm) (v' : Int64), Rel (a + 400000) (s0 + 64) mc' mm' → V p l e room_1 s m args below meth c Q 9 A (cells + 2) (slots + 12) (PL D cA ad ob cO mc' mm' v') 4461 (lvL ad ob b i) []) : V p l e room_1 s m args below meth c Q 9 A cells slots (PL D cA ad ob cO mc mm v) 4153 (lvL ad ob b i) [] := by
  have C0 := C
  obtain ⟨X, hA, hW, hZ, hX, hb1, hst, hL⟩ := C
  have hroom0 : cells ≤ room_1.cells ∧ slots ≤ room_1.slots := ⟨by omega, by omega⟩
  refine q_aload_n (j := 3) X dL_law_4153 rfl rfl ?_
  refine qL_c X hA hW hZ [] [] rfl rfl (Nat.le_of_ble_eq_true rfl) dL_law_4154 hroom0 (c_X9_dearestEntry hA.1  mc _ (J_dearestEntry (K := Rel (a + 400000) (s0 + 64)) h.1 (fun m1 v9 h9 => h.2.2.2 m1 _ ((h9.ref v9).mono (by omega) (by omega) h.2.2.1)))) rfl rfl (gV kw_2_228 kw_2_229 kw_2_230 kw_1_1 kw_2_231) hy_X9_dearestEntry ⟨(Nat.le_of_ble_eq_true rfl), (Nat.le_of_ble_eq_true rfl)⟩ (fun r mc' hj => ?_)
  unfold jn at hj
  refine q_aload_n (j := 2) X dL_law_4157 rfl rfl ?_
  refine qL_m X hA hW [] [.int r] rfl rfl (Nat.le_of_ble_eq_true rfl) dL_law_4158 hroom0 (c_X10_dearestEntry hA.2.1  mm _ hj) rfl rfl (gV kw_9_127 kw_9_128 kw_9_129 kw_1_11 kw_9_130) hy_X10_dearestEntry ⟨(Nat.le_of_ble_eq_true rfl), (Nat.le_of_ble_eq_true rfl)⟩ (fun b9 mm9 hb => ?_)
  obtain ⟨rfl, hK⟩ := hb
  refine q_icmp_eq X dL_law_4161 (tgt := 4461) (by decide) (fun _ => ?_) (fun h9 => absurd rfl h9)
  exact q_w (Nat.le_add_right _ _) (Nat.le_add_right _ _) (kk _ _ _ hK)
set_option maxRecDepth 100000 in
set_option maxHeartbeats 4000000 in
theorem case_75 (C : LC p l s m args c D cA ad A AC AM ob cO b L xs) (h : Hy a s0 mc mm (Rel (a + 400000) (s0 + 64))) (hi : i + 4 < L) (hroom : cells + 2 ≤ room_1.cells ∧ slots + 12 ≤ room_1.slots) (kk : ∀ (mc' mm' : Mm) (v' : Int64), Rel (a + 400000) (s0 + 64) mc' mm' → V p l e room_1 s m args below meth c Q 9 A (cells + 2) (slots + 12) (PL D cA ad ob cO mc' mm' v') 4461 (lvL ad ob b i) []) : V p l e room_1 s m args below meth c Q 9 A cells slots (PL D cA ad ob cO mc mm v) 4166 (lvL ad ob b i) [] := by
  have C0 := C
  obtain ⟨X, hA, hW, hZ, hX, hb1, hst, hL⟩ := C
  have hroom0 : cells ≤ room_1.cells ∧ slots ≤ room_1.slots := ⟨by omega, by omega⟩
  refine q_aload_n (j := 3) X dL_law_4166 rfl rfl ?_
  refine qL_arg C0 1 (j0 := 4) (j4 := 0) rfl (by decide) dL_law_4167 dL_law_4168 dL_law_4170 dL_law_4171 dL_law_4172 rfl rfl hi ?_
  refine q_aload_n (j := 1) X dL_law_4173 rfl rfl ?_
  refine qL_w X hA hW hZ [.ref (ad 0 1), .int (xs (i + 1)), .ref ob] rfl rfl dL_law_4174 hroom (k_L_append hA.1 hA.2.2.1.1 hst (xs (i + 1)) mc v _ _ (J_append h (xs (i + 1))) (fun _ _ hx => hx.1)) rfl rfl (gSW kw_6_155 kw_6_156 kw_1_0 kw_6_157) hy_L_append ⟨(Nat.le_of_ble_eq_true rfl), (Nat.le_of_ble_eq_true rfl)⟩ (fun k mc' v' hq => ?_)
  refine q_istore X dL_law_4177 (Nat.le_of_ble_eq_true rfl) rfl ?_
  refine q_aload_n (j := 3) X dL_law_4179 rfl rfl ?_
  refine qL_arg C0 1 (j0 := 5) (j4 := 1) rfl (by decide) dL_law_4180 dL_law_4181 dL_law_4183 dL_law_4184 dL_law_4185 rfl rfl hi ?_
  have hroom1 : cells + 2 ≤ room_1.cells ∧ slots + 12 ≤ room_1.slots := hroom
  rcases hq with ⟨rfl, r, rfl, hj⟩ | ⟨hk0, k0, hk, hj⟩
  · skip
    unfold jq at hj
    refine qL_m X hA hW [.int (xs (i + 1))] [] rfl rfl (Nat.le_of_ble_eq_true rfl) dL_law_4186 hroom1 (c_X10_append hA.2.1 (xs (i + 1)) mm _ hj) rfl rfl (gV kw_9_131 kw_9_132 kw_9_133 kw_1_11 kw_9_134) hy_X10_append ⟨(Nat.le_of_ble_eq_true rfl), (Nat.le_of_ble_eq_true rfl)⟩ (fun b9 mm9 hb => ?_)
    obtain ⟨h1, rfl, hK⟩ := hb
    refine q_istore X dL_law_4189 (Nat.le_of_ble_eq_true rfl) rfl ?_
    exact tailI C0 hroom1 ⟨(Nat.le_of_ble_eq_true rfl), (Nat.le_of_ble_eq_true rfl)⟩ h1 (fun _ => rfl) dL_law_4191 dL_law_4192 dL_law_4195 dL_law_4197 dL_law_4202 dL_law_4204 dL_law_4207 dL_law_4208 dL_law_4209 dL_law_4210 dL_law_4212 dL_law_4213 dL_law_4214 dL_law_4219 (by decide) (kk _ _ _ hK)
  · obtain ⟨_, hj⟩ := hj
    unfold jx at hj
    refine qL_m X hA hW [.int (xs (i + 1))] [] rfl rfl (Nat.le_of_ble_eq_true rfl) dL_law_4186 hroom1 (c_X10_append hA.2.1 (xs (i + 1)) mm _ hj) rfl rfl (gV kw_9_131 kw_9_132 kw_9_133 kw_1_11 kw_9_134) hy_X10_append ⟨(Nat.le_of_ble_eq_true rfl), (Nat.le_of_ble_eq_true rfl)⟩ (fun b9 mm9 hb => ?_)
    obtain ⟨h1, hK⟩ := hb
    refine q_istore X dL_law_4189 (Nat.le_of_ble_eq_true rfl) rfl ?_
    exact tailI C0 hroom1 ⟨(Nat.le_of_ble_eq_true rfl), (Nat.le_of_ble_eq_true rfl)⟩ (h1.trans hk.symm) (fun h0 => absurd h0 hk0) dL_law_4191 dL_law_4192 dL_law_4195 dL_law_4197 dL_law_4202 dL_law_4204 dL_law_4207 dL_law_4208 dL_law_4209 dL_law_4210 dL_law_4212 dL_law_4213 dL_law_4214 dL_law_4219 (by decide) (kk _ _ _ hK)
set_option maxRecDepth 100000 in
set_option maxHeartbeats 4000000 in
theorem case_76 (C : LC p l s m args c D cA ad A AC AM ob cO b L xs) (h : Hy a s0 mc mm (Rel (a + 400000) (s0 + 64))) (hi : i + 4 < L) (hroom : cells + 2 ≤ room_1.cells ∧ slots + 12 ≤ room_1.slots) (kk : ∀ (mc' mm' : Mm) (v' : Int64), Rel (a + 400000) (s0 + 64) mc' mm' → V p l e room_1 s m args below meth c Q 9 A (cells + 2) (slots + 12) (PL D cA ad ob cO mc' mm' v') 4461 (lvL ad ob b i) []) : V p l e room_1 s m args below meth c Q 9 A cells slots (PL D cA ad ob cO mc mm v) 4222 (lvL ad ob b i) [] := by
  have C0 := C
  obtain ⟨X, hA, hW, hZ, hX, hb1, hst, hL⟩ := C
  have hroom0 : cells ≤ room_1.cells ∧ slots ≤ room_1.slots := ⟨by omega, by omega⟩
  refine q_aload_n (j := 3) X dL_law_4222 rfl rfl ?_
  refine qL_c X hA hW hZ [] [] rfl rfl (Nat.le_of_ble_eq_true rfl) dL_law_4223 hroom0 (c_X9_clearText hA.1  mc _ (J_clearText h )) rfl rfl (gV kw_3_0 kw_3_1 kw_3_2 kw_1_1 kw_3_3) hy_X9_clearText ⟨(Nat.le_of_ble_eq_true rfl), (Nat.le_of_ble_eq_true rfl)⟩ (fun r mc' hj => ?_)
  unfold jn at hj
  refine q_aload_n (j := 2) X dL_law_4226 rfl rfl ?_
  refine qL_m X hA hW [] [.int r] rfl rfl (Nat.le_of_ble_eq_true rfl) dL_law_4227 hroom0 (c_X10_clearText hA.2.1  mm _ hj) rfl rfl (gV kw_9_137 kw_9_138 kw_9_139 kw_1_11 kw_9_140) hy_X10_clearText ⟨(Nat.le_of_ble_eq_true rfl), (Nat.le_of_ble_eq_true rfl)⟩ (fun b9 mm9 hb => ?_)
  obtain ⟨rfl, hK⟩ := hb
  refine q_icmp_eq X dL_law_4230 (tgt := 4461) (by decide) (fun _ => ?_) (fun h9 => absurd rfl h9)
  exact q_w (Nat.le_add_right _ _) (Nat.le_add_right _ _) (kk _ _ _ hK)
set_option maxRecDepth 100000 in
set_option maxHeartbeats 4000000 in
theorem case_77 (C : LC p l s m args c D cA ad A AC AM ob cO b L xs) (h : Hy a s0 mc mm (Rel (a + 400000) (s0 + 64))) (hi : i + 4 < L) (hroom : cells + 2 ≤ room_1.cells ∧ slots + 12 ≤ room_1.slots) (kk : ∀ (mc' mm' : Mm) (v' : Int64), Rel (a + 400000) (s0 + 64) mc' mm' → V p l e room_1 s m args below meth c Q 9 A (cells + 2) (slots + 12) (PL D cA ad ob cO mc' mm' v') 4461 (lvL ad ob b i) []) : V p l e room_1 s m args below meth c Q 9 A cells slots (PL D cA ad ob cO mc mm v) 4235 (lvL ad ob b i) [] := by
  have C0 := C
  obtain ⟨X, hA, hW, hZ, hX, hb1, hst, hL⟩ := C
  have hroom0 : cells ≤ room_1.cells ∧ slots ≤ room_1.slots := ⟨by omega, by omega⟩
  refine q_aload_n (j := 3) X dL_law_4235 rfl rfl ?_
  refine qL_c X hA hW hZ [] [] rfl rfl (Nat.le_of_ble_eq_true rfl) dL_law_4236 hroom0 (c_X9_firstError hA.1  mc _ (J_firstError h )) rfl rfl (gV kw_3_8 kw_3_9 kw_3_10 kw_1_1 kw_3_11) hy_X9_firstError ⟨(Nat.le_of_ble_eq_true rfl), (Nat.le_of_ble_eq_true rfl)⟩ (fun r mc' hj => ?_)
  unfold jn at hj
  refine q_aload_n (j := 2) X dL_law_4239 rfl rfl ?_
  refine qL_m X hA hW [] [.int r] rfl rfl (Nat.le_of_ble_eq_true rfl) dL_law_4240 hroom0 (c_X10_firstError hA.2.1  mm _ hj) rfl rfl (gV kw_9_141 kw_9_142 kw_9_143 kw_1_11 kw_9_144) hy_X10_firstError ⟨(Nat.le_of_ble_eq_true rfl), (Nat.le_of_ble_eq_true rfl)⟩ (fun b9 mm9 hb => ?_)
  obtain ⟨rfl, hK⟩ := hb
  refine q_icmp_eq X dL_law_4243 (tgt := 4461) (by decide) (fun _ => ?_) (fun h9 => absurd rfl h9)
  exact q_w (Nat.le_add_right _ _) (Nat.le_add_right _ _) (kk _ _ _ hK)
set_option maxRecDepth 100000 in
set_option maxHeartbeats 4000000 in
theorem case_78 (C : LC p l s m args c D cA ad A AC AM ob cO b L xs) (h : Hy a s0 mc mm (Rel (a + 400000) (s0 + 64))) (hi : i + 4 < L) (hroom : cells + 2 ≤ room_1.cells ∧ slots + 12 ≤ room_1.slots) (kk : ∀ (mc' mm' : Mm) (v' : Int64), Rel (a + 400000) (s0 + 64) mc' mm' → V p l e room_1 s m args below meth c Q 9 A (cells + 2) (slots + 12) (PL D cA ad ob cO mc' mm' v') 4461 (lvL ad ob b i) []) : V p l e room_1 s m args below meth c Q 9 A cells slots (PL D cA ad ob cO mc mm v) 4248 (lvL ad ob b i) [] := by
  have C0 := C
  obtain ⟨X, hA, hW, hZ, hX, hb1, hst, hL⟩ := C
  have hroom0 : cells ≤ room_1.cells ∧ slots ≤ room_1.slots := ⟨by omega, by omega⟩
  refine q_aload_n (j := 3) X dL_law_4248 rfl rfl ?_
  refine q_aload_n (j := 1) X dL_law_4249 rfl rfl ?_
  refine qL_w X hA hW hZ [.ref (ad 0 1), .ref ob] rfl rfl dL_law_4250 hroom (k_L_run hA.1 hA.2.2.1.1 hst  mc v _ _ (J_run h ) (fun _ _ hx => hx.1)) rfl rfl (gSW kw_6_167 kw_6_168 kw_1_0 kw_6_169) hy_L_run ⟨(Nat.le_of_ble_eq_true rfl), (Nat.le_of_ble_eq_true rfl)⟩ (fun k mc' v' hq => ?_)
  refine q_istore X dL_law_4253 (Nat.le_of_ble_eq_true rfl) rfl ?_
  refine q_aload_n (j := 3) X dL_law_4255 rfl rfl ?_
  have hroom1 : cells + 2 ≤ room_1.cells ∧ slots + 12 ≤ room_1.slots := hroom
  rcases hq with ⟨rfl, r, rfl, hj⟩ | ⟨hk0, k0, hk, hj⟩
  · skip
    unfold jq at hj
    refine qL_m X hA hW [] [] rfl rfl (Nat.le_of_ble_eq_true rfl) dL_law_4256 hroom1 (c_X10_run hA.2.1  mm _ hj) rfl rfl (gV kw_9_182 kw_9_183 kw_9_184 kw_1_11 kw_9_185) hy_X10_run ⟨(Nat.le_of_ble_eq_true rfl), (Nat.le_of_ble_eq_true rfl)⟩ (fun b9 mm9 hb => ?_)
    obtain ⟨h1, rfl, hK⟩ := hb
    refine q_istore X dL_law_4259 (Nat.le_of_ble_eq_true rfl) rfl ?_
    exact tailI C0 hroom1 ⟨(Nat.le_of_ble_eq_true rfl), (Nat.le_of_ble_eq_true rfl)⟩ h1 (fun _ => rfl) dL_law_4261 dL_law_4262 dL_law_4265 dL_law_4267 dL_law_4272 dL_law_4274 dL_law_4277 dL_law_4278 dL_law_4279 dL_law_4280 dL_law_4282 dL_law_4283 dL_law_4284 dL_law_4289 (by decide) (kk _ _ _ hK)
  · obtain ⟨_, hj⟩ := hj
    unfold jx at hj
    refine qL_m X hA hW [] [] rfl rfl (Nat.le_of_ble_eq_true rfl) dL_law_4256 hroom1 (c_X10_run hA.2.1  mm _ hj) rfl rfl (gV kw_9_182 kw_9_183 kw_9_184 kw_1_11 kw_9_185) hy_X10_run ⟨(Nat.le_of_ble_eq_true rfl), (Nat.le_of_ble_eq_true rfl)⟩ (fun b9 mm9 hb => ?_)
    obtain ⟨h1, hK⟩ := hb
    refine q_istore X dL_law_4259 (Nat.le_of_ble_eq_true rfl) rfl ?_
    exact tailI C0 hroom1 ⟨(Nat.le_of_ble_eq_true rfl), (Nat.le_of_ble_eq_true rfl)⟩ (h1.trans hk.symm) (fun h0 => absurd h0 hk0) dL_law_4261 dL_law_4262 dL_law_4265 dL_law_4267 dL_law_4272 dL_law_4274 dL_law_4277 dL_law_4278 dL_law_4279 dL_law_4280 dL_law_4282 dL_law_4283 dL_law_4284 dL_law_4289 (by decide) (kk _ _ _ hK)
set_option maxRecDepth 100000 in
set_option maxHeartbeats 4000000 in
theorem case_79 (C : LC p l s m args c D cA ad A AC AM ob cO b L xs) (h : Hy a s0 mc mm (Rel (a + 400000) (s0 + 64))) (hi : i + 4 < L) (hroom : cells + 2 ≤ room_1.cells ∧ slots + 12 ≤ room_1.slots) (kk : ∀ (mc' mm' : Mm) (v' : Int64), Rel (a + 400000) (s0 + 64) mc' mm' → V p l e room_1 s m args below meth c Q 9 A (cells + 2) (slots + 12) (PL D cA ad ob cO mc' mm' v') 4461 (lvL ad ob b i) []) : V p l e room_1 s m args below meth c Q 9 A cells slots (PL D cA ad ob cO mc mm v) 4292 (lvL ad ob b i) [] := by
  have C0 := C
  obtain ⟨X, hA, hW, hZ, hX, hb1, hst, hL⟩ := C
  have hroom0 : cells ≤ room_1.cells ∧ slots ≤ room_1.slots := ⟨by omega, by omega⟩
  refine q_aload_n (j := 3) X dL_law_4292 rfl rfl ?_
  refine q_aload_n (j := 1) X dL_law_4293 rfl rfl ?_
  refine qL_w X hA hW hZ [.ref (ad 0 1), .ref ob] rfl rfl dL_law_4294 hroom (k_L_undo hA.1 hA.2.2.1.1 hst  mc v _ _ (J_undo h ) (fun _ _ hx => hx.1)) rfl rfl (gSW kw_6_205 kw_6_206 kw_1_0 kw_6_207) hy_L_undo ⟨(Nat.le_of_ble_eq_true rfl), (Nat.le_of_ble_eq_true rfl)⟩ (fun k mc' v' hq => ?_)
  refine q_istore X dL_law_4297 (Nat.le_of_ble_eq_true rfl) rfl ?_
  refine q_aload_n (j := 3) X dL_law_4299 rfl rfl ?_
  have hroom1 : cells + 2 ≤ room_1.cells ∧ slots + 12 ≤ room_1.slots := hroom
  rcases hq with ⟨rfl, r, rfl, hj⟩ | ⟨hk0, k0, hk, hj⟩
  · skip
    unfold jq at hj
    refine qL_m X hA hW [] [] rfl rfl (Nat.le_of_ble_eq_true rfl) dL_law_4300 hroom1 (c_X10_undo hA.2.1  mm _ hj) rfl rfl (gV kw_9_186 kw_9_187 kw_9_188 kw_1_11 kw_9_189) hy_X10_undo ⟨(Nat.le_of_ble_eq_true rfl), (Nat.le_of_ble_eq_true rfl)⟩ (fun b9 mm9 hb => ?_)
    obtain ⟨h1, rfl, hK⟩ := hb
    refine q_istore X dL_law_4303 (Nat.le_of_ble_eq_true rfl) rfl ?_
    exact tailI C0 hroom1 ⟨(Nat.le_of_ble_eq_true rfl), (Nat.le_of_ble_eq_true rfl)⟩ h1 (fun _ => rfl) dL_law_4305 dL_law_4306 dL_law_4309 dL_law_4311 dL_law_4316 dL_law_4318 dL_law_4321 dL_law_4322 dL_law_4323 dL_law_4324 dL_law_4326 dL_law_4327 dL_law_4328 dL_law_4333 (by decide) (kk _ _ _ hK)
  · obtain ⟨_, hj⟩ := hj
    unfold jx at hj
    refine qL_m X hA hW [] [] rfl rfl (Nat.le_of_ble_eq_true rfl) dL_law_4300 hroom1 (c_X10_undo hA.2.1  mm _ hj) rfl rfl (gV kw_9_186 kw_9_187 kw_9_188 kw_1_11 kw_9_189) hy_X10_undo ⟨(Nat.le_of_ble_eq_true rfl), (Nat.le_of_ble_eq_true rfl)⟩ (fun b9 mm9 hb => ?_)
    obtain ⟨h1, hK⟩ := hb
    refine q_istore X dL_law_4303 (Nat.le_of_ble_eq_true rfl) rfl ?_
    exact tailI C0 hroom1 ⟨(Nat.le_of_ble_eq_true rfl), (Nat.le_of_ble_eq_true rfl)⟩ (h1.trans hk.symm) (fun h0 => absurd h0 hk0) dL_law_4305 dL_law_4306 dL_law_4309 dL_law_4311 dL_law_4316 dL_law_4318 dL_law_4321 dL_law_4322 dL_law_4323 dL_law_4324 dL_law_4326 dL_law_4327 dL_law_4328 dL_law_4333 (by decide) (kk _ _ _ hK)
set_option maxRecDepth 100000 in
set_option maxHeartbeats 4000000 in
theorem case_80 (C : LC p l s m args c D cA ad A AC AM ob cO b L xs) (h : Hy a s0 mc mm (Rel (a + 400000) (s0 + 64))) (hi : i + 4 < L) (hroom : cells + 2 ≤ room_1.cells ∧ slots + 12 ≤ room_1.slots) (kk : ∀ (mc' mm' : Mm) (v' : Int64), Rel (a + 400000) (s0 + 64) mc' mm' → V p l e room_1 s m args below meth c Q 9 A (cells + 2) (slots + 12) (PL D cA ad ob cO mc' mm' v') 4461 (lvL ad ob b i) []) : V p l e room_1 s m args below meth c Q 9 A cells slots (PL D cA ad ob cO mc mm v) 4336 (lvL ad ob b i) [] := by
  have C0 := C
  obtain ⟨X, hA, hW, hZ, hX, hb1, hst, hL⟩ := C
  have hroom0 : cells ≤ room_1.cells ∧ slots ≤ room_1.slots := ⟨by omega, by omega⟩
  refine q_aload_n (j := 3) X dL_law_4336 rfl rfl ?_
  refine qL_c X hA hW hZ [] [] rfl rfl (Nat.le_of_ble_eq_true rfl) dL_law_4337 hroom0 (c_X9_savedStates hA.1  mc _ (J_savedStates (K := Rel (a + 400000) (s0 + 64)) h.1 (fun v9 => h.2.2.2 mc _ ((h.1.ref v9).mono (by omega) (by omega) h.2.2.1)) )) rfl rfl (gV kw_3_61 kw_3_62 kw_3_63 kw_1_1 kw_3_64) hy_X9_savedStates ⟨(Nat.le_of_ble_eq_true rfl), (Nat.le_of_ble_eq_true rfl)⟩ (fun r mc' hj => ?_)
  obtain ⟨hj, rfl⟩ := hj
  unfold jn at hj
  refine q_aload_n (j := 2) X dL_law_4340 rfl rfl ?_
  refine qL_m X hA hW [] [.int r] rfl rfl (Nat.le_of_ble_eq_true rfl) dL_law_4341 hroom0 (c_X10_savedStates hA.2.1  mm _ hj) rfl rfl (gV kw_9_190 kw_9_191 kw_9_192 kw_1_11 kw_9_193) hy_X10_savedStates ⟨(Nat.le_of_ble_eq_true rfl), (Nat.le_of_ble_eq_true rfl)⟩ (fun b9 mm9 hb => ?_)
  obtain ⟨rfl, hK⟩ := hb
  refine q_icmp_eq X dL_law_4344 (tgt := 4461) (by decide) (fun _ => ?_) (fun h9 => absurd rfl h9)
  exact q_w (Nat.le_add_right _ _) (Nat.le_add_right _ _) (kk _ _ _ hK)
set_option maxRecDepth 100000 in
set_option maxHeartbeats 4000000 in
theorem case_81 (C : LC p l s m args c D cA ad A AC AM ob cO b L xs) (h : Hy a s0 mc mm (Rel (a + 400000) (s0 + 64))) (hi : i + 4 < L) (hroom : cells + 2 ≤ room_1.cells ∧ slots + 12 ≤ room_1.slots) (kk : ∀ (mc' mm' : Mm) (v' : Int64), Rel (a + 400000) (s0 + 64) mc' mm' → V p l e room_1 s m args below meth c Q 9 A (cells + 2) (slots + 12) (PL D cA ad ob cO mc' mm' v') 4461 (lvL ad ob b i) []) : V p l e room_1 s m args below meth c Q 9 A cells slots (PL D cA ad ob cO mc mm v) 4349 (lvL ad ob b i) [] := by
  have C0 := C
  obtain ⟨X, hA, hW, hZ, hX, hb1, hst, hL⟩ := C
  have hroom0 : cells ≤ room_1.cells ∧ slots ≤ room_1.slots := ⟨by omega, by omega⟩
  refine q_aload_n (j := 3) X dL_law_4349 rfl rfl ?_
  refine qL_arg C0 1 (j0 := 4) (j4 := 0) rfl (by decide) dL_law_4350 dL_law_4351 dL_law_4353 dL_law_4354 dL_law_4355 rfl rfl hi ?_
  refine q_aload_n (j := 1) X dL_law_4356 rfl rfl ?_
  refine qL_w X hA hW hZ [.ref (ad 0 1), .int (xs (i + 1)), .ref ob] rfl rfl dL_law_4357 hroom (k_L_keep hA.1 hA.2.2.1.1 hst (xs (i + 1)) mc v _ _ (J_keep h (xs (i + 1))) (fun _ _ hx => hx.1)) rfl rfl (gSW kw_6_217 kw_6_218 kw_1_0 kw_6_219) hy_L_keep ⟨(Nat.le_of_ble_eq_true rfl), (Nat.le_of_ble_eq_true rfl)⟩ (fun k mc' v' hq => ?_)
  refine q_istore X dL_law_4360 (Nat.le_of_ble_eq_true rfl) rfl ?_
  refine q_aload_n (j := 3) X dL_law_4362 rfl rfl ?_
  refine qL_arg C0 1 (j0 := 5) (j4 := 1) rfl (by decide) dL_law_4363 dL_law_4364 dL_law_4366 dL_law_4367 dL_law_4368 rfl rfl hi ?_
  have hroom1 : cells + 2 ≤ room_1.cells ∧ slots + 12 ≤ room_1.slots := hroom
  rcases hq with ⟨rfl, r, rfl, hj⟩ | ⟨hk0, k0, hk, hj⟩
  · skip
    unfold jq at hj
    refine qL_m X hA hW [.int (xs (i + 1))] [] rfl rfl (Nat.le_of_ble_eq_true rfl) dL_law_4369 hroom1 (c_X10_keep hA.2.1 (xs (i + 1)) mm _ hj) rfl rfl (gV kw_9_194 kw_9_195 kw_9_196 kw_1_11 kw_9_197) hy_X10_keep ⟨(Nat.le_of_ble_eq_true rfl), (Nat.le_of_ble_eq_true rfl)⟩ (fun b9 mm9 hb => ?_)
    obtain ⟨h1, rfl, hK⟩ := hb
    refine q_istore X dL_law_4372 (Nat.le_of_ble_eq_true rfl) rfl ?_
    exact tailI C0 hroom1 ⟨(Nat.le_of_ble_eq_true rfl), (Nat.le_of_ble_eq_true rfl)⟩ h1 (fun _ => rfl) dL_law_4374 dL_law_4375 dL_law_4378 dL_law_4380 dL_law_4385 dL_law_4387 dL_law_4390 dL_law_4391 dL_law_4392 dL_law_4393 dL_law_4395 dL_law_4396 dL_law_4397 dL_law_4402 (by decide) (kk _ _ _ hK)
  · obtain ⟨_, hj⟩ := hj
    unfold jx at hj
    refine qL_m X hA hW [.int (xs (i + 1))] [] rfl rfl (Nat.le_of_ble_eq_true rfl) dL_law_4369 hroom1 (c_X10_keep hA.2.1 (xs (i + 1)) mm _ hj) rfl rfl (gV kw_9_194 kw_9_195 kw_9_196 kw_1_11 kw_9_197) hy_X10_keep ⟨(Nat.le_of_ble_eq_true rfl), (Nat.le_of_ble_eq_true rfl)⟩ (fun b9 mm9 hb => ?_)
    obtain ⟨h1, hK⟩ := hb
    refine q_istore X dL_law_4372 (Nat.le_of_ble_eq_true rfl) rfl ?_
    exact tailI C0 hroom1 ⟨(Nat.le_of_ble_eq_true rfl), (Nat.le_of_ble_eq_true rfl)⟩ (h1.trans hk.symm) (fun h0 => absurd h0 hk0) dL_law_4374 dL_law_4375 dL_law_4378 dL_law_4380 dL_law_4385 dL_law_4387 dL_law_4390 dL_law_4391 dL_law_4392 dL_law_4393 dL_law_4395 dL_law_4396 dL_law_4397 dL_law_4402 (by decide) (kk _ _ _ hK)
set_option maxRecDepth 100000 in
set_option maxHeartbeats 4000000 in
theorem case_82 (C : LC p l s m args c D cA ad A AC AM ob cO b L xs) (h : Hy a s0 mc mm (Rel (a + 400000) (s0 + 64))) (hi : i + 4 < L) (hroom : cells + 2 ≤ room_1.cells ∧ slots + 12 ≤ room_1.slots) (kk : ∀ (mc' mm' : Mm) (v' : Int64), Rel (a + 400000) (s0 + 64) mc' mm' → V p l e room_1 s m args below meth c Q 9 A (cells + 2) (slots + 12) (PL D cA ad ob cO mc' mm' v') 4461 (lvL ad ob b i) []) : V p l e room_1 s m args below meth c Q 9 A cells slots (PL D cA ad ob cO mc mm v) 4405 (lvL ad ob b i) [] := by
  have C0 := C
  obtain ⟨X, hA, hW, hZ, hX, hb1, hst, hL⟩ := C
  have hroom0 : cells ≤ room_1.cells ∧ slots ≤ room_1.slots := ⟨by omega, by omega⟩
  refine q_aload_n (j := 3) X dL_law_4405 rfl rfl ?_
  refine qL_arg C0 1 (j0 := 4) (j4 := 0) rfl (by decide) dL_law_4406 dL_law_4407 dL_law_4409 dL_law_4410 dL_law_4411 rfl rfl hi ?_
  refine q_aload_n (j := 1) X dL_law_4412 rfl rfl ?_
  refine qL_w X hA hW hZ [.ref (ad 0 1), .int (xs (i + 1)), .ref ob] rfl rfl dL_law_4413 hroom (k_L_goBack hA.1 hA.2.2.1.1 hst (xs (i + 1)) mc v _ _ (J_goBack h (xs (i + 1))) (fun _ _ hx => hx.1)) rfl rfl (gSW kw_6_232 kw_6_233 kw_1_0 kw_6_234) hy_L_goBack ⟨(Nat.le_of_ble_eq_true rfl), (Nat.le_of_ble_eq_true rfl)⟩ (fun k mc' v' hq => ?_)
  refine q_istore X dL_law_4416 (Nat.le_of_ble_eq_true rfl) rfl ?_
  refine q_aload_n (j := 3) X dL_law_4418 rfl rfl ?_
  refine qL_arg C0 1 (j0 := 5) (j4 := 1) rfl (by decide) dL_law_4419 dL_law_4420 dL_law_4422 dL_law_4423 dL_law_4424 rfl rfl hi ?_
  have hroom1 : cells + 2 ≤ room_1.cells ∧ slots + 12 ≤ room_1.slots := hroom
  rcases hq with ⟨rfl, r, rfl, hj⟩ | ⟨hk0, k0, hk, hj⟩
  · skip
    unfold jq at hj
    refine qL_m X hA hW [.int (xs (i + 1))] [] rfl rfl (Nat.le_of_ble_eq_true rfl) dL_law_4425 hroom1 (c_X10_goBack hA.2.1 (xs (i + 1)) mm _ hj) rfl rfl (gV kw_9_198 kw_9_199 kw_9_200 kw_1_11 kw_9_201) hy_X10_goBack ⟨(Nat.le_of_ble_eq_true rfl), (Nat.le_of_ble_eq_true rfl)⟩ (fun b9 mm9 hb => ?_)
    obtain ⟨h1, rfl, hK⟩ := hb
    refine q_istore X dL_law_4428 (Nat.le_of_ble_eq_true rfl) rfl ?_
    exact tailI C0 hroom1 ⟨(Nat.le_of_ble_eq_true rfl), (Nat.le_of_ble_eq_true rfl)⟩ h1 (fun _ => rfl) dL_law_4430 dL_law_4431 dL_law_4434 dL_law_4436 dL_law_4441 dL_law_4443 dL_law_4446 dL_law_4447 dL_law_4448 dL_law_4449 dL_law_4451 dL_law_4452 dL_law_4453 dL_law_4458 (by decide) (kk _ _ _ hK)
  · obtain ⟨_, hj⟩ := hj
    unfold jx at hj
    refine qL_m X hA hW [.int (xs (i + 1))] [] rfl rfl (Nat.le_of_ble_eq_true rfl) dL_law_4425 hroom1 (c_X10_goBack hA.2.1 (xs (i + 1)) mm _ hj) rfl rfl (gV kw_9_198 kw_9_199 kw_9_200 kw_1_11 kw_9_201) hy_X10_goBack ⟨(Nat.le_of_ble_eq_true rfl), (Nat.le_of_ble_eq_true rfl)⟩ (fun b9 mm9 hb => ?_)
    obtain ⟨h1, hK⟩ := hb
    refine q_istore X dL_law_4428 (Nat.le_of_ble_eq_true rfl) rfl ?_
    exact tailI C0 hroom1 ⟨(Nat.le_of_ble_eq_true rfl), (Nat.le_of_ble_eq_true rfl)⟩ (h1.trans hk.symm) (fun h0 => absurd h0 hk0) dL_law_4430 dL_law_4431 dL_law_4434 dL_law_4436 dL_law_4441 dL_law_4443 dL_law_4446 dL_law_4447 dL_law_4448 dL_law_4449 dL_law_4451 dL_law_4452 dL_law_4453 dL_law_4458 (by decide) (kk _ _ _ hK)
end CASE6
