theorem kw_2_185 : Jvm.Cond.methodLink "BondWarehouseLaw" (373 : Nat) ({ cls := "BondWarehouse", name := "balance", desc := "()I" } : Jvm.MethodName) ∈ TG := tg_2 185 rfl rfl
theorem kw_2_186 : Jvm.Cond.instanceMethod ({ cls := "BondWarehouse", name := "balance", desc := "()I" } : Jvm.MethodName) ∈ TG := tg_2 186 rfl rfl
theorem kw_2_187 : Jvm.Cond.selects "BondWarehouse" ({ cls := "BondWarehouse", name := "balance", desc := "()I" } : Jvm.MethodName) ({ cls := "BondWarehouse", name := "balance", desc := "()I" } : Jvm.MethodName) ∈ TG := tg_2 187 rfl rfl
theorem kw_2_188 : Jvm.Cond.code ({ cls := "BondWarehouse", name := "balance", desc := "()I" } : Jvm.MethodName) prog_1_method_50_code (1 : Nat) (Option.some Jvm.ClassFile.FieldType.int) ∈ TG := tg_2 188 rfl rfl
theorem kw_9_6 : Jvm.Cond.methodLink "BondWarehouseLaw" (376 : Nat) ({ cls := "BondWarehouseModel", name := "balance", desc := "()I" } : Jvm.MethodName) ∈ TG := tg_9 6 rfl rfl
theorem kw_9_7 : Jvm.Cond.instanceMethod ({ cls := "BondWarehouseModel", name := "balance", desc := "()I" } : Jvm.MethodName) ∈ TG := tg_9 7 rfl rfl
theorem kw_9_8 : Jvm.Cond.selects "BondWarehouseModel" ({ cls := "BondWarehouseModel", name := "balance", desc := "()I" } : Jvm.MethodName) ({ cls := "BondWarehouseModel", name := "balance", desc := "()I" } : Jvm.MethodName) ∈ TG := tg_9 8 rfl rfl
theorem kw_9_9 : Jvm.Cond.code ({ cls := "BondWarehouseModel", name := "balance", desc := "()I" } : Jvm.MethodName) prog_12_method_109_code (1 : Nat) (Option.some Jvm.ClassFile.FieldType.int) ∈ TG := tg_9 9 rfl rfl
theorem kw_2_189 : Jvm.Cond.methodLink "BondWarehouseLaw" (377 : Nat) ({ cls := "BondWarehouse", name := "balanceByTotals", desc := "()I" } : Jvm.MethodName) ∈ TG := tg_2 189 rfl rfl
theorem kw_2_190 : Jvm.Cond.instanceMethod ({ cls := "BondWarehouse", name := "balanceByTotals", desc := "()I" } : Jvm.MethodName) ∈ TG := tg_2 190 rfl rfl
theorem kw_2_191 : Jvm.Cond.selects "BondWarehouse" ({ cls := "BondWarehouse", name := "balanceByTotals", desc := "()I" } : Jvm.MethodName) ({ cls := "BondWarehouse", name := "balanceByTotals", desc := "()I" } : Jvm.MethodName) ∈ TG := tg_2 191 rfl rfl
theorem kw_2_192 : Jvm.Cond.code ({ cls := "BondWarehouse", name := "balanceByTotals", desc := "()I" } : Jvm.MethodName) prog_1_method_51_code (2 : Nat) (Option.some Jvm.ClassFile.FieldType.int) ∈ TG := tg_2 192 rfl rfl
theorem kw_9_10 : Jvm.Cond.methodLink "BondWarehouseLaw" (380 : Nat) ({ cls := "BondWarehouseModel", name := "balanceByTotals", desc := "()I" } : Jvm.MethodName) ∈ TG := tg_9 10 rfl rfl
theorem kw_9_11 : Jvm.Cond.instanceMethod ({ cls := "BondWarehouseModel", name := "balanceByTotals", desc := "()I" } : Jvm.MethodName) ∈ TG := tg_9 11 rfl rfl
theorem kw_9_12 : Jvm.Cond.selects "BondWarehouseModel" ({ cls := "BondWarehouseModel", name := "balanceByTotals", desc := "()I" } : Jvm.MethodName) ({ cls := "BondWarehouseModel", name := "balanceByTotals", desc := "()I" } : Jvm.MethodName) ∈ TG := tg_9 12 rfl rfl
theorem kw_9_13 : Jvm.Cond.code ({ cls := "BondWarehouseModel", name := "balanceByTotals", desc := "()I" } : Jvm.MethodName) prog_12_method_110_code (1 : Nat) (Option.some Jvm.ClassFile.FieldType.int) ∈ TG := tg_9 13 rfl rfl
theorem kw_2_193 : Jvm.Cond.methodLink "BondWarehouseLaw" (381 : Nat) ({ cls := "BondWarehouse", name := "deposits", desc := "()I" } : Jvm.MethodName) ∈ TG := tg_2 193 rfl rfl
theorem kw_2_194 : Jvm.Cond.instanceMethod ({ cls := "BondWarehouse", name := "deposits", desc := "()I" } : Jvm.MethodName) ∈ TG := tg_2 194 rfl rfl
theorem kw_2_195 : Jvm.Cond.selects "BondWarehouse" ({ cls := "BondWarehouse", name := "deposits", desc := "()I" } : Jvm.MethodName) ({ cls := "BondWarehouse", name := "deposits", desc := "()I" } : Jvm.MethodName) ∈ TG := tg_2 195 rfl rfl
theorem kw_2_196 : Jvm.Cond.code ({ cls := "BondWarehouse", name := "deposits", desc := "()I" } : Jvm.MethodName) prog_1_method_52_code (1 : Nat) (Option.some Jvm.ClassFile.FieldType.int) ∈ TG := tg_2 196 rfl rfl
theorem kw_9_14 : Jvm.Cond.methodLink "BondWarehouseLaw" (384 : Nat) ({ cls := "BondWarehouseModel", name := "deposits", desc := "()I" } : Jvm.MethodName) ∈ TG := tg_9 14 rfl rfl
theorem kw_9_15 : Jvm.Cond.instanceMethod ({ cls := "BondWarehouseModel", name := "deposits", desc := "()I" } : Jvm.MethodName) ∈ TG := tg_9 15 rfl rfl
theorem kw_9_16 : Jvm.Cond.selects "BondWarehouseModel" ({ cls := "BondWarehouseModel", name := "deposits", desc := "()I" } : Jvm.MethodName) ({ cls := "BondWarehouseModel", name := "deposits", desc := "()I" } : Jvm.MethodName) ∈ TG := tg_9 16 rfl rfl
theorem kw_9_17 : Jvm.Cond.code ({ cls := "BondWarehouseModel", name := "deposits", desc := "()I" } : Jvm.MethodName) prog_12_method_111_code (1 : Nat) (Option.some Jvm.ClassFile.FieldType.int) ∈ TG := tg_9 17 rfl rfl
theorem kw_2_197 : Jvm.Cond.methodLink "BondWarehouseLaw" (385 : Nat) ({ cls := "BondWarehouse", name := "dutiesPaid", desc := "()I" } : Jvm.MethodName) ∈ TG := tg_2 197 rfl rfl
theorem kw_2_198 : Jvm.Cond.instanceMethod ({ cls := "BondWarehouse", name := "dutiesPaid", desc := "()I" } : Jvm.MethodName) ∈ TG := tg_2 198 rfl rfl
theorem kw_2_199 : Jvm.Cond.selects "BondWarehouse" ({ cls := "BondWarehouse", name := "dutiesPaid", desc := "()I" } : Jvm.MethodName) ({ cls := "BondWarehouse", name := "dutiesPaid", desc := "()I" } : Jvm.MethodName) ∈ TG := tg_2 199 rfl rfl
theorem kw_2_200 : Jvm.Cond.code ({ cls := "BondWarehouse", name := "dutiesPaid", desc := "()I" } : Jvm.MethodName) prog_1_method_53_code (1 : Nat) (Option.some Jvm.ClassFile.FieldType.int) ∈ TG := tg_2 200 rfl rfl
theorem kw_9_18 : Jvm.Cond.methodLink "BondWarehouseLaw" (388 : Nat) ({ cls := "BondWarehouseModel", name := "dutiesPaid", desc := "()I" } : Jvm.MethodName) ∈ TG := tg_9 18 rfl rfl
theorem kw_9_19 : Jvm.Cond.instanceMethod ({ cls := "BondWarehouseModel", name := "dutiesPaid", desc := "()I" } : Jvm.MethodName) ∈ TG := tg_9 19 rfl rfl
theorem kw_9_20 : Jvm.Cond.selects "BondWarehouseModel" ({ cls := "BondWarehouseModel", name := "dutiesPaid", desc := "()I" } : Jvm.MethodName) ({ cls := "BondWarehouseModel", name := "dutiesPaid", desc := "()I" } : Jvm.MethodName) ∈ TG := tg_9 20 rfl rfl
theorem kw_9_21 : Jvm.Cond.code ({ cls := "BondWarehouseModel", name := "dutiesPaid", desc := "()I" } : Jvm.MethodName) prog_12_method_112_code (1 : Nat) (Option.some Jvm.ClassFile.FieldType.int) ∈ TG := tg_9 21 rfl rfl
theorem kw_2_201 : Jvm.Cond.methodLink "BondWarehouseLaw" (389 : Nat) ({ cls := "BondWarehouse", name := "charges", desc := "()I" } : Jvm.MethodName) ∈ TG := tg_2 201 rfl rfl
theorem kw_2_202 : Jvm.Cond.instanceMethod ({ cls := "BondWarehouse", name := "charges", desc := "()I" } : Jvm.MethodName) ∈ TG := tg_2 202 rfl rfl
theorem kw_2_203 : Jvm.Cond.selects "BondWarehouse" ({ cls := "BondWarehouse", name := "charges", desc := "()I" } : Jvm.MethodName) ({ cls := "BondWarehouse", name := "charges", desc := "()I" } : Jvm.MethodName) ∈ TG := tg_2 203 rfl rfl
theorem kw_2_204 : Jvm.Cond.code ({ cls := "BondWarehouse", name := "charges", desc := "()I" } : Jvm.MethodName) prog_1_method_54_code (1 : Nat) (Option.some Jvm.ClassFile.FieldType.int) ∈ TG := tg_2 204 rfl rfl
theorem kw_9_22 : Jvm.Cond.methodLink "BondWarehouseLaw" (392 : Nat) ({ cls := "BondWarehouseModel", name := "charges", desc := "()I" } : Jvm.MethodName) ∈ TG := tg_9 22 rfl rfl
theorem kw_9_23 : Jvm.Cond.instanceMethod ({ cls := "BondWarehouseModel", name := "charges", desc := "()I" } : Jvm.MethodName) ∈ TG := tg_9 23 rfl rfl
theorem kw_9_24 : Jvm.Cond.selects "BondWarehouseModel" ({ cls := "BondWarehouseModel", name := "charges", desc := "()I" } : Jvm.MethodName) ({ cls := "BondWarehouseModel", name := "charges", desc := "()I" } : Jvm.MethodName) ∈ TG := tg_9 24 rfl rfl
theorem kw_9_25 : Jvm.Cond.code ({ cls := "BondWarehouseModel", name := "charges", desc := "()I" } : Jvm.MethodName) prog_12_method_113_code (1 : Nat) (Option.some Jvm.ClassFile.FieldType.int) ∈ TG := tg_9 25 rfl rfl
theorem kw_2_205 : Jvm.Cond.methodLink "BondWarehouseLaw" (393 : Nat) ({ cls := "BondWarehouse", name := "drawbacks", desc := "()I" } : Jvm.MethodName) ∈ TG := tg_2 205 rfl rfl
theorem kw_2_206 : Jvm.Cond.instanceMethod ({ cls := "BondWarehouse", name := "drawbacks", desc := "()I" } : Jvm.MethodName) ∈ TG := tg_2 206 rfl rfl
theorem kw_2_207 : Jvm.Cond.selects "BondWarehouse" ({ cls := "BondWarehouse", name := "drawbacks", desc := "()I" } : Jvm.MethodName) ({ cls := "BondWarehouse", name := "drawbacks", desc := "()I" } : Jvm.MethodName) ∈ TG := tg_2 207 rfl rfl
theorem kw_2_208 : Jvm.Cond.code ({ cls := "BondWarehouse", name := "drawbacks", desc := "()I" } : Jvm.MethodName) prog_1_method_55_code (1 : Nat) (Option.some Jvm.ClassFile.FieldType.int) ∈ TG := tg_2 208 rfl rfl
theorem kw_9_26 : Jvm.Cond.methodLink "BondWarehouseLaw" (396 : Nat) ({ cls := "BondWarehouseModel", name := "drawbacks", desc := "()I" } : Jvm.MethodName) ∈ TG := tg_9 26 rfl rfl
theorem kw_9_27 : Jvm.Cond.instanceMethod ({ cls := "BondWarehouseModel", name := "drawbacks", desc := "()I" } : Jvm.MethodName) ∈ TG := tg_9 27 rfl rfl
theorem kw_9_28 : Jvm.Cond.selects "BondWarehouseModel" ({ cls := "BondWarehouseModel", name := "drawbacks", desc := "()I" } : Jvm.MethodName) ({ cls := "BondWarehouseModel", name := "drawbacks", desc := "()I" } : Jvm.MethodName) ∈ TG := tg_9 28 rfl rfl
theorem kw_9_29 : Jvm.Cond.code ({ cls := "BondWarehouseModel", name := "drawbacks", desc := "()I" } : Jvm.MethodName) prog_12_method_114_code (1 : Nat) (Option.some Jvm.ClassFile.FieldType.int) ∈ TG := tg_9 29 rfl rfl
theorem kw_5_232 : Jvm.Cond.methodLink "BondWarehouseLaw" (397 : Nat) ({ cls := "BondWarehouseLaw", name := "entered", desc := "(LBondWarehouse;I[J)I" } : Jvm.MethodName) ∈ TG := tg_5 232 rfl rfl
theorem kw_5_233 : Jvm.Cond.static ({ cls := "BondWarehouseLaw", name := "entered", desc := "(LBondWarehouse;I[J)I" } : Jvm.MethodName) ∈ TG := tg_5 233 rfl rfl
theorem kw_5_234 : Jvm.Cond.codeWith ({ cls := "BondWarehouseLaw", name := "entered", desc := "(LBondWarehouse;I[J)I" } : Jvm.MethodName) method_41_code (4 : Nat) (Option.some Jvm.ClassFile.FieldType.int) [((0 : Nat), (9 : Nat), (12 : Nat), (13 : Nat))] ∈ TG := tg_5 234 rfl rfl
theorem kw_9_30 : Jvm.Cond.methodLink "BondWarehouseLaw" (399 : Nat) ({ cls := "BondWarehouseModel", name := "entered", desc := "(I)I" } : Jvm.MethodName) ∈ TG := tg_9 30 rfl rfl
theorem kw_9_31 : Jvm.Cond.instanceMethod ({ cls := "BondWarehouseModel", name := "entered", desc := "(I)I" } : Jvm.MethodName) ∈ TG := tg_9 31 rfl rfl
theorem kw_9_32 : Jvm.Cond.selects "BondWarehouseModel" ({ cls := "BondWarehouseModel", name := "entered", desc := "(I)I" } : Jvm.MethodName) ({ cls := "BondWarehouseModel", name := "entered", desc := "(I)I" } : Jvm.MethodName) ∈ TG := tg_9 32 rfl rfl
theorem kw_9_33 : Jvm.Cond.code ({ cls := "BondWarehouseModel", name := "entered", desc := "(I)I" } : Jvm.MethodName) prog_12_method_116_code (2 : Nat) (Option.some Jvm.ClassFile.FieldType.int) ∈ TG := tg_9 33 rfl rfl
theorem kw_5_239 : Jvm.Cond.methodLink "BondWarehouseLaw" (400 : Nat) ({ cls := "BondWarehouseLaw", name := "withdrawn", desc := "(LBondWarehouse;I[J)I" } : Jvm.MethodName) ∈ TG := tg_5 239 rfl rfl
theorem kw_6_0 : Jvm.Cond.static ({ cls := "BondWarehouseLaw", name := "withdrawn", desc := "(LBondWarehouse;I[J)I" } : Jvm.MethodName) ∈ TG := tg_6 0 rfl rfl
theorem kw_6_1 : Jvm.Cond.codeWith ({ cls := "BondWarehouseLaw", name := "withdrawn", desc := "(LBondWarehouse;I[J)I" } : Jvm.MethodName) method_42_code (4 : Nat) (Option.some Jvm.ClassFile.FieldType.int) [((0 : Nat), (9 : Nat), (12 : Nat), (13 : Nat))] ∈ TG := tg_6 1 rfl rfl
theorem kw_9_38 : Jvm.Cond.methodLink "BondWarehouseLaw" (402 : Nat) ({ cls := "BondWarehouseModel", name := "withdrawn", desc := "(I)I" } : Jvm.MethodName) ∈ TG := tg_9 38 rfl rfl
theorem kw_9_39 : Jvm.Cond.instanceMethod ({ cls := "BondWarehouseModel", name := "withdrawn", desc := "(I)I" } : Jvm.MethodName) ∈ TG := tg_9 39 rfl rfl
theorem kw_9_40 : Jvm.Cond.selects "BondWarehouseModel" ({ cls := "BondWarehouseModel", name := "withdrawn", desc := "(I)I" } : Jvm.MethodName) ({ cls := "BondWarehouseModel", name := "withdrawn", desc := "(I)I" } : Jvm.MethodName) ∈ TG := tg_9 40 rfl rfl
theorem kw_9_41 : Jvm.Cond.code ({ cls := "BondWarehouseModel", name := "withdrawn", desc := "(I)I" } : Jvm.MethodName) prog_12_method_117_code (2 : Nat) (Option.some Jvm.ClassFile.FieldType.int) ∈ TG := tg_9 41 rfl rfl
theorem kw_6_6 : Jvm.Cond.methodLink "BondWarehouseLaw" (403 : Nat) ({ cls := "BondWarehouseLaw", name := "sentAbroad", desc := "(LBondWarehouse;I[J)I" } : Jvm.MethodName) ∈ TG := tg_6 6 rfl rfl
theorem kw_6_7 : Jvm.Cond.static ({ cls := "BondWarehouseLaw", name := "sentAbroad", desc := "(LBondWarehouse;I[J)I" } : Jvm.MethodName) ∈ TG := tg_6 7 rfl rfl
theorem kw_6_8 : Jvm.Cond.codeWith ({ cls := "BondWarehouseLaw", name := "sentAbroad", desc := "(LBondWarehouse;I[J)I" } : Jvm.MethodName) method_43_code (4 : Nat) (Option.some Jvm.ClassFile.FieldType.int) [((0 : Nat), (9 : Nat), (12 : Nat), (13 : Nat))] ∈ TG := tg_6 8 rfl rfl
theorem kw_9_42 : Jvm.Cond.methodLink "BondWarehouseLaw" (405 : Nat) ({ cls := "BondWarehouseModel", name := "sentAbroad", desc := "(I)I" } : Jvm.MethodName) ∈ TG := tg_9 42 rfl rfl
theorem kw_9_43 : Jvm.Cond.instanceMethod ({ cls := "BondWarehouseModel", name := "sentAbroad", desc := "(I)I" } : Jvm.MethodName) ∈ TG := tg_9 43 rfl rfl
theorem kw_9_44 : Jvm.Cond.selects "BondWarehouseModel" ({ cls := "BondWarehouseModel", name := "sentAbroad", desc := "(I)I" } : Jvm.MethodName) ({ cls := "BondWarehouseModel", name := "sentAbroad", desc := "(I)I" } : Jvm.MethodName) ∈ TG := tg_9 44 rfl rfl
theorem kw_9_45 : Jvm.Cond.code ({ cls := "BondWarehouseModel", name := "sentAbroad", desc := "(I)I" } : Jvm.MethodName) prog_12_method_118_code (2 : Nat) (Option.some Jvm.ClassFile.FieldType.int) ∈ TG := tg_9 45 rfl rfl
theorem kw_6_13 : Jvm.Cond.methodLink "BondWarehouseLaw" (406 : Nat) ({ cls := "BondWarehouseLaw", name := "wasted", desc := "(LBondWarehouse;I[J)I" } : Jvm.MethodName) ∈ TG := tg_6 13 rfl rfl
theorem kw_6_14 : Jvm.Cond.static ({ cls := "BondWarehouseLaw", name := "wasted", desc := "(LBondWarehouse;I[J)I" } : Jvm.MethodName) ∈ TG := tg_6 14 rfl rfl
theorem kw_6_15 : Jvm.Cond.codeWith ({ cls := "BondWarehouseLaw", name := "wasted", desc := "(LBondWarehouse;I[J)I" } : Jvm.MethodName) method_44_code (4 : Nat) (Option.some Jvm.ClassFile.FieldType.int) [((0 : Nat), (9 : Nat), (12 : Nat), (13 : Nat))] ∈ TG := tg_6 15 rfl rfl
theorem kw_9_46 : Jvm.Cond.methodLink "BondWarehouseLaw" (408 : Nat) ({ cls := "BondWarehouseModel", name := "wasted", desc := "(I)I" } : Jvm.MethodName) ∈ TG := tg_9 46 rfl rfl
theorem kw_9_47 : Jvm.Cond.instanceMethod ({ cls := "BondWarehouseModel", name := "wasted", desc := "(I)I" } : Jvm.MethodName) ∈ TG := tg_9 47 rfl rfl
theorem kw_9_48 : Jvm.Cond.selects "BondWarehouseModel" ({ cls := "BondWarehouseModel", name := "wasted", desc := "(I)I" } : Jvm.MethodName) ({ cls := "BondWarehouseModel", name := "wasted", desc := "(I)I" } : Jvm.MethodName) ∈ TG := tg_9 48 rfl rfl
theorem kw_9_49 : Jvm.Cond.code ({ cls := "BondWarehouseModel", name := "wasted", desc := "(I)I" } : Jvm.MethodName) prog_12_method_119_code (2 : Nat) (Option.some Jvm.ClassFile.FieldType.int) ∈ TG := tg_9 49 rfl rfl
theorem kw_6_20 : Jvm.Cond.methodLink "BondWarehouseLaw" (409 : Nat) ({ cls := "BondWarehouseLaw", name := "lost", desc := "(LBondWarehouse;I[J)I" } : Jvm.MethodName) ∈ TG := tg_6 20 rfl rfl
theorem kw_6_21 : Jvm.Cond.static ({ cls := "BondWarehouseLaw", name := "lost", desc := "(LBondWarehouse;I[J)I" } : Jvm.MethodName) ∈ TG := tg_6 21 rfl rfl
theorem kw_6_22 : Jvm.Cond.codeWith ({ cls := "BondWarehouseLaw", name := "lost", desc := "(LBondWarehouse;I[J)I" } : Jvm.MethodName) method_45_code (4 : Nat) (Option.some Jvm.ClassFile.FieldType.int) [((0 : Nat), (9 : Nat), (12 : Nat), (13 : Nat))] ∈ TG := tg_6 22 rfl rfl
theorem kw_9_50 : Jvm.Cond.methodLink "BondWarehouseLaw" (411 : Nat) ({ cls := "BondWarehouseModel", name := "lost", desc := "(I)I" } : Jvm.MethodName) ∈ TG := tg_9 50 rfl rfl
theorem kw_9_51 : Jvm.Cond.instanceMethod ({ cls := "BondWarehouseModel", name := "lost", desc := "(I)I" } : Jvm.MethodName) ∈ TG := tg_9 51 rfl rfl
theorem kw_9_52 : Jvm.Cond.selects "BondWarehouseModel" ({ cls := "BondWarehouseModel", name := "lost", desc := "(I)I" } : Jvm.MethodName) ({ cls := "BondWarehouseModel", name := "lost", desc := "(I)I" } : Jvm.MethodName) ∈ TG := tg_9 52 rfl rfl
theorem kw_9_53 : Jvm.Cond.code ({ cls := "BondWarehouseModel", name := "lost", desc := "(I)I" } : Jvm.MethodName) prog_12_method_120_code (2 : Nat) (Option.some Jvm.ClassFile.FieldType.int) ∈ TG := tg_9 53 rfl rfl
theorem kw_6_27 : Jvm.Cond.methodLink "BondWarehouseLaw" (412 : Nat) ({ cls := "BondWarehouseLaw", name := "drawnBack", desc := "(LBondWarehouse;I[J)I" } : Jvm.MethodName) ∈ TG := tg_6 27 rfl rfl
theorem kw_6_28 : Jvm.Cond.static ({ cls := "BondWarehouseLaw", name := "drawnBack", desc := "(LBondWarehouse;I[J)I" } : Jvm.MethodName) ∈ TG := tg_6 28 rfl rfl
theorem kw_6_29 : Jvm.Cond.codeWith ({ cls := "BondWarehouseLaw", name := "drawnBack", desc := "(LBondWarehouse;I[J)I" } : Jvm.MethodName) method_46_code (4 : Nat) (Option.some Jvm.ClassFile.FieldType.int) [((0 : Nat), (9 : Nat), (12 : Nat), (13 : Nat))] ∈ TG := tg_6 29 rfl rfl
theorem kw_9_54 : Jvm.Cond.methodLink "BondWarehouseLaw" (414 : Nat) ({ cls := "BondWarehouseModel", name := "drawnBack", desc := "(I)I" } : Jvm.MethodName) ∈ TG := tg_9 54 rfl rfl
theorem kw_9_55 : Jvm.Cond.instanceMethod ({ cls := "BondWarehouseModel", name := "drawnBack", desc := "(I)I" } : Jvm.MethodName) ∈ TG := tg_9 55 rfl rfl
theorem kw_9_56 : Jvm.Cond.selects "BondWarehouseModel" ({ cls := "BondWarehouseModel", name := "drawnBack", desc := "(I)I" } : Jvm.MethodName) ({ cls := "BondWarehouseModel", name := "drawnBack", desc := "(I)I" } : Jvm.MethodName) ∈ TG := tg_9 56 rfl rfl
theorem kw_9_57 : Jvm.Cond.code ({ cls := "BondWarehouseModel", name := "drawnBack", desc := "(I)I" } : Jvm.MethodName) prog_12_method_121_code (2 : Nat) (Option.some Jvm.ClassFile.FieldType.int) ∈ TG := tg_9 57 rfl rfl
theorem hy_L_entered : yL_entered.cls ≠ "java/lang/invoke/MethodHandle" ∧ yL_entered.cls ≠ "java/lang/invoke/VarHandle" ∧ (parseMethodDescriptor yL_entered.desc).map (fun d => d.parameters.length) = some 3 := by decide +kernel
theorem hy_L_withdrawn : yL_withdrawn.cls ≠ "java/lang/invoke/MethodHandle" ∧ yL_withdrawn.cls ≠ "java/lang/invoke/VarHandle" ∧ (parseMethodDescriptor yL_withdrawn.desc).map (fun d => d.parameters.length) = some 3 := by decide +kernel
theorem hy_L_sentAbroad : yL_sentAbroad.cls ≠ "java/lang/invoke/MethodHandle" ∧ yL_sentAbroad.cls ≠ "java/lang/invoke/VarHandle" ∧ (parseMethodDescriptor yL_sentAbroad.desc).map (fun d => d.parameters.length) = some 3 := by decide +kernel
theorem hy_L_wasted : yL_wasted.cls ≠ "java/lang/invoke/MethodHandle" ∧ yL_wasted.cls ≠ "java/lang/invoke/VarHandle" ∧ (parseMethodDescriptor yL_wasted.desc).map (fun d => d.parameters.length) = some 3 := by decide +kernel
theorem hy_L_lost : yL_lost.cls ≠ "java/lang/invoke/MethodHandle" ∧ yL_lost.cls ≠ "java/lang/invoke/VarHandle" ∧ (parseMethodDescriptor yL_lost.desc).map (fun d => d.parameters.length) = some 3 := by decide +kernel
theorem hy_L_drawnBack : yL_drawnBack.cls ≠ "java/lang/invoke/MethodHandle" ∧ yL_drawnBack.cls ≠ "java/lang/invoke/VarHandle" ∧ (parseMethodDescriptor yL_drawnBack.desc).map (fun d => d.parameters.length) = some 3 := by decide +kernel
theorem dL_law_2866 : decode cL_law 2866 = .ok (.aload_n 1, 1) := by decide +kernel
theorem dL_law_2867 : decode cL_law 2867 = .ok (.invokevirtual 373, 3) := by decide +kernel
theorem dL_law_2870 : decode cL_law 2870 = .ok (.aload_n 2, 1) := by decide +kernel
theorem dL_law_2871 : decode cL_law 2871 = .ok (.invokevirtual 376, 3) := by decide +kernel
theorem dL_law_2874 : decode cL_law 2874 = .ok (.if_icmp .eq 1587, 3) := by decide +kernel
theorem dL_law_2879 : decode cL_law 2879 = .ok (.aload_n 1, 1) := by decide +kernel
theorem dL_law_2880 : decode cL_law 2880 = .ok (.invokevirtual 377, 3) := by decide +kernel
theorem dL_law_2883 : decode cL_law 2883 = .ok (.aload_n 2, 1) := by decide +kernel
theorem dL_law_2884 : decode cL_law 2884 = .ok (.invokevirtual 380, 3) := by decide +kernel
theorem dL_law_2887 : decode cL_law 2887 = .ok (.if_icmp .eq 1574, 3) := by decide +kernel
theorem dL_law_2892 : decode cL_law 2892 = .ok (.aload_n 1, 1) := by decide +kernel
theorem dL_law_2893 : decode cL_law 2893 = .ok (.invokevirtual 381, 3) := by decide +kernel
theorem dL_law_2896 : decode cL_law 2896 = .ok (.aload_n 2, 1) := by decide +kernel
theorem dL_law_2897 : decode cL_law 2897 = .ok (.invokevirtual 384, 3) := by decide +kernel
theorem dL_law_2900 : decode cL_law 2900 = .ok (.if_icmp .eq 1561, 3) := by decide +kernel
theorem dL_law_2905 : decode cL_law 2905 = .ok (.aload_n 1, 1) := by decide +kernel
theorem dL_law_2906 : decode cL_law 2906 = .ok (.invokevirtual 385, 3) := by decide +kernel
theorem dL_law_2909 : decode cL_law 2909 = .ok (.aload_n 2, 1) := by decide +kernel
theorem dL_law_2910 : decode cL_law 2910 = .ok (.invokevirtual 388, 3) := by decide +kernel
theorem dL_law_2913 : decode cL_law 2913 = .ok (.if_icmp .eq 1548, 3) := by decide +kernel
theorem dL_law_2918 : decode cL_law 2918 = .ok (.aload_n 1, 1) := by decide +kernel
theorem dL_law_2919 : decode cL_law 2919 = .ok (.invokevirtual 389, 3) := by decide +kernel
theorem dL_law_2922 : decode cL_law 2922 = .ok (.aload_n 2, 1) := by decide +kernel
theorem dL_law_2923 : decode cL_law 2923 = .ok (.invokevirtual 392, 3) := by decide +kernel
theorem dL_law_2926 : decode cL_law 2926 = .ok (.if_icmp .eq 1535, 3) := by decide +kernel
theorem dL_law_2931 : decode cL_law 2931 = .ok (.aload_n 1, 1) := by decide +kernel
theorem dL_law_2932 : decode cL_law 2932 = .ok (.invokevirtual 393, 3) := by decide +kernel
theorem dL_law_2935 : decode cL_law 2935 = .ok (.aload_n 2, 1) := by decide +kernel
theorem dL_law_2936 : decode cL_law 2936 = .ok (.invokevirtual 396, 3) := by decide +kernel
theorem dL_law_2939 : decode cL_law 2939 = .ok (.if_icmp .eq 1522, 3) := by decide +kernel
theorem dL_law_2944 : decode cL_law 2944 = .ok (.aload_n 1, 1) := by decide +kernel
theorem dL_law_2945 : decode cL_law 2945 = .ok (.aload_n 0, 1) := by decide +kernel
theorem dL_law_2946 : decode cL_law 2946 = .ok (.iload 4, 2) := by decide +kernel
theorem dL_law_2948 : decode cL_law 2948 = .ok (.iconst 1, 1) := by decide +kernel
theorem dL_law_2949 : decode cL_law 2949 = .ok (.iadd, 1) := by decide +kernel
theorem dL_law_2950 : decode cL_law 2950 = .ok (.iaload, 1) := by decide +kernel
theorem dL_law_2951 : decode cL_law 2951 = .ok (.aload_n 3, 1) := by decide +kernel
theorem dL_law_2952 : decode cL_law 2952 = .ok (.invokestatic 397, 3) := by decide +kernel
theorem dL_law_2955 : decode cL_law 2955 = .ok (.istore 5, 2) := by decide +kernel
theorem dL_law_2957 : decode cL_law 2957 = .ok (.aload_n 2, 1) := by decide +kernel
theorem dL_law_2958 : decode cL_law 2958 = .ok (.aload_n 0, 1) := by decide +kernel
theorem dL_law_2959 : decode cL_law 2959 = .ok (.iload 4, 2) := by decide +kernel
theorem dL_law_2961 : decode cL_law 2961 = .ok (.iconst 1, 1) := by decide +kernel
theorem dL_law_2962 : decode cL_law 2962 = .ok (.iadd, 1) := by decide +kernel
theorem dL_law_2963 : decode cL_law 2963 = .ok (.iaload, 1) := by decide +kernel
theorem dL_law_2964 : decode cL_law 2964 = .ok (.invokevirtual 399, 3) := by decide +kernel
theorem dL_law_2967 : decode cL_law 2967 = .ok (.istore 6, 2) := by decide +kernel
theorem dL_law_2969 : decode cL_law 2969 = .ok (.aload_n 2, 1) := by decide +kernel
theorem dL_law_2970 : decode cL_law 2970 = .ok (.invokevirtual 216, 3) := by decide +kernel
theorem dL_law_2973 : decode cL_law 2973 = .ok (.iload 5, 2) := by decide +kernel
theorem dL_law_2975 : decode cL_law 2975 = .ok (.if_icmp .eq 5, 3) := by decide +kernel
theorem dL_law_2980 : decode cL_law 2980 = .ok (.iload 5, 2) := by decide +kernel
theorem dL_law_2982 : decode cL_law 2982 = .ok (.ifCond .ne 15, 3) := by decide +kernel
theorem dL_law_2985 : decode cL_law 2985 = .ok (.aload_n 3, 1) := by decide +kernel
theorem dL_law_2986 : decode cL_law 2986 = .ok (.iconst 0, 1) := by decide +kernel
theorem dL_law_2987 : decode cL_law 2987 = .ok (.laload, 1) := by decide +kernel
theorem dL_law_2988 : decode cL_law 2988 = .ok (.iload 6, 2) := by decide +kernel
theorem dL_law_2990 : decode cL_law 2990 = .ok (.i2l, 1) := by decide +kernel
theorem dL_law_2991 : decode cL_law 2991 = .ok (.lcmp, 1) := by decide +kernel
theorem dL_law_2992 : decode cL_law 2992 = .ok (.ifCond .eq 5, 3) := by decide +kernel
theorem dL_law_2997 : decode cL_law 2997 = .ok (.goto 1464, 3) := by decide +kernel
theorem dL_law_3000 : decode cL_law 3000 = .ok (.aload_n 1, 1) := by decide +kernel
theorem dL_law_3001 : decode cL_law 3001 = .ok (.aload_n 0, 1) := by decide +kernel
theorem dL_law_3002 : decode cL_law 3002 = .ok (.iload 4, 2) := by decide +kernel
theorem dL_law_3004 : decode cL_law 3004 = .ok (.iconst 1, 1) := by decide +kernel
theorem dL_law_3005 : decode cL_law 3005 = .ok (.iadd, 1) := by decide +kernel
theorem dL_law_3006 : decode cL_law 3006 = .ok (.iaload, 1) := by decide +kernel
theorem dL_law_3007 : decode cL_law 3007 = .ok (.aload_n 3, 1) := by decide +kernel
theorem dL_law_3008 : decode cL_law 3008 = .ok (.invokestatic 400, 3) := by decide +kernel
theorem dL_law_3011 : decode cL_law 3011 = .ok (.istore 5, 2) := by decide +kernel
theorem dL_law_3013 : decode cL_law 3013 = .ok (.aload_n 2, 1) := by decide +kernel
theorem dL_law_3014 : decode cL_law 3014 = .ok (.aload_n 0, 1) := by decide +kernel
theorem dL_law_3015 : decode cL_law 3015 = .ok (.iload 4, 2) := by decide +kernel
theorem dL_law_3017 : decode cL_law 3017 = .ok (.iconst 1, 1) := by decide +kernel
theorem dL_law_3018 : decode cL_law 3018 = .ok (.iadd, 1) := by decide +kernel
theorem dL_law_3019 : decode cL_law 3019 = .ok (.iaload, 1) := by decide +kernel
theorem dL_law_3020 : decode cL_law 3020 = .ok (.invokevirtual 402, 3) := by decide +kernel
theorem dL_law_3023 : decode cL_law 3023 = .ok (.istore 6, 2) := by decide +kernel
theorem dL_law_3025 : decode cL_law 3025 = .ok (.aload_n 2, 1) := by decide +kernel
theorem dL_law_3026 : decode cL_law 3026 = .ok (.invokevirtual 216, 3) := by decide +kernel
theorem dL_law_3029 : decode cL_law 3029 = .ok (.iload 5, 2) := by decide +kernel
theorem dL_law_3031 : decode cL_law 3031 = .ok (.if_icmp .eq 5, 3) := by decide +kernel
theorem dL_law_3036 : decode cL_law 3036 = .ok (.iload 5, 2) := by decide +kernel
theorem dL_law_3038 : decode cL_law 3038 = .ok (.ifCond .ne 15, 3) := by decide +kernel
theorem dL_law_3041 : decode cL_law 3041 = .ok (.aload_n 3, 1) := by decide +kernel
theorem dL_law_3042 : decode cL_law 3042 = .ok (.iconst 0, 1) := by decide +kernel
theorem dL_law_3043 : decode cL_law 3043 = .ok (.laload, 1) := by decide +kernel
theorem dL_law_3044 : decode cL_law 3044 = .ok (.iload 6, 2) := by decide +kernel
theorem dL_law_3046 : decode cL_law 3046 = .ok (.i2l, 1) := by decide +kernel
theorem dL_law_3047 : decode cL_law 3047 = .ok (.lcmp, 1) := by decide +kernel
theorem dL_law_3048 : decode cL_law 3048 = .ok (.ifCond .eq 5, 3) := by decide +kernel
theorem dL_law_3053 : decode cL_law 3053 = .ok (.goto 1408, 3) := by decide +kernel
theorem dL_law_3056 : decode cL_law 3056 = .ok (.aload_n 1, 1) := by decide +kernel
theorem dL_law_3057 : decode cL_law 3057 = .ok (.aload_n 0, 1) := by decide +kernel
theorem dL_law_3058 : decode cL_law 3058 = .ok (.iload 4, 2) := by decide +kernel
theorem dL_law_3060 : decode cL_law 3060 = .ok (.iconst 1, 1) := by decide +kernel
theorem dL_law_3061 : decode cL_law 3061 = .ok (.iadd, 1) := by decide +kernel
theorem dL_law_3062 : decode cL_law 3062 = .ok (.iaload, 1) := by decide +kernel
theorem dL_law_3063 : decode cL_law 3063 = .ok (.aload_n 3, 1) := by decide +kernel
theorem dL_law_3064 : decode cL_law 3064 = .ok (.invokestatic 403, 3) := by decide +kernel
theorem dL_law_3067 : decode cL_law 3067 = .ok (.istore 5, 2) := by decide +kernel
theorem dL_law_3069 : decode cL_law 3069 = .ok (.aload_n 2, 1) := by decide +kernel
theorem dL_law_3070 : decode cL_law 3070 = .ok (.aload_n 0, 1) := by decide +kernel
theorem dL_law_3071 : decode cL_law 3071 = .ok (.iload 4, 2) := by decide +kernel
theorem dL_law_3073 : decode cL_law 3073 = .ok (.iconst 1, 1) := by decide +kernel
theorem dL_law_3074 : decode cL_law 3074 = .ok (.iadd, 1) := by decide +kernel
theorem dL_law_3075 : decode cL_law 3075 = .ok (.iaload, 1) := by decide +kernel
theorem dL_law_3076 : decode cL_law 3076 = .ok (.invokevirtual 405, 3) := by decide +kernel
theorem dL_law_3079 : decode cL_law 3079 = .ok (.istore 6, 2) := by decide +kernel
theorem dL_law_3081 : decode cL_law 3081 = .ok (.aload_n 2, 1) := by decide +kernel
theorem dL_law_3082 : decode cL_law 3082 = .ok (.invokevirtual 216, 3) := by decide +kernel
theorem dL_law_3085 : decode cL_law 3085 = .ok (.iload 5, 2) := by decide +kernel
theorem dL_law_3087 : decode cL_law 3087 = .ok (.if_icmp .eq 5, 3) := by decide +kernel
theorem dL_law_3092 : decode cL_law 3092 = .ok (.iload 5, 2) := by decide +kernel
theorem dL_law_3094 : decode cL_law 3094 = .ok (.ifCond .ne 15, 3) := by decide +kernel
theorem dL_law_3097 : decode cL_law 3097 = .ok (.aload_n 3, 1) := by decide +kernel
theorem dL_law_3098 : decode cL_law 3098 = .ok (.iconst 0, 1) := by decide +kernel
theorem dL_law_3099 : decode cL_law 3099 = .ok (.laload, 1) := by decide +kernel
theorem dL_law_3100 : decode cL_law 3100 = .ok (.iload 6, 2) := by decide +kernel
theorem dL_law_3102 : decode cL_law 3102 = .ok (.i2l, 1) := by decide +kernel
theorem dL_law_3103 : decode cL_law 3103 = .ok (.lcmp, 1) := by decide +kernel
theorem dL_law_3104 : decode cL_law 3104 = .ok (.ifCond .eq 5, 3) := by decide +kernel
theorem dL_law_3109 : decode cL_law 3109 = .ok (.goto 1352, 3) := by decide +kernel
theorem dL_law_3112 : decode cL_law 3112 = .ok (.aload_n 1, 1) := by decide +kernel
theorem dL_law_3113 : decode cL_law 3113 = .ok (.aload_n 0, 1) := by decide +kernel
theorem dL_law_3114 : decode cL_law 3114 = .ok (.iload 4, 2) := by decide +kernel
theorem dL_law_3116 : decode cL_law 3116 = .ok (.iconst 1, 1) := by decide +kernel
theorem dL_law_3117 : decode cL_law 3117 = .ok (.iadd, 1) := by decide +kernel
theorem dL_law_3118 : decode cL_law 3118 = .ok (.iaload, 1) := by decide +kernel
theorem dL_law_3119 : decode cL_law 3119 = .ok (.aload_n 3, 1) := by decide +kernel
theorem dL_law_3120 : decode cL_law 3120 = .ok (.invokestatic 406, 3) := by decide +kernel
theorem dL_law_3123 : decode cL_law 3123 = .ok (.istore 5, 2) := by decide +kernel
theorem dL_law_3125 : decode cL_law 3125 = .ok (.aload_n 2, 1) := by decide +kernel
theorem dL_law_3126 : decode cL_law 3126 = .ok (.aload_n 0, 1) := by decide +kernel
theorem dL_law_3127 : decode cL_law 3127 = .ok (.iload 4, 2) := by decide +kernel
theorem dL_law_3129 : decode cL_law 3129 = .ok (.iconst 1, 1) := by decide +kernel
theorem dL_law_3130 : decode cL_law 3130 = .ok (.iadd, 1) := by decide +kernel
theorem dL_law_3131 : decode cL_law 3131 = .ok (.iaload, 1) := by decide +kernel
theorem dL_law_3132 : decode cL_law 3132 = .ok (.invokevirtual 408, 3) := by decide +kernel
theorem dL_law_3135 : decode cL_law 3135 = .ok (.istore 6, 2) := by decide +kernel
theorem dL_law_3137 : decode cL_law 3137 = .ok (.aload_n 2, 1) := by decide +kernel
theorem dL_law_3138 : decode cL_law 3138 = .ok (.invokevirtual 216, 3) := by decide +kernel
theorem dL_law_3141 : decode cL_law 3141 = .ok (.iload 5, 2) := by decide +kernel
theorem dL_law_3143 : decode cL_law 3143 = .ok (.if_icmp .eq 5, 3) := by decide +kernel
theorem dL_law_3148 : decode cL_law 3148 = .ok (.iload 5, 2) := by decide +kernel
theorem dL_law_3150 : decode cL_law 3150 = .ok (.ifCond .ne 15, 3) := by decide +kernel
theorem dL_law_3153 : decode cL_law 3153 = .ok (.aload_n 3, 1) := by decide +kernel
theorem dL_law_3154 : decode cL_law 3154 = .ok (.iconst 0, 1) := by decide +kernel
theorem dL_law_3155 : decode cL_law 3155 = .ok (.laload, 1) := by decide +kernel
theorem dL_law_3156 : decode cL_law 3156 = .ok (.iload 6, 2) := by decide +kernel
theorem dL_law_3158 : decode cL_law 3158 = .ok (.i2l, 1) := by decide +kernel
theorem dL_law_3159 : decode cL_law 3159 = .ok (.lcmp, 1) := by decide +kernel
theorem dL_law_3160 : decode cL_law 3160 = .ok (.ifCond .eq 5, 3) := by decide +kernel
theorem dL_law_3165 : decode cL_law 3165 = .ok (.goto 1296, 3) := by decide +kernel
theorem dL_law_3168 : decode cL_law 3168 = .ok (.aload_n 1, 1) := by decide +kernel
theorem dL_law_3169 : decode cL_law 3169 = .ok (.aload_n 0, 1) := by decide +kernel
theorem dL_law_3170 : decode cL_law 3170 = .ok (.iload 4, 2) := by decide +kernel
theorem dL_law_3172 : decode cL_law 3172 = .ok (.iconst 1, 1) := by decide +kernel
theorem dL_law_3173 : decode cL_law 3173 = .ok (.iadd, 1) := by decide +kernel
theorem dL_law_3174 : decode cL_law 3174 = .ok (.iaload, 1) := by decide +kernel
theorem dL_law_3175 : decode cL_law 3175 = .ok (.aload_n 3, 1) := by decide +kernel
theorem dL_law_3176 : decode cL_law 3176 = .ok (.invokestatic 409, 3) := by decide +kernel
theorem dL_law_3179 : decode cL_law 3179 = .ok (.istore 5, 2) := by decide +kernel
theorem dL_law_3181 : decode cL_law 3181 = .ok (.aload_n 2, 1) := by decide +kernel
theorem dL_law_3182 : decode cL_law 3182 = .ok (.aload_n 0, 1) := by decide +kernel
theorem dL_law_3183 : decode cL_law 3183 = .ok (.iload 4, 2) := by decide +kernel
theorem dL_law_3185 : decode cL_law 3185 = .ok (.iconst 1, 1) := by decide +kernel
theorem dL_law_3186 : decode cL_law 3186 = .ok (.iadd, 1) := by decide +kernel
theorem dL_law_3187 : decode cL_law 3187 = .ok (.iaload, 1) := by decide +kernel
theorem dL_law_3188 : decode cL_law 3188 = .ok (.invokevirtual 411, 3) := by decide +kernel
theorem dL_law_3191 : decode cL_law 3191 = .ok (.istore 6, 2) := by decide +kernel
theorem dL_law_3193 : decode cL_law 3193 = .ok (.aload_n 2, 1) := by decide +kernel
theorem dL_law_3194 : decode cL_law 3194 = .ok (.invokevirtual 216, 3) := by decide +kernel
theorem dL_law_3197 : decode cL_law 3197 = .ok (.iload 5, 2) := by decide +kernel
theorem dL_law_3199 : decode cL_law 3199 = .ok (.if_icmp .eq 5, 3) := by decide +kernel
theorem dL_law_3204 : decode cL_law 3204 = .ok (.iload 5, 2) := by decide +kernel
theorem dL_law_3206 : decode cL_law 3206 = .ok (.ifCond .ne 15, 3) := by decide +kernel
theorem dL_law_3209 : decode cL_law 3209 = .ok (.aload_n 3, 1) := by decide +kernel
theorem dL_law_3210 : decode cL_law 3210 = .ok (.iconst 0, 1) := by decide +kernel
theorem dL_law_3211 : decode cL_law 3211 = .ok (.laload, 1) := by decide +kernel
theorem dL_law_3212 : decode cL_law 3212 = .ok (.iload 6, 2) := by decide +kernel
theorem dL_law_3214 : decode cL_law 3214 = .ok (.i2l, 1) := by decide +kernel
theorem dL_law_3215 : decode cL_law 3215 = .ok (.lcmp, 1) := by decide +kernel
theorem dL_law_3216 : decode cL_law 3216 = .ok (.ifCond .eq 5, 3) := by decide +kernel
theorem dL_law_3221 : decode cL_law 3221 = .ok (.goto 1240, 3) := by decide +kernel
theorem dL_law_3224 : decode cL_law 3224 = .ok (.aload_n 1, 1) := by decide +kernel
theorem dL_law_3225 : decode cL_law 3225 = .ok (.aload_n 0, 1) := by decide +kernel
theorem dL_law_3226 : decode cL_law 3226 = .ok (.iload 4, 2) := by decide +kernel
theorem dL_law_3228 : decode cL_law 3228 = .ok (.iconst 1, 1) := by decide +kernel
theorem dL_law_3229 : decode cL_law 3229 = .ok (.iadd, 1) := by decide +kernel
theorem dL_law_3230 : decode cL_law 3230 = .ok (.iaload, 1) := by decide +kernel
theorem dL_law_3231 : decode cL_law 3231 = .ok (.aload_n 3, 1) := by decide +kernel
theorem dL_law_3232 : decode cL_law 3232 = .ok (.invokestatic 412, 3) := by decide +kernel
theorem dL_law_3235 : decode cL_law 3235 = .ok (.istore 5, 2) := by decide +kernel
theorem dL_law_3237 : decode cL_law 3237 = .ok (.aload_n 2, 1) := by decide +kernel
theorem dL_law_3238 : decode cL_law 3238 = .ok (.aload_n 0, 1) := by decide +kernel
theorem dL_law_3239 : decode cL_law 3239 = .ok (.iload 4, 2) := by decide +kernel
theorem dL_law_3241 : decode cL_law 3241 = .ok (.iconst 1, 1) := by decide +kernel
theorem dL_law_3242 : decode cL_law 3242 = .ok (.iadd, 1) := by decide +kernel
theorem dL_law_3243 : decode cL_law 3243 = .ok (.iaload, 1) := by decide +kernel
theorem dL_law_3244 : decode cL_law 3244 = .ok (.invokevirtual 414, 3) := by decide +kernel
theorem dL_law_3247 : decode cL_law 3247 = .ok (.istore 6, 2) := by decide +kernel
theorem dL_law_3249 : decode cL_law 3249 = .ok (.aload_n 2, 1) := by decide +kernel
theorem dL_law_3250 : decode cL_law 3250 = .ok (.invokevirtual 216, 3) := by decide +kernel
theorem dL_law_3253 : decode cL_law 3253 = .ok (.iload 5, 2) := by decide +kernel
theorem dL_law_3255 : decode cL_law 3255 = .ok (.if_icmp .eq 5, 3) := by decide +kernel
theorem dL_law_3260 : decode cL_law 3260 = .ok (.iload 5, 2) := by decide +kernel
theorem dL_law_3262 : decode cL_law 3262 = .ok (.ifCond .ne 15, 3) := by decide +kernel
theorem dL_law_3265 : decode cL_law 3265 = .ok (.aload_n 3, 1) := by decide +kernel
theorem dL_law_3266 : decode cL_law 3266 = .ok (.iconst 0, 1) := by decide +kernel
theorem dL_law_3267 : decode cL_law 3267 = .ok (.laload, 1) := by decide +kernel
theorem dL_law_3268 : decode cL_law 3268 = .ok (.iload 6, 2) := by decide +kernel
theorem dL_law_3270 : decode cL_law 3270 = .ok (.i2l, 1) := by decide +kernel
theorem dL_law_3271 : decode cL_law 3271 = .ok (.lcmp, 1) := by decide +kernel
theorem dL_law_3272 : decode cL_law 3272 = .ok (.ifCond .eq 5, 3) := by decide +kernel
theorem dL_law_3277 : decode cL_law 3277 = .ok (.goto 1184, 3) := by decide +kernel
section CASE4
variable {p : Program} {l : Launch} {e : Env} {s : State} {m : MethodId} {args : Array Value} {below : List Frame} {meth : Method} {c : Code} {cells slots : Nat} {Q : State → Prop}
variable {D : va_G} {cA : Nat → ClassId} {ad : Nat → Nat → Nat} {A AC AM : Nat → Prop} {ob : Nat} {cO : ClassId}
variable {mc mm : Mm} {v : Int64} {b L i a s0 : Nat} {xs : Nat → Int32}
set_option maxRecDepth 100000 in
set_option maxHeartbeats 4000000 in
theorem case_48 (C : LC p l s m args c D cA ad A AC AM ob cO b L xs) (h : Hy a s0 mc mm (Rel (a + 400000) (s0 + 64))) (hi : i + 4 < L) (hroom : cells + 2 ≤ room_1.cells ∧ slots + 12 ≤ room_1.slots) (kk : ∀ (mc' mm' : Mm) (v' : Int64), Rel (a + 400000) (s0 + 64) mc' mm' → V p l e room_1 s m args below meth c Q 9 A (cells + 2) (slots + 12) (PL D cA ad ob cO mc' mm' v') 4461 (lvL ad ob b i) []) : V p l e room_1 s m args below meth c Q 9 A cells slots (PL D cA ad ob cO mc mm v) 2866 (lvL ad ob b i) [] := by
  have C0 := C
  obtain ⟨X, hA, hW, hZ, hX, hb1, hst, hL⟩ := C
  have hroom0 : cells ≤ room_1.cells ∧ slots ≤ room_1.slots := ⟨by omega, by omega⟩
  refine q_aload_n (j := 3) X dL_law_2866 rfl rfl ?_
  refine qL_c X hA hW hZ [] [] rfl rfl (Nat.le_of_ble_eq_true rfl) dL_law_2867 hroom0 (c_X9_balance hA.1  mc _ (J_balance (K := Rel (a + 400000) (s0 + 64)) h.1 (fun v9 => h.2.2.2 mc _ ((h.1.ref v9).mono (by omega) (by omega) h.2.2.1)) )) rfl rfl (gV kw_2_185 kw_2_186 kw_2_187 kw_1_1 kw_2_188) hy_X9_balance ⟨(Nat.le_of_ble_eq_true rfl), (Nat.le_of_ble_eq_true rfl)⟩ (fun r mc' hj => ?_)
  obtain ⟨hj, rfl⟩ := hj
  unfold jn at hj
  refine q_aload_n (j := 2) X dL_law_2870 rfl rfl ?_
  refine qL_m X hA hW [] [.int r] rfl rfl (Nat.le_of_ble_eq_true rfl) dL_law_2871 hroom0 (c_X10_balance hA.2.1  mm _ hj) rfl rfl (gV kw_9_6 kw_9_7 kw_9_8 kw_1_11 kw_9_9) hy_X10_balance ⟨(Nat.le_of_ble_eq_true rfl), (Nat.le_of_ble_eq_true rfl)⟩ (fun b9 mm9 hb => ?_)
  obtain ⟨rfl, hK⟩ := hb
  refine q_icmp_eq X dL_law_2874 (tgt := 4461) (by decide) (fun _ => ?_) (fun h9 => absurd rfl h9)
  exact q_w (Nat.le_add_right _ _) (Nat.le_add_right _ _) (kk _ _ _ hK)
set_option maxRecDepth 100000 in
set_option maxHeartbeats 4000000 in
theorem case_49 (C : LC p l s m args c D cA ad A AC AM ob cO b L xs) (h : Hy a s0 mc mm (Rel (a + 400000) (s0 + 64))) (hi : i + 4 < L) (hroom : cells + 2 ≤ room_1.cells ∧ slots + 12 ≤ room_1.slots) (kk : ∀ (mc' mm' : Mm) (v' : Int64), Rel (a + 400000) (s0 + 64) mc' mm' → V p l e room_1 s m args below meth c Q 9 A (cells + 2) (slots + 12) (PL D cA ad ob cO mc' mm' v') 4461 (lvL ad ob b i) []) : V p l e room_1 s m args below meth c Q 9 A cells slots (PL D cA ad ob cO mc mm v) 2879 (lvL ad ob b i) [] := by
  have C0 := C
  obtain ⟨X, hA, hW, hZ, hX, hb1, hst, hL⟩ := C
  have hroom0 : cells ≤ room_1.cells ∧ slots ≤ room_1.slots := ⟨by omega, by omega⟩
  refine q_aload_n (j := 3) X dL_law_2879 rfl rfl ?_
  refine qL_c X hA hW hZ [] [] rfl rfl (Nat.le_of_ble_eq_true rfl) dL_law_2880 hroom0 (c_X9_balanceByTotals hA.1  mc _ (J_balanceByTotals (K := Rel (a + 400000) (s0 + 64)) h.1 (fun v9 => h.2.2.2 mc _ ((h.1.ref v9).mono (by omega) (by omega) h.2.2.1)) )) rfl rfl (gV kw_2_189 kw_2_190 kw_2_191 kw_1_1 kw_2_192) hy_X9_balanceByTotals ⟨(Nat.le_of_ble_eq_true rfl), (Nat.le_of_ble_eq_true rfl)⟩ (fun r mc' hj => ?_)
  obtain ⟨hj, rfl⟩ := hj
  unfold jn at hj
  refine q_aload_n (j := 2) X dL_law_2883 rfl rfl ?_
  refine qL_m X hA hW [] [.int r] rfl rfl (Nat.le_of_ble_eq_true rfl) dL_law_2884 hroom0 (c_X10_balanceByTotals hA.2.1  mm _ hj) rfl rfl (gV kw_9_10 kw_9_11 kw_9_12 kw_1_11 kw_9_13) hy_X10_balanceByTotals ⟨(Nat.le_of_ble_eq_true rfl), (Nat.le_of_ble_eq_true rfl)⟩ (fun b9 mm9 hb => ?_)
  obtain ⟨rfl, hK⟩ := hb
  refine q_icmp_eq X dL_law_2887 (tgt := 4461) (by decide) (fun _ => ?_) (fun h9 => absurd rfl h9)
  exact q_w (Nat.le_add_right _ _) (Nat.le_add_right _ _) (kk _ _ _ hK)
set_option maxRecDepth 100000 in
set_option maxHeartbeats 4000000 in
theorem case_50 (C : LC p l s m args c D cA ad A AC AM ob cO b L xs) (h : Hy a s0 mc mm (Rel (a + 400000) (s0 + 64))) (hi : i + 4 < L) (hroom : cells + 2 ≤ room_1.cells ∧ slots + 12 ≤ room_1.slots) (kk : ∀ (mc' mm' : Mm) (v' : Int64), Rel (a + 400000) (s0 + 64) mc' mm' → V p l e room_1 s m args below meth c Q 9 A (cells + 2) (slots + 12) (PL D cA ad ob cO mc' mm' v') 4461 (lvL ad ob b i) []) : V p l e room_1 s m args below meth c Q 9 A cells slots (PL D cA ad ob cO mc mm v) 2892 (lvL ad ob b i) [] := by
  have C0 := C
  obtain ⟨X, hA, hW, hZ, hX, hb1, hst, hL⟩ := C
  have hroom0 : cells ≤ room_1.cells ∧ slots ≤ room_1.slots := ⟨by omega, by omega⟩
  refine q_aload_n (j := 3) X dL_law_2892 rfl rfl ?_
  refine qL_c X hA hW hZ [] [] rfl rfl (Nat.le_of_ble_eq_true rfl) dL_law_2893 hroom0 (c_X9_deposits hA.1  mc _ (J_deposits (K := Rel (a + 400000) (s0 + 64)) h.1 (fun v9 => h.2.2.2 mc _ ((h.1.ref v9).mono (by omega) (by omega) h.2.2.1)) )) rfl rfl (gV kw_2_193 kw_2_194 kw_2_195 kw_1_1 kw_2_196) hy_X9_deposits ⟨(Nat.le_of_ble_eq_true rfl), (Nat.le_of_ble_eq_true rfl)⟩ (fun r mc' hj => ?_)
  obtain ⟨hj, rfl⟩ := hj
  unfold jn at hj
  refine q_aload_n (j := 2) X dL_law_2896 rfl rfl ?_
  refine qL_m X hA hW [] [.int r] rfl rfl (Nat.le_of_ble_eq_true rfl) dL_law_2897 hroom0 (c_X10_deposits hA.2.1  mm _ hj) rfl rfl (gV kw_9_14 kw_9_15 kw_9_16 kw_1_11 kw_9_17) hy_X10_deposits ⟨(Nat.le_of_ble_eq_true rfl), (Nat.le_of_ble_eq_true rfl)⟩ (fun b9 mm9 hb => ?_)
  obtain ⟨rfl, hK⟩ := hb
  refine q_icmp_eq X dL_law_2900 (tgt := 4461) (by decide) (fun _ => ?_) (fun h9 => absurd rfl h9)
  exact q_w (Nat.le_add_right _ _) (Nat.le_add_right _ _) (kk _ _ _ hK)
set_option maxRecDepth 100000 in
set_option maxHeartbeats 4000000 in
theorem case_51 (C : LC p l s m args c D cA ad A AC AM ob cO b L xs) (h : Hy a s0 mc mm (Rel (a + 400000) (s0 + 64))) (hi : i + 4 < L) (hroom : cells + 2 ≤ room_1.cells ∧ slots + 12 ≤ room_1.slots) (kk : ∀ (mc' mm' : Mm) (v' : Int64), Rel (a + 400000) (s0 + 64) mc' mm' → V p l e room_1 s m args below meth c Q 9 A (cells + 2) (slots + 12) (PL D cA ad ob cO mc' mm' v') 4461 (lvL ad ob b i) []) : V p l e room_1 s m args below meth c Q 9 A cells slots (PL D cA ad ob cO mc mm v) 2905 (lvL ad ob b i) [] := by
  have C0 := C
  obtain ⟨X, hA, hW, hZ, hX, hb1, hst, hL⟩ := C
  have hroom0 : cells ≤ room_1.cells ∧ slots ≤ room_1.slots := ⟨by omega, by omega⟩
  refine q_aload_n (j := 3) X dL_law_2905 rfl rfl ?_
  refine qL_c X hA hW hZ [] [] rfl rfl (Nat.le_of_ble_eq_true rfl) dL_law_2906 hroom0 (c_X9_dutiesPaid hA.1  mc _ (J_dutiesPaid (K := Rel (a + 400000) (s0 + 64)) h.1 (fun v9 => h.2.2.2 mc _ ((h.1.ref v9).mono (by omega) (by omega) h.2.2.1)) )) rfl rfl (gV kw_2_197 kw_2_198 kw_2_199 kw_1_1 kw_2_200) hy_X9_dutiesPaid ⟨(Nat.le_of_ble_eq_true rfl), (Nat.le_of_ble_eq_true rfl)⟩ (fun r mc' hj => ?_)
  obtain ⟨hj, rfl⟩ := hj
  unfold jn at hj
  refine q_aload_n (j := 2) X dL_law_2909 rfl rfl ?_
  refine qL_m X hA hW [] [.int r] rfl rfl (Nat.le_of_ble_eq_true rfl) dL_law_2910 hroom0 (c_X10_dutiesPaid hA.2.1  mm _ hj) rfl rfl (gV kw_9_18 kw_9_19 kw_9_20 kw_1_11 kw_9_21) hy_X10_dutiesPaid ⟨(Nat.le_of_ble_eq_true rfl), (Nat.le_of_ble_eq_true rfl)⟩ (fun b9 mm9 hb => ?_)
  obtain ⟨rfl, hK⟩ := hb
  refine q_icmp_eq X dL_law_2913 (tgt := 4461) (by decide) (fun _ => ?_) (fun h9 => absurd rfl h9)
  exact q_w (Nat.le_add_right _ _) (Nat.le_add_right _ _) (kk _ _ _ hK)
set_option maxRecDepth 100000 in
set_option maxHeartbeats 4000000 in
theorem case_52 (C : LC p l s m args c D cA ad A AC AM ob cO b L xs) (h : Hy a s0 mc mm (Rel (a + 400000) (s0 + 64))) (hi : i + 4 < L) (hroom : cells + 2 ≤ room_1.cells ∧ slots + 12 ≤ room_1.slots) (kk : ∀ (mc' mm' : Mm) (v' : Int64), Rel (a + 400000) (s0 + 64) mc' mm' → V p l e room_1 s m args below meth c Q 9 A (cells + 2) (slots + 12) (PL D cA ad ob cO mc' mm' v') 4461 (lvL ad ob b i) []) : V p l e room_1 s m args below meth c Q 9 A cells slots (PL D cA ad ob cO mc mm v) 2918 (lvL ad ob b i) [] := by
  have C0 := C
  obtain ⟨X, hA, hW, hZ, hX, hb1, hst, hL⟩ := C
  have hroom0 : cells ≤ room_1.cells ∧ slots ≤ room_1.slots := ⟨by omega, by omega⟩
  refine q_aload_n (j := 3) X dL_law_2918 rfl rfl ?_
  refine qL_c X hA hW hZ [] [] rfl rfl (Nat.le_of_ble_eq_true rfl) dL_law_2919 hroom0 (c_X9_charges hA.1  mc _ (J_charges (K := Rel (a + 400000) (s0 + 64)) h.1 (fun v9 => h.2.2.2 mc _ ((h.1.ref v9).mono (by omega) (by omega) h.2.2.1)) )) rfl rfl (gV kw_2_201 kw_2_202 kw_2_203 kw_1_1 kw_2_204) hy_X9_charges ⟨(Nat.le_of_ble_eq_true rfl), (Nat.le_of_ble_eq_true rfl)⟩ (fun r mc' hj => ?_)
  obtain ⟨hj, rfl⟩ := hj
  unfold jn at hj
  refine q_aload_n (j := 2) X dL_law_2922 rfl rfl ?_
  refine qL_m X hA hW [] [.int r] rfl rfl (Nat.le_of_ble_eq_true rfl) dL_law_2923 hroom0 (c_X10_charges hA.2.1  mm _ hj) rfl rfl (gV kw_9_22 kw_9_23 kw_9_24 kw_1_11 kw_9_25) hy_X10_charges ⟨(Nat.le_of_ble_eq_true rfl), (Nat.le_of_ble_eq_true rfl)⟩ (fun b9 mm9 hb => ?_)
  obtain ⟨rfl, hK⟩ := hb
  refine q_icmp_eq X dL_law_2926 (tgt := 4461) (by decide) (fun _ => ?_) (fun h9 => absurd rfl h9)
  exact q_w (Nat.le_add_right _ _) (Nat.le_add_right _ _) (kk _ _ _ hK)
set_option maxRecDepth 100000 in
set_option maxHeartbeats 4000000 in
theorem case_53 (C : LC p l s m args c D cA ad A AC AM ob cO b L xs) (h : Hy a s0 mc mm (Rel (a + 400000) (s0 + 64))) (hi : i + 4 < L) (hroom : cells + 2 ≤ room_1.cells ∧ slots + 12 ≤ room_1.slots) (kk : ∀ (mc' mm' : Mm) (v' : Int64), Rel (a + 400000) (s0 + 64) mc' mm' → V p l e room_1 s m args below meth c Q 9 A (cells + 2) (slots + 12) (PL D cA ad ob cO mc' mm' v') 4461 (lvL ad ob b i) []) : V p l e room_1 s m args below meth c Q 9 A cells slots (PL D cA ad ob cO mc mm v) 2931 (lvL ad ob b i) [] := by
  have C0 := C
  obtain ⟨X, hA, hW, hZ, hX, hb1, hst, hL⟩ := C
  have hroom0 : cells ≤ room_1.cells ∧ slots ≤ room_1.slots := ⟨by omega, by omega⟩
  refine q_aload_n (j := 3) X dL_law_2931 rfl rfl ?_
  refine qL_c X hA hW hZ [] [] rfl rfl (Nat.le_of_ble_eq_true rfl) dL_law_2932 hroom0 (c_X9_drawbacks hA.1  mc _ (J_drawbacks (K := Rel (a + 400000) (s0 + 64)) h.1 (fun v9 => h.2.2.2 mc _ ((h.1.ref v9).mono (by omega) (by omega) h.2.2.1)) )) rfl rfl (gV kw_2_205 kw_2_206 kw_2_207 kw_1_1 kw_2_208) hy_X9_drawbacks ⟨(Nat.le_of_ble_eq_true rfl), (Nat.le_of_ble_eq_true rfl)⟩ (fun r mc' hj => ?_)
  obtain ⟨hj, rfl⟩ := hj
  unfold jn at hj
  refine q_aload_n (j := 2) X dL_law_2935 rfl rfl ?_
  refine qL_m X hA hW [] [.int r] rfl rfl (Nat.le_of_ble_eq_true rfl) dL_law_2936 hroom0 (c_X10_drawbacks hA.2.1  mm _ hj) rfl rfl (gV kw_9_26 kw_9_27 kw_9_28 kw_1_11 kw_9_29) hy_X10_drawbacks ⟨(Nat.le_of_ble_eq_true rfl), (Nat.le_of_ble_eq_true rfl)⟩ (fun b9 mm9 hb => ?_)
  obtain ⟨rfl, hK⟩ := hb
  refine q_icmp_eq X dL_law_2939 (tgt := 4461) (by decide) (fun _ => ?_) (fun h9 => absurd rfl h9)
  exact q_w (Nat.le_add_right _ _) (Nat.le_add_right _ _) (kk _ _ _ hK)
set_option maxRecDepth 100000 in
set_option maxHeartbeats 4000000 in
theorem case_54 (C : LC p l s m args c D cA ad A AC AM ob cO b L xs) (h : Hy a s0 mc mm (Rel (a + 400000) (s0 + 64))) (hi : i + 4 < L) (hroom : cells + 2 ≤ room_1.cells ∧ slots + 12 ≤ room_1.slots) (kk : ∀ (mc' mm' : Mm) (v' : Int64), Rel (a + 400000) (s0 + 64) mc' mm' → V p l e room_1 s m args below meth c Q 9 A (cells + 2) (slots + 12) (PL D cA ad ob cO mc' mm' v') 4461 (lvL ad ob b i) []) : V p l e room_1 s m args below meth c Q 9 A cells slots (PL D cA ad ob cO mc mm v) 2944 (lvL ad ob b i) [] := by
  have C0 := C
  obtain ⟨X, hA, hW, hZ, hX, hb1, hst, hL⟩ := C
  have hroom0 : cells ≤ room_1.cells ∧ slots ≤ room_1.slots := ⟨by omega, by omega⟩
  refine q_aload_n (j := 3) X dL_law_2944 rfl rfl ?_
  refine qL_arg C0 1 (j0 := 4) (j4 := 0) rfl (by decide) dL_law_2945 dL_law_2946 dL_law_2948 dL_law_2949 dL_law_2950 rfl rfl hi ?_
  refine q_aload_n (j := 1) X dL_law_2951 rfl rfl ?_
  refine qL_w X hA hW hZ [.ref (ad 0 1), .int (xs (i + 1)), .ref ob] rfl rfl dL_law_2952 hroom (k_L_entered hA.1 hA.2.2.1.1 hst (xs (i + 1)) mc v _ _ (J_entered (K := Rel (a + 400000) (s0 + 64)) h.1 (fun v9 => h.2.2.2 mc _ ((h.1.ref v9).mono (by omega) (by omega) h.2.2.1)) (xs (i + 1))) (fun _ _ hx => hx.1)) rfl rfl (gSW kw_5_232 kw_5_233 kw_1_0 kw_5_234) hy_L_entered ⟨(Nat.le_of_ble_eq_true rfl), (Nat.le_of_ble_eq_true rfl)⟩ (fun k mc' v' hq => ?_)
  refine q_istore X dL_law_2955 (Nat.le_of_ble_eq_true rfl) rfl ?_
  refine q_aload_n (j := 3) X dL_law_2957 rfl rfl ?_
  refine qL_arg C0 1 (j0 := 5) (j4 := 1) rfl (by decide) dL_law_2958 dL_law_2959 dL_law_2961 dL_law_2962 dL_law_2963 rfl rfl hi ?_
  have hroom1 : cells + 2 ≤ room_1.cells ∧ slots + 12 ≤ room_1.slots := hroom
  rcases hq with ⟨rfl, r, rfl, hj⟩ | ⟨hk0, k0, hk, hj⟩
  · skip
    obtain ⟨hj, rfl⟩ := hj
    unfold jq at hj
    refine qL_m X hA hW [.int (xs (i + 1))] [] rfl rfl (Nat.le_of_ble_eq_true rfl) dL_law_2964 hroom1 (c_X10_entered hA.2.1 (xs (i + 1)) mm _ hj) rfl rfl (gV kw_9_30 kw_9_31 kw_9_32 kw_1_11 kw_9_33) hy_X10_entered ⟨(Nat.le_of_ble_eq_true rfl), (Nat.le_of_ble_eq_true rfl)⟩ (fun b9 mm9 hb => ?_)
    obtain ⟨h1, rfl, hK⟩ := hb
    refine q_istore X dL_law_2967 (Nat.le_of_ble_eq_true rfl) rfl ?_
    exact tailI C0 hroom1 ⟨(Nat.le_of_ble_eq_true rfl), (Nat.le_of_ble_eq_true rfl)⟩ h1 (fun _ => rfl) dL_law_2969 dL_law_2970 dL_law_2973 dL_law_2975 dL_law_2980 dL_law_2982 dL_law_2985 dL_law_2986 dL_law_2987 dL_law_2988 dL_law_2990 dL_law_2991 dL_law_2992 dL_law_2997 (by decide) (kk _ _ _ hK)
  · obtain ⟨_, hj⟩ := hj
    unfold jx at hj
    refine qL_m X hA hW [.int (xs (i + 1))] [] rfl rfl (Nat.le_of_ble_eq_true rfl) dL_law_2964 hroom1 (c_X10_entered hA.2.1 (xs (i + 1)) mm _ hj) rfl rfl (gV kw_9_30 kw_9_31 kw_9_32 kw_1_11 kw_9_33) hy_X10_entered ⟨(Nat.le_of_ble_eq_true rfl), (Nat.le_of_ble_eq_true rfl)⟩ (fun b9 mm9 hb => ?_)
    obtain ⟨h1, hK⟩ := hb
    refine q_istore X dL_law_2967 (Nat.le_of_ble_eq_true rfl) rfl ?_
    exact tailI C0 hroom1 ⟨(Nat.le_of_ble_eq_true rfl), (Nat.le_of_ble_eq_true rfl)⟩ (h1.trans hk.symm) (fun h0 => absurd h0 hk0) dL_law_2969 dL_law_2970 dL_law_2973 dL_law_2975 dL_law_2980 dL_law_2982 dL_law_2985 dL_law_2986 dL_law_2987 dL_law_2988 dL_law_2990 dL_law_2991 dL_law_2992 dL_law_2997 (by decide) (kk _ _ _ hK)
set_option maxRecDepth 100000 in
set_option maxHeartbeats 4000000 in
theorem case_55 (C : LC p l s m args c D cA ad A AC AM ob cO b L xs) (h : Hy a s0 mc mm (Rel (a + 400000) (s0 + 64))) (hi : i + 4 < L) (hroom : cells + 2 ≤ room_1.cells ∧ slots + 12 ≤ room_1.slots) (kk : ∀ (mc' mm' : Mm) (v' : Int64), Rel (a + 400000) (s0 + 64) mc' mm' → V p l e room_1 s m args below meth c Q 9 A (cells + 2) (slots + 12) (PL D cA ad ob cO mc' mm' v') 4461 (lvL ad ob b i) []) : V p l e room_1 s m args below meth c Q 9 A cells slots (PL D cA ad ob cO mc mm v) 3000 (lvL ad ob b i) [] := by
  have C0 := C
  obtain ⟨X, hA, hW, hZ, hX, hb1, hst, hL⟩ := C
  have hroom0 : cells ≤ room_1.cells ∧ slots ≤ room_1.slots := ⟨by omega, by omega⟩
  refine q_aload_n (j := 3) X dL_law_3000 rfl rfl ?_
  refine qL_arg C0 1 (j0 := 4) (j4 := 0) rfl (by decide) dL_law_3001 dL_law_3002 dL_law_3004 dL_law_3005 dL_law_3006 rfl rfl hi ?_
  refine q_aload_n (j := 1) X dL_law_3007 rfl rfl ?_
  refine qL_w X hA hW hZ [.ref (ad 0 1), .int (xs (i + 1)), .ref ob] rfl rfl dL_law_3008 hroom (k_L_withdrawn hA.1 hA.2.2.1.1 hst (xs (i + 1)) mc v _ _ (J_withdrawn (K := Rel (a + 400000) (s0 + 64)) h.1 (fun v9 => h.2.2.2 mc _ ((h.1.ref v9).mono (by omega) (by omega) h.2.2.1)) (xs (i + 1))) (fun _ _ hx => hx.1)) rfl rfl (gSW kw_5_239 kw_6_0 kw_1_0 kw_6_1) hy_L_withdrawn ⟨(Nat.le_of_ble_eq_true rfl), (Nat.le_of_ble_eq_true rfl)⟩ (fun k mc' v' hq => ?_)
  refine q_istore X dL_law_3011 (Nat.le_of_ble_eq_true rfl) rfl ?_
  refine q_aload_n (j := 3) X dL_law_3013 rfl rfl ?_
  refine qL_arg C0 1 (j0 := 5) (j4 := 1) rfl (by decide) dL_law_3014 dL_law_3015 dL_law_3017 dL_law_3018 dL_law_3019 rfl rfl hi ?_
  have hroom1 : cells + 2 ≤ room_1.cells ∧ slots + 12 ≤ room_1.slots := hroom
  rcases hq with ⟨rfl, r, rfl, hj⟩ | ⟨hk0, k0, hk, hj⟩
  · skip
    obtain ⟨hj, rfl⟩ := hj
    unfold jq at hj
    refine qL_m X hA hW [.int (xs (i + 1))] [] rfl rfl (Nat.le_of_ble_eq_true rfl) dL_law_3020 hroom1 (c_X10_withdrawn hA.2.1 (xs (i + 1)) mm _ hj) rfl rfl (gV kw_9_38 kw_9_39 kw_9_40 kw_1_11 kw_9_41) hy_X10_withdrawn ⟨(Nat.le_of_ble_eq_true rfl), (Nat.le_of_ble_eq_true rfl)⟩ (fun b9 mm9 hb => ?_)
    obtain ⟨h1, rfl, hK⟩ := hb
    refine q_istore X dL_law_3023 (Nat.le_of_ble_eq_true rfl) rfl ?_
    exact tailI C0 hroom1 ⟨(Nat.le_of_ble_eq_true rfl), (Nat.le_of_ble_eq_true rfl)⟩ h1 (fun _ => rfl) dL_law_3025 dL_law_3026 dL_law_3029 dL_law_3031 dL_law_3036 dL_law_3038 dL_law_3041 dL_law_3042 dL_law_3043 dL_law_3044 dL_law_3046 dL_law_3047 dL_law_3048 dL_law_3053 (by decide) (kk _ _ _ hK)
  · obtain ⟨_, hj⟩ := hj
    unfold jx at hj
    refine qL_m X hA hW [.int (xs (i + 1))] [] rfl rfl (Nat.le_of_ble_eq_true rfl) dL_law_3020 hroom1 (c_X10_withdrawn hA.2.1 (xs (i + 1)) mm _ hj) rfl rfl (gV kw_9_38 kw_9_39 kw_9_40 kw_1_11 kw_9_41) hy_X10_withdrawn ⟨(Nat.le_of_ble_eq_true rfl), (Nat.le_of_ble_eq_true rfl)⟩ (fun b9 mm9 hb => ?_)
    obtain ⟨h1, hK⟩ := hb
    refine q_istore X dL_law_3023 (Nat.le_of_ble_eq_true rfl) rfl ?_
    exact tailI C0 hroom1 ⟨(Nat.le_of_ble_eq_true rfl), (Nat.le_of_ble_eq_true rfl)⟩ (h1.trans hk.symm) (fun h0 => absurd h0 hk0) dL_law_3025 dL_law_3026 dL_law_3029 dL_law_3031 dL_law_3036 dL_law_3038 dL_law_3041 dL_law_3042 dL_law_3043 dL_law_3044 dL_law_3046 dL_law_3047 dL_law_3048 dL_law_3053 (by decide) (kk _ _ _ hK)
set_option maxRecDepth 100000 in
set_option maxHeartbeats 4000000 in
theorem case_56 (C : LC p l s m args c D cA ad A AC AM ob cO b L xs) (h : Hy a s0 mc mm (Rel (a + 400000) (s0 + 64))) (hi : i + 4 < L) (hroom : cells + 2 ≤ room_1.cells ∧ slots + 12 ≤ room_1.slots) (kk : ∀ (mc' mm' : Mm) (v' : Int64), Rel (a + 400000) (s0 + 64) mc' mm' → V p l e room_1 s m args below meth c Q 9 A (cells + 2) (slots + 12) (PL D cA ad ob cO mc' mm' v') 4461 (lvL ad ob b i) []) : V p l e room_1 s m args below meth c Q 9 A cells slots (PL D cA ad ob cO mc mm v) 3056 (lvL ad ob b i) [] := by
  have C0 := C
  obtain ⟨X, hA, hW, hZ, hX, hb1, hst, hL⟩ := C
  have hroom0 : cells ≤ room_1.cells ∧ slots ≤ room_1.slots := ⟨by omega, by omega⟩
  refine q_aload_n (j := 3) X dL_law_3056 rfl rfl ?_
  refine qL_arg C0 1 (j0 := 4) (j4 := 0) rfl (by decide) dL_law_3057 dL_law_3058 dL_law_3060 dL_law_3061 dL_law_3062 rfl rfl hi ?_
  refine q_aload_n (j := 1) X dL_law_3063 rfl rfl ?_
  refine qL_w X hA hW hZ [.ref (ad 0 1), .int (xs (i + 1)), .ref ob] rfl rfl dL_law_3064 hroom (k_L_sentAbroad hA.1 hA.2.2.1.1 hst (xs (i + 1)) mc v _ _ (J_sentAbroad (K := Rel (a + 400000) (s0 + 64)) h.1 (fun v9 => h.2.2.2 mc _ ((h.1.ref v9).mono (by omega) (by omega) h.2.2.1)) (xs (i + 1))) (fun _ _ hx => hx.1)) rfl rfl (gSW kw_6_6 kw_6_7 kw_1_0 kw_6_8) hy_L_sentAbroad ⟨(Nat.le_of_ble_eq_true rfl), (Nat.le_of_ble_eq_true rfl)⟩ (fun k mc' v' hq => ?_)
  refine q_istore X dL_law_3067 (Nat.le_of_ble_eq_true rfl) rfl ?_
  refine q_aload_n (j := 3) X dL_law_3069 rfl rfl ?_
  refine qL_arg C0 1 (j0 := 5) (j4 := 1) rfl (by decide) dL_law_3070 dL_law_3071 dL_law_3073 dL_law_3074 dL_law_3075 rfl rfl hi ?_
  have hroom1 : cells + 2 ≤ room_1.cells ∧ slots + 12 ≤ room_1.slots := hroom
  rcases hq with ⟨rfl, r, rfl, hj⟩ | ⟨hk0, k0, hk, hj⟩
  · skip
    obtain ⟨hj, rfl⟩ := hj
    unfold jq at hj
    refine qL_m X hA hW [.int (xs (i + 1))] [] rfl rfl (Nat.le_of_ble_eq_true rfl) dL_law_3076 hroom1 (c_X10_sentAbroad hA.2.1 (xs (i + 1)) mm _ hj) rfl rfl (gV kw_9_42 kw_9_43 kw_9_44 kw_1_11 kw_9_45) hy_X10_sentAbroad ⟨(Nat.le_of_ble_eq_true rfl), (Nat.le_of_ble_eq_true rfl)⟩ (fun b9 mm9 hb => ?_)
    obtain ⟨h1, rfl, hK⟩ := hb
    refine q_istore X dL_law_3079 (Nat.le_of_ble_eq_true rfl) rfl ?_
    exact tailI C0 hroom1 ⟨(Nat.le_of_ble_eq_true rfl), (Nat.le_of_ble_eq_true rfl)⟩ h1 (fun _ => rfl) dL_law_3081 dL_law_3082 dL_law_3085 dL_law_3087 dL_law_3092 dL_law_3094 dL_law_3097 dL_law_3098 dL_law_3099 dL_law_3100 dL_law_3102 dL_law_3103 dL_law_3104 dL_law_3109 (by decide) (kk _ _ _ hK)
  · obtain ⟨_, hj⟩ := hj
    unfold jx at hj
    refine qL_m X hA hW [.int (xs (i + 1))] [] rfl rfl (Nat.le_of_ble_eq_true rfl) dL_law_3076 hroom1 (c_X10_sentAbroad hA.2.1 (xs (i + 1)) mm _ hj) rfl rfl (gV kw_9_42 kw_9_43 kw_9_44 kw_1_11 kw_9_45) hy_X10_sentAbroad ⟨(Nat.le_of_ble_eq_true rfl), (Nat.le_of_ble_eq_true rfl)⟩ (fun b9 mm9 hb => ?_)
    obtain ⟨h1, hK⟩ := hb
    refine q_istore X dL_law_3079 (Nat.le_of_ble_eq_true rfl) rfl ?_
    exact tailI C0 hroom1 ⟨(Nat.le_of_ble_eq_true rfl), (Nat.le_of_ble_eq_true rfl)⟩ (h1.trans hk.symm) (fun h0 => absurd h0 hk0) dL_law_3081 dL_law_3082 dL_law_3085 dL_law_3087 dL_law_3092 dL_law_3094 dL_law_3097 dL_law_3098 dL_law_3099 dL_law_3100 dL_law_3102 dL_law_3103 dL_law_3104 dL_law_3109 (by decide) (kk _ _ _ hK)
set_option maxRecDepth 100000 in
set_option maxHeartbeats 4000000 in
theorem case_57 (C : LC p l s m args c D cA ad A AC AM ob cO b L xs) (h : Hy a s0 mc mm (Rel (a + 400000) (s0 + 64))) (hi : i + 4 < L) (hroom : cells + 2 ≤ room_1.cells ∧ slots + 12 ≤ room_1.slots) (kk : ∀ (mc' mm' : Mm) (v' : Int64), Rel (a + 400000) (s0 + 64) mc' mm' → V p l e room_1 s m args below meth c Q 9 A (cells + 2) (slots + 12) (PL D cA ad ob cO mc' mm' v') 4461 (lvL ad ob b i) []) : V p l e room_1 s m args below meth c Q 9 A cells slots (PL D cA ad ob cO mc mm v) 3112 (lvL ad ob b i) [] := by
  have C0 := C
  obtain ⟨X, hA, hW, hZ, hX, hb1, hst, hL⟩ := C
  have hroom0 : cells ≤ room_1.cells ∧ slots ≤ room_1.slots := ⟨by omega, by omega⟩
  refine q_aload_n (j := 3) X dL_law_3112 rfl rfl ?_
  refine qL_arg C0 1 (j0 := 4) (j4 := 0) rfl (by decide) dL_law_3113 dL_law_3114 dL_law_3116 dL_law_3117 dL_law_3118 rfl rfl hi ?_
  refine q_aload_n (j := 1) X dL_law_3119 rfl rfl ?_
  refine qL_w X hA hW hZ [.ref (ad 0 1), .int (xs (i + 1)), .ref ob] rfl rfl dL_law_3120 hroom (k_L_wasted hA.1 hA.2.2.1.1 hst (xs (i + 1)) mc v _ _ (J_wasted (K := Rel (a + 400000) (s0 + 64)) h.1 (fun v9 => h.2.2.2 mc _ ((h.1.ref v9).mono (by omega) (by omega) h.2.2.1)) (xs (i + 1))) (fun _ _ hx => hx.1)) rfl rfl (gSW kw_6_13 kw_6_14 kw_1_0 kw_6_15) hy_L_wasted ⟨(Nat.le_of_ble_eq_true rfl), (Nat.le_of_ble_eq_true rfl)⟩ (fun k mc' v' hq => ?_)
  refine q_istore X dL_law_3123 (Nat.le_of_ble_eq_true rfl) rfl ?_
  refine q_aload_n (j := 3) X dL_law_3125 rfl rfl ?_
  refine qL_arg C0 1 (j0 := 5) (j4 := 1) rfl (by decide) dL_law_3126 dL_law_3127 dL_law_3129 dL_law_3130 dL_law_3131 rfl rfl hi ?_
  have hroom1 : cells + 2 ≤ room_1.cells ∧ slots + 12 ≤ room_1.slots := hroom
  rcases hq with ⟨rfl, r, rfl, hj⟩ | ⟨hk0, k0, hk, hj⟩
  · skip
    obtain ⟨hj, rfl⟩ := hj
    unfold jq at hj
    refine qL_m X hA hW [.int (xs (i + 1))] [] rfl rfl (Nat.le_of_ble_eq_true rfl) dL_law_3132 hroom1 (c_X10_wasted hA.2.1 (xs (i + 1)) mm _ hj) rfl rfl (gV kw_9_46 kw_9_47 kw_9_48 kw_1_11 kw_9_49) hy_X10_wasted ⟨(Nat.le_of_ble_eq_true rfl), (Nat.le_of_ble_eq_true rfl)⟩ (fun b9 mm9 hb => ?_)
    obtain ⟨h1, rfl, hK⟩ := hb
    refine q_istore X dL_law_3135 (Nat.le_of_ble_eq_true rfl) rfl ?_
    exact tailI C0 hroom1 ⟨(Nat.le_of_ble_eq_true rfl), (Nat.le_of_ble_eq_true rfl)⟩ h1 (fun _ => rfl) dL_law_3137 dL_law_3138 dL_law_3141 dL_law_3143 dL_law_3148 dL_law_3150 dL_law_3153 dL_law_3154 dL_law_3155 dL_law_3156 dL_law_3158 dL_law_3159 dL_law_3160 dL_law_3165 (by decide) (kk _ _ _ hK)
  · obtain ⟨_, hj⟩ := hj
    unfold jx at hj
    refine qL_m X hA hW [.int (xs (i + 1))] [] rfl rfl (Nat.le_of_ble_eq_true rfl) dL_law_3132 hroom1 (c_X10_wasted hA.2.1 (xs (i + 1)) mm _ hj) rfl rfl (gV kw_9_46 kw_9_47 kw_9_48 kw_1_11 kw_9_49) hy_X10_wasted ⟨(Nat.le_of_ble_eq_true rfl), (Nat.le_of_ble_eq_true rfl)⟩ (fun b9 mm9 hb => ?_)
    obtain ⟨h1, hK⟩ := hb
    refine q_istore X dL_law_3135 (Nat.le_of_ble_eq_true rfl) rfl ?_
    exact tailI C0 hroom1 ⟨(Nat.le_of_ble_eq_true rfl), (Nat.le_of_ble_eq_true rfl)⟩ (h1.trans hk.symm) (fun h0 => absurd h0 hk0) dL_law_3137 dL_law_3138 dL_law_3141 dL_law_3143 dL_law_3148 dL_law_3150 dL_law_3153 dL_law_3154 dL_law_3155 dL_law_3156 dL_law_3158 dL_law_3159 dL_law_3160 dL_law_3165 (by decide) (kk _ _ _ hK)
set_option maxRecDepth 100000 in
set_option maxHeartbeats 4000000 in
theorem case_58 (C : LC p l s m args c D cA ad A AC AM ob cO b L xs) (h : Hy a s0 mc mm (Rel (a + 400000) (s0 + 64))) (hi : i + 4 < L) (hroom : cells + 2 ≤ room_1.cells ∧ slots + 12 ≤ room_1.slots) (kk : ∀ (mc' mm' : Mm) (v' : Int64), Rel (a + 400000) (s0 + 64) mc' mm' → V p l e room_1 s m args below meth c Q 9 A (cells + 2) (slots + 12) (PL D cA ad ob cO mc' mm' v') 4461 (lvL ad ob b i) []) : V p l e room_1 s m args below meth c Q 9 A cells slots (PL D cA ad ob cO mc mm v) 3168 (lvL ad ob b i) [] := by
  have C0 := C
  obtain ⟨X, hA, hW, hZ, hX, hb1, hst, hL⟩ := C
  have hroom0 : cells ≤ room_1.cells ∧ slots ≤ room_1.slots := ⟨by omega, by omega⟩
  refine q_aload_n (j := 3) X dL_law_3168 rfl rfl ?_
  refine qL_arg C0 1 (j0 := 4) (j4 := 0) rfl (by decide) dL_law_3169 dL_law_3170 dL_law_3172 dL_law_3173 dL_law_3174 rfl rfl hi ?_
  refine q_aload_n (j := 1) X dL_law_3175 rfl rfl ?_
  refine qL_w X hA hW hZ [.ref (ad 0 1), .int (xs (i + 1)), .ref ob] rfl rfl dL_law_3176 hroom (k_L_lost hA.1 hA.2.2.1.1 hst (xs (i + 1)) mc v _ _ (J_lost (K := Rel (a + 400000) (s0 + 64)) h.1 (fun v9 => h.2.2.2 mc _ ((h.1.ref v9).mono (by omega) (by omega) h.2.2.1)) (xs (i + 1))) (fun _ _ hx => hx.1)) rfl rfl (gSW kw_6_20 kw_6_21 kw_1_0 kw_6_22) hy_L_lost ⟨(Nat.le_of_ble_eq_true rfl), (Nat.le_of_ble_eq_true rfl)⟩ (fun k mc' v' hq => ?_)
  refine q_istore X dL_law_3179 (Nat.le_of_ble_eq_true rfl) rfl ?_
  refine q_aload_n (j := 3) X dL_law_3181 rfl rfl ?_
  refine qL_arg C0 1 (j0 := 5) (j4 := 1) rfl (by decide) dL_law_3182 dL_law_3183 dL_law_3185 dL_law_3186 dL_law_3187 rfl rfl hi ?_
  have hroom1 : cells + 2 ≤ room_1.cells ∧ slots + 12 ≤ room_1.slots := hroom
  rcases hq with ⟨rfl, r, rfl, hj⟩ | ⟨hk0, k0, hk, hj⟩
  · skip
    obtain ⟨hj, rfl⟩ := hj
    unfold jq at hj
    refine qL_m X hA hW [.int (xs (i + 1))] [] rfl rfl (Nat.le_of_ble_eq_true rfl) dL_law_3188 hroom1 (c_X10_lost hA.2.1 (xs (i + 1)) mm _ hj) rfl rfl (gV kw_9_50 kw_9_51 kw_9_52 kw_1_11 kw_9_53) hy_X10_lost ⟨(Nat.le_of_ble_eq_true rfl), (Nat.le_of_ble_eq_true rfl)⟩ (fun b9 mm9 hb => ?_)
    obtain ⟨h1, rfl, hK⟩ := hb
    refine q_istore X dL_law_3191 (Nat.le_of_ble_eq_true rfl) rfl ?_
    exact tailI C0 hroom1 ⟨(Nat.le_of_ble_eq_true rfl), (Nat.le_of_ble_eq_true rfl)⟩ h1 (fun _ => rfl) dL_law_3193 dL_law_3194 dL_law_3197 dL_law_3199 dL_law_3204 dL_law_3206 dL_law_3209 dL_law_3210 dL_law_3211 dL_law_3212 dL_law_3214 dL_law_3215 dL_law_3216 dL_law_3221 (by decide) (kk _ _ _ hK)
  · obtain ⟨_, hj⟩ := hj
    unfold jx at hj
    refine qL_m X hA hW [.int (xs (i + 1))] [] rfl rfl (Nat.le_of_ble_eq_true rfl) dL_law_3188 hroom1 (c_X10_lost hA.2.1 (xs (i + 1)) mm _ hj) rfl rfl (gV kw_9_50 kw_9_51 kw_9_52 kw_1_11 kw_9_53) hy_X10_lost ⟨(Nat.le_of_ble_eq_true rfl), (Nat.le_of_ble_eq_true rfl)⟩ (fun b9 mm9 hb => ?_)
    obtain ⟨h1, hK⟩ := hb
    refine q_istore X dL_law_3191 (Nat.le_of_ble_eq_true rfl) rfl ?_
    exact tailI C0 hroom1 ⟨(Nat.le_of_ble_eq_true rfl), (Nat.le_of_ble_eq_true rfl)⟩ (h1.trans hk.symm) (fun h0 => absurd h0 hk0) dL_law_3193 dL_law_3194 dL_law_3197 dL_law_3199 dL_law_3204 dL_law_3206 dL_law_3209 dL_law_3210 dL_law_3211 dL_law_3212 dL_law_3214 dL_law_3215 dL_law_3216 dL_law_3221 (by decide) (kk _ _ _ hK)
set_option maxRecDepth 100000 in
set_option maxHeartbeats 4000000 in
theorem case_59 (C : LC p l s m args c D cA ad A AC AM ob cO b L xs) (h : Hy a s0 mc mm (Rel (a + 400000) (s0 + 64))) (hi : i + 4 < L) (hroom : cells + 2 ≤ room_1.cells ∧ slots + 12 ≤ room_1.slots) (kk : ∀ (mc' mm' : Mm) (v' : Int64), Rel (a + 400000) (s0 + 64) mc' mm' → V p l e room_1 s m args below meth c Q 9 A (cells + 2) (slots + 12) (PL D cA ad ob cO mc' mm' v') 4461 (lvL ad ob b i) []) : V p l e room_1 s m args below meth c Q 9 A cells slots (PL D cA ad ob cO mc mm v) 3224 (lvL ad ob b i) [] := by
  have C0 := C
  obtain ⟨X, hA, hW, hZ, hX, hb1, hst, hL⟩ := C
  have hroom0 : cells ≤ room_1.cells ∧ slots ≤ room_1.slots := ⟨by omega, by omega⟩
  refine q_aload_n (j := 3) X dL_law_3224 rfl rfl ?_
  refine qL_arg C0 1 (j0 := 4) (j4 := 0) rfl (by decide) dL_law_3225 dL_law_3226 dL_law_3228 dL_law_3229 dL_law_3230 rfl rfl hi ?_
  refine q_aload_n (j := 1) X dL_law_3231 rfl rfl ?_
  refine qL_w X hA hW hZ [.ref (ad 0 1), .int (xs (i + 1)), .ref ob] rfl rfl dL_law_3232 hroom (k_L_drawnBack hA.1 hA.2.2.1.1 hst (xs (i + 1)) mc v _ _ (J_drawnBack (K := Rel (a + 400000) (s0 + 64)) h.1 (fun v9 => h.2.2.2 mc _ ((h.1.ref v9).mono (by omega) (by omega) h.2.2.1)) (xs (i + 1))) (fun _ _ hx => hx.1)) rfl rfl (gSW kw_6_27 kw_6_28 kw_1_0 kw_6_29) hy_L_drawnBack ⟨(Nat.le_of_ble_eq_true rfl), (Nat.le_of_ble_eq_true rfl)⟩ (fun k mc' v' hq => ?_)
  refine q_istore X dL_law_3235 (Nat.le_of_ble_eq_true rfl) rfl ?_
  refine q_aload_n (j := 3) X dL_law_3237 rfl rfl ?_
  refine qL_arg C0 1 (j0 := 5) (j4 := 1) rfl (by decide) dL_law_3238 dL_law_3239 dL_law_3241 dL_law_3242 dL_law_3243 rfl rfl hi ?_
  have hroom1 : cells + 2 ≤ room_1.cells ∧ slots + 12 ≤ room_1.slots := hroom
  rcases hq with ⟨rfl, r, rfl, hj⟩ | ⟨hk0, k0, hk, hj⟩
  · skip
    obtain ⟨hj, rfl⟩ := hj
    unfold jq at hj
    refine qL_m X hA hW [.int (xs (i + 1))] [] rfl rfl (Nat.le_of_ble_eq_true rfl) dL_law_3244 hroom1 (c_X10_drawnBack hA.2.1 (xs (i + 1)) mm _ hj) rfl rfl (gV kw_9_54 kw_9_55 kw_9_56 kw_1_11 kw_9_57) hy_X10_drawnBack ⟨(Nat.le_of_ble_eq_true rfl), (Nat.le_of_ble_eq_true rfl)⟩ (fun b9 mm9 hb => ?_)
    obtain ⟨h1, rfl, hK⟩ := hb
    refine q_istore X dL_law_3247 (Nat.le_of_ble_eq_true rfl) rfl ?_
    exact tailI C0 hroom1 ⟨(Nat.le_of_ble_eq_true rfl), (Nat.le_of_ble_eq_true rfl)⟩ h1 (fun _ => rfl) dL_law_3249 dL_law_3250 dL_law_3253 dL_law_3255 dL_law_3260 dL_law_3262 dL_law_3265 dL_law_3266 dL_law_3267 dL_law_3268 dL_law_3270 dL_law_3271 dL_law_3272 dL_law_3277 (by decide) (kk _ _ _ hK)
  · obtain ⟨_, hj⟩ := hj
    unfold jx at hj
    refine qL_m X hA hW [.int (xs (i + 1))] [] rfl rfl (Nat.le_of_ble_eq_true rfl) dL_law_3244 hroom1 (c_X10_drawnBack hA.2.1 (xs (i + 1)) mm _ hj) rfl rfl (gV kw_9_54 kw_9_55 kw_9_56 kw_1_11 kw_9_57) hy_X10_drawnBack ⟨(Nat.le_of_ble_eq_true rfl), (Nat.le_of_ble_eq_true rfl)⟩ (fun b9 mm9 hb => ?_)
    obtain ⟨h1, hK⟩ := hb
    refine q_istore X dL_law_3247 (Nat.le_of_ble_eq_true rfl) rfl ?_
    exact tailI C0 hroom1 ⟨(Nat.le_of_ble_eq_true rfl), (Nat.le_of_ble_eq_true rfl)⟩ (h1.trans hk.symm) (fun h0 => absurd h0 hk0) dL_law_3249 dL_law_3250 dL_law_3253 dL_law_3255 dL_law_3260 dL_law_3262 dL_law_3265 dL_law_3266 dL_law_3267 dL_law_3268 dL_law_3270 dL_law_3271 dL_law_3272 dL_law_3277 (by decide) (kk _ _ _ hK)
end CASE4
