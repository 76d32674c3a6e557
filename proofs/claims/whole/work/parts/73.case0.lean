theorem kw_3_65 : Jvm.Cond.methodLink "BondWarehouseLaw" (210 : Nat) ({ cls := "BondWarehouseLaw", name := "enter", desc := "(LBondWarehouse;IIII[J)I" } : Jvm.MethodName) ∈ TG := tg_3 65 rfl rfl
theorem kw_3_66 : Jvm.Cond.static ({ cls := "BondWarehouseLaw", name := "enter", desc := "(LBondWarehouse;IIII[J)I" } : Jvm.MethodName) ∈ TG := tg_3 66 rfl rfl
theorem kw_1_0 : Jvm.Cond.initialized "BondWarehouseLaw" ∈ TG := tg_1 0 rfl rfl
theorem kw_3_67 : Jvm.Cond.codeWith ({ cls := "BondWarehouseLaw", name := "enter", desc := "(LBondWarehouse;IIII[J)I" } : Jvm.MethodName) method_3_code (7 : Nat) (Option.some Jvm.ClassFile.FieldType.int) [((0 : Nat), (14 : Nat), (17 : Nat), (13 : Nat)), ((0 : Nat), (14 : Nat), (21 : Nat), (15 : Nat))] ∈ TG := tg_3 67 rfl rfl
theorem kw_7_60 : Jvm.Cond.methodLink "BondWarehouseLaw" (215 : Nat) ({ cls := "BondWarehouseModel", name := "enter", desc := "(IIII)I" } : Jvm.MethodName) ∈ TG := tg_7 60 rfl rfl
theorem kw_7_61 : Jvm.Cond.instanceMethod ({ cls := "BondWarehouseModel", name := "enter", desc := "(IIII)I" } : Jvm.MethodName) ∈ TG := tg_7 61 rfl rfl
theorem kw_7_62 : Jvm.Cond.selects "BondWarehouseModel" ({ cls := "BondWarehouseModel", name := "enter", desc := "(IIII)I" } : Jvm.MethodName) ({ cls := "BondWarehouseModel", name := "enter", desc := "(IIII)I" } : Jvm.MethodName) ∈ TG := tg_7 62 rfl rfl
theorem kw_7_63 : Jvm.Cond.code ({ cls := "BondWarehouseModel", name := "enter", desc := "(IIII)I" } : Jvm.MethodName) prog_12_method_52_code (5 : Nat) (Option.some Jvm.ClassFile.FieldType.int) ∈ TG := tg_7 63 rfl rfl
theorem kw_2_125 : Jvm.Cond.methodLink "BondWarehouseLaw" (266 : Nat) ({ cls := "BondWarehouse", name := "day", desc := "()I" } : Jvm.MethodName) ∈ TG := tg_2 125 rfl rfl
theorem kw_2_126 : Jvm.Cond.instanceMethod ({ cls := "BondWarehouse", name := "day", desc := "()I" } : Jvm.MethodName) ∈ TG := tg_2 126 rfl rfl
theorem kw_2_127 : Jvm.Cond.selects "BondWarehouse" ({ cls := "BondWarehouse", name := "day", desc := "()I" } : Jvm.MethodName) ({ cls := "BondWarehouse", name := "day", desc := "()I" } : Jvm.MethodName) ∈ TG := tg_2 127 rfl rfl
theorem kw_2_128 : Jvm.Cond.code ({ cls := "BondWarehouse", name := "day", desc := "()I" } : Jvm.MethodName) prog_1_method_18_code (1 : Nat) (Option.some Jvm.ClassFile.FieldType.int) ∈ TG := tg_2 128 rfl rfl
theorem kw_8_98 : Jvm.Cond.methodLink "BondWarehouseLaw" (269 : Nat) ({ cls := "BondWarehouseModel", name := "day", desc := "()I" } : Jvm.MethodName) ∈ TG := tg_8 98 rfl rfl
theorem kw_8_99 : Jvm.Cond.instanceMethod ({ cls := "BondWarehouseModel", name := "day", desc := "()I" } : Jvm.MethodName) ∈ TG := tg_8 99 rfl rfl
theorem kw_8_100 : Jvm.Cond.selects "BondWarehouseModel" ({ cls := "BondWarehouseModel", name := "day", desc := "()I" } : Jvm.MethodName) ({ cls := "BondWarehouseModel", name := "day", desc := "()I" } : Jvm.MethodName) ∈ TG := tg_8 100 rfl rfl
theorem kw_8_101 : Jvm.Cond.code ({ cls := "BondWarehouseModel", name := "day", desc := "()I" } : Jvm.MethodName) prog_12_method_73_code (1 : Nat) (Option.some Jvm.ClassFile.FieldType.int) ∈ TG := tg_8 101 rfl rfl
theorem kw_5_123 : Jvm.Cond.methodLink "BondWarehouseLaw" (312 : Nat) ({ cls := "BondWarehouseLaw", name := "allowedWaste", desc := "(LBondWarehouse;I[J)I" } : Jvm.MethodName) ∈ TG := tg_5 123 rfl rfl
theorem kw_5_124 : Jvm.Cond.static ({ cls := "BondWarehouseLaw", name := "allowedWaste", desc := "(LBondWarehouse;I[J)I" } : Jvm.MethodName) ∈ TG := tg_5 124 rfl rfl
theorem kw_5_125 : Jvm.Cond.codeWith ({ cls := "BondWarehouseLaw", name := "allowedWaste", desc := "(LBondWarehouse;I[J)I" } : Jvm.MethodName) method_29_code (4 : Nat) (Option.some Jvm.ClassFile.FieldType.int) [((0 : Nat), (9 : Nat), (12 : Nat), (21 : Nat))] ∈ TG := tg_5 125 rfl rfl
theorem kw_8_162 : Jvm.Cond.methodLink "BondWarehouseLaw" (314 : Nat) ({ cls := "BondWarehouseModel", name := "allowedWaste", desc := "(I)I" } : Jvm.MethodName) ∈ TG := tg_8 162 rfl rfl
theorem kw_8_163 : Jvm.Cond.instanceMethod ({ cls := "BondWarehouseModel", name := "allowedWaste", desc := "(I)I" } : Jvm.MethodName) ∈ TG := tg_8 163 rfl rfl
theorem kw_8_164 : Jvm.Cond.selects "BondWarehouseModel" ({ cls := "BondWarehouseModel", name := "allowedWaste", desc := "(I)I" } : Jvm.MethodName) ({ cls := "BondWarehouseModel", name := "allowedWaste", desc := "(I)I" } : Jvm.MethodName) ∈ TG := tg_8 164 rfl rfl
theorem kw_8_165 : Jvm.Cond.code ({ cls := "BondWarehouseModel", name := "allowedWaste", desc := "(I)I" } : Jvm.MethodName) prog_12_method_88_code (3 : Nat) (Option.some Jvm.ClassFile.FieldType.int) ∈ TG := tg_8 165 rfl rfl
theorem kw_2_145 : Jvm.Cond.methodLink "BondWarehouseLaw" (315 : Nat) ({ cls := "BondWarehouse", name := "meanDuty", desc := "()D" } : Jvm.MethodName) ∈ TG := tg_2 145 rfl rfl
theorem kw_2_146 : Jvm.Cond.instanceMethod ({ cls := "BondWarehouse", name := "meanDuty", desc := "()D" } : Jvm.MethodName) ∈ TG := tg_2 146 rfl rfl
theorem kw_2_147 : Jvm.Cond.selects "BondWarehouse" ({ cls := "BondWarehouse", name := "meanDuty", desc := "()D" } : Jvm.MethodName) ({ cls := "BondWarehouse", name := "meanDuty", desc := "()D" } : Jvm.MethodName) ∈ TG := tg_2 147 rfl rfl
theorem kw_2_148 : Jvm.Cond.code ({ cls := "BondWarehouse", name := "meanDuty", desc := "()D" } : Jvm.MethodName) prog_1_method_33_code (1 : Nat) (Option.some Jvm.ClassFile.FieldType.double) ∈ TG := tg_2 148 rfl rfl
theorem kw_8_166 : Jvm.Cond.methodLink "BondWarehouseLaw" (319 : Nat) ({ cls := "BondWarehouseModel", name := "meanDuty", desc := "()D" } : Jvm.MethodName) ∈ TG := tg_8 166 rfl rfl
theorem kw_8_167 : Jvm.Cond.instanceMethod ({ cls := "BondWarehouseModel", name := "meanDuty", desc := "()D" } : Jvm.MethodName) ∈ TG := tg_8 167 rfl rfl
theorem kw_8_168 : Jvm.Cond.selects "BondWarehouseModel" ({ cls := "BondWarehouseModel", name := "meanDuty", desc := "()D" } : Jvm.MethodName) ({ cls := "BondWarehouseModel", name := "meanDuty", desc := "()D" } : Jvm.MethodName) ∈ TG := tg_8 168 rfl rfl
theorem kw_8_169 : Jvm.Cond.code ({ cls := "BondWarehouseModel", name := "meanDuty", desc := "()D" } : Jvm.MethodName) prog_12_method_89_code (1 : Nat) (Option.some Jvm.ClassFile.FieldType.double) ∈ TG := tg_8 169 rfl rfl
theorem kw_5_131 : Jvm.Cond.methodLink "BondWarehouseLaw" (320 : Nat) ({ cls := "BondWarehouseLaw", name := "isLocked", desc := "(LBondWarehouse;I[J)I" } : Jvm.MethodName) ∈ TG := tg_5 131 rfl rfl
theorem kw_5_132 : Jvm.Cond.static ({ cls := "BondWarehouseLaw", name := "isLocked", desc := "(LBondWarehouse;I[J)I" } : Jvm.MethodName) ∈ TG := tg_5 132 rfl rfl
theorem kw_5_133 : Jvm.Cond.codeWith ({ cls := "BondWarehouseLaw", name := "isLocked", desc := "(LBondWarehouse;I[J)I" } : Jvm.MethodName) method_30_code (4 : Nat) (Option.some Jvm.ClassFile.FieldType.int) [((0 : Nat), (16 : Nat), (19 : Nat), (21 : Nat))] ∈ TG := tg_5 133 rfl rfl
theorem kw_8_170 : Jvm.Cond.methodLink "BondWarehouseLaw" (322 : Nat) ({ cls := "BondWarehouseModel", name := "isLocked", desc := "(I)Z" } : Jvm.MethodName) ∈ TG := tg_8 170 rfl rfl
theorem kw_8_171 : Jvm.Cond.instanceMethod ({ cls := "BondWarehouseModel", name := "isLocked", desc := "(I)Z" } : Jvm.MethodName) ∈ TG := tg_8 171 rfl rfl
theorem kw_8_172 : Jvm.Cond.selects "BondWarehouseModel" ({ cls := "BondWarehouseModel", name := "isLocked", desc := "(I)Z" } : Jvm.MethodName) ({ cls := "BondWarehouseModel", name := "isLocked", desc := "(I)Z" } : Jvm.MethodName) ∈ TG := tg_8 172 rfl rfl
theorem kw_8_173 : Jvm.Cond.code ({ cls := "BondWarehouseModel", name := "isLocked", desc := "(I)Z" } : Jvm.MethodName) prog_12_method_91_code (2 : Nat) (Option.some Jvm.ClassFile.FieldType.boolean) ∈ TG := tg_8 173 rfl rfl
theorem hy_L_enter : yL_enter.cls ≠ "java/lang/invoke/MethodHandle" ∧ yL_enter.cls ≠ "java/lang/invoke/VarHandle" ∧ (parseMethodDescriptor yL_enter.desc).map (fun d => d.parameters.length) = some 6 := by decide +kernel
theorem hy_L_allowedWaste : yL_allowedWaste.cls ≠ "java/lang/invoke/MethodHandle" ∧ yL_allowedWaste.cls ≠ "java/lang/invoke/VarHandle" ∧ (parseMethodDescriptor yL_allowedWaste.desc).map (fun d => d.parameters.length) = some 3 := by decide +kernel
theorem hy_L_isLocked : yL_isLocked.cls ≠ "java/lang/invoke/MethodHandle" ∧ yL_isLocked.cls ≠ "java/lang/invoke/VarHandle" ∧ (parseMethodDescriptor yL_isLocked.desc).map (fun d => d.parameters.length) = some 3 := by decide +kernel
theorem dL_law_384 : decode cL_law 384 = .ok (.aload_n 1, 1) := by decide +kernel
theorem dL_law_385 : decode cL_law 385 = .ok (.aload_n 0, 1) := by decide +kernel
theorem dL_law_386 : decode cL_law 386 = .ok (.iload 4, 2) := by decide +kernel
theorem dL_law_388 : decode cL_law 388 = .ok (.iconst 1, 1) := by decide +kernel
theorem dL_law_389 : decode cL_law 389 = .ok (.iadd, 1) := by decide +kernel
theorem dL_law_390 : decode cL_law 390 = .ok (.iaload, 1) := by decide +kernel
theorem dL_law_391 : decode cL_law 391 = .ok (.aload_n 0, 1) := by decide +kernel
theorem dL_law_392 : decode cL_law 392 = .ok (.iload 4, 2) := by decide +kernel
theorem dL_law_394 : decode cL_law 394 = .ok (.iconst 2, 1) := by decide +kernel
theorem dL_law_395 : decode cL_law 395 = .ok (.iadd, 1) := by decide +kernel
theorem dL_law_396 : decode cL_law 396 = .ok (.iaload, 1) := by decide +kernel
theorem dL_law_397 : decode cL_law 397 = .ok (.aload_n 0, 1) := by decide +kernel
theorem dL_law_398 : decode cL_law 398 = .ok (.iload 4, 2) := by decide +kernel
theorem dL_law_400 : decode cL_law 400 = .ok (.iconst 3, 1) := by decide +kernel
theorem dL_law_401 : decode cL_law 401 = .ok (.iadd, 1) := by decide +kernel
theorem dL_law_402 : decode cL_law 402 = .ok (.iaload, 1) := by decide +kernel
theorem dL_law_403 : decode cL_law 403 = .ok (.aload_n 0, 1) := by decide +kernel
theorem dL_law_404 : decode cL_law 404 = .ok (.iload 4, 2) := by decide +kernel
theorem dL_law_406 : decode cL_law 406 = .ok (.iconst 4, 1) := by decide +kernel
theorem dL_law_407 : decode cL_law 407 = .ok (.iadd, 1) := by decide +kernel
theorem dL_law_408 : decode cL_law 408 = .ok (.iaload, 1) := by decide +kernel
theorem dL_law_409 : decode cL_law 409 = .ok (.aload_n 3, 1) := by decide +kernel
theorem dL_law_410 : decode cL_law 410 = .ok (.invokestatic 210, 3) := by decide +kernel
theorem dL_law_413 : decode cL_law 413 = .ok (.istore 5, 2) := by decide +kernel
theorem dL_law_415 : decode cL_law 415 = .ok (.aload_n 2, 1) := by decide +kernel
theorem dL_law_416 : decode cL_law 416 = .ok (.aload_n 0, 1) := by decide +kernel
theorem dL_law_417 : decode cL_law 417 = .ok (.iload 4, 2) := by decide +kernel
theorem dL_law_419 : decode cL_law 419 = .ok (.iconst 1, 1) := by decide +kernel
theorem dL_law_420 : decode cL_law 420 = .ok (.iadd, 1) := by decide +kernel
theorem dL_law_421 : decode cL_law 421 = .ok (.iaload, 1) := by decide +kernel
theorem dL_law_422 : decode cL_law 422 = .ok (.aload_n 0, 1) := by decide +kernel
theorem dL_law_423 : decode cL_law 423 = .ok (.iload 4, 2) := by decide +kernel
theorem dL_law_425 : decode cL_law 425 = .ok (.iconst 2, 1) := by decide +kernel
theorem dL_law_426 : decode cL_law 426 = .ok (.iadd, 1) := by decide +kernel
theorem dL_law_427 : decode cL_law 427 = .ok (.iaload, 1) := by decide +kernel
theorem dL_law_428 : decode cL_law 428 = .ok (.aload_n 0, 1) := by decide +kernel
theorem dL_law_429 : decode cL_law 429 = .ok (.iload 4, 2) := by decide +kernel
theorem dL_law_431 : decode cL_law 431 = .ok (.iconst 3, 1) := by decide +kernel
theorem dL_law_432 : decode cL_law 432 = .ok (.iadd, 1) := by decide +kernel
theorem dL_law_433 : decode cL_law 433 = .ok (.iaload, 1) := by decide +kernel
theorem dL_law_434 : decode cL_law 434 = .ok (.aload_n 0, 1) := by decide +kernel
theorem dL_law_435 : decode cL_law 435 = .ok (.iload 4, 2) := by decide +kernel
theorem dL_law_437 : decode cL_law 437 = .ok (.iconst 4, 1) := by decide +kernel
theorem dL_law_438 : decode cL_law 438 = .ok (.iadd, 1) := by decide +kernel
theorem dL_law_439 : decode cL_law 439 = .ok (.iaload, 1) := by decide +kernel
theorem dL_law_440 : decode cL_law 440 = .ok (.invokevirtual 215, 3) := by decide +kernel
theorem dL_law_443 : decode cL_law 443 = .ok (.istore 6, 2) := by decide +kernel
theorem dL_law_445 : decode cL_law 445 = .ok (.aload_n 2, 1) := by decide +kernel
theorem dL_law_446 : decode cL_law 446 = .ok (.invokevirtual 216, 3) := by decide +kernel
theorem dL_law_449 : decode cL_law 449 = .ok (.iload 5, 2) := by decide +kernel
theorem dL_law_451 : decode cL_law 451 = .ok (.if_icmp .eq 5, 3) := by decide +kernel
theorem dL_law_456 : decode cL_law 456 = .ok (.iload 5, 2) := by decide +kernel
theorem dL_law_458 : decode cL_law 458 = .ok (.ifCond .ne 15, 3) := by decide +kernel
theorem dL_law_461 : decode cL_law 461 = .ok (.aload_n 3, 1) := by decide +kernel
theorem dL_law_462 : decode cL_law 462 = .ok (.iconst 0, 1) := by decide +kernel
theorem dL_law_463 : decode cL_law 463 = .ok (.laload, 1) := by decide +kernel
theorem dL_law_464 : decode cL_law 464 = .ok (.iload 6, 2) := by decide +kernel
theorem dL_law_466 : decode cL_law 466 = .ok (.i2l, 1) := by decide +kernel
theorem dL_law_467 : decode cL_law 467 = .ok (.lcmp, 1) := by decide +kernel
theorem dL_law_468 : decode cL_law 468 = .ok (.ifCond .eq 5, 3) := by decide +kernel
theorem dL_law_473 : decode cL_law 473 = .ok (.goto 3988, 3) := by decide +kernel
theorem dL_law_1424 : decode cL_law 1424 = .ok (.aload_n 1, 1) := by decide +kernel
theorem dL_law_1425 : decode cL_law 1425 = .ok (.invokevirtual 266, 3) := by decide +kernel
theorem dL_law_1428 : decode cL_law 1428 = .ok (.aload_n 2, 1) := by decide +kernel
theorem dL_law_1429 : decode cL_law 1429 = .ok (.invokevirtual 269, 3) := by decide +kernel
theorem dL_law_1432 : decode cL_law 1432 = .ok (.if_icmp .eq 3029, 3) := by decide +kernel
theorem dL_law_2074 : decode cL_law 2074 = .ok (.aload_n 1, 1) := by decide +kernel
theorem dL_law_2075 : decode cL_law 2075 = .ok (.aload_n 0, 1) := by decide +kernel
theorem dL_law_2076 : decode cL_law 2076 = .ok (.iload 4, 2) := by decide +kernel
theorem dL_law_2078 : decode cL_law 2078 = .ok (.iconst 1, 1) := by decide +kernel
theorem dL_law_2079 : decode cL_law 2079 = .ok (.iadd, 1) := by decide +kernel
theorem dL_law_2080 : decode cL_law 2080 = .ok (.iaload, 1) := by decide +kernel
theorem dL_law_2081 : decode cL_law 2081 = .ok (.aload_n 3, 1) := by decide +kernel
theorem dL_law_2082 : decode cL_law 2082 = .ok (.invokestatic 312, 3) := by decide +kernel
theorem dL_law_2085 : decode cL_law 2085 = .ok (.istore 5, 2) := by decide +kernel
theorem dL_law_2087 : decode cL_law 2087 = .ok (.aload_n 2, 1) := by decide +kernel
theorem dL_law_2088 : decode cL_law 2088 = .ok (.aload_n 0, 1) := by decide +kernel
theorem dL_law_2089 : decode cL_law 2089 = .ok (.iload 4, 2) := by decide +kernel
theorem dL_law_2091 : decode cL_law 2091 = .ok (.iconst 1, 1) := by decide +kernel
theorem dL_law_2092 : decode cL_law 2092 = .ok (.iadd, 1) := by decide +kernel
theorem dL_law_2093 : decode cL_law 2093 = .ok (.iaload, 1) := by decide +kernel
theorem dL_law_2094 : decode cL_law 2094 = .ok (.invokevirtual 314, 3) := by decide +kernel
theorem dL_law_2097 : decode cL_law 2097 = .ok (.istore 6, 2) := by decide +kernel
theorem dL_law_2099 : decode cL_law 2099 = .ok (.aload_n 2, 1) := by decide +kernel
theorem dL_law_2100 : decode cL_law 2100 = .ok (.invokevirtual 216, 3) := by decide +kernel
theorem dL_law_2103 : decode cL_law 2103 = .ok (.iload 5, 2) := by decide +kernel
theorem dL_law_2105 : decode cL_law 2105 = .ok (.if_icmp .eq 5, 3) := by decide +kernel
theorem dL_law_2110 : decode cL_law 2110 = .ok (.iload 5, 2) := by decide +kernel
theorem dL_law_2112 : decode cL_law 2112 = .ok (.ifCond .ne 15, 3) := by decide +kernel
theorem dL_law_2115 : decode cL_law 2115 = .ok (.aload_n 3, 1) := by decide +kernel
theorem dL_law_2116 : decode cL_law 2116 = .ok (.iconst 0, 1) := by decide +kernel
theorem dL_law_2117 : decode cL_law 2117 = .ok (.laload, 1) := by decide +kernel
theorem dL_law_2118 : decode cL_law 2118 = .ok (.iload 6, 2) := by decide +kernel
theorem dL_law_2120 : decode cL_law 2120 = .ok (.i2l, 1) := by decide +kernel
theorem dL_law_2121 : decode cL_law 2121 = .ok (.lcmp, 1) := by decide +kernel
theorem dL_law_2122 : decode cL_law 2122 = .ok (.ifCond .eq 5, 3) := by decide +kernel
theorem dL_law_2127 : decode cL_law 2127 = .ok (.goto 2334, 3) := by decide +kernel
theorem dL_law_2130 : decode cL_law 2130 = .ok (.aload_n 1, 1) := by decide +kernel
theorem dL_law_2131 : decode cL_law 2131 = .ok (.invokevirtual 315, 3) := by decide +kernel
theorem dL_law_2134 : decode cL_law 2134 = .ok (.dstore 5, 2) := by decide +kernel
theorem dL_law_2136 : decode cL_law 2136 = .ok (.aload_n 2, 1) := by decide +kernel
theorem dL_law_2137 : decode cL_law 2137 = .ok (.invokevirtual 319, 3) := by decide +kernel
theorem dL_law_2140 : decode cL_law 2140 = .ok (.dstore 7, 2) := by decide +kernel
theorem dL_law_2142 : decode cL_law 2142 = .ok (.dload 5, 2) := by decide +kernel
theorem dL_law_2144 : decode cL_law 2144 = .ok (.dload 7, 2) := by decide +kernel
theorem dL_law_2146 : decode cL_law 2146 = .ok (.dcmp .l, 1) := by decide +kernel
theorem dL_law_2147 : decode cL_law 2147 = .ok (.ifCond .eq 21, 3) := by decide +kernel
theorem dL_law_2168 : decode cL_law 2168 = .ok (.goto 2293, 3) := by decide +kernel
theorem dL_law_2171 : decode cL_law 2171 = .ok (.aload_n 1, 1) := by decide +kernel
theorem dL_law_2172 : decode cL_law 2172 = .ok (.aload_n 0, 1) := by decide +kernel
theorem dL_law_2173 : decode cL_law 2173 = .ok (.iload 4, 2) := by decide +kernel
theorem dL_law_2175 : decode cL_law 2175 = .ok (.iconst 1, 1) := by decide +kernel
theorem dL_law_2176 : decode cL_law 2176 = .ok (.iadd, 1) := by decide +kernel
theorem dL_law_2177 : decode cL_law 2177 = .ok (.iaload, 1) := by decide +kernel
theorem dL_law_2178 : decode cL_law 2178 = .ok (.aload_n 3, 1) := by decide +kernel
theorem dL_law_2179 : decode cL_law 2179 = .ok (.invokestatic 320, 3) := by decide +kernel
theorem dL_law_2182 : decode cL_law 2182 = .ok (.istore 5, 2) := by decide +kernel
theorem dL_law_2184 : decode cL_law 2184 = .ok (.aload_n 2, 1) := by decide +kernel
theorem dL_law_2185 : decode cL_law 2185 = .ok (.aload_n 0, 1) := by decide +kernel
theorem dL_law_2186 : decode cL_law 2186 = .ok (.iload 4, 2) := by decide +kernel
theorem dL_law_2188 : decode cL_law 2188 = .ok (.iconst 1, 1) := by decide +kernel
theorem dL_law_2189 : decode cL_law 2189 = .ok (.iadd, 1) := by decide +kernel
theorem dL_law_2190 : decode cL_law 2190 = .ok (.iaload, 1) := by decide +kernel
theorem dL_law_2191 : decode cL_law 2191 = .ok (.invokevirtual 322, 3) := by decide +kernel
theorem dL_law_2194 : decode cL_law 2194 = .ok (.istore 6, 2) := by decide +kernel
theorem dL_law_2196 : decode cL_law 2196 = .ok (.aload_n 2, 1) := by decide +kernel
theorem dL_law_2197 : decode cL_law 2197 = .ok (.invokevirtual 216, 3) := by decide +kernel
theorem dL_law_2200 : decode cL_law 2200 = .ok (.iload 5, 2) := by decide +kernel
theorem dL_law_2202 : decode cL_law 2202 = .ok (.if_icmp .eq 5, 3) := by decide +kernel
theorem dL_law_2207 : decode cL_law 2207 = .ok (.iload 5, 2) := by decide +kernel
theorem dL_law_2209 : decode cL_law 2209 = .ok (.ifCond .ne 22, 3) := by decide +kernel
theorem dL_law_2212 : decode cL_law 2212 = .ok (.aload_n 3, 1) := by decide +kernel
theorem dL_law_2213 : decode cL_law 2213 = .ok (.iconst 0, 1) := by decide +kernel
theorem dL_law_2214 : decode cL_law 2214 = .ok (.laload, 1) := by decide +kernel
theorem dL_law_2215 : decode cL_law 2215 = .ok (.iload 6, 2) := by decide +kernel
theorem dL_law_2217 : decode cL_law 2217 = .ok (.ifCond .eq 7, 3) := by decide +kernel
theorem dL_law_2220 : decode cL_law 2220 = .ok (.lconst 1, 1) := by decide +kernel
theorem dL_law_2221 : decode cL_law 2221 = .ok (.goto 4, 3) := by decide +kernel
theorem dL_law_2224 : decode cL_law 2224 = .ok (.lconst 0, 1) := by decide +kernel
theorem dL_law_2225 : decode cL_law 2225 = .ok (.lcmp, 1) := by decide +kernel
theorem dL_law_2226 : decode cL_law 2226 = .ok (.ifCond .eq 5, 3) := by decide +kernel
theorem dL_law_2231 : decode cL_law 2231 = .ok (.goto 2230, 3) := by decide +kernel
section CASE0
variable {p : Program} {l : Launch} {e : Env} {s : State} {m : MethodId} {args : Array Value} {below : List Frame} {meth : Method} {c : Code} {cells slots : Nat} {Q : State → Prop}
variable {D : va_G} {cA : Nat → ClassId} {ad : Nat → Nat → Nat} {A AC AM : Nat → Prop} {ob : Nat} {cO : ClassId}
variable {mc mm : Mm} {v : Int64} {b L i a s0 : Nat} {xs : Nat → Int32}
set_option maxRecDepth 100000 in
set_option maxHeartbeats 4000000 in
theorem case_0 (C : LC p l s m args c D cA ad A AC AM ob cO b L xs) (h : Hy a s0 mc mm (Rel (a + 400000) (s0 + 64))) (hi : i + 4 < L) (hroom : cells + 1 ≤ room_1.cells ∧ slots + 6 ≤ room_1.slots) (kk : ∀ (mc' mm' : Mm) (v' : Int64), Rel (a + 400000) (s0 + 64) mc' mm' → V p l e room_1 s m args below meth c Q 9 A (cells + 1) (slots + 6) (PL D cA ad ob cO mc' mm' v') 4461 (lvL ad ob b i) []) : V p l e room_1 s m args below meth c Q 9 A cells slots (PL D cA ad ob cO mc mm v) 384 (lvL ad ob b i) [] := by
  have C0 := C
  obtain ⟨X, hA, hW, hZ, hX, hb1, hst, hL⟩ := C
  have hroom0 : cells ≤ room_1.cells ∧ slots ≤ room_1.slots := ⟨by omega, by omega⟩
  refine q_aload_n (j := 3) X dL_law_384 rfl rfl ?_
  refine qL_arg C0 1 (j0 := 4) (j4 := 0) rfl (by decide) dL_law_385 dL_law_386 dL_law_388 dL_law_389 dL_law_390 rfl rfl hi ?_
  refine qL_arg C0 2 (j0 := 4) (j4 := 0) rfl (by decide) dL_law_391 dL_law_392 dL_law_394 dL_law_395 dL_law_396 rfl rfl hi ?_
  refine qL_arg C0 3 (j0 := 4) (j4 := 0) rfl (by decide) dL_law_397 dL_law_398 dL_law_400 dL_law_401 dL_law_402 rfl rfl hi ?_
  refine qL_arg C0 4 (j0 := 4) (j4 := 0) rfl (by decide) dL_law_403 dL_law_404 dL_law_406 dL_law_407 dL_law_408 rfl rfl hi ?_
  refine q_aload_n (j := 1) X dL_law_409 rfl rfl ?_
  refine qL_w X hA hW hZ [.ref (ad 0 1), .int (xs (i + 1)), .int (xs (i + 2)), .int (xs (i + 3)), .int (xs (i + 4)), .ref ob] rfl rfl dL_law_410 hroom (k_L_enter hA.1 hA.2.2.1.1 hst (xs (i + 1)) (xs (i + 2)) (xs (i + 3)) (xs (i + 4)) mc v _ _ (J_enter h (xs (i + 1)) (xs (i + 2)) (xs (i + 3)) (xs (i + 4))) (fun _ _ hx => hx.1)) rfl rfl (gSW kw_3_65 kw_3_66 kw_1_0 kw_3_67) hy_L_enter ⟨(Nat.le_of_ble_eq_true rfl), (Nat.le_of_ble_eq_true rfl)⟩ (fun k mc' v' hq => ?_)
  refine q_istore X dL_law_413 (Nat.le_of_ble_eq_true rfl) rfl ?_
  refine q_aload_n (j := 3) X dL_law_415 rfl rfl ?_
  refine qL_arg C0 1 (j0 := 5) (j4 := 1) rfl (by decide) dL_law_416 dL_law_417 dL_law_419 dL_law_420 dL_law_421 rfl rfl hi ?_
  refine qL_arg C0 2 (j0 := 5) (j4 := 1) rfl (by decide) dL_law_422 dL_law_423 dL_law_425 dL_law_426 dL_law_427 rfl rfl hi ?_
  refine qL_arg C0 3 (j0 := 5) (j4 := 1) rfl (by decide) dL_law_428 dL_law_429 dL_law_431 dL_law_432 dL_law_433 rfl rfl hi ?_
  refine qL_arg C0 4 (j0 := 5) (j4 := 1) rfl (by decide) dL_law_434 dL_law_435 dL_law_437 dL_law_438 dL_law_439 rfl rfl hi ?_
  have hroom1 : cells + 1 ≤ room_1.cells ∧ slots + 6 ≤ room_1.slots := hroom
  rcases hq with ⟨rfl, r, rfl, hj⟩ | ⟨hk0, k0, hk, hj⟩
  · skip
    unfold jq at hj
    refine qL_m X hA hW [.int (xs (i + 1)), .int (xs (i + 2)), .int (xs (i + 3)), .int (xs (i + 4))] [] rfl rfl (Nat.le_of_ble_eq_true rfl) dL_law_440 hroom1 (c_X10_enter hA.2.1 (xs (i + 1)) (xs (i + 2)) (xs (i + 3)) (xs (i + 4)) mm _ hj) rfl rfl (gV kw_7_60 kw_7_61 kw_7_62 kw_1_11 kw_7_63) hy_X10_enter ⟨(Nat.le_of_ble_eq_true rfl), (Nat.le_of_ble_eq_true rfl)⟩ (fun b9 mm9 hb => ?_)
    obtain ⟨h1, rfl, hK⟩ := hb
    refine q_istore X dL_law_443 (Nat.le_of_ble_eq_true rfl) rfl ?_
    exact tailI C0 hroom1 ⟨(Nat.le_of_ble_eq_true rfl), (Nat.le_of_ble_eq_true rfl)⟩ h1 (fun _ => rfl) dL_law_445 dL_law_446 dL_law_449 dL_law_451 dL_law_456 dL_law_458 dL_law_461 dL_law_462 dL_law_463 dL_law_464 dL_law_466 dL_law_467 dL_law_468 dL_law_473 (by decide) (kk _ _ _ hK)
  · obtain ⟨_, hj⟩ := hj
    unfold jx at hj
    refine qL_m X hA hW [.int (xs (i + 1)), .int (xs (i + 2)), .int (xs (i + 3)), .int (xs (i + 4))] [] rfl rfl (Nat.le_of_ble_eq_true rfl) dL_law_440 hroom1 (c_X10_enter hA.2.1 (xs (i + 1)) (xs (i + 2)) (xs (i + 3)) (xs (i + 4)) mm _ hj) rfl rfl (gV kw_7_60 kw_7_61 kw_7_62 kw_1_11 kw_7_63) hy_X10_enter ⟨(Nat.le_of_ble_eq_true rfl), (Nat.le_of_ble_eq_true rfl)⟩ (fun b9 mm9 hb => ?_)
    obtain ⟨h1, hK⟩ := hb
    refine q_istore X dL_law_443 (Nat.le_of_ble_eq_true rfl) rfl ?_
    exact tailI C0 hroom1 ⟨(Nat.le_of_ble_eq_true rfl), (Nat.le_of_ble_eq_true rfl)⟩ (h1.trans hk.symm) (fun h0 => absurd h0 hk0) dL_law_445 dL_law_446 dL_law_449 dL_law_451 dL_law_456 dL_law_458 dL_law_461 dL_law_462 dL_law_463 dL_law_464 dL_law_466 dL_law_467 dL_law_468 dL_law_473 (by decide) (kk _ _ _ hK)
set_option maxRecDepth 100000 in
set_option maxHeartbeats 4000000 in
theorem case_16 (C : LC p l s m args c D cA ad A AC AM ob cO b L xs) (h : Hy a s0 mc mm (Rel (a + 400000) (s0 + 64))) (hi : i + 4 < L) (hroom : cells + 1 ≤ room_1.cells ∧ slots + 6 ≤ room_1.slots) (kk : ∀ (mc' mm' : Mm) (v' : Int64), Rel (a + 400000) (s0 + 64) mc' mm' → V p l e room_1 s m args below meth c Q 9 A (cells + 1) (slots + 6) (PL D cA ad ob cO mc' mm' v') 4461 (lvL ad ob b i) []) : V p l e room_1 s m args below meth c Q 9 A cells slots (PL D cA ad ob cO mc mm v) 1424 (lvL ad ob b i) [] := by
  have C0 := C
  obtain ⟨X, hA, hW, hZ, hX, hb1, hst, hL⟩ := C
  have hroom0 : cells ≤ room_1.cells ∧ slots ≤ room_1.slots := ⟨by omega, by omega⟩
  refine q_aload_n (j := 3) X dL_law_1424 rfl rfl ?_
  refine qL_c X hA hW hZ [] [] rfl rfl (Nat.le_of_ble_eq_true rfl) dL_law_1425 hroom0 (c_X9_day hA.1  mc _ (J_day (K := Rel (a + 400000) (s0 + 64)) h.1 (fun v9 => h.2.2.2 mc _ ((h.1.ref v9).mono (by omega) (by omega) h.2.2.1)) )) rfl rfl (gV kw_2_125 kw_2_126 kw_2_127 kw_1_1 kw_2_128) hy_X9_day ⟨(Nat.le_of_ble_eq_true rfl), (Nat.le_of_ble_eq_true rfl)⟩ (fun r mc' hj => ?_)
  obtain ⟨hj, rfl⟩ := hj
  unfold jn at hj
  refine q_aload_n (j := 2) X dL_law_1428 rfl rfl ?_
  refine qL_m X hA hW [] [.int r] rfl rfl (Nat.le_of_ble_eq_true rfl) dL_law_1429 hroom0 (c_X10_day hA.2.1  mm _ hj) rfl rfl (gV kw_8_98 kw_8_99 kw_8_100 kw_1_11 kw_8_101) hy_X10_day ⟨(Nat.le_of_ble_eq_true rfl), (Nat.le_of_ble_eq_true rfl)⟩ (fun b9 mm9 hb => ?_)
  obtain ⟨rfl, hK⟩ := hb
  refine q_icmp_eq X dL_law_1432 (tgt := 4461) (by decide) (fun _ => ?_) (fun h9 => absurd rfl h9)
  exact q_w (Nat.le_succ _) (Nat.le_add_right _ _) (kk _ _ _ hK)
set_option maxRecDepth 100000 in
set_option maxHeartbeats 4000000 in
theorem case_30 (C : LC p l s m args c D cA ad A AC AM ob cO b L xs) (h : Hy a s0 mc mm (Rel (a + 400000) (s0 + 64))) (hi : i + 4 < L) (hroom : cells + 1 ≤ room_1.cells ∧ slots + 6 ≤ room_1.slots) (kk : ∀ (mc' mm' : Mm) (v' : Int64), Rel (a + 400000) (s0 + 64) mc' mm' → V p l e room_1 s m args below meth c Q 9 A (cells + 1) (slots + 6) (PL D cA ad ob cO mc' mm' v') 4461 (lvL ad ob b i) []) : V p l e room_1 s m args below meth c Q 9 A cells slots (PL D cA ad ob cO mc mm v) 2074 (lvL ad ob b i) [] := by
  have C0 := C
  obtain ⟨X, hA, hW, hZ, hX, hb1, hst, hL⟩ := C
  have hroom0 : cells ≤ room_1.cells ∧ slots ≤ room_1.slots := ⟨by omega, by omega⟩
  refine q_aload_n (j := 3) X dL_law_2074 rfl rfl ?_
  refine qL_arg C0 1 (j0 := 4) (j4 := 0) rfl (by decide) dL_law_2075 dL_law_2076 dL_law_2078 dL_law_2079 dL_law_2080 rfl rfl hi ?_
  refine q_aload_n (j := 1) X dL_law_2081 rfl rfl ?_
  refine qL_w X hA hW hZ [.ref (ad 0 1), .int (xs (i + 1)), .ref ob] rfl rfl dL_law_2082 hroom (k_L_allowedWaste hA.1 hA.2.2.1.1 hst (xs (i + 1)) mc v _ _ (J_allowedWaste (K := Rel (a + 400000) (s0 + 64)) h.1 (fun v9 => h.2.2.2 mc _ ((h.1.ref v9).mono (by omega) (by omega) h.2.2.1)) (xs (i + 1))) (fun _ _ hx => hx.1)) rfl rfl (gSW kw_5_123 kw_5_124 kw_1_0 kw_5_125) hy_L_allowedWaste ⟨(Nat.le_of_ble_eq_true rfl), (Nat.le_of_ble_eq_true rfl)⟩ (fun k mc' v' hq => ?_)
  refine q_istore X dL_law_2085 (Nat.le_of_ble_eq_true rfl) rfl ?_
  refine q_aload_n (j := 3) X dL_law_2087 rfl rfl ?_
  refine qL_arg C0 1 (j0 := 5) (j4 := 1) rfl (by decide) dL_law_2088 dL_law_2089 dL_law_2091 dL_law_2092 dL_law_2093 rfl rfl hi ?_
  have hroom1 : cells + 1 ≤ room_1.cells ∧ slots + 6 ≤ room_1.slots := hroom
  rcases hq with ⟨rfl, r, rfl, hj⟩ | ⟨hk0, k0, hk, hj⟩
  · skip
    obtain ⟨hj, rfl⟩ := hj
    unfold jq at hj
    refine qL_m X hA hW [.int (xs (i + 1))] [] rfl rfl (Nat.le_of_ble_eq_true rfl) dL_law_2094 hroom1 (c_X10_allowedWaste hA.2.1 (xs (i + 1)) mm _ hj) rfl rfl (gV kw_8_162 kw_8_163 kw_8_164 kw_1_11 kw_8_165) hy_X10_allowedWaste ⟨(Nat.le_of_ble_eq_true rfl), (Nat.le_of_ble_eq_true rfl)⟩ (fun b9 mm9 hb => ?_)
    obtain ⟨h1, rfl, hK⟩ := hb
    refine q_istore X dL_law_2097 (Nat.le_of_ble_eq_true rfl) rfl ?_
    exact tailI C0 hroom1 ⟨(Nat.le_of_ble_eq_true rfl), (Nat.le_of_ble_eq_true rfl)⟩ h1 (fun _ => rfl) dL_law_2099 dL_law_2100 dL_law_2103 dL_law_2105 dL_law_2110 dL_law_2112 dL_law_2115 dL_law_2116 dL_law_2117 dL_law_2118 dL_law_2120 dL_law_2121 dL_law_2122 dL_law_2127 (by decide) (kk _ _ _ hK)
  · obtain ⟨_, hj⟩ := hj
    unfold jx at hj
    refine qL_m X hA hW [.int (xs (i + 1))] [] rfl rfl (Nat.le_of_ble_eq_true rfl) dL_law_2094 hroom1 (c_X10_allowedWaste hA.2.1 (xs (i + 1)) mm _ hj) rfl rfl (gV kw_8_162 kw_8_163 kw_8_164 kw_1_11 kw_8_165) hy_X10_allowedWaste ⟨(Nat.le_of_ble_eq_true rfl), (Nat.le_of_ble_eq_true rfl)⟩ (fun b9 mm9 hb => ?_)
    obtain ⟨h1, hK⟩ := hb
    refine q_istore X dL_law_2097 (Nat.le_of_ble_eq_true rfl) rfl ?_
    exact tailI C0 hroom1 ⟨(Nat.le_of_ble_eq_true rfl), (Nat.le_of_ble_eq_true rfl)⟩ (h1.trans hk.symm) (fun h0 => absurd h0 hk0) dL_law_2099 dL_law_2100 dL_law_2103 dL_law_2105 dL_law_2110 dL_law_2112 dL_law_2115 dL_law_2116 dL_law_2117 dL_law_2118 dL_law_2120 dL_law_2121 dL_law_2122 dL_law_2127 (by decide) (kk _ _ _ hK)
set_option maxRecDepth 100000 in
set_option maxHeartbeats 4000000 in
theorem case_31 (C : LC p l s m args c D cA ad A AC AM ob cO b L xs) (h : Hy a s0 mc mm (Rel (a + 400000) (s0 + 64))) (hi : i + 4 < L) (hroom : cells + 1 ≤ room_1.cells ∧ slots + 6 ≤ room_1.slots) (kk : ∀ (mc' mm' : Mm) (v' : Int64), Rel (a + 400000) (s0 + 64) mc' mm' → V p l e room_1 s m args below meth c Q 9 A (cells + 1) (slots + 6) (PL D cA ad ob cO mc' mm' v') 4461 (lvL ad ob b i) []) : V p l e room_1 s m args below meth c Q 9 A cells slots (PL D cA ad ob cO mc mm v) 2130 (lvL ad ob b i) [] := by
  have C0 := C
  obtain ⟨X, hA, hW, hZ, hX, hb1, hst, hL⟩ := C
  have hroom0 : cells ≤ room_1.cells ∧ slots ≤ room_1.slots := ⟨by omega, by omega⟩
  refine q_aload_n (j := 3) X dL_law_2130 rfl rfl ?_
  refine qL_cd X hA hW hZ [] [] rfl rfl (Nat.le_of_ble_eq_true rfl) dL_law_2131 hroom0 (c_X9_meanDuty hA.1  mc _ (J_meanDuty (K := Rel (a + 400000) (s0 + 64)) h.1 (fun v9 => h.2.2.2 mc _ ((h.1.ref v9).mono (by omega) (by omega) h.2.2.1)) )) rfl rfl (gV kw_2_145 kw_2_146 kw_2_147 kw_1_1 kw_2_148) hy_X9_meanDuty ⟨(Nat.le_of_ble_eq_true rfl), (Nat.le_of_ble_eq_true rfl)⟩ (fun r mc' hj => ?_)
  obtain ⟨hj, rfl⟩ := hj
  refine q_dstore X dL_law_2134 (Nat.le_of_ble_eq_true rfl) rfl ?_
  refine q_aload_n (j := 3) X dL_law_2136 rfl rfl ?_
  refine qL_md X hA hW [] [] rfl rfl (Nat.le_of_ble_eq_true rfl) dL_law_2137 hroom0 (c_X10_meanDuty hA.2.1  mm _ hj) rfl rfl (gV kw_8_166 kw_8_167 kw_8_168 kw_1_11 kw_8_169) hy_X10_meanDuty ⟨(Nat.le_of_ble_eq_true rfl), (Nat.le_of_ble_eq_true rfl)⟩ (fun b9 mm9 hb => ?_)
  obtain ⟨hc, hK⟩ := hb
  refine q_dstore X dL_law_2140 (Nat.le_of_ble_eq_true rfl) rfl ?_
  refine q_dload (j := 1) X dL_law_2142 rfl ?_
  refine q_dload (j := 0) X dL_law_2144 rfl ?_
  refine q_dcmp X dL_law_2146 ?_
  rw [hc]
  refine q_if_eq X dL_law_2147 (tgt := 2168) (by decide) (fun _ => ?_) (fun h9 => absurd rfl h9)
  refine q_goto X dL_law_2168 (tgt := 4461) (by decide) ?_
  refine q_sub [2, 3, 4, 5, 6] rfl ?_
  exact q_w (Nat.le_succ _) (Nat.le_add_right _ _) (kk _ _ _ hK)
set_option maxRecDepth 100000 in
set_option maxHeartbeats 4000000 in
theorem case_32 (C : LC p l s m args c D cA ad A AC AM ob cO b L xs) (h : Hy a s0 mc mm (Rel (a + 400000) (s0 + 64))) (hi : i + 4 < L) (hroom : cells + 1 ≤ room_1.cells ∧ slots + 6 ≤ room_1.slots) (kk : ∀ (mc' mm' : Mm) (v' : Int64), Rel (a + 400000) (s0 + 64) mc' mm' → V p l e room_1 s m args below meth c Q 9 A (cells + 1) (slots + 6) (PL D cA ad ob cO mc' mm' v') 4461 (lvL ad ob b i) []) : V p l e room_1 s m args below meth c Q 9 A cells slots (PL D cA ad ob cO mc mm v) 2171 (lvL ad ob b i) [] := by
  have C0 := C
  obtain ⟨X, hA, hW, hZ, hX, hb1, hst, hL⟩ := C
  have hroom0 : cells ≤ room_1.cells ∧ slots ≤ room_1.slots := ⟨by omega, by omega⟩
  refine q_aload_n (j := 3) X dL_law_2171 rfl rfl ?_
  refine qL_arg C0 1 (j0 := 4) (j4 := 0) rfl (by decide) dL_law_2172 dL_law_2173 dL_law_2175 dL_law_2176 dL_law_2177 rfl rfl hi ?_
  refine q_aload_n (j := 1) X dL_law_2178 rfl rfl ?_
  refine qL_w X hA hW hZ [.ref (ad 0 1), .int (xs (i + 1)), .ref ob] rfl rfl dL_law_2179 hroom (k_L_isLocked hA.1 hA.2.2.1.1 hst (xs (i + 1)) mc v _ _ (J_isLocked (K := Rel (a + 400000) (s0 + 64)) h.1 (fun v9 => h.2.2.2 mc _ ((h.1.ref v9).mono (by omega) (by omega) h.2.2.1)) (xs (i + 1))) (fun _ _ hx => hx.1)) rfl rfl (gSW kw_5_131 kw_5_132 kw_1_0 kw_5_133) hy_L_isLocked ⟨(Nat.le_of_ble_eq_true rfl), (Nat.le_of_ble_eq_true rfl)⟩ (fun k mc' v' hq => ?_)
  refine q_istore X dL_law_2182 (Nat.le_of_ble_eq_true rfl) rfl ?_
  refine q_aload_n (j := 3) X dL_law_2184 rfl rfl ?_
  refine qL_arg C0 1 (j0 := 5) (j4 := 1) rfl (by decide) dL_law_2185 dL_law_2186 dL_law_2188 dL_law_2189 dL_law_2190 rfl rfl hi ?_
  have hroom1 : cells + 1 ≤ room_1.cells ∧ slots + 6 ≤ room_1.slots := hroom
  rcases hq with ⟨rfl, r, rfl, hj⟩ | ⟨hk0, k0, hk, hj⟩
  · skip
    obtain ⟨hj, rfl⟩ := hj
    unfold jq at hj
    refine qL_m X hA hW [.int (xs (i + 1))] [] rfl rfl (Nat.le_of_ble_eq_true rfl) dL_law_2191 hroom1 (c_X10_isLocked hA.2.1 (xs (i + 1)) mm _ hj) rfl rfl (gV kw_8_170 kw_8_171 kw_8_172 kw_1_11 kw_8_173) hy_X10_isLocked ⟨(Nat.le_of_ble_eq_true rfl), (Nat.le_of_ble_eq_true rfl)⟩ (fun b9 mm9 hb => ?_)
    obtain ⟨h1, rfl, hK⟩ := hb
    refine q_istore X dL_law_2194 (Nat.le_of_ble_eq_true rfl) rfl ?_
    exact tailB C0 hroom1 ⟨(Nat.le_of_ble_eq_true rfl), (Nat.le_of_ble_eq_true rfl)⟩ h1 (fun _ => rfl) dL_law_2196 dL_law_2197 dL_law_2200 dL_law_2202 dL_law_2207 dL_law_2209 dL_law_2212 dL_law_2213 dL_law_2214 dL_law_2215 dL_law_2217 dL_law_2220 dL_law_2221 dL_law_2224 dL_law_2225 dL_law_2226 dL_law_2231 (by decide) (kk _ _ _ hK)
  · obtain ⟨_, hj⟩ := hj
    unfold jx at hj
    refine qL_m X hA hW [.int (xs (i + 1))] [] rfl rfl (Nat.le_of_ble_eq_true rfl) dL_law_2191 hroom1 (c_X10_isLocked hA.2.1 (xs (i + 1)) mm _ hj) rfl rfl (gV kw_8_170 kw_8_171 kw_8_172 kw_1_11 kw_8_173) hy_X10_isLocked ⟨(Nat.le_of_ble_eq_true rfl), (Nat.le_of_ble_eq_true rfl)⟩ (fun b9 mm9 hb => ?_)
    obtain ⟨h1, hK⟩ := hb
    refine q_istore X dL_law_2194 (Nat.le_of_ble_eq_true rfl) rfl ?_
    exact tailB C0 hroom1 ⟨(Nat.le_of_ble_eq_true rfl), (Nat.le_of_ble_eq_true rfl)⟩ (h1.trans hk.symm) (fun h0 => absurd h0 hk0) dL_law_2196 dL_law_2197 dL_law_2200 dL_law_2202 dL_law_2207 dL_law_2209 dL_law_2212 dL_law_2213 dL_law_2214 dL_law_2215 dL_law_2217 dL_law_2220 dL_law_2221 dL_law_2224 dL_law_2225 dL_law_2226 dL_law_2231 (by decide) (kk _ _ _ hK)
end CASE0
