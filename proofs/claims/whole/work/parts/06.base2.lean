theorem kw_1_173 : (Jvm.Cond.lays "BondWarehouse$Chamber" "BondWarehouse$Chamber" "seal" "I") ∈ TG := tg_1 173 rfl rfl
theorem kw_1_175 : (Jvm.Cond.lays "BondWarehouse$Chamber" "BondWarehouse$Chamber" "broken" "Z") ∈ TG := tg_1 175 rfl rfl
theorem kw_2_78 : (Jvm.Cond.laysFinal "BondWarehouse$Deeds" "BondWarehouse$Deeds" "state" "LBondWarehouse$State;") ∈ TG := tg_2 78 rfl rfl
theorem kw_2_80 : (Jvm.Cond.laysFinal "BondWarehouse$Deeds" "BondWarehouse$Deeds" "history" "LBondWarehouse$History;") ∈ TG := tg_2 80 rfl rfl
theorem kw_1_116 : (Jvm.Cond.lays "BondWarehouse$Entry" "BondWarehouse$Entry" "number" "I") ∈ TG := tg_1 116 rfl rfl
theorem kw_1_118 : (Jvm.Cond.lays "BondWarehouse$Entry" "BondWarehouse$Entry" "kind" "I") ∈ TG := tg_1 118 rfl rfl
theorem kw_1_120 : (Jvm.Cond.lays "BondWarehouse$Entry" "BondWarehouse$Entry" "weight" "I") ∈ TG := tg_1 120 rfl rfl
theorem kw_1_122 : (Jvm.Cond.lays "BondWarehouse$Entry" "BondWarehouse$Entry" "value" "I") ∈ TG := tg_1 122 rfl rfl
theorem kw_1_124 : (Jvm.Cond.lays "BondWarehouse$Entry" "BondWarehouse$Entry" "chamber" "I") ∈ TG := tg_1 124 rfl rfl
theorem kw_1_126 : (Jvm.Cond.lays "BondWarehouse$Entry" "BondWarehouse$Entry" "dayEntered" "I") ∈ TG := tg_1 126 rfl rfl
theorem kw_1_128 : (Jvm.Cond.lays "BondWarehouse$Entry" "BondWarehouse$Entry" "dayWeighed" "I") ∈ TG := tg_1 128 rfl rfl
theorem kw_1_130 : (Jvm.Cond.lays "BondWarehouse$Entry" "BondWarehouse$Entry" "proved" "Z") ∈ TG := tg_1 130 rfl rfl
theorem kw_2_56 : (Jvm.Cond.laysFinal "BondWarehouse$History" "BondWarehouse$History" "saved" "[LBondWarehouse$State;") ∈ TG := tg_2 56 rfl rfl
theorem kw_2_58 : (Jvm.Cond.lays "BondWarehouse$History" "BondWarehouse$History" "oldest" "I") ∈ TG := tg_2 58 rfl rfl
theorem kw_2_60 : (Jvm.Cond.lays "BondWarehouse$History" "BondWarehouse$History" "count" "I") ∈ TG := tg_2 60 rfl rfl
theorem kw_2_62 : (Jvm.Cond.laysFinal "BondWarehouse$History" "BondWarehouse$History" "slots" "[LBondWarehouse$State;") ∈ TG := tg_2 62 rfl rfl
theorem kw_2_64 : (Jvm.Cond.laysFinal "BondWarehouse$History" "BondWarehouse$History" "isFilled" "[Z") ∈ TG := tg_2 64 rfl rfl
theorem kw_2_66 : (Jvm.Cond.lays "BondWarehouse$History" "BondWarehouse$History" "paused" "Z") ∈ TG := tg_2 66 rfl rfl
theorem kw_2_99 : (Jvm.Cond.laysFinal "BondWarehouse$Journal" "BondWarehouse$Journal" "codes" "[I") ∈ TG := tg_2 99 rfl rfl
theorem kw_2_101 : (Jvm.Cond.lays "BondWarehouse$Journal" "BondWarehouse$Journal" "length" "I") ∈ TG := tg_2 101 rfl rfl
theorem kw_2_103 : (Jvm.Cond.lays "BondWarehouse$Journal" "BondWarehouse$Journal" "letter" "I") ∈ TG := tg_2 103 rfl rfl
theorem kw_2_105 : (Jvm.Cond.lays "BondWarehouse$Journal" "BondWarehouse$Journal" "form" "[I") ∈ TG := tg_2 105 rfl rfl
theorem kw_2_107 : (Jvm.Cond.lays "BondWarehouse$Journal" "BondWarehouse$Journal" "place" "I") ∈ TG := tg_2 107 rfl rfl
theorem kw_2_109 : (Jvm.Cond.laysFinal "BondWarehouse$Journal" "BondWarehouse$Journal" "numbers" "[I") ∈ TG := tg_2 109 rfl rfl
theorem kw_1_211 : (Jvm.Cond.lays "BondWarehouse$KindAccount" "BondWarehouse$KindAccount" "byValue" "I") ∈ TG := tg_1 211 rfl rfl
theorem kw_1_213 : (Jvm.Cond.lays "BondWarehouse$KindAccount" "BondWarehouse$KindAccount" "byWeight" "I") ∈ TG := tg_1 213 rfl rfl
theorem kw_1_215 : (Jvm.Cond.lays "BondWarehouse$KindAccount" "BondWarehouse$KindAccount" "entered" "I") ∈ TG := tg_1 215 rfl rfl
theorem kw_1_217 : (Jvm.Cond.lays "BondWarehouse$KindAccount" "BondWarehouse$KindAccount" "withdrawn" "I") ∈ TG := tg_1 217 rfl rfl
theorem kw_1_219 : (Jvm.Cond.lays "BondWarehouse$KindAccount" "BondWarehouse$KindAccount" "sentAbroad" "I") ∈ TG := tg_1 219 rfl rfl
theorem kw_1_221 : (Jvm.Cond.lays "BondWarehouse$KindAccount" "BondWarehouse$KindAccount" "wasted" "I") ∈ TG := tg_1 221 rfl rfl
theorem kw_1_223 : (Jvm.Cond.lays "BondWarehouse$KindAccount" "BondWarehouse$KindAccount" "lost" "I") ∈ TG := tg_1 223 rfl rfl
theorem kw_1_225 : (Jvm.Cond.lays "BondWarehouse$KindAccount" "BondWarehouse$KindAccount" "drawnBack" "I") ∈ TG := tg_1 225 rfl rfl
theorem kw_1_58 : (Jvm.Cond.lays "BondWarehouse$Money" "BondWarehouse$Money" "bond" "I") ∈ TG := tg_1 58 rfl rfl
theorem kw_1_60 : (Jvm.Cond.lays "BondWarehouse$Money" "BondWarehouse$Money" "account" "I") ∈ TG := tg_1 60 rfl rfl
theorem kw_1_62 : (Jvm.Cond.lays "BondWarehouse$Money" "BondWarehouse$Money" "debt" "I") ∈ TG := tg_1 62 rfl rfl
theorem kw_1_64 : (Jvm.Cond.lays "BondWarehouse$Money" "BondWarehouse$Money" "deposits" "I") ∈ TG := tg_1 64 rfl rfl
theorem kw_1_66 : (Jvm.Cond.lays "BondWarehouse$Money" "BondWarehouse$Money" "dutiesPaid" "I") ∈ TG := tg_1 66 rfl rfl
theorem kw_1_68 : (Jvm.Cond.lays "BondWarehouse$Money" "BondWarehouse$Money" "charges" "I") ∈ TG := tg_1 68 rfl rfl
theorem kw_1_70 : (Jvm.Cond.lays "BondWarehouse$Money" "BondWarehouse$Money" "drawbacks" "I") ∈ TG := tg_1 70 rfl rfl
theorem kw_1_153 : (Jvm.Cond.lays "BondWarehouse$Receipt" "BondWarehouse$Receipt" "kind" "I") ∈ TG := tg_1 153 rfl rfl
theorem kw_1_155 : (Jvm.Cond.lays "BondWarehouse$Receipt" "BondWarehouse$Receipt" "weight" "I") ∈ TG := tg_1 155 rfl rfl
theorem kw_1_157 : (Jvm.Cond.lays "BondWarehouse$Receipt" "BondWarehouse$Receipt" "duty" "I") ∈ TG := tg_1 157 rfl rfl
theorem kw_1_159 : (Jvm.Cond.lays "BondWarehouse$Receipt" "BondWarehouse$Receipt" "dayMade" "I") ∈ TG := tg_1 159 rfl rfl
theorem kw_2_14 : (Jvm.Cond.lays "BondWarehouse$State" "BondWarehouse$State" "day" "I") ∈ TG := tg_2 14 rfl rfl
theorem kw_2_16 : (Jvm.Cond.lays "BondWarehouse$State" "BondWarehouse$State" "openCount" "I") ∈ TG := tg_2 16 rfl rfl
theorem kw_2_18 : (Jvm.Cond.lays "BondWarehouse$State" "BondWarehouse$State" "made" "I") ∈ TG := tg_2 18 rfl rfl
theorem kw_2_20 : (Jvm.Cond.lays "BondWarehouse$State" "BondWarehouse$State" "sealsPut" "I") ∈ TG := tg_2 20 rfl rfl
theorem kw_2_22 : (Jvm.Cond.lays "BondWarehouse$State" "BondWarehouse$State" "receiptCount" "I") ∈ TG := tg_2 22 rfl rfl
theorem kw_2_24 : (Jvm.Cond.laysFinal "BondWarehouse$State" "BondWarehouse$State" "money" "LBondWarehouse$Money;") ∈ TG := tg_2 24 rfl rfl
theorem kw_2_26 : (Jvm.Cond.laysFinal "BondWarehouse$State" "BondWarehouse$State" "entries" "[LBondWarehouse$Entry;") ∈ TG := tg_2 26 rfl rfl
theorem kw_2_28 : (Jvm.Cond.laysFinal "BondWarehouse$State" "BondWarehouse$State" "receipts" "[LBondWarehouse$Receipt;") ∈ TG := tg_2 28 rfl rfl
theorem kw_2_30 : (Jvm.Cond.laysFinal "BondWarehouse$State" "BondWarehouse$State" "chambers" "[LBondWarehouse$Chamber;") ∈ TG := tg_2 30 rfl rfl
theorem kw_2_32 : (Jvm.Cond.laysFinal "BondWarehouse$State" "BondWarehouse$State" "kinds" "[LBondWarehouse$KindAccount;") ∈ TG := tg_2 32 rfl rfl
theorem kw_2_34 : (Jvm.Cond.laysFinal "BondWarehouse$State" "BondWarehouse$State" "duties" "[I") ∈ TG := tg_2 34 rfl rfl
theorem kw_2_116 : (Jvm.Cond.laysFinal "BondWarehouse" "BondWarehouse" "state" "LBondWarehouse$State;") ∈ TG := tg_2 116 rfl rfl
theorem kw_2_118 : (Jvm.Cond.laysFinal "BondWarehouse" "BondWarehouse" "history" "LBondWarehouse$History;") ∈ TG := tg_2 118 rfl rfl
theorem kw_2_120 : (Jvm.Cond.laysFinal "BondWarehouse" "BondWarehouse" "deeds" "LBondWarehouse$Deeds;") ∈ TG := tg_2 120 rfl rfl
theorem kw_2_122 : (Jvm.Cond.laysFinal "BondWarehouse" "BondWarehouse" "journal" "LBondWarehouse$Journal;") ∈ TG := tg_2 122 rfl rfl
theorem kw_7_23 : (Jvm.Cond.lays "BondWarehouseModel" "BondWarehouseModel" "refusal" "I") ∈ TG := tg_7 23 rfl rfl
theorem kw_7_25 : (Jvm.Cond.laysFinal "BondWarehouseModel" "BondWarehouseModel" "buffer" "[I") ∈ TG := tg_7 25 rfl rfl
theorem kw_7_27 : (Jvm.Cond.lays "BondWarehouseModel" "BondWarehouseModel" "size" "I") ∈ TG := tg_7 27 rfl rfl
theorem kw_7_29 : (Jvm.Cond.laysFinal "BondWarehouseModel" "BondWarehouseModel" "now" "[I") ∈ TG := tg_7 29 rfl rfl
theorem kw_7_31 : (Jvm.Cond.laysFinal "BondWarehouseModel" "BondWarehouseModel" "saved" "[I") ∈ TG := tg_7 31 rfl rfl
theorem kw_7_33 : (Jvm.Cond.lays "BondWarehouseModel" "BondWarehouseModel" "states" "I") ∈ TG := tg_7 33 rfl rfl
theorem kw_7_35 : (Jvm.Cond.laysFinal "BondWarehouseModel" "BondWarehouseModel" "kept" "[I") ∈ TG := tg_7 35 rfl rfl
theorem kw_7_37 : (Jvm.Cond.laysFinal "BondWarehouseModel" "BondWarehouseModel" "isKept" "[Z") ∈ TG := tg_7 37 rfl rfl
theorem kw_7_39 : (Jvm.Cond.laysFinal "BondWarehouseModel" "BondWarehouseModel" "isTaken" "[Z") ∈ TG := tg_7 39 rfl rfl
theorem kw_7_41 : (Jvm.Cond.lays "BondWarehouseModel" "BondWarehouseModel" "spot" "I") ∈ TG := tg_7 41 rfl rfl
theorem kw_7_43 : (Jvm.Cond.lays "BondWarehouseModel" "BondWarehouseModel" "value" "I") ∈ TG := tg_7 43 rfl rfl
theorem kw_7_45 : (Jvm.Cond.lays "BondWarehouseModel" "BondWarehouseModel" "one" "I") ∈ TG := tg_7 45 rfl rfl
theorem kw_7_47 : (Jvm.Cond.lays "BondWarehouseModel" "BondWarehouseModel" "two" "I") ∈ TG := tg_7 47 rfl rfl
theorem kw_7_49 : (Jvm.Cond.lays "BondWarehouseModel" "BondWarehouseModel" "three" "I") ∈ TG := tg_7 49 rfl rfl
theorem kw_7_51 : (Jvm.Cond.lays "BondWarehouseModel" "BondWarehouseModel" "isWhole" "Z") ∈ TG := tg_7 51 rfl rfl
theorem kw_7_53 : (Jvm.Cond.lays "BondWarehouseModel" "BondWarehouseModel" "done" "I") ∈ TG := tg_7 53 rfl rfl
theorem kw_3_81 : (Jvm.Cond.methodLink "BondWarehouse" (107 : Nat) ({ cls := "BondWarehouse", name := "isWithin", desc := "(III)Z" } : Jvm.MethodName)) ∈ TG := tg_3 81 rfl rfl
theorem kw_2_227 : (Jvm.Cond.code ({ cls := "BondWarehouse", name := "isWithin", desc := "(III)Z" } : Jvm.MethodName) prog_1_method_85_code (3 : Nat) (Option.some Jvm.ClassFile.FieldType.boolean)) ∈ TG := tg_2 227 rfl rfl
theorem kw_1_1 : (Jvm.Cond.initialized "BondWarehouse") ∈ TG := tg_1 1 rfl rfl
theorem kw_2_226 : (Jvm.Cond.static ({ cls := "BondWarehouse", name := "isWithin", desc := "(III)Z" } : Jvm.MethodName)) ∈ TG := tg_2 226 rfl rfl
theorem kw_1_167 : (Jvm.Cond.fieldLink "BondWarehouse$Chamber" (9 : Nat) "BondWarehouse$Chamber" "seal" "I") ∈ TG := tg_1 167 rfl rfl
theorem kw_1_231 : (Jvm.Cond.fieldLink "BondWarehouse$State" (62 : Nat) "BondWarehouse$State" "openCount" "I") ∈ TG := tg_1 231 rfl rfl
theorem kw_2_3 : (Jvm.Cond.fieldLink "BondWarehouse$State" (20 : Nat) "BondWarehouse$State" "entries" "[LBondWarehouse$Entry;") ∈ TG := tg_2 3 rfl rfl
theorem kw_1_234 : (Jvm.Cond.fieldLink "BondWarehouse$State" (65 : Nat) "BondWarehouse$State" "made" "I") ∈ TG := tg_1 234 rfl rfl
theorem kw_1_228 : (Jvm.Cond.fieldLink "BondWarehouse$State" (58 : Nat) "BondWarehouse$State" "day" "I") ∈ TG := tg_1 228 rfl rfl
theorem kw_1_187 : (Jvm.Cond.fieldLink "BondWarehouse$KindAccount" (9 : Nat) "BondWarehouse$KindAccount" "byValue" "I") ∈ TG := tg_1 187 rfl rfl
theorem kw_1_190 : (Jvm.Cond.fieldLink "BondWarehouse$KindAccount" (15 : Nat) "BondWarehouse$KindAccount" "byWeight" "I") ∈ TG := tg_1 190 rfl rfl
theorem kw_2_10 : (Jvm.Cond.fieldLink "BondWarehouse$State" (38 : Nat) "BondWarehouse$State" "kinds" "[LBondWarehouse$KindAccount;") ∈ TG := tg_2 10 rfl rfl
theorem kw_2_164 : (Jvm.Cond.code ({ cls := "BondWarehouse$KindAccount", name := "dutyOn", desc := "(III)I" } : Jvm.MethodName) prog_7_method_3_code (5 : Nat) (Option.some Jvm.ClassFile.FieldType.int)) ∈ TG := tg_2 164 rfl rfl
theorem kw_1_7 : (Jvm.Cond.initialized "BondWarehouse$KindAccount") ∈ TG := tg_1 7 rfl rfl
theorem kw_2_163 : (Jvm.Cond.instanceMethod ({ cls := "BondWarehouse$KindAccount", name := "dutyOn", desc := "(III)I" } : Jvm.MethodName)) ∈ TG := tg_2 163 rfl rfl
theorem ks_4 : Cond.selects "BondWarehouse$KindAccount" ⟨"BondWarehouse$KindAccount", "dutyOn", "(III)I"⟩ ⟨"BondWarehouse$KindAccount", "dutyOn", "(III)I"⟩ ∈ TG := tgS (q := (⟨"BondWarehouse$KindAccount", "dutyOn", "(III)I"⟩, 8)) (List.mem_of_getElem? (i := 4) rfl)
theorem kw_2_153 : (Jvm.Cond.methodLink "BondWarehouse$State" (109 : Nat) ({ cls := "BondWarehouse$State", name := "ageNow", desc := "(LBondWarehouse$Entry;)I" } : Jvm.MethodName)) ∈ TG := tg_2 153 rfl rfl
theorem kw_2_156 : (Jvm.Cond.code ({ cls := "BondWarehouse$State", name := "ageNow", desc := "(LBondWarehouse$Entry;)I" } : Jvm.MethodName) prog_10_method_10_code (2 : Nat) (Option.some Jvm.ClassFile.FieldType.int)) ∈ TG := tg_2 156 rfl rfl
theorem kw_1_2 : (Jvm.Cond.initialized "BondWarehouse$State") ∈ TG := tg_1 2 rfl rfl
theorem kw_2_155 : (Jvm.Cond.instanceMethod ({ cls := "BondWarehouse$State", name := "ageNow", desc := "(LBondWarehouse$Entry;)I" } : Jvm.MethodName)) ∈ TG := tg_2 155 rfl rfl
theorem ks_2 : Cond.selects "BondWarehouse$State" ⟨"BondWarehouse$State", "ageNow", "(LBondWarehouse$Entry;)I"⟩ ⟨"BondWarehouse$State", "ageNow", "(LBondWarehouse$Entry;)I"⟩ ∈ TG := tgS (q := (⟨"BondWarehouse$State", "ageNow", "(LBondWarehouse$Entry;)I"⟩, 11)) (List.mem_of_getElem? (i := 2) rfl)
theorem kw_2_157 : (Jvm.Cond.methodLink "BondWarehouse$State" (127 : Nat) ({ cls := "BondWarehouse$State", name := "wholeDuty", desc := "(LBondWarehouse$Entry;I)I" } : Jvm.MethodName)) ∈ TG := tg_2 157 rfl rfl
theorem kw_2_160 : (Jvm.Cond.code ({ cls := "BondWarehouse$State", name := "wholeDuty", desc := "(LBondWarehouse$Entry;I)I" } : Jvm.MethodName) prog_10_method_13_code (3 : Nat) (Option.some Jvm.ClassFile.FieldType.int)) ∈ TG := tg_2 160 rfl rfl
theorem kw_2_159 : (Jvm.Cond.instanceMethod ({ cls := "BondWarehouse$State", name := "wholeDuty", desc := "(LBondWarehouse$Entry;I)I" } : Jvm.MethodName)) ∈ TG := tg_2 159 rfl rfl
theorem ks_3 : Cond.selects "BondWarehouse$State" ⟨"BondWarehouse$State", "wholeDuty", "(LBondWarehouse$Entry;I)I"⟩ ⟨"BondWarehouse$State", "wholeDuty", "(LBondWarehouse$Entry;I)I"⟩ ∈ TG := tgS (q := (⟨"BondWarehouse$State", "wholeDuty", "(LBondWarehouse$Entry;I)I"⟩, 11)) (List.mem_of_getElem? (i := 3) rfl)
theorem kw_2_0 : (Jvm.Cond.fieldLink "BondWarehouse$State" (12 : Nat) "BondWarehouse$State" "money" "LBondWarehouse$Money;") ∈ TG := tg_2 0 rfl rfl
theorem kw_2_7 : (Jvm.Cond.fieldLink "BondWarehouse$State" (32 : Nat) "BondWarehouse$State" "chambers" "[LBondWarehouse$Chamber;") ∈ TG := tg_2 7 rfl rfl
theorem kw_3_89 : (Jvm.Cond.code ({ cls := "BondWarehouse$Chamber", name := "isSealed", desc := "()Z" } : Jvm.MethodName) prog_2_method_3_code (1 : Nat) (Option.some Jvm.ClassFile.FieldType.boolean)) ∈ TG := tg_3 89 rfl rfl
theorem kw_1_6 : (Jvm.Cond.initialized "BondWarehouse$Chamber") ∈ TG := tg_1 6 rfl rfl
theorem kw_3_88 : (Jvm.Cond.instanceMethod ({ cls := "BondWarehouse$Chamber", name := "isSealed", desc := "()Z" } : Jvm.MethodName)) ∈ TG := tg_3 88 rfl rfl
theorem ks_19 : Cond.selects "BondWarehouse$Chamber" ⟨"BondWarehouse$Chamber", "isSealed", "()Z"⟩ ⟨"BondWarehouse$Chamber", "isSealed", "()Z"⟩ ∈ TG := tgS (q := (⟨"BondWarehouse$Chamber", "isSealed", "()Z"⟩, 2)) (List.mem_of_getElem? (i := 19) rfl)
theorem kw_3_90 : (Jvm.Cond.methodLink "BondWarehouse$State" (160 : Nat) ({ cls := "BondWarehouse$State", name := "roomLeft", desc := "(I)I" } : Jvm.MethodName)) ∈ TG := tg_3 90 rfl rfl
theorem kw_3_93 : (Jvm.Cond.code ({ cls := "BondWarehouse$State", name := "roomLeft", desc := "(I)I" } : Jvm.MethodName) prog_10_method_19_code (4 : Nat) (Option.some Jvm.ClassFile.FieldType.int)) ∈ TG := tg_3 93 rfl rfl
theorem kw_3_92 : (Jvm.Cond.instanceMethod ({ cls := "BondWarehouse$State", name := "roomLeft", desc := "(I)I" } : Jvm.MethodName)) ∈ TG := tg_3 92 rfl rfl
theorem ks_20 : Cond.selects "BondWarehouse$State" ⟨"BondWarehouse$State", "roomLeft", "(I)I"⟩ ⟨"BondWarehouse$State", "roomLeft", "(I)I"⟩ ∈ TG := tgS (q := (⟨"BondWarehouse$State", "roomLeft", "(I)I"⟩, 11)) (List.mem_of_getElem? (i := 20) rfl)
theorem kw_3_94 : (Jvm.Cond.methodLink "BondWarehouse$State" (163 : Nat) ({ cls := "BondWarehouse$State", name := "hasPlace", desc := "()Z" } : Jvm.MethodName)) ∈ TG := tg_3 94 rfl rfl
theorem kw_3_97 : (Jvm.Cond.code ({ cls := "BondWarehouse$State", name := "hasPlace", desc := "()Z" } : Jvm.MethodName) prog_10_method_6_code (1 : Nat) (Option.some Jvm.ClassFile.FieldType.boolean)) ∈ TG := tg_3 97 rfl rfl
theorem kw_3_96 : (Jvm.Cond.instanceMethod ({ cls := "BondWarehouse$State", name := "hasPlace", desc := "()Z" } : Jvm.MethodName)) ∈ TG := tg_3 96 rfl rfl
theorem ks_21 : Cond.selects "BondWarehouse$State" ⟨"BondWarehouse$State", "hasPlace", "()Z"⟩ ⟨"BondWarehouse$State", "hasPlace", "()Z"⟩ ∈ TG := tgS (q := (⟨"BondWarehouse$State", "hasPlace", "()Z"⟩, 11)) (List.mem_of_getElem? (i := 21) rfl)
theorem kw_3_98 : (Jvm.Cond.methodLink "BondWarehouse$State" (166 : Nat) ({ cls := "BondWarehouse$State", name := "stake", desc := "()I" } : Jvm.MethodName)) ∈ TG := tg_3 98 rfl rfl
theorem kw_2_152 : (Jvm.Cond.code ({ cls := "BondWarehouse$State", name := "stake", desc := "()I" } : Jvm.MethodName) prog_10_method_14_code (3 : Nat) (Option.some Jvm.ClassFile.FieldType.int)) ∈ TG := tg_2 152 rfl rfl
theorem kw_2_151 : (Jvm.Cond.instanceMethod ({ cls := "BondWarehouse$State", name := "stake", desc := "()I" } : Jvm.MethodName)) ∈ TG := tg_2 151 rfl rfl
theorem ks_1 : Cond.selects "BondWarehouse$State" ⟨"BondWarehouse$State", "stake", "()I"⟩ ⟨"BondWarehouse$State", "stake", "()I"⟩ ∈ TG := tgS (q := (⟨"BondWarehouse$State", "stake", "()I"⟩, 11)) (List.mem_of_getElem? (i := 1) rfl)
theorem kw_1_39 : (Jvm.Cond.fieldLink "BondWarehouse$Money" (7 : Nat) "BondWarehouse$Money" "bond" "I") ∈ TG := tg_1 39 rfl rfl
theorem kw_1_43 : (Jvm.Cond.fieldLink "BondWarehouse$Money" (13 : Nat) "BondWarehouse$Money" "account" "I") ∈ TG := tg_1 43 rfl rfl
theorem kw_1_47 : (Jvm.Cond.fieldLink "BondWarehouse$Money" (16 : Nat) "BondWarehouse$Money" "debt" "I") ∈ TG := tg_1 47 rfl rfl
theorem kw_1_50 : (Jvm.Cond.fieldLink "BondWarehouse$Money" (19 : Nat) "BondWarehouse$Money" "deposits" "I") ∈ TG := tg_1 50 rfl rfl
theorem kw_1_52 : (Jvm.Cond.fieldLink "BondWarehouse$Money" (22 : Nat) "BondWarehouse$Money" "dutiesPaid" "I") ∈ TG := tg_1 52 rfl rfl
theorem kw_1_54 : (Jvm.Cond.fieldLink "BondWarehouse$Money" (25 : Nat) "BondWarehouse$Money" "charges" "I") ∈ TG := tg_1 54 rfl rfl
theorem kw_1_56 : (Jvm.Cond.fieldLink "BondWarehouse$Money" (28 : Nat) "BondWarehouse$Money" "drawbacks" "I") ∈ TG := tg_1 56 rfl rfl
theorem kw_1_86 : (Jvm.Cond.fieldLink "BondWarehouse$Entry" (7 : Nat) "BondWarehouse$Entry" "number" "I") ∈ TG := tg_1 86 rfl rfl
theorem kw_1_90 : (Jvm.Cond.fieldLink "BondWarehouse$Entry" (13 : Nat) "BondWarehouse$Entry" "kind" "I") ∈ TG := tg_1 90 rfl rfl
theorem kw_1_94 : (Jvm.Cond.fieldLink "BondWarehouse$Entry" (16 : Nat) "BondWarehouse$Entry" "weight" "I") ∈ TG := tg_1 94 rfl rfl
theorem kw_1_98 : (Jvm.Cond.fieldLink "BondWarehouse$Entry" (19 : Nat) "BondWarehouse$Entry" "value" "I") ∈ TG := tg_1 98 rfl rfl
theorem kw_1_102 : (Jvm.Cond.fieldLink "BondWarehouse$Entry" (22 : Nat) "BondWarehouse$Entry" "chamber" "I") ∈ TG := tg_1 102 rfl rfl
theorem kw_1_106 : (Jvm.Cond.fieldLink "BondWarehouse$Entry" (25 : Nat) "BondWarehouse$Entry" "dayEntered" "I") ∈ TG := tg_1 106 rfl rfl
theorem kw_1_109 : (Jvm.Cond.fieldLink "BondWarehouse$Entry" (28 : Nat) "BondWarehouse$Entry" "dayWeighed" "I") ∈ TG := tg_1 109 rfl rfl
theorem kw_1_112 : (Jvm.Cond.fieldLink "BondWarehouse$Entry" (31 : Nat) "BondWarehouse$Entry" "proved" "Z") ∈ TG := tg_1 112 rfl rfl
theorem kw_1_139 : (Jvm.Cond.fieldLink "BondWarehouse$Receipt" (7 : Nat) "BondWarehouse$Receipt" "kind" "I") ∈ TG := tg_1 139 rfl rfl
theorem kw_1_142 : (Jvm.Cond.fieldLink "BondWarehouse$Receipt" (13 : Nat) "BondWarehouse$Receipt" "weight" "I") ∈ TG := tg_1 142 rfl rfl
theorem kw_1_146 : (Jvm.Cond.fieldLink "BondWarehouse$Receipt" (16 : Nat) "BondWarehouse$Receipt" "duty" "I") ∈ TG := tg_1 146 rfl rfl
theorem kw_1_149 : (Jvm.Cond.fieldLink "BondWarehouse$Receipt" (19 : Nat) "BondWarehouse$Receipt" "dayMade" "I") ∈ TG := tg_1 149 rfl rfl
theorem kw_1_170 : (Jvm.Cond.fieldLink "BondWarehouse$Chamber" (15 : Nat) "BondWarehouse$Chamber" "broken" "Z") ∈ TG := tg_1 170 rfl rfl
theorem kw_1_193 : (Jvm.Cond.fieldLink "BondWarehouse$KindAccount" (18 : Nat) "BondWarehouse$KindAccount" "entered" "I") ∈ TG := tg_1 193 rfl rfl
theorem kw_1_196 : (Jvm.Cond.fieldLink "BondWarehouse$KindAccount" (21 : Nat) "BondWarehouse$KindAccount" "withdrawn" "I") ∈ TG := tg_1 196 rfl rfl
theorem kw_1_199 : (Jvm.Cond.fieldLink "BondWarehouse$KindAccount" (24 : Nat) "BondWarehouse$KindAccount" "sentAbroad" "I") ∈ TG := tg_1 199 rfl rfl
theorem kw_1_202 : (Jvm.Cond.fieldLink "BondWarehouse$KindAccount" (27 : Nat) "BondWarehouse$KindAccount" "wasted" "I") ∈ TG := tg_1 202 rfl rfl
theorem kw_1_205 : (Jvm.Cond.fieldLink "BondWarehouse$KindAccount" (30 : Nat) "BondWarehouse$KindAccount" "lost" "I") ∈ TG := tg_1 205 rfl rfl
theorem kw_1_208 : (Jvm.Cond.fieldLink "BondWarehouse$KindAccount" (33 : Nat) "BondWarehouse$KindAccount" "drawnBack" "I") ∈ TG := tg_1 208 rfl rfl
theorem kw_1_236 : (Jvm.Cond.fieldLink "BondWarehouse$State" (68 : Nat) "BondWarehouse$State" "sealsPut" "I") ∈ TG := tg_1 236 rfl rfl
theorem kw_1_238 : (Jvm.Cond.fieldLink "BondWarehouse$State" (71 : Nat) "BondWarehouse$State" "receiptCount" "I") ∈ TG := tg_1 238 rfl rfl
theorem kw_3_110 : (Jvm.Cond.code ({ cls := "BondWarehouse$Money", name := "copyFrom", desc := "(LBondWarehouse$Money;)V" } : Jvm.MethodName) prog_8_method_2_code (2 : Nat) (Option.none : Option Jvm.ClassFile.FieldType)) ∈ TG := tg_3 110 rfl rfl
theorem kw_1_3 : (Jvm.Cond.initialized "BondWarehouse$Money") ∈ TG := tg_1 3 rfl rfl
theorem kw_3_109 : (Jvm.Cond.instanceMethod ({ cls := "BondWarehouse$Money", name := "copyFrom", desc := "(LBondWarehouse$Money;)V" } : Jvm.MethodName)) ∈ TG := tg_3 109 rfl rfl
theorem ks_24 : Cond.selects "BondWarehouse$Money" ⟨"BondWarehouse$Money", "copyFrom", "(LBondWarehouse$Money;)V"⟩ ⟨"BondWarehouse$Money", "copyFrom", "(LBondWarehouse$Money;)V"⟩ ∈ TG := tgS (q := (⟨"BondWarehouse$Money", "copyFrom", "(LBondWarehouse$Money;)V"⟩, 7)) (List.mem_of_getElem? (i := 24) rfl)
theorem kw_3_126 : (Jvm.Cond.code ({ cls := "BondWarehouse$KindAccount", name := "copyFrom", desc := "(LBondWarehouse$KindAccount;)V" } : Jvm.MethodName) prog_7_method_2_code (2 : Nat) (Option.none : Option Jvm.ClassFile.FieldType)) ∈ TG := tg_3 126 rfl rfl
theorem kw_3_125 : (Jvm.Cond.instanceMethod ({ cls := "BondWarehouse$KindAccount", name := "copyFrom", desc := "(LBondWarehouse$KindAccount;)V" } : Jvm.MethodName)) ∈ TG := tg_3 125 rfl rfl
theorem ks_28 : Cond.selects "BondWarehouse$KindAccount" ⟨"BondWarehouse$KindAccount", "copyFrom", "(LBondWarehouse$KindAccount;)V"⟩ ⟨"BondWarehouse$KindAccount", "copyFrom", "(LBondWarehouse$KindAccount;)V"⟩ ∈ TG := tgS (q := (⟨"BondWarehouse$KindAccount", "copyFrom", "(LBondWarehouse$KindAccount;)V"⟩, 8)) (List.mem_of_getElem? (i := 28) rfl)
theorem kw_3_122 : (Jvm.Cond.code ({ cls := "BondWarehouse$Chamber", name := "copyFrom", desc := "(LBondWarehouse$Chamber;)V" } : Jvm.MethodName) prog_2_method_2_code (2 : Nat) (Option.none : Option Jvm.ClassFile.FieldType)) ∈ TG := tg_3 122 rfl rfl
theorem kw_3_121 : (Jvm.Cond.instanceMethod ({ cls := "BondWarehouse$Chamber", name := "copyFrom", desc := "(LBondWarehouse$Chamber;)V" } : Jvm.MethodName)) ∈ TG := tg_3 121 rfl rfl
theorem ks_27 : Cond.selects "BondWarehouse$Chamber" ⟨"BondWarehouse$Chamber", "copyFrom", "(LBondWarehouse$Chamber;)V"⟩ ⟨"BondWarehouse$Chamber", "copyFrom", "(LBondWarehouse$Chamber;)V"⟩ ∈ TG := tgS (q := (⟨"BondWarehouse$Chamber", "copyFrom", "(LBondWarehouse$Chamber;)V"⟩, 2)) (List.mem_of_getElem? (i := 27) rfl)
theorem kw_2_6 : (Jvm.Cond.fieldLink "BondWarehouse$State" (26 : Nat) "BondWarehouse$State" "receipts" "[LBondWarehouse$Receipt;") ∈ TG := tg_2 6 rfl rfl
theorem kw_3_118 : (Jvm.Cond.code ({ cls := "BondWarehouse$Receipt", name := "copyFrom", desc := "(LBondWarehouse$Receipt;)V" } : Jvm.MethodName) prog_9_method_2_code (2 : Nat) (Option.none : Option Jvm.ClassFile.FieldType)) ∈ TG := tg_3 118 rfl rfl
theorem kw_1_5 : (Jvm.Cond.initialized "BondWarehouse$Receipt") ∈ TG := tg_1 5 rfl rfl
theorem kw_3_117 : (Jvm.Cond.instanceMethod ({ cls := "BondWarehouse$Receipt", name := "copyFrom", desc := "(LBondWarehouse$Receipt;)V" } : Jvm.MethodName)) ∈ TG := tg_3 117 rfl rfl
theorem ks_26 : Cond.selects "BondWarehouse$Receipt" ⟨"BondWarehouse$Receipt", "copyFrom", "(LBondWarehouse$Receipt;)V"⟩ ⟨"BondWarehouse$Receipt", "copyFrom", "(LBondWarehouse$Receipt;)V"⟩ ∈ TG := tgS (q := (⟨"BondWarehouse$Receipt", "copyFrom", "(LBondWarehouse$Receipt;)V"⟩, 4)) (List.mem_of_getElem? (i := 26) rfl)
theorem kw_3_114 : (Jvm.Cond.code ({ cls := "BondWarehouse$Entry", name := "copyFrom", desc := "(LBondWarehouse$Entry;)V" } : Jvm.MethodName) prog_4_method_2_code (2 : Nat) (Option.none : Option Jvm.ClassFile.FieldType)) ∈ TG := tg_3 114 rfl rfl
theorem kw_1_4 : (Jvm.Cond.initialized "BondWarehouse$Entry") ∈ TG := tg_1 4 rfl rfl
theorem kw_3_113 : (Jvm.Cond.instanceMethod ({ cls := "BondWarehouse$Entry", name := "copyFrom", desc := "(LBondWarehouse$Entry;)V" } : Jvm.MethodName)) ∈ TG := tg_3 113 rfl rfl
theorem ks_25 : Cond.selects "BondWarehouse$Entry" ⟨"BondWarehouse$Entry", "copyFrom", "(LBondWarehouse$Entry;)V"⟩ ⟨"BondWarehouse$Entry", "copyFrom", "(LBondWarehouse$Entry;)V"⟩ ∈ TG := tgS (q := (⟨"BondWarehouse$Entry", "copyFrom", "(LBondWarehouse$Entry;)V"⟩, 8)) (List.mem_of_getElem? (i := 25) rfl)
theorem kw_2_54 : (Jvm.Cond.fieldLink "BondWarehouse$History" (25 : Nat) "BondWarehouse$History" "paused" "Z") ∈ TG := tg_2 54 rfl rfl
theorem kw_2_48 : (Jvm.Cond.fieldLink "BondWarehouse$History" (29 : Nat) "BondWarehouse$History" "count" "I") ∈ TG := tg_2 48 rfl rfl
theorem kw_2_47 : (Jvm.Cond.fieldLink "BondWarehouse$History" (33 : Nat) "BondWarehouse$History" "oldest" "I") ∈ TG := tg_2 47 rfl rfl
theorem kw_2_46 : (Jvm.Cond.fieldLink "BondWarehouse$History" (11 : Nat) "BondWarehouse$History" "saved" "[LBondWarehouse$State;") ∈ TG := tg_2 46 rfl rfl
theorem kw_3_106 : (Jvm.Cond.code ({ cls := "BondWarehouse$State", name := "copyFrom", desc := "(LBondWarehouse$State;)V" } : Jvm.MethodName) prog_10_method_2_code (3 : Nat) (Option.none : Option Jvm.ClassFile.FieldType)) ∈ TG := tg_3 106 rfl rfl
theorem kw_3_105 : (Jvm.Cond.instanceMethod ({ cls := "BondWarehouse$State", name := "copyFrom", desc := "(LBondWarehouse$State;)V" } : Jvm.MethodName)) ∈ TG := tg_3 105 rfl rfl
theorem ks_23 : Cond.selects "BondWarehouse$State" ⟨"BondWarehouse$State", "copyFrom", "(LBondWarehouse$State;)V"⟩ ⟨"BondWarehouse$State", "copyFrom", "(LBondWarehouse$State;)V"⟩ ∈ TG := tgS (q := (⟨"BondWarehouse$State", "copyFrom", "(LBondWarehouse$State;)V"⟩, 11)) (List.mem_of_getElem? (i := 23) rfl)
theorem kw_3_80 : (Jvm.Cond.code ({ cls := "BondWarehouse", name := "areGoods", desc := "(IIII)Z" } : Jvm.MethodName) prog_1_method_86_code (4 : Nat) (Option.some Jvm.ClassFile.FieldType.boolean)) ∈ TG := tg_3 80 rfl rfl
theorem kw_3_79 : (Jvm.Cond.static ({ cls := "BondWarehouse", name := "areGoods", desc := "(IIII)Z" } : Jvm.MethodName)) ∈ TG := tg_3 79 rfl rfl
theorem kw_2_76 : (Jvm.Cond.fieldLink "BondWarehouse$Deeds" (9 : Nat) "BondWarehouse$Deeds" "state" "LBondWarehouse$State;") ∈ TG := tg_2 76 rfl rfl
theorem kw_3_85 : (Jvm.Cond.code ({ cls := "BondWarehouse$State", name := "reasonAgainstEntry", desc := "(IIII)I" } : Jvm.MethodName) prog_10_method_21_code (5 : Nat) (Option.some Jvm.ClassFile.FieldType.int)) ∈ TG := tg_3 85 rfl rfl
theorem kw_3_84 : (Jvm.Cond.instanceMethod ({ cls := "BondWarehouse$State", name := "reasonAgainstEntry", desc := "(IIII)I" } : Jvm.MethodName)) ∈ TG := tg_3 84 rfl rfl
theorem ks_18 : Cond.selects "BondWarehouse$State" ⟨"BondWarehouse$State", "reasonAgainstEntry", "(IIII)I"⟩ ⟨"BondWarehouse$State", "reasonAgainstEntry", "(IIII)I"⟩ ∈ TG := tgS (q := (⟨"BondWarehouse$State", "reasonAgainstEntry", "(IIII)I"⟩, 11)) (List.mem_of_getElem? (i := 18) rfl)
theorem kw_2_77 : (Jvm.Cond.fieldLink "BondWarehouse$Deeds" (15 : Nat) "BondWarehouse$Deeds" "history" "LBondWarehouse$History;") ∈ TG := tg_2 77 rfl rfl
theorem kw_3_102 : (Jvm.Cond.code ({ cls := "BondWarehouse$History", name := "save", desc := "(LBondWarehouse$State;)V" } : Jvm.MethodName) prog_5_method_2_code (2 : Nat) (Option.none : Option Jvm.ClassFile.FieldType)) ∈ TG := tg_3 102 rfl rfl
theorem kw_1_8 : (Jvm.Cond.initialized "BondWarehouse$History") ∈ TG := tg_1 8 rfl rfl
theorem kw_3_101 : (Jvm.Cond.instanceMethod ({ cls := "BondWarehouse$History", name := "save", desc := "(LBondWarehouse$State;)V" } : Jvm.MethodName)) ∈ TG := tg_3 101 rfl rfl
theorem ks_22 : Cond.selects "BondWarehouse$History" ⟨"BondWarehouse$History", "save", "(LBondWarehouse$State;)V"⟩ ⟨"BondWarehouse$History", "save", "(LBondWarehouse$State;)V"⟩ ∈ TG := tgS (q := (⟨"BondWarehouse$History", "save", "(LBondWarehouse$State;)V"⟩, 6)) (List.mem_of_getElem? (i := 22) rfl)
theorem kw_3_130 : (Jvm.Cond.code ({ cls := "BondWarehouse$State", name := "addEntry", desc := "()LBondWarehouse$Entry;" } : Jvm.MethodName) prog_10_method_7_code (2 : Nat) (Option.some (Jvm.ClassFile.FieldType.object "BondWarehouse$Entry"))) ∈ TG := tg_3 130 rfl rfl
theorem kw_3_129 : (Jvm.Cond.instanceMethod ({ cls := "BondWarehouse$State", name := "addEntry", desc := "()LBondWarehouse$Entry;" } : Jvm.MethodName)) ∈ TG := tg_3 129 rfl rfl
theorem ks_29 : Cond.selects "BondWarehouse$State" ⟨"BondWarehouse$State", "addEntry", "()LBondWarehouse$Entry;"⟩ ⟨"BondWarehouse$State", "addEntry", "()LBondWarehouse$Entry;"⟩ ∈ TG := tgS (q := (⟨"BondWarehouse$State", "addEntry", "()LBondWarehouse$Entry;"⟩, 11)) (List.mem_of_getElem? (i := 29) rfl)
theorem kw_3_218 : (Jvm.Cond.classLink "BondWarehouse" (338 : Nat) "java/lang/IllegalStateException") ∈ TG := tg_3 218 rfl rfl
theorem kw_1_17 : (Jvm.Cond.initialized "java/lang/IllegalStateException") ∈ TG := tg_1 17 rfl rfl
theorem kw_3_202 : (Jvm.Cond.classLink "BondWarehouse" (279 : Nat) "java/lang/IllegalArgumentException") ∈ TG := tg_3 202 rfl rfl
theorem kw_1_16 : (Jvm.Cond.initialized "java/lang/IllegalArgumentException") ∈ TG := tg_1 16 rfl rfl
theorem kw_3_134 : (Jvm.Cond.classLink "BondWarehouse" (111 : Nat) "java/lang/IndexOutOfBoundsException") ∈ TG := tg_3 134 rfl rfl
theorem kw_1_15 : (Jvm.Cond.initialized "java/lang/IndexOutOfBoundsException") ∈ TG := tg_1 15 rfl rfl
theorem kw_2_114 : (Jvm.Cond.fieldLink "BondWarehouse" (28 : Nat) "BondWarehouse" "deeds" "LBondWarehouse$Deeds;") ∈ TG := tg_2 114 rfl rfl
theorem kw_3_77 : (Jvm.Cond.code ({ cls := "BondWarehouse$Deeds", name := "bringIn", desc := "(IIII)I" } : Jvm.MethodName) prog_3_method_2_code (6 : Nat) (Option.some Jvm.ClassFile.FieldType.int)) ∈ TG := tg_3 77 rfl rfl
theorem kw_1_9 : (Jvm.Cond.initialized "BondWarehouse$Deeds") ∈ TG := tg_1 9 rfl rfl
theorem kw_3_76 : (Jvm.Cond.instanceMethod ({ cls := "BondWarehouse$Deeds", name := "bringIn", desc := "(IIII)I" } : Jvm.MethodName)) ∈ TG := tg_3 76 rfl rfl
theorem ks_17 : Cond.selects "BondWarehouse$Deeds" ⟨"BondWarehouse$Deeds", "bringIn", "(IIII)I"⟩ ⟨"BondWarehouse$Deeds", "bringIn", "(IIII)I"⟩ ∈ TG := tgS (q := (⟨"BondWarehouse$Deeds", "bringIn", "(IIII)I"⟩, 2)) (List.mem_of_getElem? (i := 17) rfl)
theorem kw_3_131 : (Jvm.Cond.methodLink "BondWarehouse" (43 : Nat) ({ cls := "BondWarehouse", name := "answer", desc := "(I)I" } : Jvm.MethodName)) ∈ TG := tg_3 131 rfl rfl
theorem kw_3_133 : (Jvm.Cond.code ({ cls := "BondWarehouse", name := "answer", desc := "(I)I" } : Jvm.MethodName) prog_1_method_88_code (1 : Nat) (Option.some Jvm.ClassFile.FieldType.int)) ∈ TG := tg_3 133 rfl rfl
theorem kw_3_132 : (Jvm.Cond.static ({ cls := "BondWarehouse", name := "answer", desc := "(I)I" } : Jvm.MethodName)) ∈ TG := tg_3 132 rfl rfl
theorem kw_4_23 : (Jvm.Cond.code ({ cls := "BondWarehouse$Entry", name := "shareOf", desc := "(I)I" } : Jvm.MethodName) prog_4_method_3_code (2 : Nat) (Option.some Jvm.ClassFile.FieldType.int)) ∈ TG := tg_4 23 rfl rfl
theorem kw_4_22 : (Jvm.Cond.instanceMethod ({ cls := "BondWarehouse$Entry", name := "shareOf", desc := "(I)I" } : Jvm.MethodName)) ∈ TG := tg_4 22 rfl rfl
theorem ks_35 : Cond.selects "BondWarehouse$Entry" ⟨"BondWarehouse$Entry", "shareOf", "(I)I"⟩ ⟨"BondWarehouse$Entry", "shareOf", "(I)I"⟩ ∈ TG := tgS (q := (⟨"BondWarehouse$Entry", "shareOf", "(I)I"⟩, 8)) (List.mem_of_getElem? (i := 35) rfl)
theorem kw_4_12 : (Jvm.Cond.methodLink "BondWarehouse$State" (173 : Nat) ({ cls := "BondWarehouse$State", name := "reasonAgainstLeaving", desc := "(LBondWarehouse$Entry;I)I" } : Jvm.MethodName)) ∈ TG := tg_4 12 rfl rfl
theorem kw_4_15 : (Jvm.Cond.code ({ cls := "BondWarehouse$State", name := "reasonAgainstLeaving", desc := "(LBondWarehouse$Entry;I)I" } : Jvm.MethodName) prog_10_method_22_code (3 : Nat) (Option.some Jvm.ClassFile.FieldType.int)) ∈ TG := tg_4 15 rfl rfl
theorem kw_4_14 : (Jvm.Cond.instanceMethod ({ cls := "BondWarehouse$State", name := "reasonAgainstLeaving", desc := "(LBondWarehouse$Entry;I)I" } : Jvm.MethodName)) ∈ TG := tg_4 14 rfl rfl
theorem ks_33 : Cond.selects "BondWarehouse$State" ⟨"BondWarehouse$State", "reasonAgainstLeaving", "(LBondWarehouse$Entry;I)I"⟩ ⟨"BondWarehouse$State", "reasonAgainstLeaving", "(LBondWarehouse$Entry;I)I"⟩ ∈ TG := tgS (q := (⟨"BondWarehouse$State", "reasonAgainstLeaving", "(LBondWarehouse$Entry;I)I"⟩, 11)) (List.mem_of_getElem? (i := 33) rfl)
theorem kw_4_16 : (Jvm.Cond.methodLink "BondWarehouse$State" (143 : Nat) ({ cls := "BondWarehouse$State", name := "dutyNow", desc := "(LBondWarehouse$Entry;I)I" } : Jvm.MethodName)) ∈ TG := tg_4 16 rfl rfl
theorem kw_4_19 : (Jvm.Cond.code ({ cls := "BondWarehouse$State", name := "dutyNow", desc := "(LBondWarehouse$Entry;I)I" } : Jvm.MethodName) prog_10_method_12_code (3 : Nat) (Option.some Jvm.ClassFile.FieldType.int)) ∈ TG := tg_4 19 rfl rfl
theorem kw_4_18 : (Jvm.Cond.instanceMethod ({ cls := "BondWarehouse$State", name := "dutyNow", desc := "(LBondWarehouse$Entry;I)I" } : Jvm.MethodName)) ∈ TG := tg_4 18 rfl rfl
theorem ks_34 : Cond.selects "BondWarehouse$State" ⟨"BondWarehouse$State", "dutyNow", "(LBondWarehouse$Entry;I)I"⟩ ⟨"BondWarehouse$State", "dutyNow", "(LBondWarehouse$Entry;I)I"⟩ ∈ TG := tgS (q := (⟨"BondWarehouse$State", "dutyNow", "(LBondWarehouse$Entry;I)I"⟩, 11)) (List.mem_of_getElem? (i := 34) rfl)
theorem kw_4_33 : (Jvm.Cond.methodLink "BondWarehouse$State" (100 : Nat) ({ cls := "java/lang/Math", name := "min", desc := "(II)I" } : Jvm.MethodName)) ∈ TG := tg_4 33 rfl rfl
theorem kw_4_34 : (Jvm.Cond.static ({ cls := "java/lang/Math", name := "min", desc := "(II)I" } : Jvm.MethodName)) ∈ TG := tg_4 34 rfl rfl
theorem kw_1_18 : (Jvm.Cond.initialized "java/lang/Math") ∈ TG := tg_1 18 rfl rfl
theorem kw_4_35 : (Jvm.Cond.code ({ cls := "java/lang/Math", name := "min", desc := "(II)I" } : Jvm.MethodName) prog_17_method_69_code (2 : Nat) (Option.some Jvm.ClassFile.FieldType.int)) ∈ TG := tg_4 35 rfl rfl
theorem kw_4_40 : (Jvm.Cond.methodLink "BondWarehouse$Entry" (35 : Nat) ({ cls := "BondWarehouse$Entry", name := "shareOf", desc := "(I)I" } : Jvm.MethodName)) ∈ TG := tg_4 40 rfl rfl
theorem kw_2_144 : (Jvm.Cond.code ({ cls := "BondWarehouse$State", name := "findEntry", desc := "(I)LBondWarehouse$Entry;" } : Jvm.MethodName) prog_10_method_3_code (3 : Nat) (Option.some (Jvm.ClassFile.FieldType.object "BondWarehouse$Entry"))) ∈ TG := tg_2 144 rfl rfl
theorem kw_2_143 : (Jvm.Cond.instanceMethod ({ cls := "BondWarehouse$State", name := "findEntry", desc := "(I)LBondWarehouse$Entry;" } : Jvm.MethodName)) ∈ TG := tg_2 143 rfl rfl
theorem ks_0 : Cond.selects "BondWarehouse$State" ⟨"BondWarehouse$State", "findEntry", "(I)LBondWarehouse$Entry;"⟩ ⟨"BondWarehouse$State", "findEntry", "(I)LBondWarehouse$Entry;"⟩ ∈ TG := tgS (q := (⟨"BondWarehouse$State", "findEntry", "(I)LBondWarehouse$Entry;"⟩, 11)) (List.mem_of_getElem? (i := 0) rfl)
theorem kw_4_11 : (Jvm.Cond.code ({ cls := "BondWarehouse$State", name := "reasonAgainstWithdrawal", desc := "(LBondWarehouse$Entry;I)I" } : Jvm.MethodName) prog_10_method_23_code (4 : Nat) (Option.some Jvm.ClassFile.FieldType.int)) ∈ TG := tg_4 11 rfl rfl
theorem kw_4_10 : (Jvm.Cond.instanceMethod ({ cls := "BondWarehouse$State", name := "reasonAgainstWithdrawal", desc := "(LBondWarehouse$Entry;I)I" } : Jvm.MethodName)) ∈ TG := tg_4 10 rfl rfl
theorem ks_32 : Cond.selects "BondWarehouse$State" ⟨"BondWarehouse$State", "reasonAgainstWithdrawal", "(LBondWarehouse$Entry;I)I"⟩ ⟨"BondWarehouse$State", "reasonAgainstWithdrawal", "(LBondWarehouse$Entry;I)I"⟩ ∈ TG := tgS (q := (⟨"BondWarehouse$State", "reasonAgainstWithdrawal", "(LBondWarehouse$Entry;I)I"⟩, 11)) (List.mem_of_getElem? (i := 32) rfl)
theorem kw_4_28 : (Jvm.Cond.code ({ cls := "BondWarehouse$Money", name := "takeDuty", desc := "(I)V" } : Jvm.MethodName) prog_8_method_5_code (2 : Nat) (Option.none : Option Jvm.ClassFile.FieldType)) ∈ TG := tg_4 28 rfl rfl
theorem kw_4_27 : (Jvm.Cond.instanceMethod ({ cls := "BondWarehouse$Money", name := "takeDuty", desc := "(I)V" } : Jvm.MethodName)) ∈ TG := tg_4 27 rfl rfl
theorem ks_36 : Cond.selects "BondWarehouse$Money" ⟨"BondWarehouse$Money", "takeDuty", "(I)V"⟩ ⟨"BondWarehouse$Money", "takeDuty", "(I)V"⟩ ∈ TG := tgS (q := (⟨"BondWarehouse$Money", "takeDuty", "(I)V"⟩, 7)) (List.mem_of_getElem? (i := 36) rfl)
theorem kw_4_32 : (Jvm.Cond.code ({ cls := "BondWarehouse$State", name := "addReceipt", desc := "()LBondWarehouse$Receipt;" } : Jvm.MethodName) prog_10_method_9_code (3 : Nat) (Option.some (Jvm.ClassFile.FieldType.object "BondWarehouse$Receipt"))) ∈ TG := tg_4 32 rfl rfl
theorem kw_4_31 : (Jvm.Cond.instanceMethod ({ cls := "BondWarehouse$State", name := "addReceipt", desc := "()LBondWarehouse$Receipt;" } : Jvm.MethodName)) ∈ TG := tg_4 31 rfl rfl
theorem ks_37 : Cond.selects "BondWarehouse$State" ⟨"BondWarehouse$State", "addReceipt", "()LBondWarehouse$Receipt;"⟩ ⟨"BondWarehouse$State", "addReceipt", "()LBondWarehouse$Receipt;"⟩ ∈ TG := tgS (q := (⟨"BondWarehouse$State", "addReceipt", "()LBondWarehouse$Receipt;"⟩, 11)) (List.mem_of_getElem? (i := 37) rfl)
theorem kw_4_39 : (Jvm.Cond.code ({ cls := "BondWarehouse$Entry", name := "losePart", desc := "(I)V" } : Jvm.MethodName) prog_4_method_4_code (2 : Nat) (Option.none : Option Jvm.ClassFile.FieldType)) ∈ TG := tg_4 39 rfl rfl
theorem kw_4_38 : (Jvm.Cond.instanceMethod ({ cls := "BondWarehouse$Entry", name := "losePart", desc := "(I)V" } : Jvm.MethodName)) ∈ TG := tg_4 38 rfl rfl
theorem ks_38 : Cond.selects "BondWarehouse$Entry" ⟨"BondWarehouse$Entry", "losePart", "(I)V"⟩ ⟨"BondWarehouse$Entry", "losePart", "(I)V"⟩ ∈ TG := tgS (q := (⟨"BondWarehouse$Entry", "losePart", "(I)V"⟩, 8)) (List.mem_of_getElem? (i := 38) rfl)
theorem kw_4_44 : (Jvm.Cond.code ({ cls := "BondWarehouse$State", name := "closeIfEmpty", desc := "(LBondWarehouse$Entry;)V" } : Jvm.MethodName) prog_10_method_8_code (3 : Nat) (Option.none : Option Jvm.ClassFile.FieldType)) ∈ TG := tg_4 44 rfl rfl
theorem kw_4_43 : (Jvm.Cond.instanceMethod ({ cls := "BondWarehouse$State", name := "closeIfEmpty", desc := "(LBondWarehouse$Entry;)V" } : Jvm.MethodName)) ∈ TG := tg_4 43 rfl rfl
theorem ks_39 : Cond.selects "BondWarehouse$State" ⟨"BondWarehouse$State", "closeIfEmpty", "(LBondWarehouse$Entry;)V"⟩ ⟨"BondWarehouse$State", "closeIfEmpty", "(LBondWarehouse$Entry;)V"⟩ ∈ TG := tgS (q := (⟨"BondWarehouse$State", "closeIfEmpty", "(LBondWarehouse$Entry;)V"⟩, 11)) (List.mem_of_getElem? (i := 39) rfl)
theorem kw_4_5 : (Jvm.Cond.code ({ cls := "BondWarehouse$Deeds", name := "takeIntoCountry", desc := "(II)I" } : Jvm.MethodName) prog_3_method_3_code (6 : Nat) (Option.some Jvm.ClassFile.FieldType.int)) ∈ TG := tg_4 5 rfl rfl
theorem kw_4_4 : (Jvm.Cond.instanceMethod ({ cls := "BondWarehouse$Deeds", name := "takeIntoCountry", desc := "(II)I" } : Jvm.MethodName)) ∈ TG := tg_4 4 rfl rfl
theorem ks_31 : Cond.selects "BondWarehouse$Deeds" ⟨"BondWarehouse$Deeds", "takeIntoCountry", "(II)I"⟩ ⟨"BondWarehouse$Deeds", "takeIntoCountry", "(II)I"⟩ ∈ TG := tgS (q := (⟨"BondWarehouse$Deeds", "takeIntoCountry", "(II)I"⟩, 2)) (List.mem_of_getElem? (i := 31) rfl)
theorem kw_2_217 : (Jvm.Cond.methodLink "BondWarehouse$State" (179 : Nat) ({ cls := "BondWarehouse$State", name := "isLate", desc := "(LBondWarehouse$Entry;)Z" } : Jvm.MethodName)) ∈ TG := tg_2 217 rfl rfl
theorem kw_2_220 : (Jvm.Cond.code ({ cls := "BondWarehouse$State", name := "isLate", desc := "(LBondWarehouse$Entry;)Z" } : Jvm.MethodName) prog_10_method_11_code (2 : Nat) (Option.some Jvm.ClassFile.FieldType.boolean)) ∈ TG := tg_2 220 rfl rfl
theorem kw_2_219 : (Jvm.Cond.instanceMethod ({ cls := "BondWarehouse$State", name := "isLate", desc := "(LBondWarehouse$Entry;)Z" } : Jvm.MethodName)) ∈ TG := tg_2 219 rfl rfl
theorem ks_6 : Cond.selects "BondWarehouse$State" ⟨"BondWarehouse$State", "isLate", "(LBondWarehouse$Entry;)Z"⟩ ⟨"BondWarehouse$State", "isLate", "(LBondWarehouse$Entry;)Z"⟩ ∈ TG := tgS (q := (⟨"BondWarehouse$State", "isLate", "(LBondWarehouse$Entry;)Z"⟩, 11)) (List.mem_of_getElem? (i := 6) rfl)
theorem kw_4_59 : (Jvm.Cond.code ({ cls := "BondWarehouse$State", name := "reasonAgainstExport", desc := "(LBondWarehouse$Entry;I)I" } : Jvm.MethodName) prog_10_method_24_code (4 : Nat) (Option.some Jvm.ClassFile.FieldType.int)) ∈ TG := tg_4 59 rfl rfl
theorem kw_4_58 : (Jvm.Cond.instanceMethod ({ cls := "BondWarehouse$State", name := "reasonAgainstExport", desc := "(LBondWarehouse$Entry;I)I" } : Jvm.MethodName)) ∈ TG := tg_4 58 rfl rfl
theorem ks_41 : Cond.selects "BondWarehouse$State" ⟨"BondWarehouse$State", "reasonAgainstExport", "(LBondWarehouse$Entry;I)I"⟩ ⟨"BondWarehouse$State", "reasonAgainstExport", "(LBondWarehouse$Entry;I)I"⟩ ∈ TG := tgS (q := (⟨"BondWarehouse$State", "reasonAgainstExport", "(LBondWarehouse$Entry;I)I"⟩, 11)) (List.mem_of_getElem? (i := 41) rfl)
theorem kw_4_55 : (Jvm.Cond.code ({ cls := "BondWarehouse$Deeds", name := "takeAbroad", desc := "(II)I" } : Jvm.MethodName) prog_3_method_4_code (4 : Nat) (Option.some Jvm.ClassFile.FieldType.int)) ∈ TG := tg_4 55 rfl rfl
theorem kw_4_54 : (Jvm.Cond.instanceMethod ({ cls := "BondWarehouse$Deeds", name := "takeAbroad", desc := "(II)I" } : Jvm.MethodName)) ∈ TG := tg_4 54 rfl rfl
theorem ks_40 : Cond.selects "BondWarehouse$Deeds" ⟨"BondWarehouse$Deeds", "takeAbroad", "(II)I"⟩ ⟨"BondWarehouse$Deeds", "takeAbroad", "(II)I"⟩ ∈ TG := tgS (q := (⟨"BondWarehouse$Deeds", "takeAbroad", "(II)I"⟩, 2)) (List.mem_of_getElem? (i := 40) rfl)
theorem kw_4_74 : (Jvm.Cond.code ({ cls := "BondWarehouse$State", name := "findReceipt", desc := "(I)LBondWarehouse$Receipt;" } : Jvm.MethodName) prog_10_method_4_code (2 : Nat) (Option.some (Jvm.ClassFile.FieldType.object "BondWarehouse$Receipt"))) ∈ TG := tg_4 74 rfl rfl
theorem kw_4_73 : (Jvm.Cond.instanceMethod ({ cls := "BondWarehouse$State", name := "findReceipt", desc := "(I)LBondWarehouse$Receipt;" } : Jvm.MethodName)) ∈ TG := tg_4 73 rfl rfl
theorem ks_43 : Cond.selects "BondWarehouse$State" ⟨"BondWarehouse$State", "findReceipt", "(I)LBondWarehouse$Receipt;"⟩ ⟨"BondWarehouse$State", "findReceipt", "(I)LBondWarehouse$Receipt;"⟩ ∈ TG := tgS (q := (⟨"BondWarehouse$State", "findReceipt", "(I)LBondWarehouse$Receipt;"⟩, 11)) (List.mem_of_getElem? (i := 43) rfl)
theorem kw_4_78 : (Jvm.Cond.code ({ cls := "BondWarehouse$State", name := "reasonAgainstDrawback", desc := "(LBondWarehouse$Receipt;I)I" } : Jvm.MethodName) prog_10_method_26_code (3 : Nat) (Option.some Jvm.ClassFile.FieldType.int)) ∈ TG := tg_4 78 rfl rfl
theorem kw_4_77 : (Jvm.Cond.instanceMethod ({ cls := "BondWarehouse$State", name := "reasonAgainstDrawback", desc := "(LBondWarehouse$Receipt;I)I" } : Jvm.MethodName)) ∈ TG := tg_4 77 rfl rfl
theorem ks_44 : Cond.selects "BondWarehouse$State" ⟨"BondWarehouse$State", "reasonAgainstDrawback", "(LBondWarehouse$Receipt;I)I"⟩ ⟨"BondWarehouse$State", "reasonAgainstDrawback", "(LBondWarehouse$Receipt;I)I"⟩ ∈ TG := tgS (q := (⟨"BondWarehouse$State", "reasonAgainstDrawback", "(LBondWarehouse$Receipt;I)I"⟩, 11)) (List.mem_of_getElem? (i := 44) rfl)
theorem kw_4_82 : (Jvm.Cond.code ({ cls := "BondWarehouse$Receipt", name := "dutyPart", desc := "(I)I" } : Jvm.MethodName) prog_9_method_3_code (2 : Nat) (Option.some Jvm.ClassFile.FieldType.int)) ∈ TG := tg_4 82 rfl rfl
theorem kw_4_81 : (Jvm.Cond.instanceMethod ({ cls := "BondWarehouse$Receipt", name := "dutyPart", desc := "(I)I" } : Jvm.MethodName)) ∈ TG := tg_4 81 rfl rfl
theorem ks_45 : Cond.selects "BondWarehouse$Receipt" ⟨"BondWarehouse$Receipt", "dutyPart", "(I)I"⟩ ⟨"BondWarehouse$Receipt", "dutyPart", "(I)I"⟩ ∈ TG := tgS (q := (⟨"BondWarehouse$Receipt", "dutyPart", "(I)I"⟩, 4)) (List.mem_of_getElem? (i := 45) rfl)
theorem kw_4_85 : (Jvm.Cond.code ({ cls := "BondWarehouse", name := "paidBackOf", desc := "(I)I" } : Jvm.MethodName) prog_1_method_87_code (1 : Nat) (Option.some Jvm.ClassFile.FieldType.int)) ∈ TG := tg_4 85 rfl rfl
theorem kw_4_84 : (Jvm.Cond.static ({ cls := "BondWarehouse", name := "paidBackOf", desc := "(I)I" } : Jvm.MethodName)) ∈ TG := tg_4 84 rfl rfl
theorem kw_4_89 : (Jvm.Cond.code ({ cls := "BondWarehouse$Money", name := "giveDrawback", desc := "(I)V" } : Jvm.MethodName) prog_8_method_7_code (2 : Nat) (Option.none : Option Jvm.ClassFile.FieldType)) ∈ TG := tg_4 89 rfl rfl
theorem kw_4_88 : (Jvm.Cond.instanceMethod ({ cls := "BondWarehouse$Money", name := "giveDrawback", desc := "(I)V" } : Jvm.MethodName)) ∈ TG := tg_4 88 rfl rfl
theorem ks_46 : Cond.selects "BondWarehouse$Money" ⟨"BondWarehouse$Money", "giveDrawback", "(I)V"⟩ ⟨"BondWarehouse$Money", "giveDrawback", "(I)V"⟩ ∈ TG := tgS (q := (⟨"BondWarehouse$Money", "giveDrawback", "(I)V"⟩, 7)) (List.mem_of_getElem? (i := 46) rfl)
theorem kw_4_70 : (Jvm.Cond.code ({ cls := "BondWarehouse$Deeds", name := "payBack", desc := "(II)I" } : Jvm.MethodName) prog_3_method_5_code (6 : Nat) (Option.some Jvm.ClassFile.FieldType.int)) ∈ TG := tg_4 70 rfl rfl
theorem kw_4_69 : (Jvm.Cond.instanceMethod ({ cls := "BondWarehouse$Deeds", name := "payBack", desc := "(II)I" } : Jvm.MethodName)) ∈ TG := tg_4 69 rfl rfl
theorem ks_42 : Cond.selects "BondWarehouse$Deeds" ⟨"BondWarehouse$Deeds", "payBack", "(II)I"⟩ ⟨"BondWarehouse$Deeds", "payBack", "(II)I"⟩ ∈ TG := tgS (q := (⟨"BondWarehouse$Deeds", "payBack", "(II)I"⟩, 2)) (List.mem_of_getElem? (i := 42) rfl)
theorem kw_4_104 : (Jvm.Cond.code ({ cls := "BondWarehouse$State", name := "reasonAgainstMove", desc := "(LBondWarehouse$Entry;I)I" } : Jvm.MethodName) prog_10_method_25_code (3 : Nat) (Option.some Jvm.ClassFile.FieldType.int)) ∈ TG := tg_4 104 rfl rfl
theorem kw_4_103 : (Jvm.Cond.instanceMethod ({ cls := "BondWarehouse$State", name := "reasonAgainstMove", desc := "(LBondWarehouse$Entry;I)I" } : Jvm.MethodName)) ∈ TG := tg_4 103 rfl rfl
theorem ks_48 : Cond.selects "BondWarehouse$State" ⟨"BondWarehouse$State", "reasonAgainstMove", "(LBondWarehouse$Entry;I)I"⟩ ⟨"BondWarehouse$State", "reasonAgainstMove", "(LBondWarehouse$Entry;I)I"⟩ ∈ TG := tgS (q := (⟨"BondWarehouse$State", "reasonAgainstMove", "(LBondWarehouse$Entry;I)I"⟩, 11)) (List.mem_of_getElem? (i := 48) rfl)
theorem kw_4_100 : (Jvm.Cond.code ({ cls := "BondWarehouse$Deeds", name := "carryOver", desc := "(II)I" } : Jvm.MethodName) prog_3_method_6_code (4 : Nat) (Option.some Jvm.ClassFile.FieldType.int)) ∈ TG := tg_4 100 rfl rfl
theorem kw_4_99 : (Jvm.Cond.instanceMethod ({ cls := "BondWarehouse$Deeds", name := "carryOver", desc := "(II)I" } : Jvm.MethodName)) ∈ TG := tg_4 99 rfl rfl
theorem ks_47 : Cond.selects "BondWarehouse$Deeds" ⟨"BondWarehouse$Deeds", "carryOver", "(II)I"⟩ ⟨"BondWarehouse$Deeds", "carryOver", "(II)I"⟩ ∈ TG := tgS (q := (⟨"BondWarehouse$Deeds", "carryOver", "(II)I"⟩, 2)) (List.mem_of_getElem? (i := 47) rfl)
theorem kw_4_116 : (Jvm.Cond.code ({ cls := "BondWarehouse$Deeds", name := "partOff", desc := "(II)I" } : Jvm.MethodName) prog_3_method_7_code (6 : Nat) (Option.some Jvm.ClassFile.FieldType.int)) ∈ TG := tg_4 116 rfl rfl
theorem kw_4_115 : (Jvm.Cond.instanceMethod ({ cls := "BondWarehouse$Deeds", name := "partOff", desc := "(II)I" } : Jvm.MethodName)) ∈ TG := tg_4 115 rfl rfl
theorem ks_49 : Cond.selects "BondWarehouse$Deeds" ⟨"BondWarehouse$Deeds", "partOff", "(II)I"⟩ ⟨"BondWarehouse$Deeds", "partOff", "(II)I"⟩ ∈ TG := tgS (q := (⟨"BondWarehouse$Deeds", "partOff", "(II)I"⟩, 2)) (List.mem_of_getElem? (i := 49) rfl)
theorem kw_4_140 : (Jvm.Cond.methodLink "BondWarehouse$Entry" (39 : Nat) ({ cls := "java/lang/Math", name := "min", desc := "(II)I" } : Jvm.MethodName)) ∈ TG := tg_4 140 rfl rfl
theorem kw_4_141 : (Jvm.Cond.methodLink "BondWarehouse$Entry" (45 : Nat) ({ cls := "java/lang/Math", name := "max", desc := "(II)I" } : Jvm.MethodName)) ∈ TG := tg_4 141 rfl rfl
theorem kw_4_142 : (Jvm.Cond.static ({ cls := "java/lang/Math", name := "max", desc := "(II)I" } : Jvm.MethodName)) ∈ TG := tg_4 142 rfl rfl
theorem kw_4_143 : (Jvm.Cond.code ({ cls := "java/lang/Math", name := "max", desc := "(II)I" } : Jvm.MethodName) prog_17_method_65_code (2 : Nat) (Option.some Jvm.ClassFile.FieldType.int)) ∈ TG := tg_4 143 rfl rfl
theorem kw_4_135 : (Jvm.Cond.code ({ cls := "BondWarehouse$State", name := "canJoin", desc := "(LBondWarehouse$Entry;LBondWarehouse$Entry;)Z" } : Jvm.MethodName) prog_10_method_27_code (3 : Nat) (Option.some Jvm.ClassFile.FieldType.boolean)) ∈ TG := tg_4 135 rfl rfl
theorem kw_4_134 : (Jvm.Cond.instanceMethod ({ cls := "BondWarehouse$State", name := "canJoin", desc := "(LBondWarehouse$Entry;LBondWarehouse$Entry;)Z" } : Jvm.MethodName)) ∈ TG := tg_4 134 rfl rfl
theorem ks_51 : Cond.selects "BondWarehouse$State" ⟨"BondWarehouse$State", "canJoin", "(LBondWarehouse$Entry;LBondWarehouse$Entry;)Z"⟩ ⟨"BondWarehouse$State", "canJoin", "(LBondWarehouse$Entry;LBondWarehouse$Entry;)Z"⟩ ∈ TG := tgS (q := (⟨"BondWarehouse$State", "canJoin", "(LBondWarehouse$Entry;LBondWarehouse$Entry;)Z"⟩, 11)) (List.mem_of_getElem? (i := 51) rfl)
theorem kw_4_139 : (Jvm.Cond.code ({ cls := "BondWarehouse$Entry", name := "takeIn", desc := "(LBondWarehouse$Entry;)V" } : Jvm.MethodName) prog_4_method_5_code (2 : Nat) (Option.none : Option Jvm.ClassFile.FieldType)) ∈ TG := tg_4 139 rfl rfl
theorem kw_4_138 : (Jvm.Cond.instanceMethod ({ cls := "BondWarehouse$Entry", name := "takeIn", desc := "(LBondWarehouse$Entry;)V" } : Jvm.MethodName)) ∈ TG := tg_4 138 rfl rfl
theorem ks_52 : Cond.selects "BondWarehouse$Entry" ⟨"BondWarehouse$Entry", "takeIn", "(LBondWarehouse$Entry;)V"⟩ ⟨"BondWarehouse$Entry", "takeIn", "(LBondWarehouse$Entry;)V"⟩ ∈ TG := tgS (q := (⟨"BondWarehouse$Entry", "takeIn", "(LBondWarehouse$Entry;)V"⟩, 8)) (List.mem_of_getElem? (i := 52) rfl)
theorem kw_4_131 : (Jvm.Cond.code ({ cls := "BondWarehouse$Deeds", name := "join", desc := "(II)I" } : Jvm.MethodName) prog_3_method_8_code (5 : Nat) (Option.some Jvm.ClassFile.FieldType.int)) ∈ TG := tg_4 131 rfl rfl
theorem kw_4_130 : (Jvm.Cond.instanceMethod ({ cls := "BondWarehouse$Deeds", name := "join", desc := "(II)I" } : Jvm.MethodName)) ∈ TG := tg_4 130 rfl rfl
theorem ks_50 : Cond.selects "BondWarehouse$Deeds" ⟨"BondWarehouse$Deeds", "join", "(II)I"⟩ ⟨"BondWarehouse$Deeds", "join", "(II)I"⟩ ∈ TG := tgS (q := (⟨"BondWarehouse$Deeds", "join", "(II)I"⟩, 2)) (List.mem_of_getElem? (i := 50) rfl)
theorem kw_4_159 : (Jvm.Cond.methodLink "BondWarehouse$State" (137 : Nat) ({ cls := "BondWarehouse$State", name := "wasteAllowedNow", desc := "(LBondWarehouse$Entry;)I" } : Jvm.MethodName)) ∈ TG := tg_4 159 rfl rfl
theorem kw_4_162 : (Jvm.Cond.code ({ cls := "BondWarehouse$State", name := "wasteAllowedNow", desc := "(LBondWarehouse$Entry;)I" } : Jvm.MethodName) prog_10_method_15_code (3 : Nat) (Option.some Jvm.ClassFile.FieldType.int)) ∈ TG := tg_4 162 rfl rfl
theorem kw_4_161 : (Jvm.Cond.instanceMethod ({ cls := "BondWarehouse$State", name := "wasteAllowedNow", desc := "(LBondWarehouse$Entry;)I" } : Jvm.MethodName)) ∈ TG := tg_4 161 rfl rfl
theorem ks_55 : Cond.selects "BondWarehouse$State" ⟨"BondWarehouse$State", "wasteAllowedNow", "(LBondWarehouse$Entry;)I"⟩ ⟨"BondWarehouse$State", "wasteAllowedNow", "(LBondWarehouse$Entry;)I"⟩ ∈ TG := tgS (q := (⟨"BondWarehouse$State", "wasteAllowedNow", "(LBondWarehouse$Entry;)I"⟩, 11)) (List.mem_of_getElem? (i := 55) rfl)
theorem kw_4_165 : (Jvm.Cond.methodLink "BondWarehouse$State" (140 : Nat) ({ cls := "java/lang/Math", name := "max", desc := "(II)I" } : Jvm.MethodName)) ∈ TG := tg_4 165 rfl rfl
theorem kw_4_174 : (Jvm.Cond.methodLink "BondWarehouse$Money" (31 : Nat) ({ cls := "java/lang/Math", name := "min", desc := "(II)I" } : Jvm.MethodName)) ∈ TG := tg_4 174 rfl rfl
theorem kw_4_158 : (Jvm.Cond.code ({ cls := "BondWarehouse$State", name := "lossIf", desc := "(LBondWarehouse$Entry;I)I" } : Jvm.MethodName) prog_10_method_16_code (3 : Nat) (Option.some Jvm.ClassFile.FieldType.int)) ∈ TG := tg_4 158 rfl rfl
theorem kw_4_157 : (Jvm.Cond.instanceMethod ({ cls := "BondWarehouse$State", name := "lossIf", desc := "(LBondWarehouse$Entry;I)I" } : Jvm.MethodName)) ∈ TG := tg_4 157 rfl rfl
theorem ks_54 : Cond.selects "BondWarehouse$State" ⟨"BondWarehouse$State", "lossIf", "(LBondWarehouse$Entry;I)I"⟩ ⟨"BondWarehouse$State", "lossIf", "(LBondWarehouse$Entry;I)I"⟩ ∈ TG := tgS (q := (⟨"BondWarehouse$State", "lossIf", "(LBondWarehouse$Entry;I)I"⟩, 11)) (List.mem_of_getElem? (i := 54) rfl)
theorem kw_4_169 : (Jvm.Cond.code ({ cls := "BondWarehouse$State", name := "chargeFor", desc := "(LBondWarehouse$Entry;I)I" } : Jvm.MethodName) prog_10_method_17_code (4 : Nat) (Option.some Jvm.ClassFile.FieldType.int)) ∈ TG := tg_4 169 rfl rfl
theorem kw_4_168 : (Jvm.Cond.instanceMethod ({ cls := "BondWarehouse$State", name := "chargeFor", desc := "(LBondWarehouse$Entry;I)I" } : Jvm.MethodName)) ∈ TG := tg_4 168 rfl rfl
theorem ks_56 : Cond.selects "BondWarehouse$State" ⟨"BondWarehouse$State", "chargeFor", "(LBondWarehouse$Entry;I)I"⟩ ⟨"BondWarehouse$State", "chargeFor", "(LBondWarehouse$Entry;I)I"⟩ ∈ TG := tgS (q := (⟨"BondWarehouse$State", "chargeFor", "(LBondWarehouse$Entry;I)I"⟩, 11)) (List.mem_of_getElem? (i := 56) rfl)
theorem kw_4_173 : (Jvm.Cond.code ({ cls := "BondWarehouse$Money", name := "takeCharge", desc := "(I)V" } : Jvm.MethodName) prog_8_method_6_code (3 : Nat) (Option.none : Option Jvm.ClassFile.FieldType)) ∈ TG := tg_4 173 rfl rfl
theorem kw_4_172 : (Jvm.Cond.instanceMethod ({ cls := "BondWarehouse$Money", name := "takeCharge", desc := "(I)V" } : Jvm.MethodName)) ∈ TG := tg_4 172 rfl rfl
theorem ks_57 : Cond.selects "BondWarehouse$Money" ⟨"BondWarehouse$Money", "takeCharge", "(I)V"⟩ ⟨"BondWarehouse$Money", "takeCharge", "(I)V"⟩ ∈ TG := tgS (q := (⟨"BondWarehouse$Money", "takeCharge", "(I)V"⟩, 7)) (List.mem_of_getElem? (i := 57) rfl)
theorem kw_4_154 : (Jvm.Cond.code ({ cls := "BondWarehouse$Deeds", name := "putOnScales", desc := "(II)I" } : Jvm.MethodName) prog_3_method_9_code (7 : Nat) (Option.some Jvm.ClassFile.FieldType.int)) ∈ TG := tg_4 154 rfl rfl
theorem kw_4_153 : (Jvm.Cond.instanceMethod ({ cls := "BondWarehouse$Deeds", name := "putOnScales", desc := "(II)I" } : Jvm.MethodName)) ∈ TG := tg_4 153 rfl rfl
theorem ks_53 : Cond.selects "BondWarehouse$Deeds" ⟨"BondWarehouse$Deeds", "putOnScales", "(II)I"⟩ ⟨"BondWarehouse$Deeds", "putOnScales", "(II)I"⟩ ∈ TG := tgS (q := (⟨"BondWarehouse$Deeds", "putOnScales", "(II)I"⟩, 2)) (List.mem_of_getElem? (i := 53) rfl)
theorem kw_4_185 : (Jvm.Cond.code ({ cls := "BondWarehouse$Deeds", name := "putSeal", desc := "(I)I" } : Jvm.MethodName) prog_3_method_10_code (3 : Nat) (Option.some Jvm.ClassFile.FieldType.int)) ∈ TG := tg_4 185 rfl rfl
theorem kw_4_184 : (Jvm.Cond.instanceMethod ({ cls := "BondWarehouse$Deeds", name := "putSeal", desc := "(I)I" } : Jvm.MethodName)) ∈ TG := tg_4 184 rfl rfl
theorem ks_58 : Cond.selects "BondWarehouse$Deeds" ⟨"BondWarehouse$Deeds", "putSeal", "(I)I"⟩ ⟨"BondWarehouse$Deeds", "putSeal", "(I)I"⟩ ∈ TG := tgS (q := (⟨"BondWarehouse$Deeds", "putSeal", "(I)I"⟩, 2)) (List.mem_of_getElem? (i := 58) rfl)
theorem kw_4_196 : (Jvm.Cond.code ({ cls := "BondWarehouse$Deeds", name := "takeSealOff", desc := "(I)I" } : Jvm.MethodName) prog_3_method_11_code (6 : Nat) (Option.some Jvm.ClassFile.FieldType.int)) ∈ TG := tg_4 196 rfl rfl
theorem kw_4_195 : (Jvm.Cond.instanceMethod ({ cls := "BondWarehouse$Deeds", name := "takeSealOff", desc := "(I)I" } : Jvm.MethodName)) ∈ TG := tg_4 195 rfl rfl
theorem ks_59 : Cond.selects "BondWarehouse$Deeds" ⟨"BondWarehouse$Deeds", "takeSealOff", "(I)I"⟩ ⟨"BondWarehouse$Deeds", "takeSealOff", "(I)I"⟩ ∈ TG := tgS (q := (⟨"BondWarehouse$Deeds", "takeSealOff", "(I)I"⟩, 2)) (List.mem_of_getElem? (i := 59) rfl)
theorem kw_4_207 : (Jvm.Cond.code ({ cls := "BondWarehouse$Deeds", name := "damageSeal", desc := "(I)I" } : Jvm.MethodName) prog_3_method_12_code (3 : Nat) (Option.some Jvm.ClassFile.FieldType.int)) ∈ TG := tg_4 207 rfl rfl
theorem kw_4_206 : (Jvm.Cond.instanceMethod ({ cls := "BondWarehouse$Deeds", name := "damageSeal", desc := "(I)I" } : Jvm.MethodName)) ∈ TG := tg_4 206 rfl rfl
theorem ks_60 : Cond.selects "BondWarehouse$Deeds" ⟨"BondWarehouse$Deeds", "damageSeal", "(I)I"⟩ ⟨"BondWarehouse$Deeds", "damageSeal", "(I)I"⟩ ∈ TG := tgS (q := (⟨"BondWarehouse$Deeds", "damageSeal", "(I)I"⟩, 2)) (List.mem_of_getElem? (i := 60) rfl)
theorem kw_4_228 : (Jvm.Cond.methodLink "BondWarehouse$Money" (37 : Nat) ({ cls := "BondWarehouse$Money", name := "accountAfter", desc := "(I)I" } : Jvm.MethodName)) ∈ TG := tg_4 228 rfl rfl
theorem kw_4_222 : (Jvm.Cond.code ({ cls := "BondWarehouse$Money", name := "accountAfter", desc := "(I)I" } : Jvm.MethodName) prog_8_method_3_code (2 : Nat) (Option.some Jvm.ClassFile.FieldType.int)) ∈ TG := tg_4 222 rfl rfl
theorem kw_4_221 : (Jvm.Cond.instanceMethod ({ cls := "BondWarehouse$Money", name := "accountAfter", desc := "(I)I" } : Jvm.MethodName)) ∈ TG := tg_4 221 rfl rfl
theorem ks_62 : Cond.selects "BondWarehouse$Money" ⟨"BondWarehouse$Money", "accountAfter", "(I)I"⟩ ⟨"BondWarehouse$Money", "accountAfter", "(I)I"⟩ ∈ TG := tgS (q := (⟨"BondWarehouse$Money", "accountAfter", "(I)I"⟩, 7)) (List.mem_of_getElem? (i := 62) rfl)
theorem kw_4_223 : (Jvm.Cond.constant "BondWarehouse$Deeds" (221 : Nat) (99999 : Int32)) ∈ TG := tg_4 223 rfl rfl
theorem kw_4_227 : (Jvm.Cond.code ({ cls := "BondWarehouse$Money", name := "takeDeposit", desc := "(I)V" } : Jvm.MethodName) prog_8_method_4_code (2 : Nat) (Option.none : Option Jvm.ClassFile.FieldType)) ∈ TG := tg_4 227 rfl rfl
theorem kw_4_226 : (Jvm.Cond.instanceMethod ({ cls := "BondWarehouse$Money", name := "takeDeposit", desc := "(I)V" } : Jvm.MethodName)) ∈ TG := tg_4 226 rfl rfl
theorem ks_63 : Cond.selects "BondWarehouse$Money" ⟨"BondWarehouse$Money", "takeDeposit", "(I)V"⟩ ⟨"BondWarehouse$Money", "takeDeposit", "(I)V"⟩ ∈ TG := tgS (q := (⟨"BondWarehouse$Money", "takeDeposit", "(I)V"⟩, 7)) (List.mem_of_getElem? (i := 63) rfl)
theorem kw_4_218 : (Jvm.Cond.code ({ cls := "BondWarehouse$Deeds", name := "payIn", desc := "(I)I" } : Jvm.MethodName) prog_3_method_13_code (2 : Nat) (Option.some Jvm.ClassFile.FieldType.int)) ∈ TG := tg_4 218 rfl rfl
theorem kw_4_217 : (Jvm.Cond.instanceMethod ({ cls := "BondWarehouse$Deeds", name := "payIn", desc := "(I)I" } : Jvm.MethodName)) ∈ TG := tg_4 217 rfl rfl
theorem ks_61 : Cond.selects "BondWarehouse$Deeds" ⟨"BondWarehouse$Deeds", "payIn", "(I)I"⟩ ⟨"BondWarehouse$Deeds", "payIn", "(I)I"⟩ ∈ TG := tgS (q := (⟨"BondWarehouse$Deeds", "payIn", "(I)I"⟩, 2)) (List.mem_of_getElem? (i := 61) rfl)
theorem kw_5_0 : (Jvm.Cond.constant "BondWarehouse$Deeds" (228 : Nat) (50000 : Int32)) ∈ TG := tg_5 0 rfl rfl
theorem kw_4_239 : (Jvm.Cond.code ({ cls := "BondWarehouse$Deeds", name := "changeBond", desc := "(I)I" } : Jvm.MethodName) prog_3_method_14_code (3 : Nat) (Option.some Jvm.ClassFile.FieldType.int)) ∈ TG := tg_4 239 rfl rfl
theorem kw_4_238 : (Jvm.Cond.instanceMethod ({ cls := "BondWarehouse$Deeds", name := "changeBond", desc := "(I)I" } : Jvm.MethodName)) ∈ TG := tg_4 238 rfl rfl
theorem ks_64 : Cond.selects "BondWarehouse$Deeds" ⟨"BondWarehouse$Deeds", "changeBond", "(I)I"⟩ ⟨"BondWarehouse$Deeds", "changeBond", "(I)I"⟩ ∈ TG := tgS (q := (⟨"BondWarehouse$Deeds", "changeBond", "(I)I"⟩, 2)) (List.mem_of_getElem? (i := 64) rfl)
theorem kw_5_12 : (Jvm.Cond.code ({ cls := "BondWarehouse$Deeds", name := "changeRateByValue", desc := "(II)I" } : Jvm.MethodName) prog_3_method_15_code (4 : Nat) (Option.some Jvm.ClassFile.FieldType.int)) ∈ TG := tg_5 12 rfl rfl
theorem kw_5_11 : (Jvm.Cond.instanceMethod ({ cls := "BondWarehouse$Deeds", name := "changeRateByValue", desc := "(II)I" } : Jvm.MethodName)) ∈ TG := tg_5 11 rfl rfl
theorem ks_65 : Cond.selects "BondWarehouse$Deeds" ⟨"BondWarehouse$Deeds", "changeRateByValue", "(II)I"⟩ ⟨"BondWarehouse$Deeds", "changeRateByValue", "(II)I"⟩ ∈ TG := tgS (q := (⟨"BondWarehouse$Deeds", "changeRateByValue", "(II)I"⟩, 2)) (List.mem_of_getElem? (i := 65) rfl)
theorem kw_5_23 : (Jvm.Cond.code ({ cls := "BondWarehouse$Deeds", name := "changeRateByWeight", desc := "(II)I" } : Jvm.MethodName) prog_3_method_16_code (4 : Nat) (Option.some Jvm.ClassFile.FieldType.int)) ∈ TG := tg_5 23 rfl rfl
theorem kw_5_22 : (Jvm.Cond.instanceMethod ({ cls := "BondWarehouse$Deeds", name := "changeRateByWeight", desc := "(II)I" } : Jvm.MethodName)) ∈ TG := tg_5 22 rfl rfl
theorem ks_66 : Cond.selects "BondWarehouse$Deeds" ⟨"BondWarehouse$Deeds", "changeRateByWeight", "(II)I"⟩ ⟨"BondWarehouse$Deeds", "changeRateByWeight", "(II)I"⟩ ∈ TG := tgS (q := (⟨"BondWarehouse$Deeds", "changeRateByWeight", "(II)I"⟩, 2)) (List.mem_of_getElem? (i := 66) rfl)
theorem kw_5_35 : (Jvm.Cond.methodLink "BondWarehouse$Deeds" (242 : Nat) ({ cls := "BondWarehouse$Deeds", name := "countLate", desc := "()I" } : Jvm.MethodName)) ∈ TG := tg_5 35 rfl rfl
theorem kw_5_38 : (Jvm.Cond.code ({ cls := "BondWarehouse$Deeds", name := "countLate", desc := "()I" } : Jvm.MethodName) prog_3_method_18_code (3 : Nat) (Option.some Jvm.ClassFile.FieldType.int)) ∈ TG := tg_5 38 rfl rfl
theorem kw_5_37 : (Jvm.Cond.instanceMethod ({ cls := "BondWarehouse$Deeds", name := "countLate", desc := "()I" } : Jvm.MethodName)) ∈ TG := tg_5 37 rfl rfl
theorem ks_68 : Cond.selects "BondWarehouse$Deeds" ⟨"BondWarehouse$Deeds", "countLate", "()I"⟩ ⟨"BondWarehouse$Deeds", "countLate", "()I"⟩ ∈ TG := tgS (q := (⟨"BondWarehouse$Deeds", "countLate", "()I"⟩, 2)) (List.mem_of_getElem? (i := 68) rfl)
theorem kw_5_34 : (Jvm.Cond.code ({ cls := "BondWarehouse$Deeds", name := "letPass", desc := "(I)I" } : Jvm.MethodName) prog_3_method_17_code (3 : Nat) (Option.some Jvm.ClassFile.FieldType.int)) ∈ TG := tg_5 34 rfl rfl
theorem kw_5_33 : (Jvm.Cond.instanceMethod ({ cls := "BondWarehouse$Deeds", name := "letPass", desc := "(I)I" } : Jvm.MethodName)) ∈ TG := tg_5 33 rfl rfl
theorem ks_67 : Cond.selects "BondWarehouse$Deeds" ⟨"BondWarehouse$Deeds", "letPass", "(I)I"⟩ ⟨"BondWarehouse$Deeds", "letPass", "(I)I"⟩ ∈ TG := tgS (q := (⟨"BondWarehouse$Deeds", "letPass", "(I)I"⟩, 2)) (List.mem_of_getElem? (i := 67) rfl)
theorem kw_2_112 : (Jvm.Cond.fieldLink "BondWarehouse" (10 : Nat) "BondWarehouse" "state" "LBondWarehouse$State;") ∈ TG := tg_2 112 rfl rfl
theorem kw_5_55 : (Jvm.Cond.methodLink "BondWarehouse" (127 : Nat) ({ cls := "BondWarehouse", name := "entryNumbered", desc := "(I)LBondWarehouse$Entry;" } : Jvm.MethodName)) ∈ TG := tg_5 55 rfl rfl
theorem kw_5_58 : (Jvm.Cond.code ({ cls := "BondWarehouse", name := "entryNumbered", desc := "(I)LBondWarehouse$Entry;" } : Jvm.MethodName) prog_1_method_92_code (3 : Nat) (Option.some (Jvm.ClassFile.FieldType.object "BondWarehouse$Entry"))) ∈ TG := tg_5 58 rfl rfl
theorem kw_5_57 : (Jvm.Cond.instanceMethod ({ cls := "BondWarehouse", name := "entryNumbered", desc := "(I)LBondWarehouse$Entry;" } : Jvm.MethodName)) ∈ TG := tg_5 57 rfl rfl
theorem ks_69 : Cond.selects "BondWarehouse" ⟨"BondWarehouse", "entryNumbered", "(I)LBondWarehouse$Entry;"⟩ ⟨"BondWarehouse", "entryNumbered", "(I)LBondWarehouse$Entry;"⟩ ∈ TG := tgS (q := (⟨"BondWarehouse", "entryNumbered", "(I)LBondWarehouse$Entry;"⟩, 4)) (List.mem_of_getElem? (i := 69) rfl)
theorem kw_5_111 : (Jvm.Cond.methodLink "BondWarehouse" (154 : Nat) ({ cls := "BondWarehouse", name := "requireWithin", desc := "(III)V" } : Jvm.MethodName)) ∈ TG := tg_5 111 rfl rfl
theorem kw_5_113 : (Jvm.Cond.code ({ cls := "BondWarehouse", name := "requireWithin", desc := "(III)V" } : Jvm.MethodName) prog_1_method_89_code (3 : Nat) (Option.none : Option Jvm.ClassFile.FieldType)) ∈ TG := tg_5 113 rfl rfl
theorem kw_5_112 : (Jvm.Cond.static ({ cls := "BondWarehouse", name := "requireWithin", desc := "(III)V" } : Jvm.MethodName)) ∈ TG := tg_5 112 rfl rfl
theorem kw_5_142 : (Jvm.Cond.methodLink "BondWarehouse" (188 : Nat) ({ cls := "BondWarehouse", name := "requireChamber", desc := "(I)V" } : Jvm.MethodName)) ∈ TG := tg_5 142 rfl rfl
theorem kw_5_144 : (Jvm.Cond.code ({ cls := "BondWarehouse", name := "requireChamber", desc := "(I)V" } : Jvm.MethodName) prog_1_method_90_code (1 : Nat) (Option.none : Option Jvm.ClassFile.FieldType)) ∈ TG := tg_5 144 rfl rfl
theorem kw_5_143 : (Jvm.Cond.static ({ cls := "BondWarehouse", name := "requireChamber", desc := "(I)V" } : Jvm.MethodName)) ∈ TG := tg_5 143 rfl rfl
theorem kw_5_138 : (Jvm.Cond.methodLink "BondWarehouse" (172 : Nat) ({ cls := "BondWarehouse", name := "chamberNumbered", desc := "(I)LBondWarehouse$Chamber;" } : Jvm.MethodName)) ∈ TG := tg_5 138 rfl rfl
theorem kw_5_141 : (Jvm.Cond.code ({ cls := "BondWarehouse", name := "chamberNumbered", desc := "(I)LBondWarehouse$Chamber;" } : Jvm.MethodName) prog_1_method_94_code (2 : Nat) (Option.some (Jvm.ClassFile.FieldType.object "BondWarehouse$Chamber"))) ∈ TG := tg_5 141 rfl rfl
theorem kw_5_140 : (Jvm.Cond.instanceMethod ({ cls := "BondWarehouse", name := "chamberNumbered", desc := "(I)LBondWarehouse$Chamber;" } : Jvm.MethodName)) ∈ TG := tg_5 140 rfl rfl
theorem ks_70 : Cond.selects "BondWarehouse" ⟨"BondWarehouse", "chamberNumbered", "(I)LBondWarehouse$Chamber;"⟩ ⟨"BondWarehouse", "chamberNumbered", "(I)LBondWarehouse$Chamber;"⟩ ∈ TG := tgS (q := (⟨"BondWarehouse", "chamberNumbered", "(I)LBondWarehouse$Chamber;"⟩, 4)) (List.mem_of_getElem? (i := 70) rfl)
theorem kw_5_171 : (Jvm.Cond.code ({ cls := "BondWarehouse$State", name := "countIn", desc := "(I)I" } : Jvm.MethodName) prog_10_method_18_code (4 : Nat) (Option.some Jvm.ClassFile.FieldType.int)) ∈ TG := tg_5 171 rfl rfl
theorem kw_5_170 : (Jvm.Cond.instanceMethod ({ cls := "BondWarehouse$State", name := "countIn", desc := "(I)I" } : Jvm.MethodName)) ∈ TG := tg_5 170 rfl rfl
theorem ks_71 : Cond.selects "BondWarehouse$State" ⟨"BondWarehouse$State", "countIn", "(I)I"⟩ ⟨"BondWarehouse$State", "countIn", "(I)I"⟩ ∈ TG := tgS (q := (⟨"BondWarehouse$State", "countIn", "(I)I"⟩, 11)) (List.mem_of_getElem? (i := 71) rfl)
theorem kw_5_187 : (Jvm.Cond.methodLink "BondWarehouse" (201 : Nat) ({ cls := "BondWarehouse", name := "receiptBack", desc := "(I)LBondWarehouse$Receipt;" } : Jvm.MethodName)) ∈ TG := tg_5 187 rfl rfl
theorem kw_5_190 : (Jvm.Cond.code ({ cls := "BondWarehouse", name := "receiptBack", desc := "(I)LBondWarehouse$Receipt;" } : Jvm.MethodName) prog_1_method_93_code (3 : Nat) (Option.some (Jvm.ClassFile.FieldType.object "BondWarehouse$Receipt"))) ∈ TG := tg_5 190 rfl rfl
theorem kw_5_189 : (Jvm.Cond.instanceMethod ({ cls := "BondWarehouse", name := "receiptBack", desc := "(I)LBondWarehouse$Receipt;" } : Jvm.MethodName)) ∈ TG := tg_5 189 rfl rfl
theorem ks_72 : Cond.selects "BondWarehouse" ⟨"BondWarehouse", "receiptBack", "(I)LBondWarehouse$Receipt;"⟩ ⟨"BondWarehouse", "receiptBack", "(I)LBondWarehouse$Receipt;"⟩ ∈ TG := tgS (q := (⟨"BondWarehouse", "receiptBack", "(I)LBondWarehouse$Receipt;"⟩, 4)) (List.mem_of_getElem? (i := 72) rfl)
theorem kw_5_221 : (Jvm.Cond.methodLink "BondWarehouse" (215 : Nat) ({ cls := "BondWarehouse", name := "accountOfKind", desc := "(I)LBondWarehouse$KindAccount;" } : Jvm.MethodName)) ∈ TG := tg_5 221 rfl rfl
theorem kw_5_224 : (Jvm.Cond.code ({ cls := "BondWarehouse", name := "accountOfKind", desc := "(I)LBondWarehouse$KindAccount;" } : Jvm.MethodName) prog_1_method_95_code (2 : Nat) (Option.some (Jvm.ClassFile.FieldType.object "BondWarehouse$KindAccount"))) ∈ TG := tg_5 224 rfl rfl
theorem kw_5_223 : (Jvm.Cond.instanceMethod ({ cls := "BondWarehouse", name := "accountOfKind", desc := "(I)LBondWarehouse$KindAccount;" } : Jvm.MethodName)) ∈ TG := tg_5 223 rfl rfl
theorem ks_73 : Cond.selects "BondWarehouse" ⟨"BondWarehouse", "accountOfKind", "(I)LBondWarehouse$KindAccount;"⟩ ⟨"BondWarehouse", "accountOfKind", "(I)LBondWarehouse$KindAccount;"⟩ ∈ TG := tgS (q := (⟨"BondWarehouse", "accountOfKind", "(I)LBondWarehouse$KindAccount;"⟩, 4)) (List.mem_of_getElem? (i := 73) rfl)
theorem kw_6_44 : (Jvm.Cond.code ({ cls := "BondWarehouse$State", name := "stockOf", desc := "(I)I" } : Jvm.MethodName) prog_10_method_20_code (4 : Nat) (Option.some Jvm.ClassFile.FieldType.int)) ∈ TG := tg_6 44 rfl rfl
theorem kw_6_43 : (Jvm.Cond.instanceMethod ({ cls := "BondWarehouse$State", name := "stockOf", desc := "(I)I" } : Jvm.MethodName)) ∈ TG := tg_6 43 rfl rfl
theorem ks_74 : Cond.selects "BondWarehouse$State" ⟨"BondWarehouse$State", "stockOf", "(I)I"⟩ ⟨"BondWarehouse$State", "stockOf", "(I)I"⟩ ∈ TG := tgS (q := (⟨"BondWarehouse$State", "stockOf", "(I)I"⟩, 11)) (List.mem_of_getElem? (i := 74) rfl)
theorem kw_6_59 : (Jvm.Cond.methodLink "BondWarehouse" (275 : Nat) ({ cls := "BondWarehouse", name := "areGoods", desc := "(IIII)Z" } : Jvm.MethodName)) ∈ TG := tg_6 59 rfl rfl
theorem kw_6_110 : (Jvm.Cond.methodLink "BondWarehouse" (309 : Nat) ({ cls := "BondWarehouse", name := "paidBackOf", desc := "(I)I" } : Jvm.MethodName)) ∈ TG := tg_6 110 rfl rfl
theorem kw_6_125 : (Jvm.Cond.methodLink "BondWarehouse" (312 : Nat) ({ cls := "java/lang/Math", name := "max", desc := "(II)I" } : Jvm.MethodName)) ∈ TG := tg_6 125 rfl rfl
theorem kw_2_216 : (Jvm.Cond.code ({ cls := "BondWarehouse$State", name := "nextLate", desc := "()I" } : Jvm.MethodName) prog_10_method_28_code (3 : Nat) (Option.some Jvm.ClassFile.FieldType.int)) ∈ TG := tg_2 216 rfl rfl
theorem kw_2_215 : (Jvm.Cond.instanceMethod ({ cls := "BondWarehouse$State", name := "nextLate", desc := "()I" } : Jvm.MethodName)) ∈ TG := tg_2 215 rfl rfl
theorem ks_5 : Cond.selects "BondWarehouse$State" ⟨"BondWarehouse$State", "nextLate", "()I"⟩ ⟨"BondWarehouse$State", "nextLate", "()I"⟩ ∈ TG := tgS (q := (⟨"BondWarehouse$State", "nextLate", "()I"⟩, 11)) (List.mem_of_getElem? (i := 5) rfl)
theorem kw_2_224 : (Jvm.Cond.code ({ cls := "BondWarehouse$State", name := "numberAt", desc := "(I)I" } : Jvm.MethodName) prog_10_method_5_code (2 : Nat) (Option.some Jvm.ClassFile.FieldType.int)) ∈ TG := tg_2 224 rfl rfl
theorem kw_2_223 : (Jvm.Cond.instanceMethod ({ cls := "BondWarehouse$State", name := "numberAt", desc := "(I)I" } : Jvm.MethodName)) ∈ TG := tg_2 223 rfl rfl
theorem ks_7 : Cond.selects "BondWarehouse$State" ⟨"BondWarehouse$State", "numberAt", "(I)I"⟩ ⟨"BondWarehouse$State", "numberAt", "(I)I"⟩ ∈ TG := tgS (q := (⟨"BondWarehouse$State", "numberAt", "(I)I"⟩, 11)) (List.mem_of_getElem? (i := 7) rfl)
theorem kw_2_13 : (Jvm.Cond.fieldLink "BondWarehouse$State" (42 : Nat) "BondWarehouse$State" "duties" "[I") ∈ TG := tg_2 13 rfl rfl
theorem kw_6_138 : (Jvm.Cond.methodLink "BondWarehouse$State" (190 : Nat) ({ cls := "BondWarehouse$State", name := "isCheaper", desc := "(II)Z" } : Jvm.MethodName)) ∈ TG := tg_6 138 rfl rfl
theorem kw_6_141 : (Jvm.Cond.code ({ cls := "BondWarehouse$State", name := "isCheaper", desc := "(II)Z" } : Jvm.MethodName) prog_10_method_31_code (7 : Nat) (Option.some Jvm.ClassFile.FieldType.boolean)) ∈ TG := tg_6 141 rfl rfl
theorem kw_6_140 : (Jvm.Cond.instanceMethod ({ cls := "BondWarehouse$State", name := "isCheaper", desc := "(II)Z" } : Jvm.MethodName)) ∈ TG := tg_6 140 rfl rfl
theorem ks_76 : Cond.selects "BondWarehouse$State" ⟨"BondWarehouse$State", "isCheaper", "(II)Z"⟩ ⟨"BondWarehouse$State", "isCheaper", "(II)Z"⟩ ∈ TG := tgS (q := (⟨"BondWarehouse$State", "isCheaper", "(II)Z"⟩, 11)) (List.mem_of_getElem? (i := 76) rfl)
theorem kw_2_239 : (Jvm.Cond.code ({ cls := "BondWarehouse$State", name := "tellDuties", desc := "()V" } : Jvm.MethodName) prog_10_method_29_code (2 : Nat) (Option.none : Option Jvm.ClassFile.FieldType)) ∈ TG := tg_2 239 rfl rfl
theorem kw_2_238 : (Jvm.Cond.instanceMethod ({ cls := "BondWarehouse$State", name := "tellDuties", desc := "()V" } : Jvm.MethodName)) ∈ TG := tg_2 238 rfl rfl
theorem ks_9 : Cond.selects "BondWarehouse$State" ⟨"BondWarehouse$State", "tellDuties", "()V"⟩ ⟨"BondWarehouse$State", "tellDuties", "()V"⟩ ∈ TG := tgS (q := (⟨"BondWarehouse$State", "tellDuties", "()V"⟩, 11)) (List.mem_of_getElem? (i := 9) rfl)
theorem kw_6_137 : (Jvm.Cond.code ({ cls := "BondWarehouse$State", name := "cheapestBehind", desc := "(II)I" } : Jvm.MethodName) prog_10_method_32_code (5 : Nat) (Option.some Jvm.ClassFile.FieldType.int)) ∈ TG := tg_6 137 rfl rfl
theorem kw_6_136 : (Jvm.Cond.instanceMethod ({ cls := "BondWarehouse$State", name := "cheapestBehind", desc := "(II)I" } : Jvm.MethodName)) ∈ TG := tg_6 136 rfl rfl
theorem ks_75 : Cond.selects "BondWarehouse$State" ⟨"BondWarehouse$State", "cheapestBehind", "(II)I"⟩ ⟨"BondWarehouse$State", "cheapestBehind", "(II)I"⟩ ∈ TG := tgS (q := (⟨"BondWarehouse$State", "cheapestBehind", "(II)I"⟩, 11)) (List.mem_of_getElem? (i := 75) rfl)
theorem kw_6_153 : (Jvm.Cond.methodLink "BondWarehouse$State" (194 : Nat) ({ cls := "BondWarehouse$State", name := "stockOf", desc := "(I)I" } : Jvm.MethodName)) ∈ TG := tg_6 153 rfl rfl
theorem kw_2_236 : (Jvm.Cond.methodLink "BondWarehouse$State" (187 : Nat) ({ cls := "BondWarehouse$State", name := "tellDuties", desc := "()V" } : Jvm.MethodName)) ∈ TG := tg_2 236 rfl rfl
theorem kw_6_154 : (Jvm.Cond.methodLink "BondWarehouse$State" (197 : Nat) ({ cls := "BondWarehouse$State", name := "cheapestBehind", desc := "(II)I" } : Jvm.MethodName)) ∈ TG := tg_6 154 rfl rfl
theorem kw_6_152 : (Jvm.Cond.code ({ cls := "BondWarehouse$State", name := "dutyOfCheapest", desc := "(II)I" } : Jvm.MethodName) prog_10_method_33_code (8 : Nat) (Option.some Jvm.ClassFile.FieldType.int)) ∈ TG := tg_6 152 rfl rfl
theorem kw_6_151 : (Jvm.Cond.instanceMethod ({ cls := "BondWarehouse$State", name := "dutyOfCheapest", desc := "(II)I" } : Jvm.MethodName)) ∈ TG := tg_6 151 rfl rfl
theorem ks_77 : Cond.selects "BondWarehouse$State" ⟨"BondWarehouse$State", "dutyOfCheapest", "(II)I"⟩ ⟨"BondWarehouse$State", "dutyOfCheapest", "(II)I"⟩ ∈ TG := tgS (q := (⟨"BondWarehouse$State", "dutyOfCheapest", "(II)I"⟩, 11)) (List.mem_of_getElem? (i := 77) rfl)
theorem kw_2_235 : (Jvm.Cond.code ({ cls := "BondWarehouse$State", name := "dearest", desc := "()I" } : Jvm.MethodName) prog_10_method_30_code (3 : Nat) (Option.some Jvm.ClassFile.FieldType.int)) ∈ TG := tg_2 235 rfl rfl
theorem kw_2_234 : (Jvm.Cond.instanceMethod ({ cls := "BondWarehouse$State", name := "dearest", desc := "()I" } : Jvm.MethodName)) ∈ TG := tg_2 234 rfl rfl
theorem ks_8 : Cond.selects "BondWarehouse$State" ⟨"BondWarehouse$State", "dearest", "()I"⟩ ⟨"BondWarehouse$State", "dearest", "()I"⟩ ∈ TG := tgS (q := (⟨"BondWarehouse$State", "dearest", "()I"⟩, 11)) (List.mem_of_getElem? (i := 8) rfl)
theorem kw_2_89 : (Jvm.Cond.fieldLink "BondWarehouse$Journal" (9 : Nat) "BondWarehouse$Journal" "codes" "[I") ∈ TG := tg_2 89 rfl rfl
theorem kw_2_91 : (Jvm.Cond.fieldLink "BondWarehouse$Journal" (18 : Nat) "BondWarehouse$Journal" "length" "I") ∈ TG := tg_2 91 rfl rfl
theorem kw_2_115 : (Jvm.Cond.fieldLink "BondWarehouse" (35 : Nat) "BondWarehouse" "journal" "LBondWarehouse$Journal;") ∈ TG := tg_2 115 rfl rfl
theorem kw_6_166 : (Jvm.Cond.code ({ cls := "BondWarehouse$Journal", name := "add", desc := "(I)I" } : Jvm.MethodName) prog_6_method_2_code (2 : Nat) (Option.some Jvm.ClassFile.FieldType.int)) ∈ TG := tg_6 166 rfl rfl
theorem kw_1_10 : (Jvm.Cond.initialized "BondWarehouse$Journal") ∈ TG := tg_1 10 rfl rfl
theorem kw_6_165 : (Jvm.Cond.instanceMethod ({ cls := "BondWarehouse$Journal", name := "add", desc := "(I)I" } : Jvm.MethodName)) ∈ TG := tg_6 165 rfl rfl
theorem ks_78 : Cond.selects "BondWarehouse$Journal" ⟨"BondWarehouse$Journal", "add", "(I)I"⟩ ⟨"BondWarehouse$Journal", "add", "(I)I"⟩ ∈ TG := tgS (q := (⟨"BondWarehouse$Journal", "add", "(I)I"⟩, 6)) (List.mem_of_getElem? (i := 78) rfl)
theorem kw_3_7 : (Jvm.Cond.code ({ cls := "BondWarehouse$Journal", name := "wipe", desc := "()I" } : Jvm.MethodName) prog_6_method_3_code (2 : Nat) (Option.some Jvm.ClassFile.FieldType.int)) ∈ TG := tg_3 7 rfl rfl
theorem kw_3_6 : (Jvm.Cond.instanceMethod ({ cls := "BondWarehouse$Journal", name := "wipe", desc := "()I" } : Jvm.MethodName)) ∈ TG := tg_3 6 rfl rfl
theorem ks_10 : Cond.selects "BondWarehouse$Journal" ⟨"BondWarehouse$Journal", "wipe", "()I"⟩ ⟨"BondWarehouse$Journal", "wipe", "()I"⟩ ∈ TG := tgS (q := (⟨"BondWarehouse$Journal", "wipe", "()I"⟩, 6)) (List.mem_of_getElem? (i := 10) rfl)
theorem kw_2_96 : (Jvm.Cond.fieldLink "BondWarehouse$Journal" (44 : Nat) "BondWarehouse$Journal" "place" "I") ∈ TG := tg_2 96 rfl rfl
theorem kw_2_97 : (Jvm.Cond.fieldLink "BondWarehouse$Journal" (15 : Nat) "BondWarehouse$Journal" "numbers" "[I") ∈ TG := tg_2 97 rfl rfl
theorem kw_2_95 : (Jvm.Cond.fieldLink "BondWarehouse$Journal" (37 : Nat) "BondWarehouse$Journal" "form" "[I") ∈ TG := tg_2 95 rfl rfl
theorem kw_3_20 : (Jvm.Cond.methodLink "BondWarehouse$Journal" (40 : Nat) ({ cls := "BondWarehouse$Journal", name := "startNumber", desc := "(I)V" } : Jvm.MethodName)) ∈ TG := tg_3 20 rfl rfl
theorem kw_3_23 : (Jvm.Cond.code ({ cls := "BondWarehouse$Journal", name := "startNumber", desc := "(I)V" } : Jvm.MethodName) prog_6_method_8_code (2 : Nat) (Option.none : Option Jvm.ClassFile.FieldType)) ∈ TG := tg_3 23 rfl rfl
theorem kw_3_22 : (Jvm.Cond.instanceMethod ({ cls := "BondWarehouse$Journal", name := "startNumber", desc := "(I)V" } : Jvm.MethodName)) ∈ TG := tg_3 22 rfl rfl
theorem ks_13 : Cond.selects "BondWarehouse$Journal" ⟨"BondWarehouse$Journal", "startNumber", "(I)V"⟩ ⟨"BondWarehouse$Journal", "startNumber", "(I)V"⟩ ∈ TG := tgS (q := (⟨"BondWarehouse$Journal", "startNumber", "(I)V"⟩, 6)) (List.mem_of_getElem? (i := 13) rfl)
theorem kw_3_39 : (Jvm.Cond.fieldLink "BondWarehouse$Journal" (86 : Nat) "BondWarehouse$Journal" "SEAL" "[I") ∈ TG := tg_3 39 rfl rfl
theorem kw_3_41 : (Jvm.Cond.fieldLink "BondWarehouse$Journal" (89 : Nat) "BondWarehouse$Journal" "MONEY" "[I") ∈ TG := tg_3 41 rfl rfl
theorem kw_3_31 : (Jvm.Cond.fieldLink "BondWarehouse$Journal" (74 : Nat) "BondWarehouse$Journal" "GOODS" "[I") ∈ TG := tg_3 31 rfl rfl
theorem kw_3_35 : (Jvm.Cond.fieldLink "BondWarehouse$Journal" (80 : Nat) "BondWarehouse$Journal" "WEIGHING" "[I") ∈ TG := tg_3 35 rfl rfl
theorem kw_3_37 : (Jvm.Cond.fieldLink "BondWarehouse$Journal" (83 : Nat) "BondWarehouse$Journal" "WAY" "[I") ∈ TG := tg_3 37 rfl rfl
theorem kw_3_43 : (Jvm.Cond.fieldLink "BondWarehouse$Journal" (92 : Nat) "BondWarehouse$Journal" "TIME" "[I") ∈ TG := tg_3 43 rfl rfl
theorem kw_3_33 : (Jvm.Cond.fieldLink "BondWarehouse$Journal" (77 : Nat) "BondWarehouse$Journal" "PART" "[I") ∈ TG := tg_3 33 rfl rfl
theorem kw_3_49 : (Jvm.Cond.methodLink "BondWarehouse$Journal" (47 : Nat) ({ cls := "BondWarehouse$Journal", name := "sortAt", desc := "(I)I" } : Jvm.MethodName)) ∈ TG := tg_3 49 rfl rfl
theorem kw_3_52 : (Jvm.Cond.code ({ cls := "BondWarehouse$Journal", name := "sortAt", desc := "(I)I" } : Jvm.MethodName) prog_6_method_13_code (2 : Nat) (Option.some Jvm.ClassFile.FieldType.int)) ∈ TG := tg_3 52 rfl rfl
theorem kw_3_51 : (Jvm.Cond.instanceMethod ({ cls := "BondWarehouse$Journal", name := "sortAt", desc := "(I)I" } : Jvm.MethodName)) ∈ TG := tg_3 51 rfl rfl
theorem ks_16 : Cond.selects "BondWarehouse$Journal" ⟨"BondWarehouse$Journal", "sortAt", "(I)I"⟩ ⟨"BondWarehouse$Journal", "sortAt", "(I)I"⟩ ∈ TG := tgS (q := (⟨"BondWarehouse$Journal", "sortAt", "(I)I"⟩, 6)) (List.mem_of_getElem? (i := 16) rfl)
theorem kw_3_53 : (Jvm.Cond.fieldLink "BondWarehouse$Journal" (64 : Nat) "BondWarehouse$Journal" "LEAST" "[I") ∈ TG := tg_3 53 rfl rfl
theorem kw_3_55 : (Jvm.Cond.fieldLink "BondWarehouse$Journal" (67 : Nat) "BondWarehouse$Journal" "MOST" "[I") ∈ TG := tg_3 55 rfl rfl
theorem kw_3_45 : (Jvm.Cond.methodLink "BondWarehouse$Journal" (58 : Nat) ({ cls := "BondWarehouse$Journal", name := "readsDigit", desc := "(I)Z" } : Jvm.MethodName)) ∈ TG := tg_3 45 rfl rfl
theorem kw_3_48 : (Jvm.Cond.code ({ cls := "BondWarehouse$Journal", name := "readsDigit", desc := "(I)Z" } : Jvm.MethodName) prog_6_method_11_code (5 : Nat) (Option.some Jvm.ClassFile.FieldType.boolean)) ∈ TG := tg_3 48 rfl rfl
theorem kw_3_47 : (Jvm.Cond.instanceMethod ({ cls := "BondWarehouse$Journal", name := "readsDigit", desc := "(I)Z" } : Jvm.MethodName)) ∈ TG := tg_3 47 rfl rfl
theorem ks_15 : Cond.selects "BondWarehouse$Journal" ⟨"BondWarehouse$Journal", "readsDigit", "(I)Z"⟩ ⟨"BondWarehouse$Journal", "readsDigit", "(I)Z"⟩ ∈ TG := tgS (q := (⟨"BondWarehouse$Journal", "readsDigit", "(I)Z"⟩, 6)) (List.mem_of_getElem? (i := 15) rfl)
theorem kw_3_58 : (Jvm.Cond.methodLink "BondWarehouse$Journal" (61 : Nat) ({ cls := "BondWarehouse$Journal", name := "signBefore", desc := "(I)I" } : Jvm.MethodName)) ∈ TG := tg_3 58 rfl rfl
theorem kw_3_60 : (Jvm.Cond.code ({ cls := "BondWarehouse$Journal", name := "signBefore", desc := "(I)I" } : Jvm.MethodName) prog_6_method_12_code (1 : Nat) (Option.some Jvm.ClassFile.FieldType.int)) ∈ TG := tg_3 60 rfl rfl
theorem kw_3_59 : (Jvm.Cond.static ({ cls := "BondWarehouse$Journal", name := "signBefore", desc := "(I)I" } : Jvm.MethodName)) ∈ TG := tg_3 59 rfl rfl
theorem kw_3_16 : (Jvm.Cond.methodLink "BondWarehouse$Journal" (22 : Nat) ({ cls := "BondWarehouse$Journal", name := "startLine", desc := "()V" } : Jvm.MethodName)) ∈ TG := tg_3 16 rfl rfl
theorem kw_3_19 : (Jvm.Cond.code ({ cls := "BondWarehouse$Journal", name := "startLine", desc := "()V" } : Jvm.MethodName) prog_6_method_7_code (1 : Nat) (Option.none : Option Jvm.ClassFile.FieldType)) ∈ TG := tg_3 19 rfl rfl
theorem kw_3_18 : (Jvm.Cond.instanceMethod ({ cls := "BondWarehouse$Journal", name := "startLine", desc := "()V" } : Jvm.MethodName)) ∈ TG := tg_3 18 rfl rfl
theorem ks_12 : Cond.selects "BondWarehouse$Journal" ⟨"BondWarehouse$Journal", "startLine", "()V"⟩ ⟨"BondWarehouse$Journal", "startLine", "()V"⟩ ∈ TG := tgS (q := (⟨"BondWarehouse$Journal", "startLine", "()V"⟩, 6)) (List.mem_of_getElem? (i := 12) rfl)
theorem kw_2_93 : (Jvm.Cond.fieldLink "BondWarehouse$Journal" (51 : Nat) "BondWarehouse$Journal" "letter" "I") ∈ TG := tg_2 93 rfl rfl
theorem kw_3_28 : (Jvm.Cond.methodLink "BondWarehouse$Journal" (54 : Nat) ({ cls := "BondWarehouse$Journal", name := "formOf", desc := "(I)[I" } : Jvm.MethodName)) ∈ TG := tg_3 28 rfl rfl
theorem kw_3_30 : (Jvm.Cond.code ({ cls := "BondWarehouse$Journal", name := "formOf", desc := "(I)[I" } : Jvm.MethodName) prog_6_method_14_code (1 : Nat) (Option.some (Jvm.ClassFile.FieldType.array Jvm.ClassFile.FieldType.int))) ∈ TG := tg_3 30 rfl rfl
theorem kw_3_29 : (Jvm.Cond.static ({ cls := "BondWarehouse$Journal", name := "formOf", desc := "(I)[I" } : Jvm.MethodName)) ∈ TG := tg_3 29 rfl rfl
theorem kw_3_24 : (Jvm.Cond.methodLink "BondWarehouse$Journal" (25 : Nat) ({ cls := "BondWarehouse$Journal", name := "reads", desc := "(I)Z" } : Jvm.MethodName)) ∈ TG := tg_3 24 rfl rfl
theorem kw_3_27 : (Jvm.Cond.code ({ cls := "BondWarehouse$Journal", name := "reads", desc := "(I)Z" } : Jvm.MethodName) prog_6_method_10_code (2 : Nat) (Option.some Jvm.ClassFile.FieldType.boolean)) ∈ TG := tg_3 27 rfl rfl
theorem kw_3_26 : (Jvm.Cond.instanceMethod ({ cls := "BondWarehouse$Journal", name := "reads", desc := "(I)Z" } : Jvm.MethodName)) ∈ TG := tg_3 26 rfl rfl
theorem ks_14 : Cond.selects "BondWarehouse$Journal" ⟨"BondWarehouse$Journal", "reads", "(I)Z"⟩ ⟨"BondWarehouse$Journal", "reads", "(I)Z"⟩ ∈ TG := tgS (q := (⟨"BondWarehouse$Journal", "reads", "(I)Z"⟩, 6)) (List.mem_of_getElem? (i := 14) rfl)
theorem kw_3_15 : (Jvm.Cond.code ({ cls := "BondWarehouse$Journal", name := "firstWrong", desc := "()I" } : Jvm.MethodName) prog_6_method_4_code (2 : Nat) (Option.some Jvm.ClassFile.FieldType.int)) ∈ TG := tg_3 15 rfl rfl
theorem kw_3_14 : (Jvm.Cond.instanceMethod ({ cls := "BondWarehouse$Journal", name := "firstWrong", desc := "()I" } : Jvm.MethodName)) ∈ TG := tg_3 14 rfl rfl
theorem ks_11 : Cond.selects "BondWarehouse$Journal" ⟨"BondWarehouse$Journal", "firstWrong", "()I"⟩ ⟨"BondWarehouse$Journal", "firstWrong", "()I"⟩ ∈ TG := tgS (q := (⟨"BondWarehouse$Journal", "firstWrong", "()I"⟩, 6)) (List.mem_of_getElem? (i := 11) rfl)
theorem kw_6_178 : (Jvm.Cond.methodLink "BondWarehouse$Journal" (29 : Nat) ({ cls := "BondWarehouse$Journal", name := "firstWrong", desc := "()I" } : Jvm.MethodName)) ∈ TG := tg_6 178 rfl rfl
theorem kw_6_179 : (Jvm.Cond.methodLink "BondWarehouse$Journal" (33 : Nat) ({ cls := "BondWarehouse$Journal", name := "isLineComplete", desc := "()Z" } : Jvm.MethodName)) ∈ TG := tg_6 179 rfl rfl
theorem kw_6_182 : (Jvm.Cond.code ({ cls := "BondWarehouse$Journal", name := "isLineComplete", desc := "()Z" } : Jvm.MethodName) prog_6_method_9_code (1 : Nat) (Option.some Jvm.ClassFile.FieldType.boolean)) ∈ TG := tg_6 182 rfl rfl
theorem kw_6_181 : (Jvm.Cond.instanceMethod ({ cls := "BondWarehouse$Journal", name := "isLineComplete", desc := "()Z" } : Jvm.MethodName)) ∈ TG := tg_6 181 rfl rfl
theorem ks_80 : Cond.selects "BondWarehouse$Journal" ⟨"BondWarehouse$Journal", "isLineComplete", "()Z"⟩ ⟨"BondWarehouse$Journal", "isLineComplete", "()Z"⟩ ∈ TG := tgS (q := (⟨"BondWarehouse$Journal", "isLineComplete", "()Z"⟩, 6)) (List.mem_of_getElem? (i := 80) rfl)
theorem kw_6_202 : (Jvm.Cond.methodLink "BondWarehouse$Deeds" (271 : Nat) ({ cls := "BondWarehouse$Deeds", name := "damageSeal", desc := "(I)I" } : Jvm.MethodName)) ∈ TG := tg_6 202 rfl rfl
theorem kw_6_203 : (Jvm.Cond.methodLink "BondWarehouse$Deeds" (274 : Nat) ({ cls := "BondWarehouse$Deeds", name := "payIn", desc := "(I)I" } : Jvm.MethodName)) ∈ TG := tg_6 203 rfl rfl
theorem kw_6_195 : (Jvm.Cond.methodLink "BondWarehouse$Deeds" (249 : Nat) ({ cls := "BondWarehouse$Deeds", name := "bringIn", desc := "(IIII)I" } : Jvm.MethodName)) ∈ TG := tg_6 195 rfl rfl
theorem kw_6_198 : (Jvm.Cond.methodLink "BondWarehouse$Deeds" (259 : Nat) ({ cls := "BondWarehouse$Deeds", name := "putOnScales", desc := "(II)I" } : Jvm.MethodName)) ∈ TG := tg_6 198 rfl rfl
theorem kw_6_200 : (Jvm.Cond.methodLink "BondWarehouse$Deeds" (265 : Nat) ({ cls := "BondWarehouse$Deeds", name := "putSeal", desc := "(I)I" } : Jvm.MethodName)) ∈ TG := tg_6 200 rfl rfl
theorem kw_6_199 : (Jvm.Cond.methodLink "BondWarehouse$Deeds" (262 : Nat) ({ cls := "BondWarehouse$Deeds", name := "carryOver", desc := "(II)I" } : Jvm.MethodName)) ∈ TG := tg_6 199 rfl rfl
theorem kw_6_201 : (Jvm.Cond.methodLink "BondWarehouse$Deeds" (268 : Nat) ({ cls := "BondWarehouse$Deeds", name := "takeSealOff", desc := "(I)I" } : Jvm.MethodName)) ∈ TG := tg_6 201 rfl rfl
theorem kw_6_204 : (Jvm.Cond.methodLink "BondWarehouse$Deeds" (277 : Nat) ({ cls := "BondWarehouse$Deeds", name := "letPass", desc := "(I)I" } : Jvm.MethodName)) ∈ TG := tg_6 204 rfl rfl
theorem kw_6_196 : (Jvm.Cond.methodLink "BondWarehouse$Deeds" (252 : Nat) ({ cls := "BondWarehouse$Deeds", name := "takeIntoCountry", desc := "(II)I" } : Jvm.MethodName)) ∈ TG := tg_6 196 rfl rfl
theorem kw_6_197 : (Jvm.Cond.methodLink "BondWarehouse$Deeds" (256 : Nat) ({ cls := "BondWarehouse$Deeds", name := "takeAbroad", desc := "(II)I" } : Jvm.MethodName)) ∈ TG := tg_6 197 rfl rfl
theorem kw_6_177 : (Jvm.Cond.code ({ cls := "BondWarehouse$Journal", name := "isComplete", desc := "()Z" } : Jvm.MethodName) prog_6_method_5_code (1 : Nat) (Option.some Jvm.ClassFile.FieldType.boolean)) ∈ TG := tg_6 177 rfl rfl
theorem kw_6_176 : (Jvm.Cond.instanceMethod ({ cls := "BondWarehouse$Journal", name := "isComplete", desc := "()Z" } : Jvm.MethodName)) ∈ TG := tg_6 176 rfl rfl
theorem ks_79 : Cond.selects "BondWarehouse$Journal" ⟨"BondWarehouse$Journal", "isComplete", "()Z"⟩ ⟨"BondWarehouse$Journal", "isComplete", "()Z"⟩ ∈ TG := tgS (q := (⟨"BondWarehouse$Journal", "isComplete", "()Z"⟩, 6)) (List.mem_of_getElem? (i := 79) rfl)
theorem kw_2_113 : (Jvm.Cond.fieldLink "BondWarehouse" (19 : Nat) "BondWarehouse" "history" "LBondWarehouse$History;") ∈ TG := tg_2 113 rfl rfl
theorem kw_6_190 : (Jvm.Cond.code ({ cls := "BondWarehouse$Journal", name := "isLastOfLine", desc := "(I)Z" } : Jvm.MethodName) prog_6_method_6_code (2 : Nat) (Option.some Jvm.ClassFile.FieldType.boolean)) ∈ TG := tg_6 190 rfl rfl
theorem kw_6_189 : (Jvm.Cond.instanceMethod ({ cls := "BondWarehouse$Journal", name := "isLastOfLine", desc := "(I)Z" } : Jvm.MethodName)) ∈ TG := tg_6 189 rfl rfl
theorem ks_81 : Cond.selects "BondWarehouse$Journal" ⟨"BondWarehouse$Journal", "isLastOfLine", "(I)Z"⟩ ⟨"BondWarehouse$Journal", "isLastOfLine", "(I)Z"⟩ ∈ TG := tgS (q := (⟨"BondWarehouse$Journal", "isLastOfLine", "(I)Z"⟩, 6)) (List.mem_of_getElem? (i := 81) rfl)
theorem kw_6_194 : (Jvm.Cond.code ({ cls := "BondWarehouse$Deeds", name := "carryOutLine", desc := "(I[I)I" } : Jvm.MethodName) prog_3_method_19_code (3 : Nat) (Option.some Jvm.ClassFile.FieldType.int)) ∈ TG := tg_6 194 rfl rfl
theorem kw_6_193 : (Jvm.Cond.instanceMethod ({ cls := "BondWarehouse$Deeds", name := "carryOutLine", desc := "(I[I)I" } : Jvm.MethodName)) ∈ TG := tg_6 193 rfl rfl
theorem ks_82 : Cond.selects "BondWarehouse$Deeds" ⟨"BondWarehouse$Deeds", "carryOutLine", "(I[I)I"⟩ ⟨"BondWarehouse$Deeds", "carryOutLine", "(I[I)I"⟩ ∈ TG := tgS (q := (⟨"BondWarehouse$Deeds", "carryOutLine", "(I[I)I"⟩, 2)) (List.mem_of_getElem? (i := 82) rfl)
theorem kw_6_216 : (Jvm.Cond.code ({ cls := "BondWarehouse$History", name := "restoreLast", desc := "(LBondWarehouse$State;)V" } : Jvm.MethodName) prog_5_method_3_code (2 : Nat) (Option.none : Option Jvm.ClassFile.FieldType)) ∈ TG := tg_6 216 rfl rfl
theorem kw_6_215 : (Jvm.Cond.instanceMethod ({ cls := "BondWarehouse$History", name := "restoreLast", desc := "(LBondWarehouse$State;)V" } : Jvm.MethodName)) ∈ TG := tg_6 215 rfl rfl
theorem ks_83 : Cond.selects "BondWarehouse$History" ⟨"BondWarehouse$History", "restoreLast", "(LBondWarehouse$State;)V"⟩ ⟨"BondWarehouse$History", "restoreLast", "(LBondWarehouse$State;)V"⟩ ∈ TG := tgS (q := (⟨"BondWarehouse$History", "restoreLast", "(LBondWarehouse$State;)V"⟩, 6)) (List.mem_of_getElem? (i := 83) rfl)
theorem kw_2_50 : (Jvm.Cond.fieldLink "BondWarehouse$History" (17 : Nat) "BondWarehouse$History" "slots" "[LBondWarehouse$State;") ∈ TG := tg_2 50 rfl rfl
theorem kw_2_52 : (Jvm.Cond.fieldLink "BondWarehouse$History" (20 : Nat) "BondWarehouse$History" "isFilled" "[Z") ∈ TG := tg_2 52 rfl rfl
theorem kw_6_224 : (Jvm.Cond.methodLink "BondWarehouse" (396 : Nat) ({ cls := "BondWarehouse", name := "requireSlot", desc := "(I)V" } : Jvm.MethodName)) ∈ TG := tg_6 224 rfl rfl
theorem kw_6_226 : (Jvm.Cond.code ({ cls := "BondWarehouse", name := "requireSlot", desc := "(I)V" } : Jvm.MethodName) prog_1_method_91_code (1 : Nat) (Option.none : Option Jvm.ClassFile.FieldType)) ∈ TG := tg_6 226 rfl rfl
theorem kw_6_225 : (Jvm.Cond.static ({ cls := "BondWarehouse", name := "requireSlot", desc := "(I)V" } : Jvm.MethodName)) ∈ TG := tg_6 225 rfl rfl
theorem kw_6_231 : (Jvm.Cond.code ({ cls := "BondWarehouse$History", name := "fillSlot", desc := "(ILBondWarehouse$State;)V" } : Jvm.MethodName) prog_5_method_4_code (3 : Nat) (Option.none : Option Jvm.ClassFile.FieldType)) ∈ TG := tg_6 231 rfl rfl
theorem kw_6_230 : (Jvm.Cond.instanceMethod ({ cls := "BondWarehouse$History", name := "fillSlot", desc := "(ILBondWarehouse$State;)V" } : Jvm.MethodName)) ∈ TG := tg_6 230 rfl rfl
theorem ks_84 : Cond.selects "BondWarehouse$History" ⟨"BondWarehouse$History", "fillSlot", "(ILBondWarehouse$State;)V"⟩ ⟨"BondWarehouse$History", "fillSlot", "(ILBondWarehouse$State;)V"⟩ ∈ TG := tgS (q := (⟨"BondWarehouse$History", "fillSlot", "(ILBondWarehouse$State;)V"⟩, 6)) (List.mem_of_getElem? (i := 84) rfl)
theorem kw_7_7 : (Jvm.Cond.fieldLink "BondWarehouseModel" (29 : Nat) "BondWarehouseModel" "refusal" "I") ∈ TG := tg_7 7 rfl rfl
theorem kw_7_70 : (Jvm.Cond.constantLong "BondWarehouseModel" (33 : Nat) (5 : Int64)) ∈ TG := tg_7 70 rfl rfl
theorem kw_7_71 : (Jvm.Cond.methodLink "BondWarehouseModel" (35 : Nat) ({ cls := "BondWarehouseModel", name := "in", desc := "(JJJ)Z" } : Jvm.MethodName)) ∈ TG := tg_7 71 rfl rfl
theorem kw_7_73 : (Jvm.Cond.code ({ cls := "BondWarehouseModel", name := "in", desc := "(JJJ)Z" } : Jvm.MethodName) prog_12_method_4_code (6 : Nat) (Option.some Jvm.ClassFile.FieldType.boolean)) ∈ TG := tg_7 73 rfl rfl
theorem kw_1_11 : (Jvm.Cond.initialized "BondWarehouseModel") ∈ TG := tg_1 11 rfl rfl
theorem kw_7_72 : (Jvm.Cond.static ({ cls := "BondWarehouseModel", name := "in", desc := "(JJJ)Z" } : Jvm.MethodName)) ∈ TG := tg_7 72 rfl rfl
theorem kw_7_82 : (Jvm.Cond.constantLong "BondWarehouseModel" (39 : Nat) (4 : Int64)) ∈ TG := tg_7 82 rfl rfl
theorem kw_7_10 : (Jvm.Cond.fieldLink "BondWarehouseModel" (13 : Nat) "BondWarehouseModel" "now" "[I") ∈ TG := tg_7 10 rfl rfl
theorem kw_7_95 : (Jvm.Cond.methodLink "BondWarehouseModel" (41 : Nat) ({ cls := "BondWarehouseModel", name := "of", desc := "(II)I" } : Jvm.MethodName)) ∈ TG := tg_7 95 rfl rfl
theorem kw_7_98 : (Jvm.Cond.code ({ cls := "BondWarehouseModel", name := "of", desc := "(II)I" } : Jvm.MethodName) prog_12_method_8_code (3 : Nat) (Option.some Jvm.ClassFile.FieldType.int)) ∈ TG := tg_7 98 rfl rfl
theorem kw_7_97 : (Jvm.Cond.instanceMethod ({ cls := "BondWarehouseModel", name := "of", desc := "(II)I" } : Jvm.MethodName)) ∈ TG := tg_7 97 rfl rfl
theorem ks_88 : Cond.selects "BondWarehouseModel" ⟨"BondWarehouseModel", "of", "(II)I"⟩ ⟨"BondWarehouseModel", "of", "(II)I"⟩ ∈ TG := tgS (q := (⟨"BondWarehouseModel", "of", "(II)I"⟩, 16)) (List.mem_of_getElem? (i := 88) rfl)
theorem kw_7_123 : (Jvm.Cond.methodLink "BondWarehouseModel" (45 : Nat) ({ cls := "BondWarehouseModel", name := "up", desc := "(II)I" } : Jvm.MethodName)) ∈ TG := tg_7 123 rfl rfl
theorem kw_7_125 : (Jvm.Cond.code ({ cls := "BondWarehouseModel", name := "up", desc := "(II)I" } : Jvm.MethodName) prog_12_method_12_code (2 : Nat) (Option.some Jvm.ClassFile.FieldType.int)) ∈ TG := tg_7 125 rfl rfl
theorem kw_7_124 : (Jvm.Cond.static ({ cls := "BondWarehouseModel", name := "up", desc := "(II)I" } : Jvm.MethodName)) ∈ TG := tg_7 124 rfl rfl
theorem kw_7_111 : (Jvm.Cond.methodLink "BondWarehouseModel" (48 : Nat) ({ cls := "BondWarehouseModel", name := "share", desc := "(II)I" } : Jvm.MethodName)) ∈ TG := tg_7 111 rfl rfl
theorem kw_7_114 : (Jvm.Cond.code ({ cls := "BondWarehouseModel", name := "share", desc := "(II)I" } : Jvm.MethodName) prog_12_method_14_code (3 : Nat) (Option.some Jvm.ClassFile.FieldType.int)) ∈ TG := tg_7 114 rfl rfl
theorem kw_7_113 : (Jvm.Cond.instanceMethod ({ cls := "BondWarehouseModel", name := "share", desc := "(II)I" } : Jvm.MethodName)) ∈ TG := tg_7 113 rfl rfl
theorem ks_92 : Cond.selects "BondWarehouseModel" ⟨"BondWarehouseModel", "share", "(II)I"⟩ ⟨"BondWarehouseModel", "share", "(II)I"⟩ ∈ TG := tgS (q := (⟨"BondWarehouseModel", "share", "(II)I"⟩, 16)) (List.mem_of_getElem? (i := 92) rfl)
theorem kw_7_115 : (Jvm.Cond.methodLink "BondWarehouseModel" (51 : Nat) ({ cls := "BondWarehouseModel", name := "isLate", desc := "(I)Z" } : Jvm.MethodName)) ∈ TG := tg_7 115 rfl rfl
theorem kw_7_118 : (Jvm.Cond.code ({ cls := "BondWarehouseModel", name := "isLate", desc := "(I)Z" } : Jvm.MethodName) prog_12_method_15_code (2 : Nat) (Option.some Jvm.ClassFile.FieldType.boolean)) ∈ TG := tg_7 118 rfl rfl
theorem kw_7_117 : (Jvm.Cond.instanceMethod ({ cls := "BondWarehouseModel", name := "isLate", desc := "(I)Z" } : Jvm.MethodName)) ∈ TG := tg_7 117 rfl rfl
theorem ks_93 : Cond.selects "BondWarehouseModel" ⟨"BondWarehouseModel", "isLate", "(I)Z"⟩ ⟨"BondWarehouseModel", "isLate", "(I)Z"⟩ ∈ TG := tgS (q := (⟨"BondWarehouseModel", "isLate", "(I)Z"⟩, 16)) (List.mem_of_getElem? (i := 93) rfl)
theorem kw_7_119 : (Jvm.Cond.methodLink "BondWarehouseModel" (55 : Nat) ({ cls := "BondWarehouseModel", name := "duty", desc := "(IIIZ)I" } : Jvm.MethodName)) ∈ TG := tg_7 119 rfl rfl
theorem kw_7_122 : (Jvm.Cond.code ({ cls := "BondWarehouseModel", name := "duty", desc := "(IIIZ)I" } : Jvm.MethodName) prog_12_method_13_code (6 : Nat) (Option.some Jvm.ClassFile.FieldType.int)) ∈ TG := tg_7 122 rfl rfl
theorem kw_7_121 : (Jvm.Cond.instanceMethod ({ cls := "BondWarehouseModel", name := "duty", desc := "(IIIZ)I" } : Jvm.MethodName)) ∈ TG := tg_7 121 rfl rfl
theorem ks_94 : Cond.selects "BondWarehouseModel" ⟨"BondWarehouseModel", "duty", "(IIIZ)I"⟩ ⟨"BondWarehouseModel", "duty", "(IIIZ)I"⟩ ∈ TG := tgS (q := (⟨"BondWarehouseModel", "duty", "(IIIZ)I"⟩, 16)) (List.mem_of_getElem? (i := 94) rfl)
theorem kw_7_107 : (Jvm.Cond.methodLink "BondWarehouseModel" (59 : Nat) ({ cls := "BondWarehouseModel", name := "dutyPart", desc := "(II)I" } : Jvm.MethodName)) ∈ TG := tg_7 107 rfl rfl
theorem kw_7_110 : (Jvm.Cond.code ({ cls := "BondWarehouseModel", name := "dutyPart", desc := "(II)I" } : Jvm.MethodName) prog_12_method_16_code (3 : Nat) (Option.some Jvm.ClassFile.FieldType.int)) ∈ TG := tg_7 110 rfl rfl
theorem kw_7_109 : (Jvm.Cond.instanceMethod ({ cls := "BondWarehouseModel", name := "dutyPart", desc := "(II)I" } : Jvm.MethodName)) ∈ TG := tg_7 109 rfl rfl
theorem ks_91 : Cond.selects "BondWarehouseModel" ⟨"BondWarehouseModel", "dutyPart", "(II)I"⟩ ⟨"BondWarehouseModel", "dutyPart", "(II)I"⟩ ∈ TG := tgS (q := (⟨"BondWarehouseModel", "dutyPart", "(II)I"⟩, 16)) (List.mem_of_getElem? (i := 91) rfl)
theorem kw_7_103 : (Jvm.Cond.methodLink "BondWarehouseModel" (62 : Nat) ({ cls := "BondWarehouseModel", name := "dutyAll", desc := "(I)I" } : Jvm.MethodName)) ∈ TG := tg_7 103 rfl rfl
theorem kw_7_106 : (Jvm.Cond.code ({ cls := "BondWarehouseModel", name := "dutyAll", desc := "(I)I" } : Jvm.MethodName) prog_12_method_17_code (2 : Nat) (Option.some Jvm.ClassFile.FieldType.int)) ∈ TG := tg_7 106 rfl rfl
theorem kw_7_105 : (Jvm.Cond.instanceMethod ({ cls := "BondWarehouseModel", name := "dutyAll", desc := "(I)I" } : Jvm.MethodName)) ∈ TG := tg_7 105 rfl rfl
theorem ks_90 : Cond.selects "BondWarehouseModel" ⟨"BondWarehouseModel", "dutyAll", "(I)I"⟩ ⟨"BondWarehouseModel", "dutyAll", "(I)I"⟩ ∈ TG := tgS (q := (⟨"BondWarehouseModel", "dutyAll", "(I)I"⟩, 16)) (List.mem_of_getElem? (i := 90) rfl)
theorem kw_7_149 : (Jvm.Cond.methodLink "BondWarehouseModel" (66 : Nat) ({ cls := "BondWarehouseModel", name := "put", desc := "(III)V" } : Jvm.MethodName)) ∈ TG := tg_7 149 rfl rfl
theorem kw_7_152 : (Jvm.Cond.code ({ cls := "BondWarehouseModel", name := "put", desc := "(III)V" } : Jvm.MethodName) prog_12_method_9_code (4 : Nat) (Option.none : Option Jvm.ClassFile.FieldType)) ∈ TG := tg_7 152 rfl rfl
theorem kw_7_151 : (Jvm.Cond.instanceMethod ({ cls := "BondWarehouseModel", name := "put", desc := "(III)V" } : Jvm.MethodName)) ∈ TG := tg_7 151 rfl rfl
theorem ks_100 : Cond.selects "BondWarehouseModel" ⟨"BondWarehouseModel", "put", "(III)V"⟩ ⟨"BondWarehouseModel", "put", "(III)V"⟩ ∈ TG := tgS (q := (⟨"BondWarehouseModel", "put", "(III)V"⟩, 16)) (List.mem_of_getElem? (i := 100) rfl)
theorem kw_7_181 : (Jvm.Cond.methodLink "BondWarehouseModel" (70 : Nat) ({ cls := "BondWarehouseModel", name := "close", desc := "(I)V" } : Jvm.MethodName)) ∈ TG := tg_7 181 rfl rfl
theorem kw_7_184 : (Jvm.Cond.code ({ cls := "BondWarehouseModel", name := "close", desc := "(I)V" } : Jvm.MethodName) prog_12_method_21_code (3 : Nat) (Option.none : Option Jvm.ClassFile.FieldType)) ∈ TG := tg_7 184 rfl rfl
theorem kw_7_183 : (Jvm.Cond.instanceMethod ({ cls := "BondWarehouseModel", name := "close", desc := "(I)V" } : Jvm.MethodName)) ∈ TG := tg_7 183 rfl rfl
theorem ks_107 : Cond.selects "BondWarehouseModel" ⟨"BondWarehouseModel", "close", "(I)V"⟩ ⟨"BondWarehouseModel", "close", "(I)V"⟩ ∈ TG := tgS (q := (⟨"BondWarehouseModel", "close", "(I)V"⟩, 16)) (List.mem_of_getElem? (i := 107) rfl)
theorem kw_7_141 : (Jvm.Cond.methodLink "BondWarehouseModel" (74 : Nat) ({ cls := "BondWarehouseModel", name := "total", desc := "(III)V" } : Jvm.MethodName)) ∈ TG := tg_7 141 rfl rfl
theorem kw_7_144 : (Jvm.Cond.code ({ cls := "BondWarehouseModel", name := "total", desc := "(III)V" } : Jvm.MethodName) prog_12_method_23_code (4 : Nat) (Option.none : Option Jvm.ClassFile.FieldType)) ∈ TG := tg_7 144 rfl rfl
theorem kw_7_143 : (Jvm.Cond.instanceMethod ({ cls := "BondWarehouseModel", name := "total", desc := "(III)V" } : Jvm.MethodName)) ∈ TG := tg_7 143 rfl rfl
theorem ks_98 : Cond.selects "BondWarehouseModel" ⟨"BondWarehouseModel", "total", "(III)V"⟩ ⟨"BondWarehouseModel", "total", "(III)V"⟩ ∈ TG := tgS (q := (⟨"BondWarehouseModel", "total", "(III)V"⟩, 16)) (List.mem_of_getElem? (i := 98) rfl)
theorem kw_7_145 : (Jvm.Cond.methodLink "BondWarehouseModel" (77 : Nat) ({ cls := "BondWarehouseModel", name := "makes", desc := "(IIII)I" } : Jvm.MethodName)) ∈ TG := tg_7 145 rfl rfl
theorem kw_7_148 : (Jvm.Cond.code ({ cls := "BondWarehouseModel", name := "makes", desc := "(IIII)I" } : Jvm.MethodName) prog_12_method_24_code (6 : Nat) (Option.some Jvm.ClassFile.FieldType.int)) ∈ TG := tg_7 148 rfl rfl
theorem kw_7_147 : (Jvm.Cond.instanceMethod ({ cls := "BondWarehouseModel", name := "makes", desc := "(IIII)I" } : Jvm.MethodName)) ∈ TG := tg_7 147 rfl rfl
theorem ks_99 : Cond.selects "BondWarehouseModel" ⟨"BondWarehouseModel", "makes", "(IIII)I"⟩ ⟨"BondWarehouseModel", "makes", "(IIII)I"⟩ ∈ TG := tgS (q := (⟨"BondWarehouseModel", "makes", "(IIII)I"⟩, 16)) (List.mem_of_getElem? (i := 99) rfl)
theorem kw_7_173 : (Jvm.Cond.methodLink "BondWarehouseModel" (81 : Nat) ({ cls := "BondWarehouseModel", name := "files", desc := "(III)V" } : Jvm.MethodName)) ∈ TG := tg_7 173 rfl rfl
theorem kw_7_176 : (Jvm.Cond.code ({ cls := "BondWarehouseModel", name := "files", desc := "(III)V" } : Jvm.MethodName) prog_12_method_26_code (5 : Nat) (Option.none : Option Jvm.ClassFile.FieldType)) ∈ TG := tg_7 176 rfl rfl
theorem kw_7_175 : (Jvm.Cond.instanceMethod ({ cls := "BondWarehouseModel", name := "files", desc := "(III)V" } : Jvm.MethodName)) ∈ TG := tg_7 175 rfl rfl
theorem ks_105 : Cond.selects "BondWarehouseModel" ⟨"BondWarehouseModel", "files", "(III)V"⟩ ⟨"BondWarehouseModel", "files", "(III)V"⟩ ∈ TG := tgS (q := (⟨"BondWarehouseModel", "files", "(III)V"⟩, 16)) (List.mem_of_getElem? (i := 105) rfl)
theorem kw_7_177 : (Jvm.Cond.methodLink "BondWarehouseModel" (84 : Nat) ({ cls := "BondWarehouseModel", name := "goes", desc := "(II)V" } : Jvm.MethodName)) ∈ TG := tg_7 177 rfl rfl
theorem kw_7_180 : (Jvm.Cond.code ({ cls := "BondWarehouseModel", name := "goes", desc := "(II)V" } : Jvm.MethodName) prog_12_method_22_code (4 : Nat) (Option.none : Option Jvm.ClassFile.FieldType)) ∈ TG := tg_7 180 rfl rfl
theorem kw_7_179 : (Jvm.Cond.instanceMethod ({ cls := "BondWarehouseModel", name := "goes", desc := "(II)V" } : Jvm.MethodName)) ∈ TG := tg_7 179 rfl rfl
theorem ks_106 : Cond.selects "BondWarehouseModel" ⟨"BondWarehouseModel", "goes", "(II)V"⟩ ⟨"BondWarehouseModel", "goes", "(II)V"⟩ ∈ TG := tgS (q := (⟨"BondWarehouseModel", "goes", "(II)V"⟩, 16)) (List.mem_of_getElem? (i := 106) rfl)
theorem kw_7_213 : (Jvm.Cond.methodLink "BondWarehouseModel" (88 : Nat) ({ cls := "BondWarehouseModel", name := "partOf", desc := "(II)I" } : Jvm.MethodName)) ∈ TG := tg_7 213 rfl rfl
theorem kw_7_216 : (Jvm.Cond.code ({ cls := "BondWarehouseModel", name := "partOf", desc := "(II)I" } : Jvm.MethodName) prog_12_method_29_code (3 : Nat) (Option.some Jvm.ClassFile.FieldType.int)) ∈ TG := tg_7 216 rfl rfl
theorem kw_7_215 : (Jvm.Cond.instanceMethod ({ cls := "BondWarehouseModel", name := "partOf", desc := "(II)I" } : Jvm.MethodName)) ∈ TG := tg_7 215 rfl rfl
theorem ks_113 : Cond.selects "BondWarehouseModel" ⟨"BondWarehouseModel", "partOf", "(II)I"⟩ ⟨"BondWarehouseModel", "partOf", "(II)I"⟩ ∈ TG := tgS (q := (⟨"BondWarehouseModel", "partOf", "(II)I"⟩, 16)) (List.mem_of_getElem? (i := 113) rfl)
theorem kw_7_217 : (Jvm.Cond.methodLink "BondWarehouseModel" (91 : Nat) ({ cls := "BondWarehouseModel", name := "backOf", desc := "(II)I" } : Jvm.MethodName)) ∈ TG := tg_7 217 rfl rfl
theorem kw_7_220 : (Jvm.Cond.code ({ cls := "BondWarehouseModel", name := "backOf", desc := "(II)I" } : Jvm.MethodName) prog_12_method_30_code (3 : Nat) (Option.some Jvm.ClassFile.FieldType.int)) ∈ TG := tg_7 220 rfl rfl
theorem kw_7_219 : (Jvm.Cond.instanceMethod ({ cls := "BondWarehouseModel", name := "backOf", desc := "(II)I" } : Jvm.MethodName)) ∈ TG := tg_7 219 rfl rfl
theorem ks_114 : Cond.selects "BondWarehouseModel" ⟨"BondWarehouseModel", "backOf", "(II)I"⟩ ⟨"BondWarehouseModel", "backOf", "(II)I"⟩ ∈ TG := tgS (q := (⟨"BondWarehouseModel", "backOf", "(II)I"⟩, 16)) (List.mem_of_getElem? (i := 114) rfl)
theorem kw_7_91 : (Jvm.Cond.methodLink "BondWarehouseModel" (94 : Nat) ({ cls := "BondWarehouseModel", name := "room", desc := "(I)I" } : Jvm.MethodName)) ∈ TG := tg_7 91 rfl rfl
theorem kw_7_94 : (Jvm.Cond.code ({ cls := "BondWarehouseModel", name := "room", desc := "(I)I" } : Jvm.MethodName) prog_12_method_19_code (4 : Nat) (Option.some Jvm.ClassFile.FieldType.int)) ∈ TG := tg_7 94 rfl rfl
theorem kw_7_93 : (Jvm.Cond.instanceMethod ({ cls := "BondWarehouseModel", name := "room", desc := "(I)I" } : Jvm.MethodName)) ∈ TG := tg_7 93 rfl rfl
theorem ks_87 : Cond.selects "BondWarehouseModel" ⟨"BondWarehouseModel", "room", "(I)I"⟩ ⟨"BondWarehouseModel", "room", "(I)I"⟩ ∈ TG := tgS (q := (⟨"BondWarehouseModel", "room", "(I)I"⟩, 16)) (List.mem_of_getElem? (i := 87) rfl)
theorem kw_8_26 : (Jvm.Cond.methodLink "BondWarehouseModel" (97 : Nat) ({ cls := "BondWarehouseModel", name := "wasteRate", desc := "(I)I" } : Jvm.MethodName)) ∈ TG := tg_8 26 rfl rfl
theorem kw_8_28 : (Jvm.Cond.code ({ cls := "BondWarehouseModel", name := "wasteRate", desc := "(I)I" } : Jvm.MethodName) prog_12_method_11_code (1 : Nat) (Option.some Jvm.ClassFile.FieldType.int)) ∈ TG := tg_8 28 rfl rfl
theorem kw_8_27 : (Jvm.Cond.static ({ cls := "BondWarehouseModel", name := "wasteRate", desc := "(I)I" } : Jvm.MethodName)) ∈ TG := tg_8 27 rfl rfl
theorem kw_8_22 : (Jvm.Cond.methodLink "BondWarehouseModel" (100 : Nat) ({ cls := "BondWarehouseModel", name := "allowed", desc := "(I)I" } : Jvm.MethodName)) ∈ TG := tg_8 22 rfl rfl
theorem kw_8_25 : (Jvm.Cond.code ({ cls := "BondWarehouseModel", name := "allowed", desc := "(I)I" } : Jvm.MethodName) prog_12_method_33_code (3 : Nat) (Option.some Jvm.ClassFile.FieldType.int)) ∈ TG := tg_8 25 rfl rfl
theorem kw_8_24 : (Jvm.Cond.instanceMethod ({ cls := "BondWarehouseModel", name := "allowed", desc := "(I)I" } : Jvm.MethodName)) ∈ TG := tg_8 24 rfl rfl
theorem ks_121 : Cond.selects "BondWarehouseModel" ⟨"BondWarehouseModel", "allowed", "(I)I"⟩ ⟨"BondWarehouseModel", "allowed", "(I)I"⟩ ∈ TG := tgS (q := (⟨"BondWarehouseModel", "allowed", "(I)I"⟩, 16)) (List.mem_of_getElem? (i := 121) rfl)
theorem kw_8_18 : (Jvm.Cond.methodLink "BondWarehouseModel" (103 : Nat) ({ cls := "BondWarehouseModel", name := "lostBy", desc := "(II)I" } : Jvm.MethodName)) ∈ TG := tg_8 18 rfl rfl
theorem kw_8_21 : (Jvm.Cond.code ({ cls := "BondWarehouseModel", name := "lostBy", desc := "(II)I" } : Jvm.MethodName) prog_12_method_34_code (4 : Nat) (Option.some Jvm.ClassFile.FieldType.int)) ∈ TG := tg_8 21 rfl rfl
theorem kw_8_20 : (Jvm.Cond.instanceMethod ({ cls := "BondWarehouseModel", name := "lostBy", desc := "(II)I" } : Jvm.MethodName)) ∈ TG := tg_8 20 rfl rfl
theorem ks_120 : Cond.selects "BondWarehouseModel" ⟨"BondWarehouseModel", "lostBy", "(II)I"⟩ ⟨"BondWarehouseModel", "lostBy", "(II)I"⟩ ∈ TG := tgS (q := (⟨"BondWarehouseModel", "lostBy", "(II)I"⟩, 16)) (List.mem_of_getElem? (i := 120) rfl)
theorem kw_8_14 : (Jvm.Cond.methodLink "BondWarehouseModel" (106 : Nat) ({ cls := "BondWarehouseModel", name := "chargeBy", desc := "(II)I" } : Jvm.MethodName)) ∈ TG := tg_8 14 rfl rfl
theorem kw_8_17 : (Jvm.Cond.code ({ cls := "BondWarehouseModel", name := "chargeBy", desc := "(II)I" } : Jvm.MethodName) prog_12_method_35_code (5 : Nat) (Option.some Jvm.ClassFile.FieldType.int)) ∈ TG := tg_8 17 rfl rfl
theorem kw_8_16 : (Jvm.Cond.instanceMethod ({ cls := "BondWarehouseModel", name := "chargeBy", desc := "(II)I" } : Jvm.MethodName)) ∈ TG := tg_8 16 rfl rfl
theorem ks_119 : Cond.selects "BondWarehouseModel" ⟨"BondWarehouseModel", "chargeBy", "(II)I"⟩ ⟨"BondWarehouseModel", "chargeBy", "(II)I"⟩ ∈ TG := tgS (q := (⟨"BondWarehouseModel", "chargeBy", "(II)I"⟩, 16)) (List.mem_of_getElem? (i := 119) rfl)
theorem kw_8_65 : (Jvm.Cond.constant "BondWarehouseModel" (109 : Nat) (99999 : Int32)) ∈ TG := tg_8 65 rfl rfl
theorem kw_7_12 : (Jvm.Cond.fieldLink "BondWarehouseModel" (110 : Nat) "BondWarehouseModel" "states" "I") ∈ TG := tg_7 12 rfl rfl
theorem kw_7_11 : (Jvm.Cond.fieldLink "BondWarehouseModel" (16 : Nat) "BondWarehouseModel" "saved" "[I") ∈ TG := tg_7 11 rfl rfl
theorem kw_7_134 : (Jvm.Cond.methodLink "BondWarehouseModel" (113 : Nat) ({ cls := "BondWarehouseModel", name := "copyState", desc := "([II[II)V" } : Jvm.MethodName)) ∈ TG := tg_7 134 rfl rfl
theorem kw_7_136 : (Jvm.Cond.code ({ cls := "BondWarehouseModel", name := "copyState", desc := "([II[II)V" } : Jvm.MethodName) prog_12_method_5_code (5 : Nat) (Option.none : Option Jvm.ClassFile.FieldType)) ∈ TG := tg_7 136 rfl rfl
theorem kw_7_135 : (Jvm.Cond.static ({ cls := "BondWarehouseModel", name := "copyState", desc := "([II[II)V" } : Jvm.MethodName)) ∈ TG := tg_7 135 rfl rfl
theorem kw_7_87 : (Jvm.Cond.methodLink "BondWarehouseModel" (117 : Nat) ({ cls := "BondWarehouseModel", name := "isShut", desc := "(I)Z" } : Jvm.MethodName)) ∈ TG := tg_7 87 rfl rfl
theorem kw_7_90 : (Jvm.Cond.code ({ cls := "BondWarehouseModel", name := "isShut", desc := "(I)Z" } : Jvm.MethodName) prog_12_method_20_code (2 : Nat) (Option.some Jvm.ClassFile.FieldType.boolean)) ∈ TG := tg_7 90 rfl rfl
theorem kw_7_89 : (Jvm.Cond.instanceMethod ({ cls := "BondWarehouseModel", name := "isShut", desc := "(I)Z" } : Jvm.MethodName)) ∈ TG := tg_7 89 rfl rfl
theorem ks_86 : Cond.selects "BondWarehouseModel" ⟨"BondWarehouseModel", "isShut", "(I)Z"⟩ ⟨"BondWarehouseModel", "isShut", "(I)Z"⟩ ∈ TG := tgS (q := (⟨"BondWarehouseModel", "isShut", "(I)Z"⟩, 16)) (List.mem_of_getElem? (i := 86) rfl)
theorem kw_7_99 : (Jvm.Cond.methodLink "BondWarehouseModel" (120 : Nat) ({ cls := "BondWarehouseModel", name := "stake", desc := "()I" } : Jvm.MethodName)) ∈ TG := tg_7 99 rfl rfl
theorem kw_7_102 : (Jvm.Cond.code ({ cls := "BondWarehouseModel", name := "stake", desc := "()I" } : Jvm.MethodName) prog_12_method_18_code (3 : Nat) (Option.some Jvm.ClassFile.FieldType.int)) ∈ TG := tg_7 102 rfl rfl
theorem kw_7_101 : (Jvm.Cond.instanceMethod ({ cls := "BondWarehouseModel", name := "stake", desc := "()I" } : Jvm.MethodName)) ∈ TG := tg_7 101 rfl rfl
theorem ks_89 : Cond.selects "BondWarehouseModel" ⟨"BondWarehouseModel", "stake", "()I"⟩ ⟨"BondWarehouseModel", "stake", "()I"⟩ ∈ TG := tgS (q := (⟨"BondWarehouseModel", "stake", "()I"⟩, 16)) (List.mem_of_getElem? (i := 89) rfl)
theorem kw_7_165 : (Jvm.Cond.methodLink "BondWarehouseModel" (124 : Nat) ({ cls := "BondWarehouseModel", name := "noLeaving", desc := "(II)I" } : Jvm.MethodName)) ∈ TG := tg_7 165 rfl rfl
theorem kw_7_168 : (Jvm.Cond.code ({ cls := "BondWarehouseModel", name := "noLeaving", desc := "(II)I" } : Jvm.MethodName) prog_12_method_45_code (3 : Nat) (Option.some Jvm.ClassFile.FieldType.int)) ∈ TG := tg_7 168 rfl rfl
theorem kw_7_167 : (Jvm.Cond.instanceMethod ({ cls := "BondWarehouseModel", name := "noLeaving", desc := "(II)I" } : Jvm.MethodName)) ∈ TG := tg_7 167 rfl rfl
theorem ks_103 : Cond.selects "BondWarehouseModel" ⟨"BondWarehouseModel", "noLeaving", "(II)I"⟩ ⟨"BondWarehouseModel", "noLeaving", "(II)I"⟩ ∈ TG := tgS (q := (⟨"BondWarehouseModel", "noLeaving", "(II)I"⟩, 16)) (List.mem_of_getElem? (i := 103) rfl)
theorem kw_7_77 : (Jvm.Cond.constantLong "BondWarehouseModel" (127 : Nat) (999 : Int64)) ∈ TG := tg_7 77 rfl rfl
theorem kw_7_67 : (Jvm.Cond.methodLink "BondWarehouseModel" (129 : Nat) ({ cls := "BondWarehouseModel", name := "isKind", desc := "(I)Z" } : Jvm.MethodName)) ∈ TG := tg_7 67 rfl rfl
theorem kw_7_69 : (Jvm.Cond.code ({ cls := "BondWarehouseModel", name := "isKind", desc := "(I)Z" } : Jvm.MethodName) prog_12_method_6_code (1 : Nat) (Option.some Jvm.ClassFile.FieldType.boolean)) ∈ TG := tg_7 69 rfl rfl
theorem kw_7_68 : (Jvm.Cond.static ({ cls := "BondWarehouseModel", name := "isKind", desc := "(I)Z" } : Jvm.MethodName)) ∈ TG := tg_7 68 rfl rfl
theorem kw_7_74 : (Jvm.Cond.methodLink "BondWarehouseModel" (132 : Nat) ({ cls := "BondWarehouseModel", name := "isWeight", desc := "(I)Z" } : Jvm.MethodName)) ∈ TG := tg_7 74 rfl rfl
theorem kw_7_76 : (Jvm.Cond.code ({ cls := "BondWarehouseModel", name := "isWeight", desc := "(I)Z" } : Jvm.MethodName) prog_12_method_50_code (1 : Nat) (Option.some Jvm.ClassFile.FieldType.boolean)) ∈ TG := tg_7 76 rfl rfl
theorem kw_7_75 : (Jvm.Cond.static ({ cls := "BondWarehouseModel", name := "isWeight", desc := "(I)Z" } : Jvm.MethodName)) ∈ TG := tg_7 75 rfl rfl
theorem kw_7_78 : (Jvm.Cond.constantLong "BondWarehouseModel" (135 : Nat) (9999 : Int64)) ∈ TG := tg_7 78 rfl rfl
theorem kw_7_79 : (Jvm.Cond.methodLink "BondWarehouseModel" (137 : Nat) ({ cls := "BondWarehouseModel", name := "isChamber", desc := "(I)Z" } : Jvm.MethodName)) ∈ TG := tg_7 79 rfl rfl
theorem kw_7_81 : (Jvm.Cond.code ({ cls := "BondWarehouseModel", name := "isChamber", desc := "(I)Z" } : Jvm.MethodName) prog_12_method_7_code (1 : Nat) (Option.some Jvm.ClassFile.FieldType.boolean)) ∈ TG := tg_7 81 rfl rfl
theorem kw_7_80 : (Jvm.Cond.static ({ cls := "BondWarehouseModel", name := "isChamber", desc := "(I)Z" } : Jvm.MethodName)) ∈ TG := tg_7 80 rfl rfl
theorem kw_7_64 : (Jvm.Cond.methodLink "BondWarehouseModel" (140 : Nat) ({ cls := "BondWarehouseModel", name := "isNew", desc := "(IIII)Z" } : Jvm.MethodName)) ∈ TG := tg_7 64 rfl rfl
theorem kw_7_66 : (Jvm.Cond.code ({ cls := "BondWarehouseModel", name := "isNew", desc := "(IIII)Z" } : Jvm.MethodName) prog_12_method_51_code (4 : Nat) (Option.some Jvm.ClassFile.FieldType.boolean)) ∈ TG := tg_7 66 rfl rfl
theorem kw_7_65 : (Jvm.Cond.static ({ cls := "BondWarehouseModel", name := "isNew", desc := "(IIII)Z" } : Jvm.MethodName)) ∈ TG := tg_7 65 rfl rfl
theorem kw_7_83 : (Jvm.Cond.methodLink "BondWarehouseModel" (144 : Nat) ({ cls := "BondWarehouseModel", name := "noEntry", desc := "(IIII)I" } : Jvm.MethodName)) ∈ TG := tg_7 83 rfl rfl
theorem kw_7_86 : (Jvm.Cond.code ({ cls := "BondWarehouseModel", name := "noEntry", desc := "(IIII)I" } : Jvm.MethodName) prog_12_method_44_code (5 : Nat) (Option.some Jvm.ClassFile.FieldType.int)) ∈ TG := tg_7 86 rfl rfl
theorem kw_7_85 : (Jvm.Cond.instanceMethod ({ cls := "BondWarehouseModel", name := "noEntry", desc := "(IIII)I" } : Jvm.MethodName)) ∈ TG := tg_7 85 rfl rfl
theorem ks_85 : Cond.selects "BondWarehouseModel" ⟨"BondWarehouseModel", "noEntry", "(IIII)I"⟩ ⟨"BondWarehouseModel", "noEntry", "(IIII)I"⟩ ∈ TG := tgS (q := (⟨"BondWarehouseModel", "noEntry", "(IIII)I"⟩, 16)) (List.mem_of_getElem? (i := 85) rfl)
theorem kw_7_126 : (Jvm.Cond.methodLink "BondWarehouseModel" (147 : Nat) ({ cls := "BondWarehouseModel", name := "refused", desc := "(I)Z" } : Jvm.MethodName)) ∈ TG := tg_7 126 rfl rfl
theorem kw_7_129 : (Jvm.Cond.code ({ cls := "BondWarehouseModel", name := "refused", desc := "(I)Z" } : Jvm.MethodName) prog_12_method_3_code (2 : Nat) (Option.some Jvm.ClassFile.FieldType.boolean)) ∈ TG := tg_7 129 rfl rfl
theorem kw_7_128 : (Jvm.Cond.instanceMethod ({ cls := "BondWarehouseModel", name := "refused", desc := "(I)Z" } : Jvm.MethodName)) ∈ TG := tg_7 128 rfl rfl
theorem ks_95 : Cond.selects "BondWarehouseModel" ⟨"BondWarehouseModel", "refused", "(I)Z"⟩ ⟨"BondWarehouseModel", "refused", "(I)Z"⟩ ∈ TG := tgS (q := (⟨"BondWarehouseModel", "refused", "(I)Z"⟩, 16)) (List.mem_of_getElem? (i := 95) rfl)
theorem kw_7_130 : (Jvm.Cond.methodLink "BondWarehouseModel" (150 : Nat) ({ cls := "BondWarehouseModel", name := "saves", desc := "()V" } : Jvm.MethodName)) ∈ TG := tg_7 130 rfl rfl
theorem kw_7_133 : (Jvm.Cond.code ({ cls := "BondWarehouseModel", name := "saves", desc := "()V" } : Jvm.MethodName) prog_12_method_43_code (2 : Nat) (Option.none : Option Jvm.ClassFile.FieldType)) ∈ TG := tg_7 133 rfl rfl
theorem kw_7_132 : (Jvm.Cond.instanceMethod ({ cls := "BondWarehouseModel", name := "saves", desc := "()V" } : Jvm.MethodName)) ∈ TG := tg_7 132 rfl rfl
theorem ks_96 : Cond.selects "BondWarehouseModel" ⟨"BondWarehouseModel", "saves", "()V"⟩ ⟨"BondWarehouseModel", "saves", "()V"⟩ ∈ TG := tgS (q := (⟨"BondWarehouseModel", "saves", "()V"⟩, 16)) (List.mem_of_getElem? (i := 96) rfl)
theorem kw_7_137 : (Jvm.Cond.methodLink "BondWarehouseModel" (153 : Nat) ({ cls := "BondWarehouseModel", name := "enterOn", desc := "(IIII)I" } : Jvm.MethodName)) ∈ TG := tg_7 137 rfl rfl
theorem kw_7_140 : (Jvm.Cond.code ({ cls := "BondWarehouseModel", name := "enterOn", desc := "(IIII)I" } : Jvm.MethodName) prog_12_method_25_code (5 : Nat) (Option.some Jvm.ClassFile.FieldType.int)) ∈ TG := tg_7 140 rfl rfl
theorem kw_7_139 : (Jvm.Cond.instanceMethod ({ cls := "BondWarehouseModel", name := "enterOn", desc := "(IIII)I" } : Jvm.MethodName)) ∈ TG := tg_7 139 rfl rfl
theorem ks_97 : Cond.selects "BondWarehouseModel" ⟨"BondWarehouseModel", "enterOn", "(IIII)I"⟩ ⟨"BondWarehouseModel", "enterOn", "(IIII)I"⟩ ∈ TG := tgS (q := (⟨"BondWarehouseModel", "enterOn", "(IIII)I"⟩, 16)) (List.mem_of_getElem? (i := 97) rfl)
theorem kw_7_157 : (Jvm.Cond.methodLink "BondWarehouseModel" (156 : Nat) ({ cls := "BondWarehouseModel", name := "find", desc := "(I)I" } : Jvm.MethodName)) ∈ TG := tg_7 157 rfl rfl
theorem kw_7_160 : (Jvm.Cond.code ({ cls := "BondWarehouseModel", name := "find", desc := "(I)I" } : Jvm.MethodName) prog_12_method_10_code (3 : Nat) (Option.some Jvm.ClassFile.FieldType.int)) ∈ TG := tg_7 160 rfl rfl
theorem kw_7_159 : (Jvm.Cond.instanceMethod ({ cls := "BondWarehouseModel", name := "find", desc := "(I)I" } : Jvm.MethodName)) ∈ TG := tg_7 159 rfl rfl
theorem ks_101 : Cond.selects "BondWarehouseModel" ⟨"BondWarehouseModel", "find", "(I)I"⟩ ⟨"BondWarehouseModel", "find", "(I)I"⟩ ∈ TG := tgS (q := (⟨"BondWarehouseModel", "find", "(I)I"⟩, 16)) (List.mem_of_getElem? (i := 101) rfl)
theorem kw_7_161 : (Jvm.Cond.methodLink "BondWarehouseModel" (159 : Nat) ({ cls := "BondWarehouseModel", name := "noWithdrawal", desc := "(II)I" } : Jvm.MethodName)) ∈ TG := tg_7 161 rfl rfl
theorem kw_7_164 : (Jvm.Cond.code ({ cls := "BondWarehouseModel", name := "noWithdrawal", desc := "(II)I" } : Jvm.MethodName) prog_12_method_46_code (4 : Nat) (Option.some Jvm.ClassFile.FieldType.int)) ∈ TG := tg_7 164 rfl rfl
theorem kw_7_163 : (Jvm.Cond.instanceMethod ({ cls := "BondWarehouseModel", name := "noWithdrawal", desc := "(II)I" } : Jvm.MethodName)) ∈ TG := tg_7 163 rfl rfl
theorem ks_102 : Cond.selects "BondWarehouseModel" ⟨"BondWarehouseModel", "noWithdrawal", "(II)I"⟩ ⟨"BondWarehouseModel", "noWithdrawal", "(II)I"⟩ ∈ TG := tgS (q := (⟨"BondWarehouseModel", "noWithdrawal", "(II)I"⟩, 16)) (List.mem_of_getElem? (i := 102) rfl)
theorem kw_7_169 : (Jvm.Cond.methodLink "BondWarehouseModel" (162 : Nat) ({ cls := "BondWarehouseModel", name := "withdrawOn", desc := "(II)I" } : Jvm.MethodName)) ∈ TG := tg_7 169 rfl rfl
theorem kw_7_172 : (Jvm.Cond.code ({ cls := "BondWarehouseModel", name := "withdrawOn", desc := "(II)I" } : Jvm.MethodName) prog_12_method_27_code (4 : Nat) (Option.some Jvm.ClassFile.FieldType.int)) ∈ TG := tg_7 172 rfl rfl
theorem kw_7_171 : (Jvm.Cond.instanceMethod ({ cls := "BondWarehouseModel", name := "withdrawOn", desc := "(II)I" } : Jvm.MethodName)) ∈ TG := tg_7 171 rfl rfl
theorem ks_104 : Cond.selects "BondWarehouseModel" ⟨"BondWarehouseModel", "withdrawOn", "(II)I"⟩ ⟨"BondWarehouseModel", "withdrawOn", "(II)I"⟩ ∈ TG := tgS (q := (⟨"BondWarehouseModel", "withdrawOn", "(II)I"⟩, 16)) (List.mem_of_getElem? (i := 104) rfl)
theorem kw_7_189 : (Jvm.Cond.methodLink "BondWarehouseModel" (165 : Nat) ({ cls := "BondWarehouseModel", name := "noExport", desc := "(II)I" } : Jvm.MethodName)) ∈ TG := tg_7 189 rfl rfl
theorem kw_7_192 : (Jvm.Cond.code ({ cls := "BondWarehouseModel", name := "noExport", desc := "(II)I" } : Jvm.MethodName) prog_12_method_47_code (4 : Nat) (Option.some Jvm.ClassFile.FieldType.int)) ∈ TG := tg_7 192 rfl rfl
theorem kw_7_191 : (Jvm.Cond.instanceMethod ({ cls := "BondWarehouseModel", name := "noExport", desc := "(II)I" } : Jvm.MethodName)) ∈ TG := tg_7 191 rfl rfl
theorem ks_108 : Cond.selects "BondWarehouseModel" ⟨"BondWarehouseModel", "noExport", "(II)I"⟩ ⟨"BondWarehouseModel", "noExport", "(II)I"⟩ ∈ TG := tgS (q := (⟨"BondWarehouseModel", "noExport", "(II)I"⟩, 16)) (List.mem_of_getElem? (i := 108) rfl)
theorem kw_7_193 : (Jvm.Cond.methodLink "BondWarehouseModel" (168 : Nat) ({ cls := "BondWarehouseModel", name := "sendOn", desc := "(II)I" } : Jvm.MethodName)) ∈ TG := tg_7 193 rfl rfl
theorem kw_7_196 : (Jvm.Cond.code ({ cls := "BondWarehouseModel", name := "sendOn", desc := "(II)I" } : Jvm.MethodName) prog_12_method_28_code (4 : Nat) (Option.some Jvm.ClassFile.FieldType.int)) ∈ TG := tg_7 196 rfl rfl
theorem kw_7_195 : (Jvm.Cond.instanceMethod ({ cls := "BondWarehouseModel", name := "sendOn", desc := "(II)I" } : Jvm.MethodName)) ∈ TG := tg_7 195 rfl rfl
theorem ks_109 : Cond.selects "BondWarehouseModel" ⟨"BondWarehouseModel", "sendOn", "(II)I"⟩ ⟨"BondWarehouseModel", "sendOn", "(II)I"⟩ ∈ TG := tgS (q := (⟨"BondWarehouseModel", "sendOn", "(II)I"⟩, 16)) (List.mem_of_getElem? (i := 109) rfl)
theorem kw_7_201 : (Jvm.Cond.methodLink "BondWarehouseModel" (171 : Nat) ({ cls := "BondWarehouseModel", name := "isPaper", desc := "(I)Z" } : Jvm.MethodName)) ∈ TG := tg_7 201 rfl rfl
theorem kw_7_204 : (Jvm.Cond.code ({ cls := "BondWarehouseModel", name := "isPaper", desc := "(I)Z" } : Jvm.MethodName) prog_12_method_55_code (2 : Nat) (Option.some Jvm.ClassFile.FieldType.boolean)) ∈ TG := tg_7 204 rfl rfl
theorem kw_7_203 : (Jvm.Cond.instanceMethod ({ cls := "BondWarehouseModel", name := "isPaper", desc := "(I)Z" } : Jvm.MethodName)) ∈ TG := tg_7 203 rfl rfl
theorem ks_110 : Cond.selects "BondWarehouseModel" ⟨"BondWarehouseModel", "isPaper", "(I)Z"⟩ ⟨"BondWarehouseModel", "isPaper", "(I)Z"⟩ ∈ TG := tgS (q := (⟨"BondWarehouseModel", "isPaper", "(I)Z"⟩, 16)) (List.mem_of_getElem? (i := 110) rfl)
theorem kw_7_205 : (Jvm.Cond.methodLink "BondWarehouseModel" (174 : Nat) ({ cls := "BondWarehouseModel", name := "noDrawback", desc := "(II)I" } : Jvm.MethodName)) ∈ TG := tg_7 205 rfl rfl
theorem kw_7_208 : (Jvm.Cond.code ({ cls := "BondWarehouseModel", name := "noDrawback", desc := "(II)I" } : Jvm.MethodName) prog_12_method_49_code (3 : Nat) (Option.some Jvm.ClassFile.FieldType.int)) ∈ TG := tg_7 208 rfl rfl
theorem kw_7_207 : (Jvm.Cond.instanceMethod ({ cls := "BondWarehouseModel", name := "noDrawback", desc := "(II)I" } : Jvm.MethodName)) ∈ TG := tg_7 207 rfl rfl
theorem ks_111 : Cond.selects "BondWarehouseModel" ⟨"BondWarehouseModel", "noDrawback", "(II)I"⟩ ⟨"BondWarehouseModel", "noDrawback", "(II)I"⟩ ∈ TG := tgS (q := (⟨"BondWarehouseModel", "noDrawback", "(II)I"⟩, 16)) (List.mem_of_getElem? (i := 111) rfl)
theorem kw_7_209 : (Jvm.Cond.methodLink "BondWarehouseModel" (177 : Nat) ({ cls := "BondWarehouseModel", name := "drawOn", desc := "(II)I" } : Jvm.MethodName)) ∈ TG := tg_7 209 rfl rfl
theorem kw_7_212 : (Jvm.Cond.code ({ cls := "BondWarehouseModel", name := "drawOn", desc := "(II)I" } : Jvm.MethodName) prog_12_method_31_code (5 : Nat) (Option.some Jvm.ClassFile.FieldType.int)) ∈ TG := tg_7 212 rfl rfl
theorem kw_7_211 : (Jvm.Cond.instanceMethod ({ cls := "BondWarehouseModel", name := "drawOn", desc := "(II)I" } : Jvm.MethodName)) ∈ TG := tg_7 211 rfl rfl
theorem ks_112 : Cond.selects "BondWarehouseModel" ⟨"BondWarehouseModel", "drawOn", "(II)I"⟩ ⟨"BondWarehouseModel", "drawOn", "(II)I"⟩ ∈ TG := tgS (q := (⟨"BondWarehouseModel", "drawOn", "(II)I"⟩, 16)) (List.mem_of_getElem? (i := 112) rfl)
theorem kw_7_225 : (Jvm.Cond.methodLink "BondWarehouseModel" (180 : Nat) ({ cls := "BondWarehouseModel", name := "noMove", desc := "(II)I" } : Jvm.MethodName)) ∈ TG := tg_7 225 rfl rfl
theorem kw_7_228 : (Jvm.Cond.code ({ cls := "BondWarehouseModel", name := "noMove", desc := "(II)I" } : Jvm.MethodName) prog_12_method_48_code (3 : Nat) (Option.some Jvm.ClassFile.FieldType.int)) ∈ TG := tg_7 228 rfl rfl
theorem kw_7_227 : (Jvm.Cond.instanceMethod ({ cls := "BondWarehouseModel", name := "noMove", desc := "(II)I" } : Jvm.MethodName)) ∈ TG := tg_7 227 rfl rfl
theorem ks_115 : Cond.selects "BondWarehouseModel" ⟨"BondWarehouseModel", "noMove", "(II)I"⟩ ⟨"BondWarehouseModel", "noMove", "(II)I"⟩ ∈ TG := tgS (q := (⟨"BondWarehouseModel", "noMove", "(II)I"⟩, 16)) (List.mem_of_getElem? (i := 115) rfl)
theorem kw_7_229 : (Jvm.Cond.methodLink "BondWarehouseModel" (183 : Nat) ({ cls := "BondWarehouseModel", name := "moveOn", desc := "(II)I" } : Jvm.MethodName)) ∈ TG := tg_7 229 rfl rfl
theorem kw_7_232 : (Jvm.Cond.code ({ cls := "BondWarehouseModel", name := "moveOn", desc := "(II)I" } : Jvm.MethodName) prog_12_method_32_code (3 : Nat) (Option.some Jvm.ClassFile.FieldType.int)) ∈ TG := tg_7 232 rfl rfl
theorem kw_7_231 : (Jvm.Cond.instanceMethod ({ cls := "BondWarehouseModel", name := "moveOn", desc := "(II)I" } : Jvm.MethodName)) ∈ TG := tg_7 231 rfl rfl
theorem ks_116 : Cond.selects "BondWarehouseModel" ⟨"BondWarehouseModel", "moveOn", "(II)I"⟩ ⟨"BondWarehouseModel", "moveOn", "(II)I"⟩ ∈ TG := tgS (q := (⟨"BondWarehouseModel", "moveOn", "(II)I"⟩, 16)) (List.mem_of_getElem? (i := 116) rfl)
theorem kw_7_237 : (Jvm.Cond.constantLong "BondWarehouseModel" (186 : Nat) (998 : Int64)) ∈ TG := tg_7 237 rfl rfl
theorem kw_8_2 : (Jvm.Cond.methodLink "BondWarehouseModel" (188 : Nat) ({ cls := "BondWarehouseModel", name := "canMerge", desc := "(II)Z" } : Jvm.MethodName)) ∈ TG := tg_8 2 rfl rfl
theorem kw_8_5 : (Jvm.Cond.code ({ cls := "BondWarehouseModel", name := "canMerge", desc := "(II)Z" } : Jvm.MethodName) prog_12_method_59_code (3 : Nat) (Option.some Jvm.ClassFile.FieldType.boolean)) ∈ TG := tg_8 5 rfl rfl
theorem kw_8_4 : (Jvm.Cond.instanceMethod ({ cls := "BondWarehouseModel", name := "canMerge", desc := "(II)Z" } : Jvm.MethodName)) ∈ TG := tg_8 4 rfl rfl
theorem ks_117 : Cond.selects "BondWarehouseModel" ⟨"BondWarehouseModel", "canMerge", "(II)Z"⟩ ⟨"BondWarehouseModel", "canMerge", "(II)Z"⟩ ∈ TG := tgS (q := (⟨"BondWarehouseModel", "canMerge", "(II)Z"⟩, 16)) (List.mem_of_getElem? (i := 117) rfl)
theorem kw_8_10 : (Jvm.Cond.methodLink "BondWarehouseModel" (192 : Nat) ({ cls := "BondWarehouseModel", name := "weighOn", desc := "(II)I" } : Jvm.MethodName)) ∈ TG := tg_8 10 rfl rfl
theorem kw_8_13 : (Jvm.Cond.code ({ cls := "BondWarehouseModel", name := "weighOn", desc := "(II)I" } : Jvm.MethodName) prog_12_method_36_code (7 : Nat) (Option.some Jvm.ClassFile.FieldType.int)) ∈ TG := tg_8 13 rfl rfl
theorem kw_8_12 : (Jvm.Cond.instanceMethod ({ cls := "BondWarehouseModel", name := "weighOn", desc := "(II)I" } : Jvm.MethodName)) ∈ TG := tg_8 12 rfl rfl
theorem ks_118 : Cond.selects "BondWarehouseModel" ⟨"BondWarehouseModel", "weighOn", "(II)I"⟩ ⟨"BondWarehouseModel", "weighOn", "(II)I"⟩ ∈ TG := tgS (q := (⟨"BondWarehouseModel", "weighOn", "(II)I"⟩, 16)) (List.mem_of_getElem? (i := 118) rfl)
theorem kw_8_33 : (Jvm.Cond.methodLink "BondWarehouseModel" (195 : Nat) ({ cls := "BondWarehouseModel", name := "lockOn", desc := "(I)I" } : Jvm.MethodName)) ∈ TG := tg_8 33 rfl rfl
theorem kw_8_36 : (Jvm.Cond.code ({ cls := "BondWarehouseModel", name := "lockOn", desc := "(I)I" } : Jvm.MethodName) prog_12_method_37_code (2 : Nat) (Option.some Jvm.ClassFile.FieldType.int)) ∈ TG := tg_8 36 rfl rfl
theorem kw_8_35 : (Jvm.Cond.instanceMethod ({ cls := "BondWarehouseModel", name := "lockOn", desc := "(I)I" } : Jvm.MethodName)) ∈ TG := tg_8 35 rfl rfl
theorem ks_122 : Cond.selects "BondWarehouseModel" ⟨"BondWarehouseModel", "lockOn", "(I)I"⟩ ⟨"BondWarehouseModel", "lockOn", "(I)I"⟩ ∈ TG := tgS (q := (⟨"BondWarehouseModel", "lockOn", "(I)I"⟩, 16)) (List.mem_of_getElem? (i := 122) rfl)
theorem kw_8_41 : (Jvm.Cond.methodLink "BondWarehouseModel" (198 : Nat) ({ cls := "BondWarehouseModel", name := "openOn", desc := "(I)I" } : Jvm.MethodName)) ∈ TG := tg_8 41 rfl rfl
theorem kw_8_44 : (Jvm.Cond.code ({ cls := "BondWarehouseModel", name := "openOn", desc := "(I)I" } : Jvm.MethodName) prog_12_method_38_code (5 : Nat) (Option.some Jvm.ClassFile.FieldType.int)) ∈ TG := tg_8 44 rfl rfl
theorem kw_8_43 : (Jvm.Cond.instanceMethod ({ cls := "BondWarehouseModel", name := "openOn", desc := "(I)I" } : Jvm.MethodName)) ∈ TG := tg_8 43 rfl rfl
theorem ks_123 : Cond.selects "BondWarehouseModel" ⟨"BondWarehouseModel", "openOn", "(I)I"⟩ ⟨"BondWarehouseModel", "openOn", "(I)I"⟩ ∈ TG := tgS (q := (⟨"BondWarehouseModel", "openOn", "(I)I"⟩, 16)) (List.mem_of_getElem? (i := 123) rfl)
theorem kw_8_49 : (Jvm.Cond.methodLink "BondWarehouseModel" (201 : Nat) ({ cls := "BondWarehouseModel", name := "canBreak", desc := "(I)Z" } : Jvm.MethodName)) ∈ TG := tg_8 49 rfl rfl
theorem kw_8_52 : (Jvm.Cond.code ({ cls := "BondWarehouseModel", name := "canBreak", desc := "(I)Z" } : Jvm.MethodName) prog_12_method_64_code (2 : Nat) (Option.some Jvm.ClassFile.FieldType.boolean)) ∈ TG := tg_8 52 rfl rfl
theorem kw_8_51 : (Jvm.Cond.instanceMethod ({ cls := "BondWarehouseModel", name := "canBreak", desc := "(I)Z" } : Jvm.MethodName)) ∈ TG := tg_8 51 rfl rfl
theorem ks_124 : Cond.selects "BondWarehouseModel" ⟨"BondWarehouseModel", "canBreak", "(I)Z"⟩ ⟨"BondWarehouseModel", "canBreak", "(I)Z"⟩ ∈ TG := tgS (q := (⟨"BondWarehouseModel", "canBreak", "(I)Z"⟩, 16)) (List.mem_of_getElem? (i := 124) rfl)
theorem kw_8_53 : (Jvm.Cond.methodLink "BondWarehouseModel" (204 : Nat) ({ cls := "BondWarehouseModel", name := "breakOn", desc := "(I)I" } : Jvm.MethodName)) ∈ TG := tg_8 53 rfl rfl
theorem kw_8_56 : (Jvm.Cond.code ({ cls := "BondWarehouseModel", name := "breakOn", desc := "(I)I" } : Jvm.MethodName) prog_12_method_39_code (2 : Nat) (Option.some Jvm.ClassFile.FieldType.int)) ∈ TG := tg_8 56 rfl rfl
theorem kw_8_55 : (Jvm.Cond.instanceMethod ({ cls := "BondWarehouseModel", name := "breakOn", desc := "(I)I" } : Jvm.MethodName)) ∈ TG := tg_8 55 rfl rfl
theorem ks_125 : Cond.selects "BondWarehouseModel" ⟨"BondWarehouseModel", "breakOn", "(I)I"⟩ ⟨"BondWarehouseModel", "breakOn", "(I)I"⟩ ∈ TG := tgS (q := (⟨"BondWarehouseModel", "breakOn", "(I)I"⟩, 16)) (List.mem_of_getElem? (i := 125) rfl)
theorem kw_8_61 : (Jvm.Cond.methodLink "BondWarehouseModel" (207 : Nat) ({ cls := "BondWarehouseModel", name := "canPay", desc := "(I)Z" } : Jvm.MethodName)) ∈ TG := tg_8 61 rfl rfl
theorem kw_8_64 : (Jvm.Cond.code ({ cls := "BondWarehouseModel", name := "canPay", desc := "(I)Z" } : Jvm.MethodName) prog_12_method_40_code (3 : Nat) (Option.some Jvm.ClassFile.FieldType.boolean)) ∈ TG := tg_8 64 rfl rfl
theorem kw_8_63 : (Jvm.Cond.instanceMethod ({ cls := "BondWarehouseModel", name := "canPay", desc := "(I)Z" } : Jvm.MethodName)) ∈ TG := tg_8 63 rfl rfl
theorem ks_126 : Cond.selects "BondWarehouseModel" ⟨"BondWarehouseModel", "canPay", "(I)Z"⟩ ⟨"BondWarehouseModel", "canPay", "(I)Z"⟩ ∈ TG := tgS (q := (⟨"BondWarehouseModel", "canPay", "(I)Z"⟩, 16)) (List.mem_of_getElem? (i := 126) rfl)
theorem kw_8_66 : (Jvm.Cond.methodLink "BondWarehouseModel" (210 : Nat) ({ cls := "BondWarehouseModel", name := "payOn", desc := "(I)I" } : Jvm.MethodName)) ∈ TG := tg_8 66 rfl rfl
theorem kw_8_69 : (Jvm.Cond.code ({ cls := "BondWarehouseModel", name := "payOn", desc := "(I)I" } : Jvm.MethodName) prog_12_method_41_code (3 : Nat) (Option.some Jvm.ClassFile.FieldType.int)) ∈ TG := tg_8 69 rfl rfl
theorem kw_8_68 : (Jvm.Cond.instanceMethod ({ cls := "BondWarehouseModel", name := "payOn", desc := "(I)I" } : Jvm.MethodName)) ∈ TG := tg_8 68 rfl rfl
theorem ks_127 : Cond.selects "BondWarehouseModel" ⟨"BondWarehouseModel", "payOn", "(I)I"⟩ ⟨"BondWarehouseModel", "payOn", "(I)I"⟩ ∈ TG := tgS (q := (⟨"BondWarehouseModel", "payOn", "(I)I"⟩, 16)) (List.mem_of_getElem? (i := 127) rfl)
theorem kw_8_74 : (Jvm.Cond.constantLong "BondWarehouseModel" (213 : Nat) (50000 : Int64)) ∈ TG := tg_8 74 rfl rfl
theorem kw_8_75 : (Jvm.Cond.methodLink "BondWarehouseModel" (215 : Nat) ({ cls := "BondWarehouseModel", name := "set", desc := "(II)I" } : Jvm.MethodName)) ∈ TG := tg_8 75 rfl rfl
theorem kw_8_78 : (Jvm.Cond.code ({ cls := "BondWarehouseModel", name := "set", desc := "(II)I" } : Jvm.MethodName) prog_12_method_67_code (4 : Nat) (Option.some Jvm.ClassFile.FieldType.int)) ∈ TG := tg_8 78 rfl rfl
theorem kw_8_77 : (Jvm.Cond.instanceMethod ({ cls := "BondWarehouseModel", name := "set", desc := "(II)I" } : Jvm.MethodName)) ∈ TG := tg_8 77 rfl rfl
theorem ks_128 : Cond.selects "BondWarehouseModel" ⟨"BondWarehouseModel", "set", "(II)I"⟩ ⟨"BondWarehouseModel", "set", "(II)I"⟩ ∈ TG := tgS (q := (⟨"BondWarehouseModel", "set", "(II)I"⟩, 16)) (List.mem_of_getElem? (i := 128) rfl)
theorem kw_8_83 : (Jvm.Cond.constantLong "BondWarehouseModel" (218 : Nat) (60 : Int64)) ∈ TG := tg_8 83 rfl rfl
theorem kw_8_88 : (Jvm.Cond.constantLong "BondWarehouseModel" (220 : Nat) (80 : Int64)) ∈ TG := tg_8 88 rfl rfl
theorem kw_8_93 : (Jvm.Cond.constantLong "BondWarehouseModel" (222 : Nat) (100 : Int64)) ∈ TG := tg_8 93 rfl rfl
theorem kw_8_94 : (Jvm.Cond.methodLink "BondWarehouseModel" (224 : Nat) ({ cls := "BondWarehouseModel", name := "passOn", desc := "(I)I" } : Jvm.MethodName)) ∈ TG := tg_8 94 rfl rfl
theorem kw_8_97 : (Jvm.Cond.code ({ cls := "BondWarehouseModel", name := "passOn", desc := "(I)I" } : Jvm.MethodName) prog_12_method_42_code (4 : Nat) (Option.some Jvm.ClassFile.FieldType.int)) ∈ TG := tg_8 97 rfl rfl
theorem kw_8_96 : (Jvm.Cond.instanceMethod ({ cls := "BondWarehouseModel", name := "passOn", desc := "(I)I" } : Jvm.MethodName)) ∈ TG := tg_8 96 rfl rfl
theorem ks_129 : Cond.selects "BondWarehouseModel" ⟨"BondWarehouseModel", "passOn", "(I)I"⟩ ⟨"BondWarehouseModel", "passOn", "(I)I"⟩ ∈ TG := tgS (q := (⟨"BondWarehouseModel", "passOn", "(I)I"⟩, 16)) (List.mem_of_getElem? (i := 129) rfl)
theorem kw_8_102 : (Jvm.Cond.methodLink "BondWarehouseModel" (227 : Nat) ({ cls := "BondWarehouseModel", name := "told", desc := "(I)I" } : Jvm.MethodName)) ∈ TG := tg_8 102 rfl rfl
theorem kw_8_105 : (Jvm.Cond.code ({ cls := "BondWarehouseModel", name := "told", desc := "(I)I" } : Jvm.MethodName) prog_12_method_72_code (2 : Nat) (Option.some Jvm.ClassFile.FieldType.int)) ∈ TG := tg_8 105 rfl rfl
theorem kw_8_104 : (Jvm.Cond.instanceMethod ({ cls := "BondWarehouseModel", name := "told", desc := "(I)I" } : Jvm.MethodName)) ∈ TG := tg_8 104 rfl rfl
theorem ks_130 : Cond.selects "BondWarehouseModel" ⟨"BondWarehouseModel", "told", "(I)I"⟩ ⟨"BondWarehouseModel", "told", "(I)I"⟩ ∈ TG := tgS (q := (⟨"BondWarehouseModel", "told", "(I)I"⟩, 16)) (List.mem_of_getElem? (i := 130) rfl)
theorem kw_8_126 : (Jvm.Cond.methodLink "BondWarehouseModel" (230 : Nat) ({ cls := "BondWarehouseModel", name := "tells", desc := "(II)I" } : Jvm.MethodName)) ∈ TG := tg_8 126 rfl rfl
theorem kw_8_129 : (Jvm.Cond.code ({ cls := "BondWarehouseModel", name := "tells", desc := "(II)I" } : Jvm.MethodName) prog_12_method_78_code (4 : Nat) (Option.some Jvm.ClassFile.FieldType.int)) ∈ TG := tg_8 129 rfl rfl
theorem kw_8_128 : (Jvm.Cond.instanceMethod ({ cls := "BondWarehouseModel", name := "tells", desc := "(II)I" } : Jvm.MethodName)) ∈ TG := tg_8 128 rfl rfl
theorem ks_131 : Cond.selects "BondWarehouseModel" ⟨"BondWarehouseModel", "tells", "(II)I"⟩ ⟨"BondWarehouseModel", "tells", "(II)I"⟩ ∈ TG := tgS (q := (⟨"BondWarehouseModel", "tells", "(II)I"⟩, 16)) (List.mem_of_getElem? (i := 131) rfl)
theorem kw_8_174 : (Jvm.Cond.methodLink "BondWarehouseModel" (233 : Nat) ({ cls := "BondWarehouseModel", name := "noChamber", desc := "(I)Z" } : Jvm.MethodName)) ∈ TG := tg_8 174 rfl rfl
theorem kw_8_177 : (Jvm.Cond.code ({ cls := "BondWarehouseModel", name := "noChamber", desc := "(I)Z" } : Jvm.MethodName) prog_12_method_90_code (2 : Nat) (Option.some Jvm.ClassFile.FieldType.boolean)) ∈ TG := tg_8 177 rfl rfl
theorem kw_8_176 : (Jvm.Cond.instanceMethod ({ cls := "BondWarehouseModel", name := "noChamber", desc := "(I)Z" } : Jvm.MethodName)) ∈ TG := tg_8 176 rfl rfl
theorem ks_132 : Cond.selects "BondWarehouseModel" ⟨"BondWarehouseModel", "noChamber", "(I)Z"⟩ ⟨"BondWarehouseModel", "noChamber", "(I)Z"⟩ ∈ TG := tgS (q := (⟨"BondWarehouseModel", "noChamber", "(I)Z"⟩, 16)) (List.mem_of_getElem? (i := 132) rfl)
theorem kw_8_202 : (Jvm.Cond.methodLink "BondWarehouseModel" (236 : Nat) ({ cls := "BondWarehouseModel", name := "ofPaper", desc := "(II)I" } : Jvm.MethodName)) ∈ TG := tg_8 202 rfl rfl
theorem kw_8_205 : (Jvm.Cond.code ({ cls := "BondWarehouseModel", name := "ofPaper", desc := "(II)I" } : Jvm.MethodName) prog_12_method_97_code (3 : Nat) (Option.some Jvm.ClassFile.FieldType.int)) ∈ TG := tg_8 205 rfl rfl
theorem kw_8_204 : (Jvm.Cond.instanceMethod ({ cls := "BondWarehouseModel", name := "ofPaper", desc := "(II)I" } : Jvm.MethodName)) ∈ TG := tg_8 204 rfl rfl
theorem ks_133 : Cond.selects "BondWarehouseModel" ⟨"BondWarehouseModel", "ofPaper", "(II)I"⟩ ⟨"BondWarehouseModel", "ofPaper", "(II)I"⟩ ∈ TG := tgS (q := (⟨"BondWarehouseModel", "ofPaper", "(II)I"⟩, 16)) (List.mem_of_getElem? (i := 133) rfl)
theorem kw_8_222 : (Jvm.Cond.methodLink "BondWarehouseModel" (239 : Nat) ({ cls := "BondWarehouseModel", name := "ofKind", desc := "(II)I" } : Jvm.MethodName)) ∈ TG := tg_8 222 rfl rfl
theorem kw_8_225 : (Jvm.Cond.code ({ cls := "BondWarehouseModel", name := "ofKind", desc := "(II)I" } : Jvm.MethodName) prog_12_method_102_code (3 : Nat) (Option.some Jvm.ClassFile.FieldType.int)) ∈ TG := tg_8 225 rfl rfl
theorem kw_8_224 : (Jvm.Cond.instanceMethod ({ cls := "BondWarehouseModel", name := "ofKind", desc := "(II)I" } : Jvm.MethodName)) ∈ TG := tg_8 224 rfl rfl
theorem ks_134 : Cond.selects "BondWarehouseModel" ⟨"BondWarehouseModel", "ofKind", "(II)I"⟩ ⟨"BondWarehouseModel", "ofKind", "(II)I"⟩ ∈ TG := tgS (q := (⟨"BondWarehouseModel", "ofKind", "(II)I"⟩, 16)) (List.mem_of_getElem? (i := 134) rfl)
theorem kw_9_34 : (Jvm.Cond.methodLink "BondWarehouseModel" (242 : Nat) ({ cls := "BondWarehouseModel", name := "totalOf", desc := "(II)I" } : Jvm.MethodName)) ∈ TG := tg_9 34 rfl rfl
theorem kw_9_37 : (Jvm.Cond.code ({ cls := "BondWarehouseModel", name := "totalOf", desc := "(II)I" } : Jvm.MethodName) prog_12_method_115_code (3 : Nat) (Option.some Jvm.ClassFile.FieldType.int)) ∈ TG := tg_9 37 rfl rfl
theorem kw_9_36 : (Jvm.Cond.instanceMethod ({ cls := "BondWarehouseModel", name := "totalOf", desc := "(II)I" } : Jvm.MethodName)) ∈ TG := tg_9 36 rfl rfl
theorem ks_135 : Cond.selects "BondWarehouseModel" ⟨"BondWarehouseModel", "totalOf", "(II)I"⟩ ⟨"BondWarehouseModel", "totalOf", "(II)I"⟩ ∈ TG := tgS (q := (⟨"BondWarehouseModel", "totalOf", "(II)I"⟩, 16)) (List.mem_of_getElem? (i := 135) rfl)
theorem kw_9_62 : (Jvm.Cond.methodLink "BondWarehouseModel" (245 : Nat) ({ cls := "BondWarehouseModel", name := "stock", desc := "(I)I" } : Jvm.MethodName)) ∈ TG := tg_9 62 rfl rfl
theorem kw_9_65 : (Jvm.Cond.code ({ cls := "BondWarehouseModel", name := "stock", desc := "(I)I" } : Jvm.MethodName) prog_12_method_122_code (4 : Nat) (Option.some Jvm.ClassFile.FieldType.int)) ∈ TG := tg_9 65 rfl rfl
theorem kw_9_64 : (Jvm.Cond.instanceMethod ({ cls := "BondWarehouseModel", name := "stock", desc := "(I)I" } : Jvm.MethodName)) ∈ TG := tg_9 64 rfl rfl
theorem ks_136 : Cond.selects "BondWarehouseModel" ⟨"BondWarehouseModel", "stock", "(I)I"⟩ ⟨"BondWarehouseModel", "stock", "(I)I"⟩ ∈ TG := tgS (q := (⟨"BondWarehouseModel", "stock", "(I)I"⟩, 16)) (List.mem_of_getElem? (i := 136) rfl)
theorem kw_9_102 : (Jvm.Cond.constantLong "BondWarehouseModel" (248 : Nat) (365 : Int64)) ∈ TG := tg_9 102 rfl rfl
theorem kw_7_15 : (Jvm.Cond.fieldLink "BondWarehouseModel" (26 : Nat) "BondWarehouseModel" "isTaken" "[Z") ∈ TG := tg_7 15 rfl rfl
theorem kw_9_115 : (Jvm.Cond.methodLink "BondWarehouseModel" (250 : Nat) ({ cls := "BondWarehouseModel", name := "forgets", desc := "()V" } : Jvm.MethodName)) ∈ TG := tg_9 115 rfl rfl
theorem kw_9_118 : (Jvm.Cond.code ({ cls := "BondWarehouseModel", name := "forgets", desc := "()V" } : Jvm.MethodName) prog_12_method_136_code (2 : Nat) (Option.none : Option Jvm.ClassFile.FieldType)) ∈ TG := tg_9 118 rfl rfl
theorem kw_9_117 : (Jvm.Cond.instanceMethod ({ cls := "BondWarehouseModel", name := "forgets", desc := "()V" } : Jvm.MethodName)) ∈ TG := tg_9 117 rfl rfl
theorem ks_137 : Cond.selects "BondWarehouseModel" ⟨"BondWarehouseModel", "forgets", "()V"⟩ ⟨"BondWarehouseModel", "forgets", "()V"⟩ ∈ TG := tgS (q := (⟨"BondWarehouseModel", "forgets", "()V"⟩, 16)) (List.mem_of_getElem? (i := 137) rfl)
theorem kw_9_119 : (Jvm.Cond.methodLink "BondWarehouseModel" (253 : Nat) ({ cls := "BondWarehouseModel", name := "cheapest", desc := "(I)I" } : Jvm.MethodName)) ∈ TG := tg_9 119 rfl rfl
theorem kw_9_122 : (Jvm.Cond.code ({ cls := "BondWarehouseModel", name := "cheapest", desc := "(I)I" } : Jvm.MethodName) prog_12_method_135_code (5 : Nat) (Option.some Jvm.ClassFile.FieldType.int)) ∈ TG := tg_9 122 rfl rfl
theorem kw_9_121 : (Jvm.Cond.instanceMethod ({ cls := "BondWarehouseModel", name := "cheapest", desc := "(I)I" } : Jvm.MethodName)) ∈ TG := tg_9 121 rfl rfl
theorem ks_138 : Cond.selects "BondWarehouseModel" ⟨"BondWarehouseModel", "cheapest", "(I)I"⟩ ⟨"BondWarehouseModel", "cheapest", "(I)I"⟩ ∈ TG := tgS (q := (⟨"BondWarehouseModel", "cheapest", "(I)I"⟩, 16)) (List.mem_of_getElem? (i := 138) rfl)
theorem kw_9_135 : (Jvm.Cond.constantLong "BondWarehouseModel" (256 : Nat) (33 : Int64)) ∈ TG := tg_9 135 rfl rfl
theorem kw_9_136 : (Jvm.Cond.constantLong "BondWarehouseModel" (258 : Nat) (126 : Int64)) ∈ TG := tg_9 136 rfl rfl
theorem kw_7_9 : (Jvm.Cond.fieldLink "BondWarehouseModel" (260 : Nat) "BondWarehouseModel" "size" "I") ∈ TG := tg_7 9 rfl rfl
theorem kw_7_8 : (Jvm.Cond.fieldLink "BondWarehouseModel" (7 : Nat) "BondWarehouseModel" "buffer" "[I") ∈ TG := tg_7 8 rfl rfl
theorem kw_7_16 : (Jvm.Cond.fieldLink "BondWarehouseModel" (263 : Nat) "BondWarehouseModel" "spot" "I") ∈ TG := tg_7 16 rfl rfl
theorem kw_7_17 : (Jvm.Cond.fieldLink "BondWarehouseModel" (266 : Nat) "BondWarehouseModel" "value" "I") ∈ TG := tg_7 17 rfl rfl
theorem kw_9_168 : (Jvm.Cond.constantLong "BondWarehouseModel" (269 : Nat) (48 : Int64)) ∈ TG := tg_9 168 rfl rfl
theorem kw_9_169 : (Jvm.Cond.constantLong "BondWarehouseModel" (271 : Nat) (57 : Int64)) ∈ TG := tg_9 169 rfl rfl
theorem kw_9_164 : (Jvm.Cond.methodLink "BondWarehouseModel" (273 : Nat) ({ cls := "BondWarehouseModel", name := "number", desc := "(II)Z" } : Jvm.MethodName)) ∈ TG := tg_9 164 rfl rfl
theorem kw_9_167 : (Jvm.Cond.code ({ cls := "BondWarehouseModel", name := "number", desc := "(II)Z" } : Jvm.MethodName) prog_12_method_142_code (4 : Nat) (Option.some Jvm.ClassFile.FieldType.boolean)) ∈ TG := tg_9 167 rfl rfl
theorem kw_9_166 : (Jvm.Cond.instanceMethod ({ cls := "BondWarehouseModel", name := "number", desc := "(II)Z" } : Jvm.MethodName)) ∈ TG := tg_9 166 rfl rfl
theorem ks_143 : Cond.selects "BondWarehouseModel" ⟨"BondWarehouseModel", "number", "(II)Z"⟩ ⟨"BondWarehouseModel", "number", "(II)Z"⟩ ∈ TG := tgS (q := (⟨"BondWarehouseModel", "number", "(II)Z"⟩, 16)) (List.mem_of_getElem? (i := 143) rfl)
theorem kw_7_18 : (Jvm.Cond.fieldLink "BondWarehouseModel" (276 : Nat) "BondWarehouseModel" "one" "I") ∈ TG := tg_7 18 rfl rfl
theorem kw_9_170 : (Jvm.Cond.methodLink "BondWarehouseModel" (279 : Nat) ({ cls := "BondWarehouseModel", name := "goesOn", desc := "(I)Z" } : Jvm.MethodName)) ∈ TG := tg_9 170 rfl rfl
theorem kw_9_173 : (Jvm.Cond.code ({ cls := "BondWarehouseModel", name := "goesOn", desc := "(I)Z" } : Jvm.MethodName) prog_12_method_143_code (3 : Nat) (Option.some Jvm.ClassFile.FieldType.boolean)) ∈ TG := tg_9 173 rfl rfl
theorem kw_9_172 : (Jvm.Cond.instanceMethod ({ cls := "BondWarehouseModel", name := "goesOn", desc := "(I)Z" } : Jvm.MethodName)) ∈ TG := tg_9 172 rfl rfl
theorem ks_144 : Cond.selects "BondWarehouseModel" ⟨"BondWarehouseModel", "goesOn", "(I)Z"⟩ ⟨"BondWarehouseModel", "goesOn", "(I)Z"⟩ ∈ TG := tgS (q := (⟨"BondWarehouseModel", "goesOn", "(I)Z"⟩, 16)) (List.mem_of_getElem? (i := 144) rfl)
theorem kw_7_19 : (Jvm.Cond.fieldLink "BondWarehouseModel" (282 : Nat) "BondWarehouseModel" "two" "I") ∈ TG := tg_7 19 rfl rfl
theorem kw_9_160 : (Jvm.Cond.methodLink "BondWarehouseModel" (285 : Nat) ({ cls := "BondWarehouseModel", name := "pair", desc := "(IIII)Z" } : Jvm.MethodName)) ∈ TG := tg_9 160 rfl rfl
theorem kw_9_163 : (Jvm.Cond.code ({ cls := "BondWarehouseModel", name := "pair", desc := "(IIII)Z" } : Jvm.MethodName) prog_12_method_144_code (5 : Nat) (Option.some Jvm.ClassFile.FieldType.boolean)) ∈ TG := tg_9 163 rfl rfl
theorem kw_9_162 : (Jvm.Cond.instanceMethod ({ cls := "BondWarehouseModel", name := "pair", desc := "(IIII)Z" } : Jvm.MethodName)) ∈ TG := tg_9 162 rfl rfl
theorem ks_142 : Cond.selects "BondWarehouseModel" ⟨"BondWarehouseModel", "pair", "(IIII)Z"⟩ ⟨"BondWarehouseModel", "pair", "(IIII)Z"⟩ ∈ TG := tgS (q := (⟨"BondWarehouseModel", "pair", "(IIII)Z"⟩, 16)) (List.mem_of_getElem? (i := 142) rfl)
theorem kw_7_20 : (Jvm.Cond.fieldLink "BondWarehouseModel" (288 : Nat) "BondWarehouseModel" "three" "I") ∈ TG := tg_7 20 rfl rfl
theorem kw_9_156 : (Jvm.Cond.methodLink "BondWarehouseModel" (291 : Nat) ({ cls := "BondWarehouseModel", name := "entering", desc := "()Z" } : Jvm.MethodName)) ∈ TG := tg_9 156 rfl rfl
theorem kw_9_159 : (Jvm.Cond.code ({ cls := "BondWarehouseModel", name := "entering", desc := "()Z" } : Jvm.MethodName) prog_12_method_145_code (1 : Nat) (Option.some Jvm.ClassFile.FieldType.boolean)) ∈ TG := tg_9 159 rfl rfl
theorem kw_9_158 : (Jvm.Cond.instanceMethod ({ cls := "BondWarehouseModel", name := "entering", desc := "()Z" } : Jvm.MethodName)) ∈ TG := tg_9 158 rfl rfl
theorem ks_141 : Cond.selects "BondWarehouseModel" ⟨"BondWarehouseModel", "entering", "()Z"⟩ ⟨"BondWarehouseModel", "entering", "()Z"⟩ ∈ TG := tgS (q := (⟨"BondWarehouseModel", "entering", "()Z"⟩, 16)) (List.mem_of_getElem? (i := 141) rfl)
theorem kw_9_178 : (Jvm.Cond.methodLink "BondWarehouseModel" (295 : Nat) ({ cls := "BondWarehouseModel", name := "doesEntry", desc := "(I)Z" } : Jvm.MethodName)) ∈ TG := tg_9 178 rfl rfl
theorem kw_9_181 : (Jvm.Cond.code ({ cls := "BondWarehouseModel", name := "doesEntry", desc := "(I)Z" } : Jvm.MethodName) prog_12_method_148_code (3 : Nat) (Option.some Jvm.ClassFile.FieldType.boolean)) ∈ TG := tg_9 181 rfl rfl
theorem kw_9_180 : (Jvm.Cond.instanceMethod ({ cls := "BondWarehouseModel", name := "doesEntry", desc := "(I)Z" } : Jvm.MethodName)) ∈ TG := tg_9 180 rfl rfl
theorem ks_146 : Cond.selects "BondWarehouseModel" ⟨"BondWarehouseModel", "doesEntry", "(I)Z"⟩ ⟨"BondWarehouseModel", "doesEntry", "(I)Z"⟩ ∈ TG := tgS (q := (⟨"BondWarehouseModel", "doesEntry", "(I)Z"⟩, 16)) (List.mem_of_getElem? (i := 146) rfl)
theorem kw_7_22 : (Jvm.Cond.fieldLink "BondWarehouseModel" (298 : Nat) "BondWarehouseModel" "done" "I") ∈ TG := tg_7 22 rfl rfl
theorem kw_7_21 : (Jvm.Cond.fieldLink "BondWarehouseModel" (301 : Nat) "BondWarehouseModel" "isWhole" "Z") ∈ TG := tg_7 21 rfl rfl
theorem kw_9_149 : (Jvm.Cond.methodLink "BondWarehouseModel" (305 : Nat) ({ cls := "BondWarehouseModel", name := "isSign", desc := "(I)Z" } : Jvm.MethodName)) ∈ TG := tg_9 149 rfl rfl
theorem kw_9_151 : (Jvm.Cond.code ({ cls := "BondWarehouseModel", name := "isSign", desc := "(I)Z" } : Jvm.MethodName) prog_12_method_147_code (1 : Nat) (Option.some Jvm.ClassFile.FieldType.boolean)) ∈ TG := tg_9 151 rfl rfl
theorem kw_9_150 : (Jvm.Cond.static ({ cls := "BondWarehouseModel", name := "isSign", desc := "(I)Z" } : Jvm.MethodName)) ∈ TG := tg_9 150 rfl rfl
theorem kw_9_152 : (Jvm.Cond.methodLink "BondWarehouseModel" (308 : Nat) ({ cls := "BondWarehouseModel", name := "line", desc := "(I)Z" } : Jvm.MethodName)) ∈ TG := tg_9 152 rfl rfl
theorem kw_9_155 : (Jvm.Cond.code ({ cls := "BondWarehouseModel", name := "line", desc := "(I)Z" } : Jvm.MethodName) prog_12_method_146_code (2 : Nat) (Option.some Jvm.ClassFile.FieldType.boolean)) ∈ TG := tg_9 155 rfl rfl
theorem kw_9_154 : (Jvm.Cond.instanceMethod ({ cls := "BondWarehouseModel", name := "line", desc := "(I)Z" } : Jvm.MethodName)) ∈ TG := tg_9 154 rfl rfl
theorem ks_140 : Cond.selects "BondWarehouseModel" ⟨"BondWarehouseModel", "line", "(I)Z"⟩ ⟨"BondWarehouseModel", "line", "(I)Z"⟩ ∈ TG := tgS (q := (⟨"BondWarehouseModel", "line", "(I)Z"⟩, 16)) (List.mem_of_getElem? (i := 140) rfl)
theorem kw_9_174 : (Jvm.Cond.methodLink "BondWarehouseModel" (311 : Nat) ({ cls := "BondWarehouseModel", name := "does", desc := "(I)Z" } : Jvm.MethodName)) ∈ TG := tg_9 174 rfl rfl
theorem kw_9_177 : (Jvm.Cond.code ({ cls := "BondWarehouseModel", name := "does", desc := "(I)Z" } : Jvm.MethodName) prog_12_method_149_code (2 : Nat) (Option.some Jvm.ClassFile.FieldType.boolean)) ∈ TG := tg_9 177 rfl rfl
theorem kw_9_176 : (Jvm.Cond.instanceMethod ({ cls := "BondWarehouseModel", name := "does", desc := "(I)Z" } : Jvm.MethodName)) ∈ TG := tg_9 176 rfl rfl
theorem ks_145 : Cond.selects "BondWarehouseModel" ⟨"BondWarehouseModel", "does", "(I)Z"⟩ ⟨"BondWarehouseModel", "does", "(I)Z"⟩ ∈ TG := tgS (q := (⟨"BondWarehouseModel", "does", "(I)Z"⟩, 16)) (List.mem_of_getElem? (i := 145) rfl)
theorem kw_9_145 : (Jvm.Cond.methodLink "BondWarehouseModel" (314 : Nat) ({ cls := "BondWarehouseModel", name := "reads", desc := "(Z)I" } : Jvm.MethodName)) ∈ TG := tg_9 145 rfl rfl
theorem kw_9_148 : (Jvm.Cond.code ({ cls := "BondWarehouseModel", name := "reads", desc := "(Z)I" } : Jvm.MethodName) prog_12_method_150_code (5 : Nat) (Option.some Jvm.ClassFile.FieldType.int)) ∈ TG := tg_9 148 rfl rfl
theorem kw_9_147 : (Jvm.Cond.instanceMethod ({ cls := "BondWarehouseModel", name := "reads", desc := "(Z)I" } : Jvm.MethodName)) ∈ TG := tg_9 147 rfl rfl
theorem ks_139 : Cond.selects "BondWarehouseModel" ⟨"BondWarehouseModel", "reads", "(Z)I"⟩ ⟨"BondWarehouseModel", "reads", "(Z)I"⟩ ∈ TG := tgS (q := (⟨"BondWarehouseModel", "reads", "(Z)I"⟩, 16)) (List.mem_of_getElem? (i := 139) rfl)
theorem kw_7_13 : (Jvm.Cond.fieldLink "BondWarehouseModel" (19 : Nat) "BondWarehouseModel" "kept" "[I") ∈ TG := tg_7 13 rfl rfl
theorem kw_7_14 : (Jvm.Cond.fieldLink "BondWarehouseModel" (22 : Nat) "BondWarehouseModel" "isKept" "[Z") ∈ TG := tg_7 14 rfl rfl
section BASE2
/-- a loop: what one round needs, the next rounds as K -/
def itr {α : Type} (B : (α → Prop) → α → Prop) : Nat → α → Prop
  | 0, _ => False
  | n + 1, a => B (itr B n) a
theorem itr_rule {α : Type} {B : (α → Prop) → α → Prop} (I : α → Prop) (μ : α → Nat) (hB : ∀ a, I a → ∀ K : α → Prop, (∀ a', I a' → μ a' < μ a → K a') → B K a) (a : α) (ha : I a) : ∃ n, itr B n a := by
  have h : ∀ (n : Nat) (a : α), I a → μ a < n → itr B n a := by
    intro n
    induction n with
    | zero => intro a _ h; exact absurd h (Nat.not_lt_zero _)
    | succ n ih => intro a hI h; exact hB a hI _ (fun a' h1 h2 => ih a' h1 (by omega))
  exact ⟨_, h (μ a + 1) a ha (by omega)⟩
theorem okc {t : Nat} (k : Nat) (h : 1 ≤ k ∧ k ≤ cnt t) : ok t k := h
theorem ok1 {t : Nat} (h : 1 ≤ cnt t) : ok t 1 := ⟨Nat.le_refl 1, h⟩
def GC (t i : Nat) : Prop := t < 20 ∧ ok t i
def GM (t i : Nat) : Prop := (30 ≤ t ∧ t < 37) ∧ ok t i
theorem gc {t i : Nat} (h : t < 20) (k : ok t i) : GC t i := ⟨h, k⟩
theorem gm {t i : Nat} (h : 30 ≤ t ∧ t < 37) (k : ok t i) : GM t i := ⟨h, k⟩
theorem vpl {i : Int32} {n : Nat} (h : ¬ (i < 0 ∨ n ≤ i.toNatClampNeg)) : vp_in i n := h
theorem vp_lt {j : Int32} {n : Nat} (h : vp_in j n) : j.toNatClampNeg < n := Nat.not_le.mp fun q => h (Or.inr q)
theorem vp_lt' {j : Int32} {n k : Nat} (h : vp_in j n) (e : j.toNatClampNeg = k) : k < n := e ▸ vp_lt h
theorem ok_ch {k : Nat} {j : Int32} (h : ok 9 k) (hj : vp_in j 5) : ok 5 (5 * (k - 1) + j.toNatClampNeg + 1) := by
  have h1 : 1 ≤ k ∧ k ≤ 9 := h
  have h2 := vp_lt hj
  show 1 ≤ _ ∧ _ ≤ 45
  omega
theorem ok_ki {k : Nat} {j : Int32} (h : ok 10 k) (hj : vp_in j 6) : ok 6 (6 * (k - 1) + j.toNatClampNeg + 1) := by
  have h1 : 1 ≤ k ∧ k ≤ 9 := h
  have h2 := vp_lt hj
  show 1 ≤ _ ∧ _ ≤ 54
  omega
theorem ok_sv {k : Nat} {j : Int32} (_ : ok 13 k) (hj : vp_in j 6) : ok 1 (j.toNatClampNeg + 2) := by
  have h2 := vp_lt hj
  show 1 ≤ _ ∧ _ ≤ 9
  omega
theorem ok_sl {k : Nat} {j : Int32} (_ : ok 14 k) (hj : vp_in j 2) : ok 1 (j.toNatClampNeg + 8) := by
  have h2 := vp_lt hj
  show 1 ≤ _ ∧ _ ≤ 9
  omega
/-- what the class's methods take as given of statics, texts and throws -/
def txL : List (Nat × String) := [(113, "there are not so many entries"), (281, "out of range"), (340, "the buffer is full"), (355, "the buffer is not a complete journal text"), (391, "no state is saved"), (407, "the slot is empty"), (416, "there is no such entry, receipt or chamber"), (418, "this cannot be done now"), (420, "there is no such chamber"), (422, "there is no such slot"), (424, "there is no such entry"), (429, "not so many receipts are kept")]
def decL : List MethodName := [⟨"java/lang/RuntimeException", "<init>", "(Ljava/lang/String;)V"⟩, ⟨"java/lang/Exception", "<init>", "(Ljava/lang/String;)V"⟩, ⟨"java/lang/Throwable", "<init>", "(Ljava/lang/String;)V"⟩]
def aoL : List String := ["BondWarehouse$Entry", "BondWarehouse$Receipt", "BondWarehouse$Chamber", "BondWarehouse$KindAccount", "BondWarehouse$State"]
def ZC (ad : Nat → Nat → Nat) (A : Nat → Prop) (U : State) (H : Heap) : Prop :=
  (∀ r, ok 20 r → va_Z (scls r) (snm r) "[I" (.ref (ad 20 r)) A U H ∧ va_T .int (ad 20 r) (slen r) (fun j => .int (stv r j)) A U H) ∧
  vx_Zq Bundle.tN "UNASSIGNED_STACK" Bundle.steD A U H ∧ vx_Zq Bundle.tN "SUPPRESSED_SENTINEL" Bundle.listD A U H ∧
  (∀ q ∈ txL, ∃ sa, vk_R "BondWarehouse" q.1 q.2 sa U) ∧ (∀ k, k < 4 → va_Nw (.castable (exN k) (exN k)) U) ∧ (∀ y ∈ decL, va_Nw (.declares y) U) ∧ (∀ C ∈ aoL, va_AO C U)
theorem ZC_ok (ad : Nat → Nat → Nat) (A : Nat → Prop) : Zok A (ZC ad A) := by
  intro U U' H H' hW hq h
  exact ⟨fun r hr => ⟨va_Z.moved hW.alike (va_Z.kept (h.1 r hr).1 hq), va_T.moved hW.alike (va_T.kept (h.1 r hr).2 hq)⟩, vx_Zq.moved hW.alike (vx_Zq.kept h.2.1 hq), vx_Zq.moved hW.alike (vx_Zq.kept h.2.2.1 hq), fun q hq' => by
    obtain ⟨sa, h9⟩ := h.2.2.2.1 q hq'
    exact ⟨sa, vk_R.warm hW h9⟩, fun k hk => va_Nw.warmC hW (h.2.2.2.2.1 k hk), fun y hy => va_tabs rfl (rfl : (U.setVm U'.vm).vm = U'.vm) (by rw [Cond.declares_setVm hW.alike]; exact h.2.2.2.2.2.1 y hy), fun C hC => (h.2.2.2.2.2.2 C hC).moved hW.alike⟩
def ZM (_ : State) (_ : Heap) : Prop := True
theorem ZM_ok (A : Nat → Prop) : Zok A ZM := fun _ _ _ _ _ _ _ => trivial
variable {p : Program} {l : Launch} {e : Env} {R : Room} {s : State} {m : MethodId} {args : Array Value} {below : List Frame} {meth : Method} {c : Code} {cells slots : Nat} {Q : State → Prop}
variable {cc : ByteArray} {nL : Nat} {own : String} {F : Nat → Prop} {D : va_G} {cA : Nat → ClassId} {ad : Nat → Nat → Nat} {dy : Bool} {G : Nat → Nat → Prop} {A : Nat → Prop} {Z : State → Heap → Prop}
variable {P : Heap → Prop} {mm : Mm} {pc : Nat} {lv : List (Nat × Value)} {st : List Value}
theorem q_topi {x : Int32} (k : ∀ y : Int32, y = x → V p l e R s m args below meth c Q nL A cells slots P pc lv (.int y :: st)) : V p l e R s m args below meth c Q nL A cells slots P pc lv (.int x :: st) := k x rfl
theorem q_topl {x : Int64} (k : ∀ y : Int64, y = x → V p l e R s m args below meth c Q nL A cells slots P pc lv (.long y :: st)) : V p l e R s m args below meth c Q nL A cells slots P pc lv (.long x :: st) := k x rfl
theorem q_topd {x : UInt64} (k : ∀ y : UInt64, y = x → V p l e R s m args below meth c Q nL A cells slots P pc lv (.double y :: st)) : V p l e R s m args below meth c Q nL A cells slots P pc lv (.double x :: st) := k x rfl
theorem q_nmP {m1 : Mm} (k : ∀ y : Mm, y = m1 → V p l e R s m args below meth c Q nL A cells slots (Rep F D cA ad dy G y) pc lv st) : V p l e R s m args below meth c Q nL A cells slots (Rep F D cA ad dy G m1) pc lv st := k m1 rfl
theorem q_tabI (X : Fx p m c cc nL s args own) {dflt lo hi : Int} {offs : Array Int} {len tgt : Nat} {x : Int32} {k : Int32} {off : Int} (hd : decode cc pc = .ok (.tableswitch dflt lo hi offs, len)) (hx : x = k) (h1 : ¬ k.toInt < lo) (h2 : ¬ hi < k.toInt) (ho : offs[(k.toInt - lo).toNat]? = some off) (ht : (pc : Int) + off = (tgt : Int)) (kk : V p l e R s m args below meth c Q nL A cells slots P tgt lv st) : V p l e R s m args below meth c Q nL A cells slots P pc lv (.int x :: st) := by
  subst hx
  exact fun H locs ls hP hS hl => lv_tableIn X.1 X.2.1 hd h1 h2 ho ht (kk H locs ls hP hS hl)
theorem q_tabD (X : Fx p m c cc nL s args own) (ks : List Int32) {dflt lo hi : Int} {offs : Array Int} {len tgt : Nat} {x : Int32} (hd : decode cc pc = .ok (.tableswitch dflt lo hi offs, len)) (hx : ∀ k ∈ ks, ¬ x = k) (hall : (decide (-2147483648 ≤ lo) && decide (hi < 2147483648) && (List.range (hi - lo + 1).toNat).all (fun j => decide (offs[j]? = some dflt) || decide (Int32.ofInt (lo + (j : Int)) ∈ ks))) = true) (ht : (pc : Int) + dflt = (tgt : Int)) (kk : V p l e R s m args below meth c Q nL A cells slots P tgt lv st) : V p l e R s m args below meth c Q nL A cells slots P pc lv (.int x :: st) := by
  intro H locs ls hP hS hl
  by_cases h1 : x.toInt < lo
  · exact lv_tableOut X.1 X.2.1 hd (Or.inl h1) ht (kk H locs ls hP hS hl)
  by_cases h2 : hi < x.toInt
  · exact lv_tableOut X.1 X.2.1 hd (Or.inr h2) ht (kk H locs ls hP hS hl)
  simp only [Bool.and_eq_true, decide_eq_true_eq, List.all_eq_true, List.mem_range, Bool.or_eq_true] at hall
  have h3 := hall.2 (x.toInt - lo).toNat (by omega)
  rcases h3 with h3 | h3
  · exact lv_tableIn X.1 X.2.1 hd h1 h2 h3 ht (kk H locs ls hP hS hl)
  · refine absurd ?_ (hx _ h3)
    rw [show lo + (((x.toInt - lo).toNat : Nat) : Int) = x.toInt by omega]
    exact (Int32.ofInt_toInt x).symm
theorem q_lookI (X : Fx p m c cc nL s args own) {dflt : Int} {ps : Array (Int × Int)} {len tgt : Nat} {x k : Int32} (hd : decode cc pc = .ok (.lookupswitch dflt ps, len)) (hx : x = k) (hp : (ps.toList.zip (ps.toList.drop 1)).all (fun (a, next) => a.1 < next.1) = true) (ho : (pc : Int) + Op.lookupswitch.offset ps.toList dflt k.toInt = (tgt : Int)) (kk : V p l e R s m args below meth c Q nL A cells slots P tgt lv st) : V p l e R s m args below meth c Q nL A cells slots P pc lv (.int x :: st) := by
  subst hx
  exact fun H locs ls hP hS hl => lv_lookup X.1 X.2.1 hd hp rfl ho (kk H locs ls hP hS hl)
theorem look_dflt (ks : List Int32) (x : Int32) (hx : ∀ k ∈ ks, ¬ x = k) (dflt : Int) : ∀ (ps : List (Int × Int)), (∀ q ∈ ps, ∃ k ∈ ks, k.toInt = q.1) → Op.lookupswitch.offset ps dflt x.toInt = dflt := by
  intro ps
  induction ps with
  | nil => intro _; rfl
  | cons q ps ih =>
    intro h
    obtain ⟨k, hk, e⟩ := h q List.mem_cons_self
    have hne : ¬ q.1 = x.toInt := fun z => hx k hk (Int32.toInt_inj.mp (by rw [e, z]))
    have h2 := ih (fun q hq => h q (List.mem_cons_of_mem _ hq))
    simp only [Op.lookupswitch.offset] at h2 ⊢
    simp [List.find?_cons, hne] at h2 ⊢
    exact h2
theorem q_lookD (X : Fx p m c cc nL s args own) (ks : List Int32) {dflt : Int} {ps : Array (Int × Int)} {len tgt : Nat} {x : Int32} (hd : decode cc pc = .ok (.lookupswitch dflt ps, len)) (hx : ∀ k ∈ ks, ¬ x = k) (hall : ps.toList.all (fun q => ks.any (fun k => decide (k.toInt = q.1))) = true) (hp : (ps.toList.zip (ps.toList.drop 1)).all (fun (a, next) => a.1 < next.1) = true) (ht : (pc : Int) + dflt = (tgt : Int)) (kk : V p l e R s m args below meth c Q nL A cells slots P tgt lv st) : V p l e R s m args below meth c Q nL A cells slots P pc lv (.int x :: st) := by
  intro H locs ls hP hS hl
  refine lv_lookup (off := dflt) X.1 X.2.1 hd hp (look_dflt ks x hx dflt ps.toList ?_) ht (kk H locs ls hP hS hl)
  intro q hq
  have h1 := List.all_eq_true.mp hall q hq
  obtain ⟨k, hk, h2⟩ := List.any_eq_true.mp h1
  exact ⟨k, hk, of_decide_eq_true h2⟩
end BASE2
theorem inTX0 : ∀ w ∈ u_ws RX0 TX0 2, w ∈ TG := by
  intro w hw
  obtain ⟨k, hk, rfl⟩ := List.mem_map.mp hw
  have hk := List.mem_range.mp hk
  match k, hk with
  | 0, _ => exact kw_1_173
  | 1, _ => exact kw_1_175
  | k + 2, h => exact absurd h (by omega)
theorem pl_X0 : plainName RX0 = true := by decide +kernel
theorem inTX1 : ∀ w ∈ u_ws RX1 TX1 2, w ∈ TG := by
  intro w hw
  obtain ⟨k, hk, rfl⟩ := List.mem_map.mp hw
  have hk := List.mem_range.mp hk
  match k, hk with
  | 0, _ => exact kw_2_78
  | 1, _ => exact kw_2_80
  | k + 2, h => exact absurd h (by omega)
theorem pl_X1 : plainName RX1 = true := by decide +kernel
theorem inTX2 : ∀ w ∈ u_ws RX2 TX2 8, w ∈ TG := by
  intro w hw
  obtain ⟨k, hk, rfl⟩ := List.mem_map.mp hw
  have hk := List.mem_range.mp hk
  match k, hk with
  | 0, _ => exact kw_1_116
  | 1, _ => exact kw_1_118
  | 2, _ => exact kw_1_120
  | 3, _ => exact kw_1_122
  | 4, _ => exact kw_1_124
  | 5, _ => exact kw_1_126
  | 6, _ => exact kw_1_128
  | 7, _ => exact kw_1_130
  | k + 8, h => exact absurd h (by omega)
theorem pl_X2 : plainName RX2 = true := by decide +kernel
theorem inTX3 : ∀ w ∈ u_ws RX3 TX3 6, w ∈ TG := by
  intro w hw
  obtain ⟨k, hk, rfl⟩ := List.mem_map.mp hw
  have hk := List.mem_range.mp hk
  match k, hk with
  | 0, _ => exact kw_2_56
  | 1, _ => exact kw_2_58
  | 2, _ => exact kw_2_60
  | 3, _ => exact kw_2_62
  | 4, _ => exact kw_2_64
  | 5, _ => exact kw_2_66
  | k + 6, h => exact absurd h (by omega)
theorem pl_X3 : plainName RX3 = true := by decide +kernel
theorem inTX4 : ∀ w ∈ u_ws RX4 TX4 6, w ∈ TG := by
  intro w hw
  obtain ⟨k, hk, rfl⟩ := List.mem_map.mp hw
  have hk := List.mem_range.mp hk
  match k, hk with
  | 0, _ => exact kw_2_99
  | 1, _ => exact kw_2_101
  | 2, _ => exact kw_2_103
  | 3, _ => exact kw_2_105
  | 4, _ => exact kw_2_107
  | 5, _ => exact kw_2_109
  | k + 6, h => exact absurd h (by omega)
theorem pl_X4 : plainName RX4 = true := by decide +kernel
theorem inTX5 : ∀ w ∈ u_ws RX5 TX5 8, w ∈ TG := by
  intro w hw
  obtain ⟨k, hk, rfl⟩ := List.mem_map.mp hw
  have hk := List.mem_range.mp hk
  match k, hk with
  | 0, _ => exact kw_1_211
  | 1, _ => exact kw_1_213
  | 2, _ => exact kw_1_215
  | 3, _ => exact kw_1_217
  | 4, _ => exact kw_1_219
  | 5, _ => exact kw_1_221
  | 6, _ => exact kw_1_223
  | 7, _ => exact kw_1_225
  | k + 8, h => exact absurd h (by omega)
theorem pl_X5 : plainName RX5 = true := by decide +kernel
theorem inTX6 : ∀ w ∈ u_ws RX6 TX6 7, w ∈ TG := by
  intro w hw
  obtain ⟨k, hk, rfl⟩ := List.mem_map.mp hw
  have hk := List.mem_range.mp hk
  match k, hk with
  | 0, _ => exact kw_1_58
  | 1, _ => exact kw_1_60
  | 2, _ => exact kw_1_62
  | 3, _ => exact kw_1_64
  | 4, _ => exact kw_1_66
  | 5, _ => exact kw_1_68
  | 6, _ => exact kw_1_70
  | k + 7, h => exact absurd h (by omega)
theorem pl_X6 : plainName RX6 = true := by decide +kernel
theorem inTX7 : ∀ w ∈ u_ws RX7 TX7 4, w ∈ TG := by
  intro w hw
  obtain ⟨k, hk, rfl⟩ := List.mem_map.mp hw
  have hk := List.mem_range.mp hk
  match k, hk with
  | 0, _ => exact kw_1_153
  | 1, _ => exact kw_1_155
  | 2, _ => exact kw_1_157
  | 3, _ => exact kw_1_159
  | k + 4, h => exact absurd h (by omega)
theorem pl_X7 : plainName RX7 = true := by decide +kernel
theorem inTX8 : ∀ w ∈ u_ws RX8 TX8 11, w ∈ TG := by
  intro w hw
  obtain ⟨k, hk, rfl⟩ := List.mem_map.mp hw
  have hk := List.mem_range.mp hk
  match k, hk with
  | 0, _ => exact kw_2_14
  | 1, _ => exact kw_2_16
  | 2, _ => exact kw_2_18
  | 3, _ => exact kw_2_20
  | 4, _ => exact kw_2_22
  | 5, _ => exact kw_2_24
  | 6, _ => exact kw_2_26
  | 7, _ => exact kw_2_28
  | 8, _ => exact kw_2_30
  | 9, _ => exact kw_2_32
  | 10, _ => exact kw_2_34
  | k + 11, h => exact absurd h (by omega)
theorem pl_X8 : plainName RX8 = true := by decide +kernel
theorem inTX9 : ∀ w ∈ u_ws RX9 TX9 4, w ∈ TG := by
  intro w hw
  obtain ⟨k, hk, rfl⟩ := List.mem_map.mp hw
  have hk := List.mem_range.mp hk
  match k, hk with
  | 0, _ => exact kw_2_116
  | 1, _ => exact kw_2_118
  | 2, _ => exact kw_2_120
  | 3, _ => exact kw_2_122
  | k + 4, h => exact absurd h (by omega)
theorem pl_X9 : plainName RX9 = true := by decide +kernel
theorem inTX10 : ∀ w ∈ u_ws RX10 TX10 16, w ∈ TG := by
  intro w hw
  obtain ⟨k, hk, rfl⟩ := List.mem_map.mp hw
  have hk := List.mem_range.mp hk
  match k, hk with
  | 0, _ => exact kw_7_23
  | 1, _ => exact kw_7_25
  | 2, _ => exact kw_7_27
  | 3, _ => exact kw_7_29
  | 4, _ => exact kw_7_31
  | 5, _ => exact kw_7_33
  | 6, _ => exact kw_7_35
  | 7, _ => exact kw_7_37
  | 8, _ => exact kw_7_39
  | 9, _ => exact kw_7_41
  | 10, _ => exact kw_7_43
  | 11, _ => exact kw_7_45
  | 12, _ => exact kw_7_47
  | 13, _ => exact kw_7_49
  | 14, _ => exact kw_7_51
  | 15, _ => exact kw_7_53
  | k + 16, h => exact absurd h (by omega)
theorem pl_X10 : plainName RX10 = true := by decide +kernel
