theorem kw_1_172 : (Jvm.Cond.lays "BondWarehouse$Chamber" "BondWarehouse$Chamber" "seal" "I") ∈ TG := tg_1 172 rfl rfl
theorem kw_1_174 : (Jvm.Cond.lays "BondWarehouse$Chamber" "BondWarehouse$Chamber" "broken" "Z") ∈ TG := tg_1 174 rfl rfl
theorem kw_2_77 : (Jvm.Cond.laysFinal "BondWarehouse$Deeds" "BondWarehouse$Deeds" "state" "LBondWarehouse$State;") ∈ TG := tg_2 77 rfl rfl
theorem kw_2_79 : (Jvm.Cond.laysFinal "BondWarehouse$Deeds" "BondWarehouse$Deeds" "history" "LBondWarehouse$History;") ∈ TG := tg_2 79 rfl rfl
theorem kw_1_115 : (Jvm.Cond.lays "BondWarehouse$Entry" "BondWarehouse$Entry" "number" "I") ∈ TG := tg_1 115 rfl rfl
theorem kw_1_117 : (Jvm.Cond.lays "BondWarehouse$Entry" "BondWarehouse$Entry" "kind" "I") ∈ TG := tg_1 117 rfl rfl
theorem kw_1_119 : (Jvm.Cond.lays "BondWarehouse$Entry" "BondWarehouse$Entry" "weight" "I") ∈ TG := tg_1 119 rfl rfl
theorem kw_1_121 : (Jvm.Cond.lays "BondWarehouse$Entry" "BondWarehouse$Entry" "value" "I") ∈ TG := tg_1 121 rfl rfl
theorem kw_1_123 : (Jvm.Cond.lays "BondWarehouse$Entry" "BondWarehouse$Entry" "chamber" "I") ∈ TG := tg_1 123 rfl rfl
theorem kw_1_125 : (Jvm.Cond.lays "BondWarehouse$Entry" "BondWarehouse$Entry" "dayEntered" "I") ∈ TG := tg_1 125 rfl rfl
theorem kw_1_127 : (Jvm.Cond.lays "BondWarehouse$Entry" "BondWarehouse$Entry" "dayWeighed" "I") ∈ TG := tg_1 127 rfl rfl
theorem kw_1_129 : (Jvm.Cond.lays "BondWarehouse$Entry" "BondWarehouse$Entry" "proved" "Z") ∈ TG := tg_1 129 rfl rfl
theorem kw_2_55 : (Jvm.Cond.laysFinal "BondWarehouse$History" "BondWarehouse$History" "saved" "[LBondWarehouse$State;") ∈ TG := tg_2 55 rfl rfl
theorem kw_2_57 : (Jvm.Cond.lays "BondWarehouse$History" "BondWarehouse$History" "oldest" "I") ∈ TG := tg_2 57 rfl rfl
theorem kw_2_59 : (Jvm.Cond.lays "BondWarehouse$History" "BondWarehouse$History" "count" "I") ∈ TG := tg_2 59 rfl rfl
theorem kw_2_61 : (Jvm.Cond.laysFinal "BondWarehouse$History" "BondWarehouse$History" "slots" "[LBondWarehouse$State;") ∈ TG := tg_2 61 rfl rfl
theorem kw_2_63 : (Jvm.Cond.laysFinal "BondWarehouse$History" "BondWarehouse$History" "isFilled" "[Z") ∈ TG := tg_2 63 rfl rfl
theorem kw_2_65 : (Jvm.Cond.lays "BondWarehouse$History" "BondWarehouse$History" "paused" "Z") ∈ TG := tg_2 65 rfl rfl
theorem kw_2_98 : (Jvm.Cond.laysFinal "BondWarehouse$Journal" "BondWarehouse$Journal" "codes" "[I") ∈ TG := tg_2 98 rfl rfl
theorem kw_2_100 : (Jvm.Cond.lays "BondWarehouse$Journal" "BondWarehouse$Journal" "length" "I") ∈ TG := tg_2 100 rfl rfl
theorem kw_2_102 : (Jvm.Cond.lays "BondWarehouse$Journal" "BondWarehouse$Journal" "letter" "I") ∈ TG := tg_2 102 rfl rfl
theorem kw_2_104 : (Jvm.Cond.lays "BondWarehouse$Journal" "BondWarehouse$Journal" "form" "[I") ∈ TG := tg_2 104 rfl rfl
theorem kw_2_106 : (Jvm.Cond.lays "BondWarehouse$Journal" "BondWarehouse$Journal" "place" "I") ∈ TG := tg_2 106 rfl rfl
theorem kw_2_108 : (Jvm.Cond.laysFinal "BondWarehouse$Journal" "BondWarehouse$Journal" "numbers" "[I") ∈ TG := tg_2 108 rfl rfl
theorem kw_1_210 : (Jvm.Cond.lays "BondWarehouse$KindAccount" "BondWarehouse$KindAccount" "byValue" "I") ∈ TG := tg_1 210 rfl rfl
theorem kw_1_212 : (Jvm.Cond.lays "BondWarehouse$KindAccount" "BondWarehouse$KindAccount" "byWeight" "I") ∈ TG := tg_1 212 rfl rfl
theorem kw_1_214 : (Jvm.Cond.lays "BondWarehouse$KindAccount" "BondWarehouse$KindAccount" "entered" "I") ∈ TG := tg_1 214 rfl rfl
theorem kw_1_216 : (Jvm.Cond.lays "BondWarehouse$KindAccount" "BondWarehouse$KindAccount" "withdrawn" "I") ∈ TG := tg_1 216 rfl rfl
theorem kw_1_218 : (Jvm.Cond.lays "BondWarehouse$KindAccount" "BondWarehouse$KindAccount" "sentAbroad" "I") ∈ TG := tg_1 218 rfl rfl
theorem kw_1_220 : (Jvm.Cond.lays "BondWarehouse$KindAccount" "BondWarehouse$KindAccount" "wasted" "I") ∈ TG := tg_1 220 rfl rfl
theorem kw_1_222 : (Jvm.Cond.lays "BondWarehouse$KindAccount" "BondWarehouse$KindAccount" "lost" "I") ∈ TG := tg_1 222 rfl rfl
theorem kw_1_224 : (Jvm.Cond.lays "BondWarehouse$KindAccount" "BondWarehouse$KindAccount" "drawnBack" "I") ∈ TG := tg_1 224 rfl rfl
theorem kw_1_57 : (Jvm.Cond.lays "BondWarehouse$Money" "BondWarehouse$Money" "bond" "I") ∈ TG := tg_1 57 rfl rfl
theorem kw_1_59 : (Jvm.Cond.lays "BondWarehouse$Money" "BondWarehouse$Money" "account" "I") ∈ TG := tg_1 59 rfl rfl
theorem kw_1_61 : (Jvm.Cond.lays "BondWarehouse$Money" "BondWarehouse$Money" "debt" "I") ∈ TG := tg_1 61 rfl rfl
theorem kw_1_63 : (Jvm.Cond.lays "BondWarehouse$Money" "BondWarehouse$Money" "deposits" "I") ∈ TG := tg_1 63 rfl rfl
theorem kw_1_65 : (Jvm.Cond.lays "BondWarehouse$Money" "BondWarehouse$Money" "dutiesPaid" "I") ∈ TG := tg_1 65 rfl rfl
theorem kw_1_67 : (Jvm.Cond.lays "BondWarehouse$Money" "BondWarehouse$Money" "charges" "I") ∈ TG := tg_1 67 rfl rfl
theorem kw_1_69 : (Jvm.Cond.lays "BondWarehouse$Money" "BondWarehouse$Money" "drawbacks" "I") ∈ TG := tg_1 69 rfl rfl
theorem kw_1_152 : (Jvm.Cond.lays "BondWarehouse$Receipt" "BondWarehouse$Receipt" "kind" "I") ∈ TG := tg_1 152 rfl rfl
theorem kw_1_154 : (Jvm.Cond.lays "BondWarehouse$Receipt" "BondWarehouse$Receipt" "weight" "I") ∈ TG := tg_1 154 rfl rfl
theorem kw_1_156 : (Jvm.Cond.lays "BondWarehouse$Receipt" "BondWarehouse$Receipt" "duty" "I") ∈ TG := tg_1 156 rfl rfl
theorem kw_1_158 : (Jvm.Cond.lays "BondWarehouse$Receipt" "BondWarehouse$Receipt" "dayMade" "I") ∈ TG := tg_1 158 rfl rfl
theorem kw_2_13 : (Jvm.Cond.lays "BondWarehouse$State" "BondWarehouse$State" "day" "I") ∈ TG := tg_2 13 rfl rfl
theorem kw_2_15 : (Jvm.Cond.lays "BondWarehouse$State" "BondWarehouse$State" "openCount" "I") ∈ TG := tg_2 15 rfl rfl
theorem kw_2_17 : (Jvm.Cond.lays "BondWarehouse$State" "BondWarehouse$State" "made" "I") ∈ TG := tg_2 17 rfl rfl
theorem kw_2_19 : (Jvm.Cond.lays "BondWarehouse$State" "BondWarehouse$State" "sealsPut" "I") ∈ TG := tg_2 19 rfl rfl
theorem kw_2_21 : (Jvm.Cond.lays "BondWarehouse$State" "BondWarehouse$State" "receiptCount" "I") ∈ TG := tg_2 21 rfl rfl
theorem kw_2_23 : (Jvm.Cond.laysFinal "BondWarehouse$State" "BondWarehouse$State" "money" "LBondWarehouse$Money;") ∈ TG := tg_2 23 rfl rfl
theorem kw_2_25 : (Jvm.Cond.laysFinal "BondWarehouse$State" "BondWarehouse$State" "entries" "[LBondWarehouse$Entry;") ∈ TG := tg_2 25 rfl rfl
theorem kw_2_27 : (Jvm.Cond.laysFinal "BondWarehouse$State" "BondWarehouse$State" "receipts" "[LBondWarehouse$Receipt;") ∈ TG := tg_2 27 rfl rfl
theorem kw_2_29 : (Jvm.Cond.laysFinal "BondWarehouse$State" "BondWarehouse$State" "chambers" "[LBondWarehouse$Chamber;") ∈ TG := tg_2 29 rfl rfl
theorem kw_2_31 : (Jvm.Cond.laysFinal "BondWarehouse$State" "BondWarehouse$State" "kinds" "[LBondWarehouse$KindAccount;") ∈ TG := tg_2 31 rfl rfl
theorem kw_2_33 : (Jvm.Cond.laysFinal "BondWarehouse$State" "BondWarehouse$State" "duties" "[I") ∈ TG := tg_2 33 rfl rfl
theorem kw_2_115 : (Jvm.Cond.laysFinal "BondWarehouse" "BondWarehouse" "state" "LBondWarehouse$State;") ∈ TG := tg_2 115 rfl rfl
theorem kw_2_117 : (Jvm.Cond.laysFinal "BondWarehouse" "BondWarehouse" "history" "LBondWarehouse$History;") ∈ TG := tg_2 117 rfl rfl
theorem kw_2_119 : (Jvm.Cond.laysFinal "BondWarehouse" "BondWarehouse" "deeds" "LBondWarehouse$Deeds;") ∈ TG := tg_2 119 rfl rfl
theorem kw_2_121 : (Jvm.Cond.laysFinal "BondWarehouse" "BondWarehouse" "journal" "LBondWarehouse$Journal;") ∈ TG := tg_2 121 rfl rfl
theorem kw_2_156 : (Jvm.Cond.methodLink "BondWarehouse" (107 : Nat) ({ cls := "BondWarehouse", name := "isWithin", desc := "(III)Z" } : Jvm.MethodName)) ∈ TG := tg_2 156 rfl rfl
theorem kw_2_158 : (Jvm.Cond.code ({ cls := "BondWarehouse", name := "isWithin", desc := "(III)Z" } : Jvm.MethodName) prog_1_method_85_code (3 : Nat) (Option.some Jvm.ClassFile.FieldType.boolean)) ∈ TG := tg_2 158 rfl rfl
theorem kw_1_1 : (Jvm.Cond.initialized "BondWarehouse") ∈ TG := tg_1 1 rfl rfl
theorem kw_2_157 : (Jvm.Cond.static ({ cls := "BondWarehouse", name := "isWithin", desc := "(III)Z" } : Jvm.MethodName)) ∈ TG := tg_2 157 rfl rfl
theorem kw_1_166 : (Jvm.Cond.fieldLink "BondWarehouse$Chamber" (9 : Nat) "BondWarehouse$Chamber" "seal" "I") ∈ TG := tg_1 166 rfl rfl
theorem kw_1_230 : (Jvm.Cond.fieldLink "BondWarehouse$State" (62 : Nat) "BondWarehouse$State" "openCount" "I") ∈ TG := tg_1 230 rfl rfl
theorem kw_2_2 : (Jvm.Cond.fieldLink "BondWarehouse$State" (20 : Nat) "BondWarehouse$State" "entries" "[LBondWarehouse$Entry;") ∈ TG := tg_2 2 rfl rfl
theorem kw_1_233 : (Jvm.Cond.fieldLink "BondWarehouse$State" (65 : Nat) "BondWarehouse$State" "made" "I") ∈ TG := tg_1 233 rfl rfl
theorem kw_1_227 : (Jvm.Cond.fieldLink "BondWarehouse$State" (58 : Nat) "BondWarehouse$State" "day" "I") ∈ TG := tg_1 227 rfl rfl
theorem kw_1_186 : (Jvm.Cond.fieldLink "BondWarehouse$KindAccount" (9 : Nat) "BondWarehouse$KindAccount" "byValue" "I") ∈ TG := tg_1 186 rfl rfl
theorem kw_1_189 : (Jvm.Cond.fieldLink "BondWarehouse$KindAccount" (15 : Nat) "BondWarehouse$KindAccount" "byWeight" "I") ∈ TG := tg_1 189 rfl rfl
theorem kw_2_9 : (Jvm.Cond.fieldLink "BondWarehouse$State" (38 : Nat) "BondWarehouse$State" "kinds" "[LBondWarehouse$KindAccount;") ∈ TG := tg_2 9 rfl rfl
theorem kw_2_190 : (Jvm.Cond.code ({ cls := "BondWarehouse$KindAccount", name := "dutyOn", desc := "(III)I" } : Jvm.MethodName) prog_7_method_3_code (5 : Nat) (Option.some Jvm.ClassFile.FieldType.int)) ∈ TG := tg_2 190 rfl rfl
theorem kw_1_7 : (Jvm.Cond.initialized "BondWarehouse$KindAccount") ∈ TG := tg_1 7 rfl rfl
theorem kw_2_189 : (Jvm.Cond.instanceMethod ({ cls := "BondWarehouse$KindAccount", name := "dutyOn", desc := "(III)I" } : Jvm.MethodName)) ∈ TG := tg_2 189 rfl rfl
theorem ks_8 : Cond.selects "BondWarehouse$KindAccount" ⟨"BondWarehouse$KindAccount", "dutyOn", "(III)I"⟩ ⟨"BondWarehouse$KindAccount", "dutyOn", "(III)I"⟩ ∈ TG := tgS (q := (⟨"BondWarehouse$KindAccount", "dutyOn", "(III)I"⟩, 8)) (List.mem_of_getElem? (i := 8) rfl)
theorem kw_2_179 : (Jvm.Cond.methodLink "BondWarehouse$State" (109 : Nat) ({ cls := "BondWarehouse$State", name := "ageNow", desc := "(LBondWarehouse$Entry;)I" } : Jvm.MethodName)) ∈ TG := tg_2 179 rfl rfl
theorem kw_2_182 : (Jvm.Cond.code ({ cls := "BondWarehouse$State", name := "ageNow", desc := "(LBondWarehouse$Entry;)I" } : Jvm.MethodName) prog_10_method_10_code (2 : Nat) (Option.some Jvm.ClassFile.FieldType.int)) ∈ TG := tg_2 182 rfl rfl
theorem kw_1_2 : (Jvm.Cond.initialized "BondWarehouse$State") ∈ TG := tg_1 2 rfl rfl
theorem kw_2_181 : (Jvm.Cond.instanceMethod ({ cls := "BondWarehouse$State", name := "ageNow", desc := "(LBondWarehouse$Entry;)I" } : Jvm.MethodName)) ∈ TG := tg_2 181 rfl rfl
theorem ks_6 : Cond.selects "BondWarehouse$State" ⟨"BondWarehouse$State", "ageNow", "(LBondWarehouse$Entry;)I"⟩ ⟨"BondWarehouse$State", "ageNow", "(LBondWarehouse$Entry;)I"⟩ ∈ TG := tgS (q := (⟨"BondWarehouse$State", "ageNow", "(LBondWarehouse$Entry;)I"⟩, 11)) (List.mem_of_getElem? (i := 6) rfl)
theorem kw_2_183 : (Jvm.Cond.methodLink "BondWarehouse$State" (127 : Nat) ({ cls := "BondWarehouse$State", name := "wholeDuty", desc := "(LBondWarehouse$Entry;I)I" } : Jvm.MethodName)) ∈ TG := tg_2 183 rfl rfl
theorem kw_2_186 : (Jvm.Cond.code ({ cls := "BondWarehouse$State", name := "wholeDuty", desc := "(LBondWarehouse$Entry;I)I" } : Jvm.MethodName) prog_10_method_13_code (3 : Nat) (Option.some Jvm.ClassFile.FieldType.int)) ∈ TG := tg_2 186 rfl rfl
theorem kw_2_185 : (Jvm.Cond.instanceMethod ({ cls := "BondWarehouse$State", name := "wholeDuty", desc := "(LBondWarehouse$Entry;I)I" } : Jvm.MethodName)) ∈ TG := tg_2 185 rfl rfl
theorem ks_7 : Cond.selects "BondWarehouse$State" ⟨"BondWarehouse$State", "wholeDuty", "(LBondWarehouse$Entry;I)I"⟩ ⟨"BondWarehouse$State", "wholeDuty", "(LBondWarehouse$Entry;I)I"⟩ ∈ TG := tgS (q := (⟨"BondWarehouse$State", "wholeDuty", "(LBondWarehouse$Entry;I)I"⟩, 11)) (List.mem_of_getElem? (i := 7) rfl)
theorem kw_1_239 : (Jvm.Cond.fieldLink "BondWarehouse$State" (12 : Nat) "BondWarehouse$State" "money" "LBondWarehouse$Money;") ∈ TG := tg_1 239 rfl rfl
theorem kw_2_6 : (Jvm.Cond.fieldLink "BondWarehouse$State" (32 : Nat) "BondWarehouse$State" "chambers" "[LBondWarehouse$Chamber;") ∈ TG := tg_2 6 rfl rfl
theorem kw_2_166 : (Jvm.Cond.code ({ cls := "BondWarehouse$Chamber", name := "isSealed", desc := "()Z" } : Jvm.MethodName) prog_2_method_3_code (1 : Nat) (Option.some Jvm.ClassFile.FieldType.boolean)) ∈ TG := tg_2 166 rfl rfl
theorem kw_1_6 : (Jvm.Cond.initialized "BondWarehouse$Chamber") ∈ TG := tg_1 6 rfl rfl
theorem kw_2_165 : (Jvm.Cond.instanceMethod ({ cls := "BondWarehouse$Chamber", name := "isSealed", desc := "()Z" } : Jvm.MethodName)) ∈ TG := tg_2 165 rfl rfl
theorem ks_2 : Cond.selects "BondWarehouse$Chamber" ⟨"BondWarehouse$Chamber", "isSealed", "()Z"⟩ ⟨"BondWarehouse$Chamber", "isSealed", "()Z"⟩ ∈ TG := tgS (q := (⟨"BondWarehouse$Chamber", "isSealed", "()Z"⟩, 2)) (List.mem_of_getElem? (i := 2) rfl)
theorem kw_2_167 : (Jvm.Cond.methodLink "BondWarehouse$State" (160 : Nat) ({ cls := "BondWarehouse$State", name := "roomLeft", desc := "(I)I" } : Jvm.MethodName)) ∈ TG := tg_2 167 rfl rfl
theorem kw_2_170 : (Jvm.Cond.code ({ cls := "BondWarehouse$State", name := "roomLeft", desc := "(I)I" } : Jvm.MethodName) prog_10_method_19_code (4 : Nat) (Option.some Jvm.ClassFile.FieldType.int)) ∈ TG := tg_2 170 rfl rfl
theorem kw_2_169 : (Jvm.Cond.instanceMethod ({ cls := "BondWarehouse$State", name := "roomLeft", desc := "(I)I" } : Jvm.MethodName)) ∈ TG := tg_2 169 rfl rfl
theorem ks_3 : Cond.selects "BondWarehouse$State" ⟨"BondWarehouse$State", "roomLeft", "(I)I"⟩ ⟨"BondWarehouse$State", "roomLeft", "(I)I"⟩ ∈ TG := tgS (q := (⟨"BondWarehouse$State", "roomLeft", "(I)I"⟩, 11)) (List.mem_of_getElem? (i := 3) rfl)
theorem kw_2_171 : (Jvm.Cond.methodLink "BondWarehouse$State" (163 : Nat) ({ cls := "BondWarehouse$State", name := "hasPlace", desc := "()Z" } : Jvm.MethodName)) ∈ TG := tg_2 171 rfl rfl
theorem kw_2_174 : (Jvm.Cond.code ({ cls := "BondWarehouse$State", name := "hasPlace", desc := "()Z" } : Jvm.MethodName) prog_10_method_6_code (1 : Nat) (Option.some Jvm.ClassFile.FieldType.boolean)) ∈ TG := tg_2 174 rfl rfl
theorem kw_2_173 : (Jvm.Cond.instanceMethod ({ cls := "BondWarehouse$State", name := "hasPlace", desc := "()Z" } : Jvm.MethodName)) ∈ TG := tg_2 173 rfl rfl
theorem ks_4 : Cond.selects "BondWarehouse$State" ⟨"BondWarehouse$State", "hasPlace", "()Z"⟩ ⟨"BondWarehouse$State", "hasPlace", "()Z"⟩ ∈ TG := tgS (q := (⟨"BondWarehouse$State", "hasPlace", "()Z"⟩, 11)) (List.mem_of_getElem? (i := 4) rfl)
theorem kw_2_175 : (Jvm.Cond.methodLink "BondWarehouse$State" (166 : Nat) ({ cls := "BondWarehouse$State", name := "stake", desc := "()I" } : Jvm.MethodName)) ∈ TG := tg_2 175 rfl rfl
theorem kw_2_178 : (Jvm.Cond.code ({ cls := "BondWarehouse$State", name := "stake", desc := "()I" } : Jvm.MethodName) prog_10_method_14_code (3 : Nat) (Option.some Jvm.ClassFile.FieldType.int)) ∈ TG := tg_2 178 rfl rfl
theorem kw_2_177 : (Jvm.Cond.instanceMethod ({ cls := "BondWarehouse$State", name := "stake", desc := "()I" } : Jvm.MethodName)) ∈ TG := tg_2 177 rfl rfl
theorem ks_5 : Cond.selects "BondWarehouse$State" ⟨"BondWarehouse$State", "stake", "()I"⟩ ⟨"BondWarehouse$State", "stake", "()I"⟩ ∈ TG := tgS (q := (⟨"BondWarehouse$State", "stake", "()I"⟩, 11)) (List.mem_of_getElem? (i := 5) rfl)
theorem kw_1_38 : (Jvm.Cond.fieldLink "BondWarehouse$Money" (7 : Nat) "BondWarehouse$Money" "bond" "I") ∈ TG := tg_1 38 rfl rfl
theorem kw_1_42 : (Jvm.Cond.fieldLink "BondWarehouse$Money" (13 : Nat) "BondWarehouse$Money" "account" "I") ∈ TG := tg_1 42 rfl rfl
theorem kw_1_46 : (Jvm.Cond.fieldLink "BondWarehouse$Money" (16 : Nat) "BondWarehouse$Money" "debt" "I") ∈ TG := tg_1 46 rfl rfl
theorem kw_1_49 : (Jvm.Cond.fieldLink "BondWarehouse$Money" (19 : Nat) "BondWarehouse$Money" "deposits" "I") ∈ TG := tg_1 49 rfl rfl
theorem kw_1_51 : (Jvm.Cond.fieldLink "BondWarehouse$Money" (22 : Nat) "BondWarehouse$Money" "dutiesPaid" "I") ∈ TG := tg_1 51 rfl rfl
theorem kw_1_53 : (Jvm.Cond.fieldLink "BondWarehouse$Money" (25 : Nat) "BondWarehouse$Money" "charges" "I") ∈ TG := tg_1 53 rfl rfl
theorem kw_1_55 : (Jvm.Cond.fieldLink "BondWarehouse$Money" (28 : Nat) "BondWarehouse$Money" "drawbacks" "I") ∈ TG := tg_1 55 rfl rfl
theorem kw_1_85 : (Jvm.Cond.fieldLink "BondWarehouse$Entry" (7 : Nat) "BondWarehouse$Entry" "number" "I") ∈ TG := tg_1 85 rfl rfl
theorem kw_1_89 : (Jvm.Cond.fieldLink "BondWarehouse$Entry" (13 : Nat) "BondWarehouse$Entry" "kind" "I") ∈ TG := tg_1 89 rfl rfl
theorem kw_1_93 : (Jvm.Cond.fieldLink "BondWarehouse$Entry" (16 : Nat) "BondWarehouse$Entry" "weight" "I") ∈ TG := tg_1 93 rfl rfl
theorem kw_1_97 : (Jvm.Cond.fieldLink "BondWarehouse$Entry" (19 : Nat) "BondWarehouse$Entry" "value" "I") ∈ TG := tg_1 97 rfl rfl
theorem kw_1_101 : (Jvm.Cond.fieldLink "BondWarehouse$Entry" (22 : Nat) "BondWarehouse$Entry" "chamber" "I") ∈ TG := tg_1 101 rfl rfl
theorem kw_1_105 : (Jvm.Cond.fieldLink "BondWarehouse$Entry" (25 : Nat) "BondWarehouse$Entry" "dayEntered" "I") ∈ TG := tg_1 105 rfl rfl
theorem kw_1_108 : (Jvm.Cond.fieldLink "BondWarehouse$Entry" (28 : Nat) "BondWarehouse$Entry" "dayWeighed" "I") ∈ TG := tg_1 108 rfl rfl
theorem kw_1_111 : (Jvm.Cond.fieldLink "BondWarehouse$Entry" (31 : Nat) "BondWarehouse$Entry" "proved" "Z") ∈ TG := tg_1 111 rfl rfl
theorem kw_1_138 : (Jvm.Cond.fieldLink "BondWarehouse$Receipt" (7 : Nat) "BondWarehouse$Receipt" "kind" "I") ∈ TG := tg_1 138 rfl rfl
theorem kw_1_141 : (Jvm.Cond.fieldLink "BondWarehouse$Receipt" (13 : Nat) "BondWarehouse$Receipt" "weight" "I") ∈ TG := tg_1 141 rfl rfl
theorem kw_1_145 : (Jvm.Cond.fieldLink "BondWarehouse$Receipt" (16 : Nat) "BondWarehouse$Receipt" "duty" "I") ∈ TG := tg_1 145 rfl rfl
theorem kw_1_148 : (Jvm.Cond.fieldLink "BondWarehouse$Receipt" (19 : Nat) "BondWarehouse$Receipt" "dayMade" "I") ∈ TG := tg_1 148 rfl rfl
theorem kw_1_169 : (Jvm.Cond.fieldLink "BondWarehouse$Chamber" (15 : Nat) "BondWarehouse$Chamber" "broken" "Z") ∈ TG := tg_1 169 rfl rfl
theorem kw_1_192 : (Jvm.Cond.fieldLink "BondWarehouse$KindAccount" (18 : Nat) "BondWarehouse$KindAccount" "entered" "I") ∈ TG := tg_1 192 rfl rfl
theorem kw_1_195 : (Jvm.Cond.fieldLink "BondWarehouse$KindAccount" (21 : Nat) "BondWarehouse$KindAccount" "withdrawn" "I") ∈ TG := tg_1 195 rfl rfl
theorem kw_1_198 : (Jvm.Cond.fieldLink "BondWarehouse$KindAccount" (24 : Nat) "BondWarehouse$KindAccount" "sentAbroad" "I") ∈ TG := tg_1 198 rfl rfl
theorem kw_1_201 : (Jvm.Cond.fieldLink "BondWarehouse$KindAccount" (27 : Nat) "BondWarehouse$KindAccount" "wasted" "I") ∈ TG := tg_1 201 rfl rfl
theorem kw_1_204 : (Jvm.Cond.fieldLink "BondWarehouse$KindAccount" (30 : Nat) "BondWarehouse$KindAccount" "lost" "I") ∈ TG := tg_1 204 rfl rfl
theorem kw_1_207 : (Jvm.Cond.fieldLink "BondWarehouse$KindAccount" (33 : Nat) "BondWarehouse$KindAccount" "drawnBack" "I") ∈ TG := tg_1 207 rfl rfl
theorem kw_1_235 : (Jvm.Cond.fieldLink "BondWarehouse$State" (68 : Nat) "BondWarehouse$State" "sealsPut" "I") ∈ TG := tg_1 235 rfl rfl
theorem kw_1_237 : (Jvm.Cond.fieldLink "BondWarehouse$State" (71 : Nat) "BondWarehouse$State" "receiptCount" "I") ∈ TG := tg_1 237 rfl rfl
theorem kw_2_202 : (Jvm.Cond.code ({ cls := "BondWarehouse$Money", name := "copyFrom", desc := "(LBondWarehouse$Money;)V" } : Jvm.MethodName) prog_8_method_2_code (2 : Nat) (Option.none : Option Jvm.ClassFile.FieldType)) ∈ TG := tg_2 202 rfl rfl
theorem kw_1_3 : (Jvm.Cond.initialized "BondWarehouse$Money") ∈ TG := tg_1 3 rfl rfl
theorem kw_2_201 : (Jvm.Cond.instanceMethod ({ cls := "BondWarehouse$Money", name := "copyFrom", desc := "(LBondWarehouse$Money;)V" } : Jvm.MethodName)) ∈ TG := tg_2 201 rfl rfl
theorem ks_11 : Cond.selects "BondWarehouse$Money" ⟨"BondWarehouse$Money", "copyFrom", "(LBondWarehouse$Money;)V"⟩ ⟨"BondWarehouse$Money", "copyFrom", "(LBondWarehouse$Money;)V"⟩ ∈ TG := tgS (q := (⟨"BondWarehouse$Money", "copyFrom", "(LBondWarehouse$Money;)V"⟩, 7)) (List.mem_of_getElem? (i := 11) rfl)
theorem kw_2_218 : (Jvm.Cond.code ({ cls := "BondWarehouse$KindAccount", name := "copyFrom", desc := "(LBondWarehouse$KindAccount;)V" } : Jvm.MethodName) prog_7_method_2_code (2 : Nat) (Option.none : Option Jvm.ClassFile.FieldType)) ∈ TG := tg_2 218 rfl rfl
theorem kw_2_217 : (Jvm.Cond.instanceMethod ({ cls := "BondWarehouse$KindAccount", name := "copyFrom", desc := "(LBondWarehouse$KindAccount;)V" } : Jvm.MethodName)) ∈ TG := tg_2 217 rfl rfl
theorem ks_15 : Cond.selects "BondWarehouse$KindAccount" ⟨"BondWarehouse$KindAccount", "copyFrom", "(LBondWarehouse$KindAccount;)V"⟩ ⟨"BondWarehouse$KindAccount", "copyFrom", "(LBondWarehouse$KindAccount;)V"⟩ ∈ TG := tgS (q := (⟨"BondWarehouse$KindAccount", "copyFrom", "(LBondWarehouse$KindAccount;)V"⟩, 8)) (List.mem_of_getElem? (i := 15) rfl)
theorem kw_2_214 : (Jvm.Cond.code ({ cls := "BondWarehouse$Chamber", name := "copyFrom", desc := "(LBondWarehouse$Chamber;)V" } : Jvm.MethodName) prog_2_method_2_code (2 : Nat) (Option.none : Option Jvm.ClassFile.FieldType)) ∈ TG := tg_2 214 rfl rfl
theorem kw_2_213 : (Jvm.Cond.instanceMethod ({ cls := "BondWarehouse$Chamber", name := "copyFrom", desc := "(LBondWarehouse$Chamber;)V" } : Jvm.MethodName)) ∈ TG := tg_2 213 rfl rfl
theorem ks_14 : Cond.selects "BondWarehouse$Chamber" ⟨"BondWarehouse$Chamber", "copyFrom", "(LBondWarehouse$Chamber;)V"⟩ ⟨"BondWarehouse$Chamber", "copyFrom", "(LBondWarehouse$Chamber;)V"⟩ ∈ TG := tgS (q := (⟨"BondWarehouse$Chamber", "copyFrom", "(LBondWarehouse$Chamber;)V"⟩, 2)) (List.mem_of_getElem? (i := 14) rfl)
theorem kw_2_5 : (Jvm.Cond.fieldLink "BondWarehouse$State" (26 : Nat) "BondWarehouse$State" "receipts" "[LBondWarehouse$Receipt;") ∈ TG := tg_2 5 rfl rfl
theorem kw_2_210 : (Jvm.Cond.code ({ cls := "BondWarehouse$Receipt", name := "copyFrom", desc := "(LBondWarehouse$Receipt;)V" } : Jvm.MethodName) prog_9_method_2_code (2 : Nat) (Option.none : Option Jvm.ClassFile.FieldType)) ∈ TG := tg_2 210 rfl rfl
theorem kw_1_5 : (Jvm.Cond.initialized "BondWarehouse$Receipt") ∈ TG := tg_1 5 rfl rfl
theorem kw_2_209 : (Jvm.Cond.instanceMethod ({ cls := "BondWarehouse$Receipt", name := "copyFrom", desc := "(LBondWarehouse$Receipt;)V" } : Jvm.MethodName)) ∈ TG := tg_2 209 rfl rfl
theorem ks_13 : Cond.selects "BondWarehouse$Receipt" ⟨"BondWarehouse$Receipt", "copyFrom", "(LBondWarehouse$Receipt;)V"⟩ ⟨"BondWarehouse$Receipt", "copyFrom", "(LBondWarehouse$Receipt;)V"⟩ ∈ TG := tgS (q := (⟨"BondWarehouse$Receipt", "copyFrom", "(LBondWarehouse$Receipt;)V"⟩, 4)) (List.mem_of_getElem? (i := 13) rfl)
theorem kw_2_206 : (Jvm.Cond.code ({ cls := "BondWarehouse$Entry", name := "copyFrom", desc := "(LBondWarehouse$Entry;)V" } : Jvm.MethodName) prog_4_method_2_code (2 : Nat) (Option.none : Option Jvm.ClassFile.FieldType)) ∈ TG := tg_2 206 rfl rfl
theorem kw_1_4 : (Jvm.Cond.initialized "BondWarehouse$Entry") ∈ TG := tg_1 4 rfl rfl
theorem kw_2_205 : (Jvm.Cond.instanceMethod ({ cls := "BondWarehouse$Entry", name := "copyFrom", desc := "(LBondWarehouse$Entry;)V" } : Jvm.MethodName)) ∈ TG := tg_2 205 rfl rfl
theorem ks_12 : Cond.selects "BondWarehouse$Entry" ⟨"BondWarehouse$Entry", "copyFrom", "(LBondWarehouse$Entry;)V"⟩ ⟨"BondWarehouse$Entry", "copyFrom", "(LBondWarehouse$Entry;)V"⟩ ∈ TG := tgS (q := (⟨"BondWarehouse$Entry", "copyFrom", "(LBondWarehouse$Entry;)V"⟩, 8)) (List.mem_of_getElem? (i := 12) rfl)
theorem kw_2_53 : (Jvm.Cond.fieldLink "BondWarehouse$History" (25 : Nat) "BondWarehouse$History" "paused" "Z") ∈ TG := tg_2 53 rfl rfl
theorem kw_2_47 : (Jvm.Cond.fieldLink "BondWarehouse$History" (29 : Nat) "BondWarehouse$History" "count" "I") ∈ TG := tg_2 47 rfl rfl
theorem kw_2_46 : (Jvm.Cond.fieldLink "BondWarehouse$History" (33 : Nat) "BondWarehouse$History" "oldest" "I") ∈ TG := tg_2 46 rfl rfl
theorem kw_2_45 : (Jvm.Cond.fieldLink "BondWarehouse$History" (11 : Nat) "BondWarehouse$History" "saved" "[LBondWarehouse$State;") ∈ TG := tg_2 45 rfl rfl
theorem kw_2_198 : (Jvm.Cond.code ({ cls := "BondWarehouse$State", name := "copyFrom", desc := "(LBondWarehouse$State;)V" } : Jvm.MethodName) prog_10_method_2_code (3 : Nat) (Option.none : Option Jvm.ClassFile.FieldType)) ∈ TG := tg_2 198 rfl rfl
theorem kw_2_197 : (Jvm.Cond.instanceMethod ({ cls := "BondWarehouse$State", name := "copyFrom", desc := "(LBondWarehouse$State;)V" } : Jvm.MethodName)) ∈ TG := tg_2 197 rfl rfl
theorem ks_10 : Cond.selects "BondWarehouse$State" ⟨"BondWarehouse$State", "copyFrom", "(LBondWarehouse$State;)V"⟩ ⟨"BondWarehouse$State", "copyFrom", "(LBondWarehouse$State;)V"⟩ ∈ TG := tgS (q := (⟨"BondWarehouse$State", "copyFrom", "(LBondWarehouse$State;)V"⟩, 11)) (List.mem_of_getElem? (i := 10) rfl)
theorem kw_2_155 : (Jvm.Cond.code ({ cls := "BondWarehouse", name := "areGoods", desc := "(IIII)Z" } : Jvm.MethodName) prog_1_method_86_code (4 : Nat) (Option.some Jvm.ClassFile.FieldType.boolean)) ∈ TG := tg_2 155 rfl rfl
theorem kw_2_154 : (Jvm.Cond.static ({ cls := "BondWarehouse", name := "areGoods", desc := "(IIII)Z" } : Jvm.MethodName)) ∈ TG := tg_2 154 rfl rfl
theorem kw_2_75 : (Jvm.Cond.fieldLink "BondWarehouse$Deeds" (9 : Nat) "BondWarehouse$Deeds" "state" "LBondWarehouse$State;") ∈ TG := tg_2 75 rfl rfl
theorem kw_2_162 : (Jvm.Cond.code ({ cls := "BondWarehouse$State", name := "reasonAgainstEntry", desc := "(IIII)I" } : Jvm.MethodName) prog_10_method_21_code (5 : Nat) (Option.some Jvm.ClassFile.FieldType.int)) ∈ TG := tg_2 162 rfl rfl
theorem kw_2_161 : (Jvm.Cond.instanceMethod ({ cls := "BondWarehouse$State", name := "reasonAgainstEntry", desc := "(IIII)I" } : Jvm.MethodName)) ∈ TG := tg_2 161 rfl rfl
theorem ks_1 : Cond.selects "BondWarehouse$State" ⟨"BondWarehouse$State", "reasonAgainstEntry", "(IIII)I"⟩ ⟨"BondWarehouse$State", "reasonAgainstEntry", "(IIII)I"⟩ ∈ TG := tgS (q := (⟨"BondWarehouse$State", "reasonAgainstEntry", "(IIII)I"⟩, 11)) (List.mem_of_getElem? (i := 1) rfl)
theorem kw_2_76 : (Jvm.Cond.fieldLink "BondWarehouse$Deeds" (15 : Nat) "BondWarehouse$Deeds" "history" "LBondWarehouse$History;") ∈ TG := tg_2 76 rfl rfl
theorem kw_2_194 : (Jvm.Cond.code ({ cls := "BondWarehouse$History", name := "save", desc := "(LBondWarehouse$State;)V" } : Jvm.MethodName) prog_5_method_2_code (2 : Nat) (Option.none : Option Jvm.ClassFile.FieldType)) ∈ TG := tg_2 194 rfl rfl
theorem kw_1_8 : (Jvm.Cond.initialized "BondWarehouse$History") ∈ TG := tg_1 8 rfl rfl
theorem kw_2_193 : (Jvm.Cond.instanceMethod ({ cls := "BondWarehouse$History", name := "save", desc := "(LBondWarehouse$State;)V" } : Jvm.MethodName)) ∈ TG := tg_2 193 rfl rfl
theorem ks_9 : Cond.selects "BondWarehouse$History" ⟨"BondWarehouse$History", "save", "(LBondWarehouse$State;)V"⟩ ⟨"BondWarehouse$History", "save", "(LBondWarehouse$State;)V"⟩ ∈ TG := tgS (q := (⟨"BondWarehouse$History", "save", "(LBondWarehouse$State;)V"⟩, 6)) (List.mem_of_getElem? (i := 9) rfl)
theorem kw_2_222 : (Jvm.Cond.code ({ cls := "BondWarehouse$State", name := "addEntry", desc := "()LBondWarehouse$Entry;" } : Jvm.MethodName) prog_10_method_7_code (2 : Nat) (Option.some (Jvm.ClassFile.FieldType.object "BondWarehouse$Entry"))) ∈ TG := tg_2 222 rfl rfl
theorem kw_2_221 : (Jvm.Cond.instanceMethod ({ cls := "BondWarehouse$State", name := "addEntry", desc := "()LBondWarehouse$Entry;" } : Jvm.MethodName)) ∈ TG := tg_2 221 rfl rfl
theorem ks_16 : Cond.selects "BondWarehouse$State" ⟨"BondWarehouse$State", "addEntry", "()LBondWarehouse$Entry;"⟩ ⟨"BondWarehouse$State", "addEntry", "()LBondWarehouse$Entry;"⟩ ∈ TG := tgS (q := (⟨"BondWarehouse$State", "addEntry", "()LBondWarehouse$Entry;"⟩, 11)) (List.mem_of_getElem? (i := 16) rfl)
theorem kw_3_70 : (Jvm.Cond.classLink "BondWarehouse" (338 : Nat) "java/lang/IllegalStateException") ∈ TG := tg_3 70 rfl rfl
theorem kw_1_17 : (Jvm.Cond.initialized "java/lang/IllegalStateException") ∈ TG := tg_1 17 rfl rfl
theorem kw_3_54 : (Jvm.Cond.classLink "BondWarehouse" (279 : Nat) "java/lang/IllegalArgumentException") ∈ TG := tg_3 54 rfl rfl
theorem kw_1_16 : (Jvm.Cond.initialized "java/lang/IllegalArgumentException") ∈ TG := tg_1 16 rfl rfl
theorem kw_2_226 : (Jvm.Cond.classLink "BondWarehouse" (111 : Nat) "java/lang/IndexOutOfBoundsException") ∈ TG := tg_2 226 rfl rfl
theorem kw_1_15 : (Jvm.Cond.initialized "java/lang/IndexOutOfBoundsException") ∈ TG := tg_1 15 rfl rfl
theorem kw_2_113 : (Jvm.Cond.fieldLink "BondWarehouse" (28 : Nat) "BondWarehouse" "deeds" "LBondWarehouse$Deeds;") ∈ TG := tg_2 113 rfl rfl
theorem kw_2_152 : (Jvm.Cond.code ({ cls := "BondWarehouse$Deeds", name := "bringIn", desc := "(IIII)I" } : Jvm.MethodName) prog_3_method_2_code (6 : Nat) (Option.some Jvm.ClassFile.FieldType.int)) ∈ TG := tg_2 152 rfl rfl
theorem kw_1_9 : (Jvm.Cond.initialized "BondWarehouse$Deeds") ∈ TG := tg_1 9 rfl rfl
theorem kw_2_151 : (Jvm.Cond.instanceMethod ({ cls := "BondWarehouse$Deeds", name := "bringIn", desc := "(IIII)I" } : Jvm.MethodName)) ∈ TG := tg_2 151 rfl rfl
theorem ks_0 : Cond.selects "BondWarehouse$Deeds" ⟨"BondWarehouse$Deeds", "bringIn", "(IIII)I"⟩ ⟨"BondWarehouse$Deeds", "bringIn", "(IIII)I"⟩ ∈ TG := tgS (q := (⟨"BondWarehouse$Deeds", "bringIn", "(IIII)I"⟩, 2)) (List.mem_of_getElem? (i := 0) rfl)
theorem kw_2_223 : (Jvm.Cond.methodLink "BondWarehouse" (43 : Nat) ({ cls := "BondWarehouse", name := "answer", desc := "(I)I" } : Jvm.MethodName)) ∈ TG := tg_2 223 rfl rfl
theorem kw_2_225 : (Jvm.Cond.code ({ cls := "BondWarehouse", name := "answer", desc := "(I)I" } : Jvm.MethodName) prog_1_method_88_code (1 : Nat) (Option.some Jvm.ClassFile.FieldType.int)) ∈ TG := tg_2 225 rfl rfl
theorem kw_2_224 : (Jvm.Cond.static ({ cls := "BondWarehouse", name := "answer", desc := "(I)I" } : Jvm.MethodName)) ∈ TG := tg_2 224 rfl rfl
theorem kw_3_123 : (Jvm.Cond.code ({ cls := "BondWarehouse$Entry", name := "shareOf", desc := "(I)I" } : Jvm.MethodName) prog_4_method_3_code (2 : Nat) (Option.some Jvm.ClassFile.FieldType.int)) ∈ TG := tg_3 123 rfl rfl
theorem kw_3_122 : (Jvm.Cond.instanceMethod ({ cls := "BondWarehouse$Entry", name := "shareOf", desc := "(I)I" } : Jvm.MethodName)) ∈ TG := tg_3 122 rfl rfl
theorem ks_23 : Cond.selects "BondWarehouse$Entry" ⟨"BondWarehouse$Entry", "shareOf", "(I)I"⟩ ⟨"BondWarehouse$Entry", "shareOf", "(I)I"⟩ ∈ TG := tgS (q := (⟨"BondWarehouse$Entry", "shareOf", "(I)I"⟩, 8)) (List.mem_of_getElem? (i := 23) rfl)
theorem kw_3_112 : (Jvm.Cond.methodLink "BondWarehouse$State" (173 : Nat) ({ cls := "BondWarehouse$State", name := "reasonAgainstLeaving", desc := "(LBondWarehouse$Entry;I)I" } : Jvm.MethodName)) ∈ TG := tg_3 112 rfl rfl
theorem kw_3_115 : (Jvm.Cond.code ({ cls := "BondWarehouse$State", name := "reasonAgainstLeaving", desc := "(LBondWarehouse$Entry;I)I" } : Jvm.MethodName) prog_10_method_22_code (3 : Nat) (Option.some Jvm.ClassFile.FieldType.int)) ∈ TG := tg_3 115 rfl rfl
theorem kw_3_114 : (Jvm.Cond.instanceMethod ({ cls := "BondWarehouse$State", name := "reasonAgainstLeaving", desc := "(LBondWarehouse$Entry;I)I" } : Jvm.MethodName)) ∈ TG := tg_3 114 rfl rfl
theorem ks_21 : Cond.selects "BondWarehouse$State" ⟨"BondWarehouse$State", "reasonAgainstLeaving", "(LBondWarehouse$Entry;I)I"⟩ ⟨"BondWarehouse$State", "reasonAgainstLeaving", "(LBondWarehouse$Entry;I)I"⟩ ∈ TG := tgS (q := (⟨"BondWarehouse$State", "reasonAgainstLeaving", "(LBondWarehouse$Entry;I)I"⟩, 11)) (List.mem_of_getElem? (i := 21) rfl)
theorem kw_3_116 : (Jvm.Cond.methodLink "BondWarehouse$State" (143 : Nat) ({ cls := "BondWarehouse$State", name := "dutyNow", desc := "(LBondWarehouse$Entry;I)I" } : Jvm.MethodName)) ∈ TG := tg_3 116 rfl rfl
theorem kw_3_119 : (Jvm.Cond.code ({ cls := "BondWarehouse$State", name := "dutyNow", desc := "(LBondWarehouse$Entry;I)I" } : Jvm.MethodName) prog_10_method_12_code (3 : Nat) (Option.some Jvm.ClassFile.FieldType.int)) ∈ TG := tg_3 119 rfl rfl
theorem kw_3_118 : (Jvm.Cond.instanceMethod ({ cls := "BondWarehouse$State", name := "dutyNow", desc := "(LBondWarehouse$Entry;I)I" } : Jvm.MethodName)) ∈ TG := tg_3 118 rfl rfl
theorem ks_22 : Cond.selects "BondWarehouse$State" ⟨"BondWarehouse$State", "dutyNow", "(LBondWarehouse$Entry;I)I"⟩ ⟨"BondWarehouse$State", "dutyNow", "(LBondWarehouse$Entry;I)I"⟩ ∈ TG := tgS (q := (⟨"BondWarehouse$State", "dutyNow", "(LBondWarehouse$Entry;I)I"⟩, 11)) (List.mem_of_getElem? (i := 22) rfl)
theorem kw_3_133 : (Jvm.Cond.methodLink "BondWarehouse$State" (100 : Nat) ({ cls := "java/lang/Math", name := "min", desc := "(II)I" } : Jvm.MethodName)) ∈ TG := tg_3 133 rfl rfl
theorem kw_3_134 : (Jvm.Cond.static ({ cls := "java/lang/Math", name := "min", desc := "(II)I" } : Jvm.MethodName)) ∈ TG := tg_3 134 rfl rfl
theorem kw_1_11 : (Jvm.Cond.initialized "java/lang/Math") ∈ TG := tg_1 11 rfl rfl
theorem kw_3_135 : (Jvm.Cond.code ({ cls := "java/lang/Math", name := "min", desc := "(II)I" } : Jvm.MethodName) prog_17_method_69_code (2 : Nat) (Option.some Jvm.ClassFile.FieldType.int)) ∈ TG := tg_3 135 rfl rfl
theorem kw_3_140 : (Jvm.Cond.methodLink "BondWarehouse$Entry" (35 : Nat) ({ cls := "BondWarehouse$Entry", name := "shareOf", desc := "(I)I" } : Jvm.MethodName)) ∈ TG := tg_3 140 rfl rfl
theorem kw_3_106 : (Jvm.Cond.code ({ cls := "BondWarehouse$State", name := "findEntry", desc := "(I)LBondWarehouse$Entry;" } : Jvm.MethodName) prog_10_method_3_code (3 : Nat) (Option.some (Jvm.ClassFile.FieldType.object "BondWarehouse$Entry"))) ∈ TG := tg_3 106 rfl rfl
theorem kw_3_105 : (Jvm.Cond.instanceMethod ({ cls := "BondWarehouse$State", name := "findEntry", desc := "(I)LBondWarehouse$Entry;" } : Jvm.MethodName)) ∈ TG := tg_3 105 rfl rfl
theorem ks_19 : Cond.selects "BondWarehouse$State" ⟨"BondWarehouse$State", "findEntry", "(I)LBondWarehouse$Entry;"⟩ ⟨"BondWarehouse$State", "findEntry", "(I)LBondWarehouse$Entry;"⟩ ∈ TG := tgS (q := (⟨"BondWarehouse$State", "findEntry", "(I)LBondWarehouse$Entry;"⟩, 11)) (List.mem_of_getElem? (i := 19) rfl)
theorem kw_3_111 : (Jvm.Cond.code ({ cls := "BondWarehouse$State", name := "reasonAgainstWithdrawal", desc := "(LBondWarehouse$Entry;I)I" } : Jvm.MethodName) prog_10_method_23_code (4 : Nat) (Option.some Jvm.ClassFile.FieldType.int)) ∈ TG := tg_3 111 rfl rfl
theorem kw_3_110 : (Jvm.Cond.instanceMethod ({ cls := "BondWarehouse$State", name := "reasonAgainstWithdrawal", desc := "(LBondWarehouse$Entry;I)I" } : Jvm.MethodName)) ∈ TG := tg_3 110 rfl rfl
theorem ks_20 : Cond.selects "BondWarehouse$State" ⟨"BondWarehouse$State", "reasonAgainstWithdrawal", "(LBondWarehouse$Entry;I)I"⟩ ⟨"BondWarehouse$State", "reasonAgainstWithdrawal", "(LBondWarehouse$Entry;I)I"⟩ ∈ TG := tgS (q := (⟨"BondWarehouse$State", "reasonAgainstWithdrawal", "(LBondWarehouse$Entry;I)I"⟩, 11)) (List.mem_of_getElem? (i := 20) rfl)
theorem kw_3_128 : (Jvm.Cond.code ({ cls := "BondWarehouse$Money", name := "takeDuty", desc := "(I)V" } : Jvm.MethodName) prog_8_method_5_code (2 : Nat) (Option.none : Option Jvm.ClassFile.FieldType)) ∈ TG := tg_3 128 rfl rfl
theorem kw_3_127 : (Jvm.Cond.instanceMethod ({ cls := "BondWarehouse$Money", name := "takeDuty", desc := "(I)V" } : Jvm.MethodName)) ∈ TG := tg_3 127 rfl rfl
theorem ks_24 : Cond.selects "BondWarehouse$Money" ⟨"BondWarehouse$Money", "takeDuty", "(I)V"⟩ ⟨"BondWarehouse$Money", "takeDuty", "(I)V"⟩ ∈ TG := tgS (q := (⟨"BondWarehouse$Money", "takeDuty", "(I)V"⟩, 7)) (List.mem_of_getElem? (i := 24) rfl)
theorem kw_3_132 : (Jvm.Cond.code ({ cls := "BondWarehouse$State", name := "addReceipt", desc := "()LBondWarehouse$Receipt;" } : Jvm.MethodName) prog_10_method_9_code (3 : Nat) (Option.some (Jvm.ClassFile.FieldType.object "BondWarehouse$Receipt"))) ∈ TG := tg_3 132 rfl rfl
theorem kw_3_131 : (Jvm.Cond.instanceMethod ({ cls := "BondWarehouse$State", name := "addReceipt", desc := "()LBondWarehouse$Receipt;" } : Jvm.MethodName)) ∈ TG := tg_3 131 rfl rfl
theorem ks_25 : Cond.selects "BondWarehouse$State" ⟨"BondWarehouse$State", "addReceipt", "()LBondWarehouse$Receipt;"⟩ ⟨"BondWarehouse$State", "addReceipt", "()LBondWarehouse$Receipt;"⟩ ∈ TG := tgS (q := (⟨"BondWarehouse$State", "addReceipt", "()LBondWarehouse$Receipt;"⟩, 11)) (List.mem_of_getElem? (i := 25) rfl)
theorem kw_3_139 : (Jvm.Cond.code ({ cls := "BondWarehouse$Entry", name := "losePart", desc := "(I)V" } : Jvm.MethodName) prog_4_method_4_code (2 : Nat) (Option.none : Option Jvm.ClassFile.FieldType)) ∈ TG := tg_3 139 rfl rfl
theorem kw_3_138 : (Jvm.Cond.instanceMethod ({ cls := "BondWarehouse$Entry", name := "losePart", desc := "(I)V" } : Jvm.MethodName)) ∈ TG := tg_3 138 rfl rfl
theorem ks_26 : Cond.selects "BondWarehouse$Entry" ⟨"BondWarehouse$Entry", "losePart", "(I)V"⟩ ⟨"BondWarehouse$Entry", "losePart", "(I)V"⟩ ∈ TG := tgS (q := (⟨"BondWarehouse$Entry", "losePart", "(I)V"⟩, 8)) (List.mem_of_getElem? (i := 26) rfl)
theorem kw_3_144 : (Jvm.Cond.code ({ cls := "BondWarehouse$State", name := "closeIfEmpty", desc := "(LBondWarehouse$Entry;)V" } : Jvm.MethodName) prog_10_method_8_code (3 : Nat) (Option.none : Option Jvm.ClassFile.FieldType)) ∈ TG := tg_3 144 rfl rfl
theorem kw_3_143 : (Jvm.Cond.instanceMethod ({ cls := "BondWarehouse$State", name := "closeIfEmpty", desc := "(LBondWarehouse$Entry;)V" } : Jvm.MethodName)) ∈ TG := tg_3 143 rfl rfl
theorem ks_27 : Cond.selects "BondWarehouse$State" ⟨"BondWarehouse$State", "closeIfEmpty", "(LBondWarehouse$Entry;)V"⟩ ⟨"BondWarehouse$State", "closeIfEmpty", "(LBondWarehouse$Entry;)V"⟩ ∈ TG := tgS (q := (⟨"BondWarehouse$State", "closeIfEmpty", "(LBondWarehouse$Entry;)V"⟩, 11)) (List.mem_of_getElem? (i := 27) rfl)
theorem kw_3_102 : (Jvm.Cond.code ({ cls := "BondWarehouse$Deeds", name := "takeIntoCountry", desc := "(II)I" } : Jvm.MethodName) prog_3_method_3_code (6 : Nat) (Option.some Jvm.ClassFile.FieldType.int)) ∈ TG := tg_3 102 rfl rfl
theorem kw_3_101 : (Jvm.Cond.instanceMethod ({ cls := "BondWarehouse$Deeds", name := "takeIntoCountry", desc := "(II)I" } : Jvm.MethodName)) ∈ TG := tg_3 101 rfl rfl
theorem ks_18 : Cond.selects "BondWarehouse$Deeds" ⟨"BondWarehouse$Deeds", "takeIntoCountry", "(II)I"⟩ ⟨"BondWarehouse$Deeds", "takeIntoCountry", "(II)I"⟩ ∈ TG := tgS (q := (⟨"BondWarehouse$Deeds", "takeIntoCountry", "(II)I"⟩, 2)) (List.mem_of_getElem? (i := 18) rfl)
theorem kw_3_161 : (Jvm.Cond.methodLink "BondWarehouse$State" (179 : Nat) ({ cls := "BondWarehouse$State", name := "isLate", desc := "(LBondWarehouse$Entry;)Z" } : Jvm.MethodName)) ∈ TG := tg_3 161 rfl rfl
theorem kw_3_164 : (Jvm.Cond.code ({ cls := "BondWarehouse$State", name := "isLate", desc := "(LBondWarehouse$Entry;)Z" } : Jvm.MethodName) prog_10_method_11_code (2 : Nat) (Option.some Jvm.ClassFile.FieldType.boolean)) ∈ TG := tg_3 164 rfl rfl
theorem kw_3_163 : (Jvm.Cond.instanceMethod ({ cls := "BondWarehouse$State", name := "isLate", desc := "(LBondWarehouse$Entry;)Z" } : Jvm.MethodName)) ∈ TG := tg_3 163 rfl rfl
theorem ks_30 : Cond.selects "BondWarehouse$State" ⟨"BondWarehouse$State", "isLate", "(LBondWarehouse$Entry;)Z"⟩ ⟨"BondWarehouse$State", "isLate", "(LBondWarehouse$Entry;)Z"⟩ ∈ TG := tgS (q := (⟨"BondWarehouse$State", "isLate", "(LBondWarehouse$Entry;)Z"⟩, 11)) (List.mem_of_getElem? (i := 30) rfl)
theorem kw_3_160 : (Jvm.Cond.code ({ cls := "BondWarehouse$State", name := "reasonAgainstExport", desc := "(LBondWarehouse$Entry;I)I" } : Jvm.MethodName) prog_10_method_24_code (4 : Nat) (Option.some Jvm.ClassFile.FieldType.int)) ∈ TG := tg_3 160 rfl rfl
theorem kw_3_159 : (Jvm.Cond.instanceMethod ({ cls := "BondWarehouse$State", name := "reasonAgainstExport", desc := "(LBondWarehouse$Entry;I)I" } : Jvm.MethodName)) ∈ TG := tg_3 159 rfl rfl
theorem ks_29 : Cond.selects "BondWarehouse$State" ⟨"BondWarehouse$State", "reasonAgainstExport", "(LBondWarehouse$Entry;I)I"⟩ ⟨"BondWarehouse$State", "reasonAgainstExport", "(LBondWarehouse$Entry;I)I"⟩ ∈ TG := tgS (q := (⟨"BondWarehouse$State", "reasonAgainstExport", "(LBondWarehouse$Entry;I)I"⟩, 11)) (List.mem_of_getElem? (i := 29) rfl)
theorem kw_3_156 : (Jvm.Cond.code ({ cls := "BondWarehouse$Deeds", name := "takeAbroad", desc := "(II)I" } : Jvm.MethodName) prog_3_method_4_code (4 : Nat) (Option.some Jvm.ClassFile.FieldType.int)) ∈ TG := tg_3 156 rfl rfl
theorem kw_3_155 : (Jvm.Cond.instanceMethod ({ cls := "BondWarehouse$Deeds", name := "takeAbroad", desc := "(II)I" } : Jvm.MethodName)) ∈ TG := tg_3 155 rfl rfl
theorem ks_28 : Cond.selects "BondWarehouse$Deeds" ⟨"BondWarehouse$Deeds", "takeAbroad", "(II)I"⟩ ⟨"BondWarehouse$Deeds", "takeAbroad", "(II)I"⟩ ∈ TG := tgS (q := (⟨"BondWarehouse$Deeds", "takeAbroad", "(II)I"⟩, 2)) (List.mem_of_getElem? (i := 28) rfl)
theorem kw_3_179 : (Jvm.Cond.code ({ cls := "BondWarehouse$State", name := "findReceipt", desc := "(I)LBondWarehouse$Receipt;" } : Jvm.MethodName) prog_10_method_4_code (2 : Nat) (Option.some (Jvm.ClassFile.FieldType.object "BondWarehouse$Receipt"))) ∈ TG := tg_3 179 rfl rfl
theorem kw_3_178 : (Jvm.Cond.instanceMethod ({ cls := "BondWarehouse$State", name := "findReceipt", desc := "(I)LBondWarehouse$Receipt;" } : Jvm.MethodName)) ∈ TG := tg_3 178 rfl rfl
theorem ks_32 : Cond.selects "BondWarehouse$State" ⟨"BondWarehouse$State", "findReceipt", "(I)LBondWarehouse$Receipt;"⟩ ⟨"BondWarehouse$State", "findReceipt", "(I)LBondWarehouse$Receipt;"⟩ ∈ TG := tgS (q := (⟨"BondWarehouse$State", "findReceipt", "(I)LBondWarehouse$Receipt;"⟩, 11)) (List.mem_of_getElem? (i := 32) rfl)
theorem kw_3_184 : (Jvm.Cond.code ({ cls := "BondWarehouse$State", name := "reasonAgainstDrawback", desc := "(LBondWarehouse$Receipt;I)I" } : Jvm.MethodName) prog_10_method_26_code (3 : Nat) (Option.some Jvm.ClassFile.FieldType.int)) ∈ TG := tg_3 184 rfl rfl
theorem kw_3_183 : (Jvm.Cond.instanceMethod ({ cls := "BondWarehouse$State", name := "reasonAgainstDrawback", desc := "(LBondWarehouse$Receipt;I)I" } : Jvm.MethodName)) ∈ TG := tg_3 183 rfl rfl
theorem ks_33 : Cond.selects "BondWarehouse$State" ⟨"BondWarehouse$State", "reasonAgainstDrawback", "(LBondWarehouse$Receipt;I)I"⟩ ⟨"BondWarehouse$State", "reasonAgainstDrawback", "(LBondWarehouse$Receipt;I)I"⟩ ∈ TG := tgS (q := (⟨"BondWarehouse$State", "reasonAgainstDrawback", "(LBondWarehouse$Receipt;I)I"⟩, 11)) (List.mem_of_getElem? (i := 33) rfl)
theorem kw_3_188 : (Jvm.Cond.code ({ cls := "BondWarehouse$Receipt", name := "dutyPart", desc := "(I)I" } : Jvm.MethodName) prog_9_method_3_code (2 : Nat) (Option.some Jvm.ClassFile.FieldType.int)) ∈ TG := tg_3 188 rfl rfl
theorem kw_3_187 : (Jvm.Cond.instanceMethod ({ cls := "BondWarehouse$Receipt", name := "dutyPart", desc := "(I)I" } : Jvm.MethodName)) ∈ TG := tg_3 187 rfl rfl
theorem ks_34 : Cond.selects "BondWarehouse$Receipt" ⟨"BondWarehouse$Receipt", "dutyPart", "(I)I"⟩ ⟨"BondWarehouse$Receipt", "dutyPart", "(I)I"⟩ ∈ TG := tgS (q := (⟨"BondWarehouse$Receipt", "dutyPart", "(I)I"⟩, 4)) (List.mem_of_getElem? (i := 34) rfl)
theorem kw_3_191 : (Jvm.Cond.code ({ cls := "BondWarehouse", name := "paidBackOf", desc := "(I)I" } : Jvm.MethodName) prog_1_method_87_code (1 : Nat) (Option.some Jvm.ClassFile.FieldType.int)) ∈ TG := tg_3 191 rfl rfl
theorem kw_3_190 : (Jvm.Cond.static ({ cls := "BondWarehouse", name := "paidBackOf", desc := "(I)I" } : Jvm.MethodName)) ∈ TG := tg_3 190 rfl rfl
theorem kw_3_195 : (Jvm.Cond.code ({ cls := "BondWarehouse$Money", name := "giveDrawback", desc := "(I)V" } : Jvm.MethodName) prog_8_method_7_code (2 : Nat) (Option.none : Option Jvm.ClassFile.FieldType)) ∈ TG := tg_3 195 rfl rfl
theorem kw_3_194 : (Jvm.Cond.instanceMethod ({ cls := "BondWarehouse$Money", name := "giveDrawback", desc := "(I)V" } : Jvm.MethodName)) ∈ TG := tg_3 194 rfl rfl
theorem ks_35 : Cond.selects "BondWarehouse$Money" ⟨"BondWarehouse$Money", "giveDrawback", "(I)V"⟩ ⟨"BondWarehouse$Money", "giveDrawback", "(I)V"⟩ ∈ TG := tgS (q := (⟨"BondWarehouse$Money", "giveDrawback", "(I)V"⟩, 7)) (List.mem_of_getElem? (i := 35) rfl)
theorem kw_3_175 : (Jvm.Cond.code ({ cls := "BondWarehouse$Deeds", name := "payBack", desc := "(II)I" } : Jvm.MethodName) prog_3_method_5_code (6 : Nat) (Option.some Jvm.ClassFile.FieldType.int)) ∈ TG := tg_3 175 rfl rfl
theorem kw_3_174 : (Jvm.Cond.instanceMethod ({ cls := "BondWarehouse$Deeds", name := "payBack", desc := "(II)I" } : Jvm.MethodName)) ∈ TG := tg_3 174 rfl rfl
theorem ks_31 : Cond.selects "BondWarehouse$Deeds" ⟨"BondWarehouse$Deeds", "payBack", "(II)I"⟩ ⟨"BondWarehouse$Deeds", "payBack", "(II)I"⟩ ∈ TG := tgS (q := (⟨"BondWarehouse$Deeds", "payBack", "(II)I"⟩, 2)) (List.mem_of_getElem? (i := 31) rfl)
theorem kw_3_210 : (Jvm.Cond.code ({ cls := "BondWarehouse$State", name := "reasonAgainstMove", desc := "(LBondWarehouse$Entry;I)I" } : Jvm.MethodName) prog_10_method_25_code (3 : Nat) (Option.some Jvm.ClassFile.FieldType.int)) ∈ TG := tg_3 210 rfl rfl
theorem kw_3_209 : (Jvm.Cond.instanceMethod ({ cls := "BondWarehouse$State", name := "reasonAgainstMove", desc := "(LBondWarehouse$Entry;I)I" } : Jvm.MethodName)) ∈ TG := tg_3 209 rfl rfl
theorem ks_37 : Cond.selects "BondWarehouse$State" ⟨"BondWarehouse$State", "reasonAgainstMove", "(LBondWarehouse$Entry;I)I"⟩ ⟨"BondWarehouse$State", "reasonAgainstMove", "(LBondWarehouse$Entry;I)I"⟩ ∈ TG := tgS (q := (⟨"BondWarehouse$State", "reasonAgainstMove", "(LBondWarehouse$Entry;I)I"⟩, 11)) (List.mem_of_getElem? (i := 37) rfl)
theorem kw_3_206 : (Jvm.Cond.code ({ cls := "BondWarehouse$Deeds", name := "carryOver", desc := "(II)I" } : Jvm.MethodName) prog_3_method_6_code (4 : Nat) (Option.some Jvm.ClassFile.FieldType.int)) ∈ TG := tg_3 206 rfl rfl
theorem kw_3_205 : (Jvm.Cond.instanceMethod ({ cls := "BondWarehouse$Deeds", name := "carryOver", desc := "(II)I" } : Jvm.MethodName)) ∈ TG := tg_3 205 rfl rfl
theorem ks_36 : Cond.selects "BondWarehouse$Deeds" ⟨"BondWarehouse$Deeds", "carryOver", "(II)I"⟩ ⟨"BondWarehouse$Deeds", "carryOver", "(II)I"⟩ ∈ TG := tgS (q := (⟨"BondWarehouse$Deeds", "carryOver", "(II)I"⟩, 2)) (List.mem_of_getElem? (i := 36) rfl)
theorem kw_3_222 : (Jvm.Cond.code ({ cls := "BondWarehouse$Deeds", name := "partOff", desc := "(II)I" } : Jvm.MethodName) prog_3_method_7_code (6 : Nat) (Option.some Jvm.ClassFile.FieldType.int)) ∈ TG := tg_3 222 rfl rfl
theorem kw_3_221 : (Jvm.Cond.instanceMethod ({ cls := "BondWarehouse$Deeds", name := "partOff", desc := "(II)I" } : Jvm.MethodName)) ∈ TG := tg_3 221 rfl rfl
theorem ks_38 : Cond.selects "BondWarehouse$Deeds" ⟨"BondWarehouse$Deeds", "partOff", "(II)I"⟩ ⟨"BondWarehouse$Deeds", "partOff", "(II)I"⟩ ∈ TG := tgS (q := (⟨"BondWarehouse$Deeds", "partOff", "(II)I"⟩, 2)) (List.mem_of_getElem? (i := 38) rfl)
theorem kw_4_6 : (Jvm.Cond.methodLink "BondWarehouse$Entry" (39 : Nat) ({ cls := "java/lang/Math", name := "min", desc := "(II)I" } : Jvm.MethodName)) ∈ TG := tg_4 6 rfl rfl
theorem kw_4_7 : (Jvm.Cond.methodLink "BondWarehouse$Entry" (45 : Nat) ({ cls := "java/lang/Math", name := "max", desc := "(II)I" } : Jvm.MethodName)) ∈ TG := tg_4 7 rfl rfl
theorem kw_4_8 : (Jvm.Cond.static ({ cls := "java/lang/Math", name := "max", desc := "(II)I" } : Jvm.MethodName)) ∈ TG := tg_4 8 rfl rfl
theorem kw_4_9 : (Jvm.Cond.code ({ cls := "java/lang/Math", name := "max", desc := "(II)I" } : Jvm.MethodName) prog_17_method_65_code (2 : Nat) (Option.some Jvm.ClassFile.FieldType.int)) ∈ TG := tg_4 9 rfl rfl
theorem kw_4_1 : (Jvm.Cond.code ({ cls := "BondWarehouse$State", name := "canJoin", desc := "(LBondWarehouse$Entry;LBondWarehouse$Entry;)Z" } : Jvm.MethodName) prog_10_method_27_code (3 : Nat) (Option.some Jvm.ClassFile.FieldType.boolean)) ∈ TG := tg_4 1 rfl rfl
theorem kw_4_0 : (Jvm.Cond.instanceMethod ({ cls := "BondWarehouse$State", name := "canJoin", desc := "(LBondWarehouse$Entry;LBondWarehouse$Entry;)Z" } : Jvm.MethodName)) ∈ TG := tg_4 0 rfl rfl
theorem ks_40 : Cond.selects "BondWarehouse$State" ⟨"BondWarehouse$State", "canJoin", "(LBondWarehouse$Entry;LBondWarehouse$Entry;)Z"⟩ ⟨"BondWarehouse$State", "canJoin", "(LBondWarehouse$Entry;LBondWarehouse$Entry;)Z"⟩ ∈ TG := tgS (q := (⟨"BondWarehouse$State", "canJoin", "(LBondWarehouse$Entry;LBondWarehouse$Entry;)Z"⟩, 11)) (List.mem_of_getElem? (i := 40) rfl)
theorem kw_4_5 : (Jvm.Cond.code ({ cls := "BondWarehouse$Entry", name := "takeIn", desc := "(LBondWarehouse$Entry;)V" } : Jvm.MethodName) prog_4_method_5_code (2 : Nat) (Option.none : Option Jvm.ClassFile.FieldType)) ∈ TG := tg_4 5 rfl rfl
theorem kw_4_4 : (Jvm.Cond.instanceMethod ({ cls := "BondWarehouse$Entry", name := "takeIn", desc := "(LBondWarehouse$Entry;)V" } : Jvm.MethodName)) ∈ TG := tg_4 4 rfl rfl
theorem ks_41 : Cond.selects "BondWarehouse$Entry" ⟨"BondWarehouse$Entry", "takeIn", "(LBondWarehouse$Entry;)V"⟩ ⟨"BondWarehouse$Entry", "takeIn", "(LBondWarehouse$Entry;)V"⟩ ∈ TG := tgS (q := (⟨"BondWarehouse$Entry", "takeIn", "(LBondWarehouse$Entry;)V"⟩, 8)) (List.mem_of_getElem? (i := 41) rfl)
theorem kw_3_237 : (Jvm.Cond.code ({ cls := "BondWarehouse$Deeds", name := "join", desc := "(II)I" } : Jvm.MethodName) prog_3_method_8_code (5 : Nat) (Option.some Jvm.ClassFile.FieldType.int)) ∈ TG := tg_3 237 rfl rfl
theorem kw_3_236 : (Jvm.Cond.instanceMethod ({ cls := "BondWarehouse$Deeds", name := "join", desc := "(II)I" } : Jvm.MethodName)) ∈ TG := tg_3 236 rfl rfl
theorem ks_39 : Cond.selects "BondWarehouse$Deeds" ⟨"BondWarehouse$Deeds", "join", "(II)I"⟩ ⟨"BondWarehouse$Deeds", "join", "(II)I"⟩ ∈ TG := tgS (q := (⟨"BondWarehouse$Deeds", "join", "(II)I"⟩, 2)) (List.mem_of_getElem? (i := 39) rfl)
theorem kw_4_25 : (Jvm.Cond.methodLink "BondWarehouse$State" (137 : Nat) ({ cls := "BondWarehouse$State", name := "wasteAllowedNow", desc := "(LBondWarehouse$Entry;)I" } : Jvm.MethodName)) ∈ TG := tg_4 25 rfl rfl
theorem kw_4_28 : (Jvm.Cond.code ({ cls := "BondWarehouse$State", name := "wasteAllowedNow", desc := "(LBondWarehouse$Entry;)I" } : Jvm.MethodName) prog_10_method_15_code (3 : Nat) (Option.some Jvm.ClassFile.FieldType.int)) ∈ TG := tg_4 28 rfl rfl
theorem kw_4_27 : (Jvm.Cond.instanceMethod ({ cls := "BondWarehouse$State", name := "wasteAllowedNow", desc := "(LBondWarehouse$Entry;)I" } : Jvm.MethodName)) ∈ TG := tg_4 27 rfl rfl
theorem ks_44 : Cond.selects "BondWarehouse$State" ⟨"BondWarehouse$State", "wasteAllowedNow", "(LBondWarehouse$Entry;)I"⟩ ⟨"BondWarehouse$State", "wasteAllowedNow", "(LBondWarehouse$Entry;)I"⟩ ∈ TG := tgS (q := (⟨"BondWarehouse$State", "wasteAllowedNow", "(LBondWarehouse$Entry;)I"⟩, 11)) (List.mem_of_getElem? (i := 44) rfl)
theorem kw_4_31 : (Jvm.Cond.methodLink "BondWarehouse$State" (140 : Nat) ({ cls := "java/lang/Math", name := "max", desc := "(II)I" } : Jvm.MethodName)) ∈ TG := tg_4 31 rfl rfl
theorem kw_4_40 : (Jvm.Cond.methodLink "BondWarehouse$Money" (31 : Nat) ({ cls := "java/lang/Math", name := "min", desc := "(II)I" } : Jvm.MethodName)) ∈ TG := tg_4 40 rfl rfl
theorem kw_4_24 : (Jvm.Cond.code ({ cls := "BondWarehouse$State", name := "lossIf", desc := "(LBondWarehouse$Entry;I)I" } : Jvm.MethodName) prog_10_method_16_code (3 : Nat) (Option.some Jvm.ClassFile.FieldType.int)) ∈ TG := tg_4 24 rfl rfl
theorem kw_4_23 : (Jvm.Cond.instanceMethod ({ cls := "BondWarehouse$State", name := "lossIf", desc := "(LBondWarehouse$Entry;I)I" } : Jvm.MethodName)) ∈ TG := tg_4 23 rfl rfl
theorem ks_43 : Cond.selects "BondWarehouse$State" ⟨"BondWarehouse$State", "lossIf", "(LBondWarehouse$Entry;I)I"⟩ ⟨"BondWarehouse$State", "lossIf", "(LBondWarehouse$Entry;I)I"⟩ ∈ TG := tgS (q := (⟨"BondWarehouse$State", "lossIf", "(LBondWarehouse$Entry;I)I"⟩, 11)) (List.mem_of_getElem? (i := 43) rfl)
theorem kw_4_35 : (Jvm.Cond.code ({ cls := "BondWarehouse$State", name := "chargeFor", desc := "(LBondWarehouse$Entry;I)I" } : Jvm.MethodName) prog_10_method_17_code (4 : Nat) (Option.some Jvm.ClassFile.FieldType.int)) ∈ TG := tg_4 35 rfl rfl
theorem kw_4_34 : (Jvm.Cond.instanceMethod ({ cls := "BondWarehouse$State", name := "chargeFor", desc := "(LBondWarehouse$Entry;I)I" } : Jvm.MethodName)) ∈ TG := tg_4 34 rfl rfl
theorem ks_45 : Cond.selects "BondWarehouse$State" ⟨"BondWarehouse$State", "chargeFor", "(LBondWarehouse$Entry;I)I"⟩ ⟨"BondWarehouse$State", "chargeFor", "(LBondWarehouse$Entry;I)I"⟩ ∈ TG := tgS (q := (⟨"BondWarehouse$State", "chargeFor", "(LBondWarehouse$Entry;I)I"⟩, 11)) (List.mem_of_getElem? (i := 45) rfl)
theorem kw_4_39 : (Jvm.Cond.code ({ cls := "BondWarehouse$Money", name := "takeCharge", desc := "(I)V" } : Jvm.MethodName) prog_8_method_6_code (3 : Nat) (Option.none : Option Jvm.ClassFile.FieldType)) ∈ TG := tg_4 39 rfl rfl
theorem kw_4_38 : (Jvm.Cond.instanceMethod ({ cls := "BondWarehouse$Money", name := "takeCharge", desc := "(I)V" } : Jvm.MethodName)) ∈ TG := tg_4 38 rfl rfl
theorem ks_46 : Cond.selects "BondWarehouse$Money" ⟨"BondWarehouse$Money", "takeCharge", "(I)V"⟩ ⟨"BondWarehouse$Money", "takeCharge", "(I)V"⟩ ∈ TG := tgS (q := (⟨"BondWarehouse$Money", "takeCharge", "(I)V"⟩, 7)) (List.mem_of_getElem? (i := 46) rfl)
theorem kw_4_20 : (Jvm.Cond.code ({ cls := "BondWarehouse$Deeds", name := "putOnScales", desc := "(II)I" } : Jvm.MethodName) prog_3_method_9_code (7 : Nat) (Option.some Jvm.ClassFile.FieldType.int)) ∈ TG := tg_4 20 rfl rfl
theorem kw_4_19 : (Jvm.Cond.instanceMethod ({ cls := "BondWarehouse$Deeds", name := "putOnScales", desc := "(II)I" } : Jvm.MethodName)) ∈ TG := tg_4 19 rfl rfl
theorem ks_42 : Cond.selects "BondWarehouse$Deeds" ⟨"BondWarehouse$Deeds", "putOnScales", "(II)I"⟩ ⟨"BondWarehouse$Deeds", "putOnScales", "(II)I"⟩ ∈ TG := tgS (q := (⟨"BondWarehouse$Deeds", "putOnScales", "(II)I"⟩, 2)) (List.mem_of_getElem? (i := 42) rfl)
theorem kw_4_51 : (Jvm.Cond.code ({ cls := "BondWarehouse$Deeds", name := "putSeal", desc := "(I)I" } : Jvm.MethodName) prog_3_method_10_code (3 : Nat) (Option.some Jvm.ClassFile.FieldType.int)) ∈ TG := tg_4 51 rfl rfl
theorem kw_4_50 : (Jvm.Cond.instanceMethod ({ cls := "BondWarehouse$Deeds", name := "putSeal", desc := "(I)I" } : Jvm.MethodName)) ∈ TG := tg_4 50 rfl rfl
theorem ks_47 : Cond.selects "BondWarehouse$Deeds" ⟨"BondWarehouse$Deeds", "putSeal", "(I)I"⟩ ⟨"BondWarehouse$Deeds", "putSeal", "(I)I"⟩ ∈ TG := tgS (q := (⟨"BondWarehouse$Deeds", "putSeal", "(I)I"⟩, 2)) (List.mem_of_getElem? (i := 47) rfl)
theorem kw_4_62 : (Jvm.Cond.code ({ cls := "BondWarehouse$Deeds", name := "takeSealOff", desc := "(I)I" } : Jvm.MethodName) prog_3_method_11_code (6 : Nat) (Option.some Jvm.ClassFile.FieldType.int)) ∈ TG := tg_4 62 rfl rfl
theorem kw_4_61 : (Jvm.Cond.instanceMethod ({ cls := "BondWarehouse$Deeds", name := "takeSealOff", desc := "(I)I" } : Jvm.MethodName)) ∈ TG := tg_4 61 rfl rfl
theorem ks_48 : Cond.selects "BondWarehouse$Deeds" ⟨"BondWarehouse$Deeds", "takeSealOff", "(I)I"⟩ ⟨"BondWarehouse$Deeds", "takeSealOff", "(I)I"⟩ ∈ TG := tgS (q := (⟨"BondWarehouse$Deeds", "takeSealOff", "(I)I"⟩, 2)) (List.mem_of_getElem? (i := 48) rfl)
theorem kw_4_73 : (Jvm.Cond.code ({ cls := "BondWarehouse$Deeds", name := "damageSeal", desc := "(I)I" } : Jvm.MethodName) prog_3_method_12_code (3 : Nat) (Option.some Jvm.ClassFile.FieldType.int)) ∈ TG := tg_4 73 rfl rfl
theorem kw_4_72 : (Jvm.Cond.instanceMethod ({ cls := "BondWarehouse$Deeds", name := "damageSeal", desc := "(I)I" } : Jvm.MethodName)) ∈ TG := tg_4 72 rfl rfl
theorem ks_49 : Cond.selects "BondWarehouse$Deeds" ⟨"BondWarehouse$Deeds", "damageSeal", "(I)I"⟩ ⟨"BondWarehouse$Deeds", "damageSeal", "(I)I"⟩ ∈ TG := tgS (q := (⟨"BondWarehouse$Deeds", "damageSeal", "(I)I"⟩, 2)) (List.mem_of_getElem? (i := 49) rfl)
theorem kw_4_94 : (Jvm.Cond.methodLink "BondWarehouse$Money" (37 : Nat) ({ cls := "BondWarehouse$Money", name := "accountAfter", desc := "(I)I" } : Jvm.MethodName)) ∈ TG := tg_4 94 rfl rfl
theorem kw_4_88 : (Jvm.Cond.code ({ cls := "BondWarehouse$Money", name := "accountAfter", desc := "(I)I" } : Jvm.MethodName) prog_8_method_3_code (2 : Nat) (Option.some Jvm.ClassFile.FieldType.int)) ∈ TG := tg_4 88 rfl rfl
theorem kw_4_87 : (Jvm.Cond.instanceMethod ({ cls := "BondWarehouse$Money", name := "accountAfter", desc := "(I)I" } : Jvm.MethodName)) ∈ TG := tg_4 87 rfl rfl
theorem ks_51 : Cond.selects "BondWarehouse$Money" ⟨"BondWarehouse$Money", "accountAfter", "(I)I"⟩ ⟨"BondWarehouse$Money", "accountAfter", "(I)I"⟩ ∈ TG := tgS (q := (⟨"BondWarehouse$Money", "accountAfter", "(I)I"⟩, 7)) (List.mem_of_getElem? (i := 51) rfl)
theorem kw_4_89 : (Jvm.Cond.constant "BondWarehouse$Deeds" (221 : Nat) (99999 : Int32)) ∈ TG := tg_4 89 rfl rfl
theorem kw_4_93 : (Jvm.Cond.code ({ cls := "BondWarehouse$Money", name := "takeDeposit", desc := "(I)V" } : Jvm.MethodName) prog_8_method_4_code (2 : Nat) (Option.none : Option Jvm.ClassFile.FieldType)) ∈ TG := tg_4 93 rfl rfl
theorem kw_4_92 : (Jvm.Cond.instanceMethod ({ cls := "BondWarehouse$Money", name := "takeDeposit", desc := "(I)V" } : Jvm.MethodName)) ∈ TG := tg_4 92 rfl rfl
theorem ks_52 : Cond.selects "BondWarehouse$Money" ⟨"BondWarehouse$Money", "takeDeposit", "(I)V"⟩ ⟨"BondWarehouse$Money", "takeDeposit", "(I)V"⟩ ∈ TG := tgS (q := (⟨"BondWarehouse$Money", "takeDeposit", "(I)V"⟩, 7)) (List.mem_of_getElem? (i := 52) rfl)
theorem kw_4_84 : (Jvm.Cond.code ({ cls := "BondWarehouse$Deeds", name := "payIn", desc := "(I)I" } : Jvm.MethodName) prog_3_method_13_code (2 : Nat) (Option.some Jvm.ClassFile.FieldType.int)) ∈ TG := tg_4 84 rfl rfl
theorem kw_4_83 : (Jvm.Cond.instanceMethod ({ cls := "BondWarehouse$Deeds", name := "payIn", desc := "(I)I" } : Jvm.MethodName)) ∈ TG := tg_4 83 rfl rfl
theorem ks_50 : Cond.selects "BondWarehouse$Deeds" ⟨"BondWarehouse$Deeds", "payIn", "(I)I"⟩ ⟨"BondWarehouse$Deeds", "payIn", "(I)I"⟩ ∈ TG := tgS (q := (⟨"BondWarehouse$Deeds", "payIn", "(I)I"⟩, 2)) (List.mem_of_getElem? (i := 50) rfl)
theorem kw_4_106 : (Jvm.Cond.constant "BondWarehouse$Deeds" (228 : Nat) (50000 : Int32)) ∈ TG := tg_4 106 rfl rfl
theorem kw_4_105 : (Jvm.Cond.code ({ cls := "BondWarehouse$Deeds", name := "changeBond", desc := "(I)I" } : Jvm.MethodName) prog_3_method_14_code (3 : Nat) (Option.some Jvm.ClassFile.FieldType.int)) ∈ TG := tg_4 105 rfl rfl
theorem kw_4_104 : (Jvm.Cond.instanceMethod ({ cls := "BondWarehouse$Deeds", name := "changeBond", desc := "(I)I" } : Jvm.MethodName)) ∈ TG := tg_4 104 rfl rfl
theorem ks_53 : Cond.selects "BondWarehouse$Deeds" ⟨"BondWarehouse$Deeds", "changeBond", "(I)I"⟩ ⟨"BondWarehouse$Deeds", "changeBond", "(I)I"⟩ ∈ TG := tgS (q := (⟨"BondWarehouse$Deeds", "changeBond", "(I)I"⟩, 2)) (List.mem_of_getElem? (i := 53) rfl)
theorem kw_4_118 : (Jvm.Cond.code ({ cls := "BondWarehouse$Deeds", name := "changeRateByValue", desc := "(II)I" } : Jvm.MethodName) prog_3_method_15_code (4 : Nat) (Option.some Jvm.ClassFile.FieldType.int)) ∈ TG := tg_4 118 rfl rfl
theorem kw_4_117 : (Jvm.Cond.instanceMethod ({ cls := "BondWarehouse$Deeds", name := "changeRateByValue", desc := "(II)I" } : Jvm.MethodName)) ∈ TG := tg_4 117 rfl rfl
theorem ks_54 : Cond.selects "BondWarehouse$Deeds" ⟨"BondWarehouse$Deeds", "changeRateByValue", "(II)I"⟩ ⟨"BondWarehouse$Deeds", "changeRateByValue", "(II)I"⟩ ∈ TG := tgS (q := (⟨"BondWarehouse$Deeds", "changeRateByValue", "(II)I"⟩, 2)) (List.mem_of_getElem? (i := 54) rfl)
theorem kw_4_129 : (Jvm.Cond.code ({ cls := "BondWarehouse$Deeds", name := "changeRateByWeight", desc := "(II)I" } : Jvm.MethodName) prog_3_method_16_code (4 : Nat) (Option.some Jvm.ClassFile.FieldType.int)) ∈ TG := tg_4 129 rfl rfl
theorem kw_4_128 : (Jvm.Cond.instanceMethod ({ cls := "BondWarehouse$Deeds", name := "changeRateByWeight", desc := "(II)I" } : Jvm.MethodName)) ∈ TG := tg_4 128 rfl rfl
theorem ks_55 : Cond.selects "BondWarehouse$Deeds" ⟨"BondWarehouse$Deeds", "changeRateByWeight", "(II)I"⟩ ⟨"BondWarehouse$Deeds", "changeRateByWeight", "(II)I"⟩ ∈ TG := tgS (q := (⟨"BondWarehouse$Deeds", "changeRateByWeight", "(II)I"⟩, 2)) (List.mem_of_getElem? (i := 55) rfl)
theorem kw_4_141 : (Jvm.Cond.methodLink "BondWarehouse$Deeds" (242 : Nat) ({ cls := "BondWarehouse$Deeds", name := "countLate", desc := "()I" } : Jvm.MethodName)) ∈ TG := tg_4 141 rfl rfl
theorem kw_4_144 : (Jvm.Cond.code ({ cls := "BondWarehouse$Deeds", name := "countLate", desc := "()I" } : Jvm.MethodName) prog_3_method_18_code (3 : Nat) (Option.some Jvm.ClassFile.FieldType.int)) ∈ TG := tg_4 144 rfl rfl
theorem kw_4_143 : (Jvm.Cond.instanceMethod ({ cls := "BondWarehouse$Deeds", name := "countLate", desc := "()I" } : Jvm.MethodName)) ∈ TG := tg_4 143 rfl rfl
theorem ks_57 : Cond.selects "BondWarehouse$Deeds" ⟨"BondWarehouse$Deeds", "countLate", "()I"⟩ ⟨"BondWarehouse$Deeds", "countLate", "()I"⟩ ∈ TG := tgS (q := (⟨"BondWarehouse$Deeds", "countLate", "()I"⟩, 2)) (List.mem_of_getElem? (i := 57) rfl)
theorem kw_4_140 : (Jvm.Cond.code ({ cls := "BondWarehouse$Deeds", name := "letPass", desc := "(I)I" } : Jvm.MethodName) prog_3_method_17_code (3 : Nat) (Option.some Jvm.ClassFile.FieldType.int)) ∈ TG := tg_4 140 rfl rfl
theorem kw_4_139 : (Jvm.Cond.instanceMethod ({ cls := "BondWarehouse$Deeds", name := "letPass", desc := "(I)I" } : Jvm.MethodName)) ∈ TG := tg_4 139 rfl rfl
theorem ks_56 : Cond.selects "BondWarehouse$Deeds" ⟨"BondWarehouse$Deeds", "letPass", "(I)I"⟩ ⟨"BondWarehouse$Deeds", "letPass", "(I)I"⟩ ∈ TG := tgS (q := (⟨"BondWarehouse$Deeds", "letPass", "(I)I"⟩, 2)) (List.mem_of_getElem? (i := 56) rfl)
theorem kw_2_111 : (Jvm.Cond.fieldLink "BondWarehouse" (10 : Nat) "BondWarehouse" "state" "LBondWarehouse$State;") ∈ TG := tg_2 111 rfl rfl
theorem kw_4_161 : (Jvm.Cond.methodLink "BondWarehouse" (127 : Nat) ({ cls := "BondWarehouse", name := "entryNumbered", desc := "(I)LBondWarehouse$Entry;" } : Jvm.MethodName)) ∈ TG := tg_4 161 rfl rfl
theorem kw_4_164 : (Jvm.Cond.code ({ cls := "BondWarehouse", name := "entryNumbered", desc := "(I)LBondWarehouse$Entry;" } : Jvm.MethodName) prog_1_method_92_code (3 : Nat) (Option.some (Jvm.ClassFile.FieldType.object "BondWarehouse$Entry"))) ∈ TG := tg_4 164 rfl rfl
theorem kw_4_163 : (Jvm.Cond.instanceMethod ({ cls := "BondWarehouse", name := "entryNumbered", desc := "(I)LBondWarehouse$Entry;" } : Jvm.MethodName)) ∈ TG := tg_4 163 rfl rfl
theorem ks_58 : Cond.selects "BondWarehouse" ⟨"BondWarehouse", "entryNumbered", "(I)LBondWarehouse$Entry;"⟩ ⟨"BondWarehouse", "entryNumbered", "(I)LBondWarehouse$Entry;"⟩ ∈ TG := tgS (q := (⟨"BondWarehouse", "entryNumbered", "(I)LBondWarehouse$Entry;"⟩, 4)) (List.mem_of_getElem? (i := 58) rfl)
theorem kw_4_203 : (Jvm.Cond.methodLink "BondWarehouse" (154 : Nat) ({ cls := "BondWarehouse", name := "requireWithin", desc := "(III)V" } : Jvm.MethodName)) ∈ TG := tg_4 203 rfl rfl
theorem kw_4_205 : (Jvm.Cond.code ({ cls := "BondWarehouse", name := "requireWithin", desc := "(III)V" } : Jvm.MethodName) prog_1_method_89_code (3 : Nat) (Option.none : Option Jvm.ClassFile.FieldType)) ∈ TG := tg_4 205 rfl rfl
theorem kw_4_204 : (Jvm.Cond.static ({ cls := "BondWarehouse", name := "requireWithin", desc := "(III)V" } : Jvm.MethodName)) ∈ TG := tg_4 204 rfl rfl
theorem kw_4_234 : (Jvm.Cond.methodLink "BondWarehouse" (188 : Nat) ({ cls := "BondWarehouse", name := "requireChamber", desc := "(I)V" } : Jvm.MethodName)) ∈ TG := tg_4 234 rfl rfl
theorem kw_4_236 : (Jvm.Cond.code ({ cls := "BondWarehouse", name := "requireChamber", desc := "(I)V" } : Jvm.MethodName) prog_1_method_90_code (1 : Nat) (Option.none : Option Jvm.ClassFile.FieldType)) ∈ TG := tg_4 236 rfl rfl
theorem kw_4_235 : (Jvm.Cond.static ({ cls := "BondWarehouse", name := "requireChamber", desc := "(I)V" } : Jvm.MethodName)) ∈ TG := tg_4 235 rfl rfl
theorem kw_4_230 : (Jvm.Cond.methodLink "BondWarehouse" (172 : Nat) ({ cls := "BondWarehouse", name := "chamberNumbered", desc := "(I)LBondWarehouse$Chamber;" } : Jvm.MethodName)) ∈ TG := tg_4 230 rfl rfl
theorem kw_4_233 : (Jvm.Cond.code ({ cls := "BondWarehouse", name := "chamberNumbered", desc := "(I)LBondWarehouse$Chamber;" } : Jvm.MethodName) prog_1_method_94_code (2 : Nat) (Option.some (Jvm.ClassFile.FieldType.object "BondWarehouse$Chamber"))) ∈ TG := tg_4 233 rfl rfl
theorem kw_4_232 : (Jvm.Cond.instanceMethod ({ cls := "BondWarehouse", name := "chamberNumbered", desc := "(I)LBondWarehouse$Chamber;" } : Jvm.MethodName)) ∈ TG := tg_4 232 rfl rfl
theorem ks_59 : Cond.selects "BondWarehouse" ⟨"BondWarehouse", "chamberNumbered", "(I)LBondWarehouse$Chamber;"⟩ ⟨"BondWarehouse", "chamberNumbered", "(I)LBondWarehouse$Chamber;"⟩ ∈ TG := tgS (q := (⟨"BondWarehouse", "chamberNumbered", "(I)LBondWarehouse$Chamber;"⟩, 4)) (List.mem_of_getElem? (i := 59) rfl)
theorem kw_5_8 : (Jvm.Cond.code ({ cls := "BondWarehouse$State", name := "countIn", desc := "(I)I" } : Jvm.MethodName) prog_10_method_18_code (4 : Nat) (Option.some Jvm.ClassFile.FieldType.int)) ∈ TG := tg_5 8 rfl rfl
theorem kw_5_7 : (Jvm.Cond.instanceMethod ({ cls := "BondWarehouse$State", name := "countIn", desc := "(I)I" } : Jvm.MethodName)) ∈ TG := tg_5 7 rfl rfl
theorem ks_60 : Cond.selects "BondWarehouse$State" ⟨"BondWarehouse$State", "countIn", "(I)I"⟩ ⟨"BondWarehouse$State", "countIn", "(I)I"⟩ ∈ TG := tgS (q := (⟨"BondWarehouse$State", "countIn", "(I)I"⟩, 11)) (List.mem_of_getElem? (i := 60) rfl)
theorem kw_5_24 : (Jvm.Cond.methodLink "BondWarehouse" (201 : Nat) ({ cls := "BondWarehouse", name := "receiptBack", desc := "(I)LBondWarehouse$Receipt;" } : Jvm.MethodName)) ∈ TG := tg_5 24 rfl rfl
theorem kw_5_27 : (Jvm.Cond.code ({ cls := "BondWarehouse", name := "receiptBack", desc := "(I)LBondWarehouse$Receipt;" } : Jvm.MethodName) prog_1_method_93_code (3 : Nat) (Option.some (Jvm.ClassFile.FieldType.object "BondWarehouse$Receipt"))) ∈ TG := tg_5 27 rfl rfl
theorem kw_5_26 : (Jvm.Cond.instanceMethod ({ cls := "BondWarehouse", name := "receiptBack", desc := "(I)LBondWarehouse$Receipt;" } : Jvm.MethodName)) ∈ TG := tg_5 26 rfl rfl
theorem ks_61 : Cond.selects "BondWarehouse" ⟨"BondWarehouse", "receiptBack", "(I)LBondWarehouse$Receipt;"⟩ ⟨"BondWarehouse", "receiptBack", "(I)LBondWarehouse$Receipt;"⟩ ∈ TG := tgS (q := (⟨"BondWarehouse", "receiptBack", "(I)LBondWarehouse$Receipt;"⟩, 4)) (List.mem_of_getElem? (i := 61) rfl)
theorem kw_5_58 : (Jvm.Cond.methodLink "BondWarehouse" (215 : Nat) ({ cls := "BondWarehouse", name := "accountOfKind", desc := "(I)LBondWarehouse$KindAccount;" } : Jvm.MethodName)) ∈ TG := tg_5 58 rfl rfl
theorem kw_5_61 : (Jvm.Cond.code ({ cls := "BondWarehouse", name := "accountOfKind", desc := "(I)LBondWarehouse$KindAccount;" } : Jvm.MethodName) prog_1_method_95_code (2 : Nat) (Option.some (Jvm.ClassFile.FieldType.object "BondWarehouse$KindAccount"))) ∈ TG := tg_5 61 rfl rfl
theorem kw_5_60 : (Jvm.Cond.instanceMethod ({ cls := "BondWarehouse", name := "accountOfKind", desc := "(I)LBondWarehouse$KindAccount;" } : Jvm.MethodName)) ∈ TG := tg_5 60 rfl rfl
theorem ks_62 : Cond.selects "BondWarehouse" ⟨"BondWarehouse", "accountOfKind", "(I)LBondWarehouse$KindAccount;"⟩ ⟨"BondWarehouse", "accountOfKind", "(I)LBondWarehouse$KindAccount;"⟩ ∈ TG := tgS (q := (⟨"BondWarehouse", "accountOfKind", "(I)LBondWarehouse$KindAccount;"⟩, 4)) (List.mem_of_getElem? (i := 62) rfl)
theorem kw_5_121 : (Jvm.Cond.code ({ cls := "BondWarehouse$State", name := "stockOf", desc := "(I)I" } : Jvm.MethodName) prog_10_method_20_code (4 : Nat) (Option.some Jvm.ClassFile.FieldType.int)) ∈ TG := tg_5 121 rfl rfl
theorem kw_5_120 : (Jvm.Cond.instanceMethod ({ cls := "BondWarehouse$State", name := "stockOf", desc := "(I)I" } : Jvm.MethodName)) ∈ TG := tg_5 120 rfl rfl
theorem ks_63 : Cond.selects "BondWarehouse$State" ⟨"BondWarehouse$State", "stockOf", "(I)I"⟩ ⟨"BondWarehouse$State", "stockOf", "(I)I"⟩ ∈ TG := tgS (q := (⟨"BondWarehouse$State", "stockOf", "(I)I"⟩, 11)) (List.mem_of_getElem? (i := 63) rfl)
theorem kw_6_156 : (Jvm.Cond.methodLink "BondWarehouse" (275 : Nat) ({ cls := "BondWarehouse", name := "areGoods", desc := "(IIII)Z" } : Jvm.MethodName)) ∈ TG := tg_6 156 rfl rfl
theorem kw_5_178 : (Jvm.Cond.methodLink "BondWarehouse" (309 : Nat) ({ cls := "BondWarehouse", name := "paidBackOf", desc := "(I)I" } : Jvm.MethodName)) ∈ TG := tg_5 178 rfl rfl
theorem kw_5_193 : (Jvm.Cond.methodLink "BondWarehouse" (312 : Nat) ({ cls := "java/lang/Math", name := "max", desc := "(II)I" } : Jvm.MethodName)) ∈ TG := tg_5 193 rfl rfl
theorem kw_6_217 : (Jvm.Cond.code ({ cls := "BondWarehouse$State", name := "nextLate", desc := "()I" } : Jvm.MethodName) prog_10_method_28_code (3 : Nat) (Option.some Jvm.ClassFile.FieldType.int)) ∈ TG := tg_6 217 rfl rfl
theorem kw_6_216 : (Jvm.Cond.instanceMethod ({ cls := "BondWarehouse$State", name := "nextLate", desc := "()I" } : Jvm.MethodName)) ∈ TG := tg_6 216 rfl rfl
theorem ks_84 : Cond.selects "BondWarehouse$State" ⟨"BondWarehouse$State", "nextLate", "()I"⟩ ⟨"BondWarehouse$State", "nextLate", "()I"⟩ ∈ TG := tgS (q := (⟨"BondWarehouse$State", "nextLate", "()I"⟩, 11)) (List.mem_of_getElem? (i := 84) rfl)
theorem kw_5_216 : (Jvm.Cond.code ({ cls := "BondWarehouse$State", name := "numberAt", desc := "(I)I" } : Jvm.MethodName) prog_10_method_5_code (2 : Nat) (Option.some Jvm.ClassFile.FieldType.int)) ∈ TG := tg_5 216 rfl rfl
theorem kw_5_215 : (Jvm.Cond.instanceMethod ({ cls := "BondWarehouse$State", name := "numberAt", desc := "(I)I" } : Jvm.MethodName)) ∈ TG := tg_5 215 rfl rfl
theorem ks_67 : Cond.selects "BondWarehouse$State" ⟨"BondWarehouse$State", "numberAt", "(I)I"⟩ ⟨"BondWarehouse$State", "numberAt", "(I)I"⟩ ∈ TG := tgS (q := (⟨"BondWarehouse$State", "numberAt", "(I)I"⟩, 11)) (List.mem_of_getElem? (i := 67) rfl)
theorem kw_2_12 : (Jvm.Cond.fieldLink "BondWarehouse$State" (42 : Nat) "BondWarehouse$State" "duties" "[I") ∈ TG := tg_2 12 rfl rfl
theorem kw_5_209 : (Jvm.Cond.methodLink "BondWarehouse$State" (190 : Nat) ({ cls := "BondWarehouse$State", name := "isCheaper", desc := "(II)Z" } : Jvm.MethodName)) ∈ TG := tg_5 209 rfl rfl
theorem kw_5_212 : (Jvm.Cond.code ({ cls := "BondWarehouse$State", name := "isCheaper", desc := "(II)Z" } : Jvm.MethodName) prog_10_method_31_code (7 : Nat) (Option.some Jvm.ClassFile.FieldType.boolean)) ∈ TG := tg_5 212 rfl rfl
theorem kw_5_211 : (Jvm.Cond.instanceMethod ({ cls := "BondWarehouse$State", name := "isCheaper", desc := "(II)Z" } : Jvm.MethodName)) ∈ TG := tg_5 211 rfl rfl
theorem ks_66 : Cond.selects "BondWarehouse$State" ⟨"BondWarehouse$State", "isCheaper", "(II)Z"⟩ ⟨"BondWarehouse$State", "isCheaper", "(II)Z"⟩ ∈ TG := tgS (q := (⟨"BondWarehouse$State", "isCheaper", "(II)Z"⟩, 11)) (List.mem_of_getElem? (i := 66) rfl)
theorem kw_5_204 : (Jvm.Cond.code ({ cls := "BondWarehouse$State", name := "tellDuties", desc := "()V" } : Jvm.MethodName) prog_10_method_29_code (2 : Nat) (Option.none : Option Jvm.ClassFile.FieldType)) ∈ TG := tg_5 204 rfl rfl
theorem kw_5_203 : (Jvm.Cond.instanceMethod ({ cls := "BondWarehouse$State", name := "tellDuties", desc := "()V" } : Jvm.MethodName)) ∈ TG := tg_5 203 rfl rfl
theorem ks_64 : Cond.selects "BondWarehouse$State" ⟨"BondWarehouse$State", "tellDuties", "()V"⟩ ⟨"BondWarehouse$State", "tellDuties", "()V"⟩ ∈ TG := tgS (q := (⟨"BondWarehouse$State", "tellDuties", "()V"⟩, 11)) (List.mem_of_getElem? (i := 64) rfl)
theorem kw_5_208 : (Jvm.Cond.code ({ cls := "BondWarehouse$State", name := "cheapestBehind", desc := "(II)I" } : Jvm.MethodName) prog_10_method_32_code (5 : Nat) (Option.some Jvm.ClassFile.FieldType.int)) ∈ TG := tg_5 208 rfl rfl
theorem kw_5_207 : (Jvm.Cond.instanceMethod ({ cls := "BondWarehouse$State", name := "cheapestBehind", desc := "(II)I" } : Jvm.MethodName)) ∈ TG := tg_5 207 rfl rfl
theorem ks_65 : Cond.selects "BondWarehouse$State" ⟨"BondWarehouse$State", "cheapestBehind", "(II)I"⟩ ⟨"BondWarehouse$State", "cheapestBehind", "(II)I"⟩ ∈ TG := tgS (q := (⟨"BondWarehouse$State", "cheapestBehind", "(II)I"⟩, 11)) (List.mem_of_getElem? (i := 65) rfl)
theorem kw_5_228 : (Jvm.Cond.methodLink "BondWarehouse$State" (194 : Nat) ({ cls := "BondWarehouse$State", name := "stockOf", desc := "(I)I" } : Jvm.MethodName)) ∈ TG := tg_5 228 rfl rfl
theorem kw_5_229 : (Jvm.Cond.methodLink "BondWarehouse$State" (187 : Nat) ({ cls := "BondWarehouse$State", name := "tellDuties", desc := "()V" } : Jvm.MethodName)) ∈ TG := tg_5 229 rfl rfl
theorem kw_5_230 : (Jvm.Cond.methodLink "BondWarehouse$State" (197 : Nat) ({ cls := "BondWarehouse$State", name := "cheapestBehind", desc := "(II)I" } : Jvm.MethodName)) ∈ TG := tg_5 230 rfl rfl
theorem kw_5_227 : (Jvm.Cond.code ({ cls := "BondWarehouse$State", name := "dutyOfCheapest", desc := "(II)I" } : Jvm.MethodName) prog_10_method_33_code (8 : Nat) (Option.some Jvm.ClassFile.FieldType.int)) ∈ TG := tg_5 227 rfl rfl
theorem kw_5_226 : (Jvm.Cond.instanceMethod ({ cls := "BondWarehouse$State", name := "dutyOfCheapest", desc := "(II)I" } : Jvm.MethodName)) ∈ TG := tg_5 226 rfl rfl
theorem ks_68 : Cond.selects "BondWarehouse$State" ⟨"BondWarehouse$State", "dutyOfCheapest", "(II)I"⟩ ⟨"BondWarehouse$State", "dutyOfCheapest", "(II)I"⟩ ∈ TG := tgS (q := (⟨"BondWarehouse$State", "dutyOfCheapest", "(II)I"⟩, 11)) (List.mem_of_getElem? (i := 68) rfl)
theorem kw_6_209 : (Jvm.Cond.code ({ cls := "BondWarehouse$State", name := "dearest", desc := "()I" } : Jvm.MethodName) prog_10_method_30_code (3 : Nat) (Option.some Jvm.ClassFile.FieldType.int)) ∈ TG := tg_6 209 rfl rfl
theorem kw_6_208 : (Jvm.Cond.instanceMethod ({ cls := "BondWarehouse$State", name := "dearest", desc := "()I" } : Jvm.MethodName)) ∈ TG := tg_6 208 rfl rfl
theorem ks_83 : Cond.selects "BondWarehouse$State" ⟨"BondWarehouse$State", "dearest", "()I"⟩ ⟨"BondWarehouse$State", "dearest", "()I"⟩ ∈ TG := tgS (q := (⟨"BondWarehouse$State", "dearest", "()I"⟩, 11)) (List.mem_of_getElem? (i := 83) rfl)
theorem kw_2_88 : (Jvm.Cond.fieldLink "BondWarehouse$Journal" (9 : Nat) "BondWarehouse$Journal" "codes" "[I") ∈ TG := tg_2 88 rfl rfl
theorem kw_2_90 : (Jvm.Cond.fieldLink "BondWarehouse$Journal" (18 : Nat) "BondWarehouse$Journal" "length" "I") ∈ TG := tg_2 90 rfl rfl
theorem kw_2_114 : (Jvm.Cond.fieldLink "BondWarehouse" (35 : Nat) "BondWarehouse" "journal" "LBondWarehouse$Journal;") ∈ TG := tg_2 114 rfl rfl
theorem kw_6_2 : (Jvm.Cond.code ({ cls := "BondWarehouse$Journal", name := "add", desc := "(I)I" } : Jvm.MethodName) prog_6_method_2_code (2 : Nat) (Option.some Jvm.ClassFile.FieldType.int)) ∈ TG := tg_6 2 rfl rfl
theorem kw_1_10 : (Jvm.Cond.initialized "BondWarehouse$Journal") ∈ TG := tg_1 10 rfl rfl
theorem kw_6_1 : (Jvm.Cond.instanceMethod ({ cls := "BondWarehouse$Journal", name := "add", desc := "(I)I" } : Jvm.MethodName)) ∈ TG := tg_6 1 rfl rfl
theorem ks_69 : Cond.selects "BondWarehouse$Journal" ⟨"BondWarehouse$Journal", "add", "(I)I"⟩ ⟨"BondWarehouse$Journal", "add", "(I)I"⟩ ∈ TG := tgS (q := (⟨"BondWarehouse$Journal", "add", "(I)I"⟩, 6)) (List.mem_of_getElem? (i := 69) rfl)
theorem kw_2_95 : (Jvm.Cond.fieldLink "BondWarehouse$Journal" (44 : Nat) "BondWarehouse$Journal" "place" "I") ∈ TG := tg_2 95 rfl rfl
theorem kw_2_96 : (Jvm.Cond.fieldLink "BondWarehouse$Journal" (15 : Nat) "BondWarehouse$Journal" "numbers" "[I") ∈ TG := tg_2 96 rfl rfl
theorem kw_2_94 : (Jvm.Cond.fieldLink "BondWarehouse$Journal" (37 : Nat) "BondWarehouse$Journal" "form" "[I") ∈ TG := tg_2 94 rfl rfl
theorem kw_6_22 : (Jvm.Cond.methodLink "BondWarehouse$Journal" (40 : Nat) ({ cls := "BondWarehouse$Journal", name := "startNumber", desc := "(I)V" } : Jvm.MethodName)) ∈ TG := tg_6 22 rfl rfl
theorem kw_6_25 : (Jvm.Cond.code ({ cls := "BondWarehouse$Journal", name := "startNumber", desc := "(I)V" } : Jvm.MethodName) prog_6_method_8_code (2 : Nat) (Option.none : Option Jvm.ClassFile.FieldType)) ∈ TG := tg_6 25 rfl rfl
theorem kw_6_24 : (Jvm.Cond.instanceMethod ({ cls := "BondWarehouse$Journal", name := "startNumber", desc := "(I)V" } : Jvm.MethodName)) ∈ TG := tg_6 24 rfl rfl
theorem ks_73 : Cond.selects "BondWarehouse$Journal" ⟨"BondWarehouse$Journal", "startNumber", "(I)V"⟩ ⟨"BondWarehouse$Journal", "startNumber", "(I)V"⟩ ∈ TG := tgS (q := (⟨"BondWarehouse$Journal", "startNumber", "(I)V"⟩, 6)) (List.mem_of_getElem? (i := 73) rfl)
theorem kw_6_41 : (Jvm.Cond.fieldLink "BondWarehouse$Journal" (86 : Nat) "BondWarehouse$Journal" "SEAL" "[I") ∈ TG := tg_6 41 rfl rfl
theorem kw_6_43 : (Jvm.Cond.fieldLink "BondWarehouse$Journal" (89 : Nat) "BondWarehouse$Journal" "MONEY" "[I") ∈ TG := tg_6 43 rfl rfl
theorem kw_6_33 : (Jvm.Cond.fieldLink "BondWarehouse$Journal" (74 : Nat) "BondWarehouse$Journal" "GOODS" "[I") ∈ TG := tg_6 33 rfl rfl
theorem kw_6_37 : (Jvm.Cond.fieldLink "BondWarehouse$Journal" (80 : Nat) "BondWarehouse$Journal" "WEIGHING" "[I") ∈ TG := tg_6 37 rfl rfl
theorem kw_6_39 : (Jvm.Cond.fieldLink "BondWarehouse$Journal" (83 : Nat) "BondWarehouse$Journal" "WAY" "[I") ∈ TG := tg_6 39 rfl rfl
theorem kw_6_45 : (Jvm.Cond.fieldLink "BondWarehouse$Journal" (92 : Nat) "BondWarehouse$Journal" "TIME" "[I") ∈ TG := tg_6 45 rfl rfl
theorem kw_6_35 : (Jvm.Cond.fieldLink "BondWarehouse$Journal" (77 : Nat) "BondWarehouse$Journal" "PART" "[I") ∈ TG := tg_6 35 rfl rfl
theorem kw_6_51 : (Jvm.Cond.methodLink "BondWarehouse$Journal" (47 : Nat) ({ cls := "BondWarehouse$Journal", name := "sortAt", desc := "(I)I" } : Jvm.MethodName)) ∈ TG := tg_6 51 rfl rfl
theorem kw_6_54 : (Jvm.Cond.code ({ cls := "BondWarehouse$Journal", name := "sortAt", desc := "(I)I" } : Jvm.MethodName) prog_6_method_13_code (2 : Nat) (Option.some Jvm.ClassFile.FieldType.int)) ∈ TG := tg_6 54 rfl rfl
theorem kw_6_53 : (Jvm.Cond.instanceMethod ({ cls := "BondWarehouse$Journal", name := "sortAt", desc := "(I)I" } : Jvm.MethodName)) ∈ TG := tg_6 53 rfl rfl
theorem ks_76 : Cond.selects "BondWarehouse$Journal" ⟨"BondWarehouse$Journal", "sortAt", "(I)I"⟩ ⟨"BondWarehouse$Journal", "sortAt", "(I)I"⟩ ∈ TG := tgS (q := (⟨"BondWarehouse$Journal", "sortAt", "(I)I"⟩, 6)) (List.mem_of_getElem? (i := 76) rfl)
theorem kw_6_55 : (Jvm.Cond.fieldLink "BondWarehouse$Journal" (64 : Nat) "BondWarehouse$Journal" "LEAST" "[I") ∈ TG := tg_6 55 rfl rfl
theorem kw_6_57 : (Jvm.Cond.fieldLink "BondWarehouse$Journal" (67 : Nat) "BondWarehouse$Journal" "MOST" "[I") ∈ TG := tg_6 57 rfl rfl
theorem kw_6_47 : (Jvm.Cond.methodLink "BondWarehouse$Journal" (58 : Nat) ({ cls := "BondWarehouse$Journal", name := "readsDigit", desc := "(I)Z" } : Jvm.MethodName)) ∈ TG := tg_6 47 rfl rfl
theorem kw_6_50 : (Jvm.Cond.code ({ cls := "BondWarehouse$Journal", name := "readsDigit", desc := "(I)Z" } : Jvm.MethodName) prog_6_method_11_code (5 : Nat) (Option.some Jvm.ClassFile.FieldType.boolean)) ∈ TG := tg_6 50 rfl rfl
theorem kw_6_49 : (Jvm.Cond.instanceMethod ({ cls := "BondWarehouse$Journal", name := "readsDigit", desc := "(I)Z" } : Jvm.MethodName)) ∈ TG := tg_6 49 rfl rfl
theorem ks_75 : Cond.selects "BondWarehouse$Journal" ⟨"BondWarehouse$Journal", "readsDigit", "(I)Z"⟩ ⟨"BondWarehouse$Journal", "readsDigit", "(I)Z"⟩ ∈ TG := tgS (q := (⟨"BondWarehouse$Journal", "readsDigit", "(I)Z"⟩, 6)) (List.mem_of_getElem? (i := 75) rfl)
theorem kw_6_60 : (Jvm.Cond.methodLink "BondWarehouse$Journal" (61 : Nat) ({ cls := "BondWarehouse$Journal", name := "signBefore", desc := "(I)I" } : Jvm.MethodName)) ∈ TG := tg_6 60 rfl rfl
theorem kw_6_62 : (Jvm.Cond.code ({ cls := "BondWarehouse$Journal", name := "signBefore", desc := "(I)I" } : Jvm.MethodName) prog_6_method_12_code (1 : Nat) (Option.some Jvm.ClassFile.FieldType.int)) ∈ TG := tg_6 62 rfl rfl
theorem kw_6_61 : (Jvm.Cond.static ({ cls := "BondWarehouse$Journal", name := "signBefore", desc := "(I)I" } : Jvm.MethodName)) ∈ TG := tg_6 61 rfl rfl
theorem kw_6_18 : (Jvm.Cond.methodLink "BondWarehouse$Journal" (22 : Nat) ({ cls := "BondWarehouse$Journal", name := "startLine", desc := "()V" } : Jvm.MethodName)) ∈ TG := tg_6 18 rfl rfl
theorem kw_6_21 : (Jvm.Cond.code ({ cls := "BondWarehouse$Journal", name := "startLine", desc := "()V" } : Jvm.MethodName) prog_6_method_7_code (1 : Nat) (Option.none : Option Jvm.ClassFile.FieldType)) ∈ TG := tg_6 21 rfl rfl
theorem kw_6_20 : (Jvm.Cond.instanceMethod ({ cls := "BondWarehouse$Journal", name := "startLine", desc := "()V" } : Jvm.MethodName)) ∈ TG := tg_6 20 rfl rfl
theorem ks_72 : Cond.selects "BondWarehouse$Journal" ⟨"BondWarehouse$Journal", "startLine", "()V"⟩ ⟨"BondWarehouse$Journal", "startLine", "()V"⟩ ∈ TG := tgS (q := (⟨"BondWarehouse$Journal", "startLine", "()V"⟩, 6)) (List.mem_of_getElem? (i := 72) rfl)
theorem kw_2_92 : (Jvm.Cond.fieldLink "BondWarehouse$Journal" (51 : Nat) "BondWarehouse$Journal" "letter" "I") ∈ TG := tg_2 92 rfl rfl
theorem kw_6_30 : (Jvm.Cond.methodLink "BondWarehouse$Journal" (54 : Nat) ({ cls := "BondWarehouse$Journal", name := "formOf", desc := "(I)[I" } : Jvm.MethodName)) ∈ TG := tg_6 30 rfl rfl
theorem kw_6_32 : (Jvm.Cond.code ({ cls := "BondWarehouse$Journal", name := "formOf", desc := "(I)[I" } : Jvm.MethodName) prog_6_method_14_code (1 : Nat) (Option.some (Jvm.ClassFile.FieldType.array Jvm.ClassFile.FieldType.int))) ∈ TG := tg_6 32 rfl rfl
theorem kw_6_31 : (Jvm.Cond.static ({ cls := "BondWarehouse$Journal", name := "formOf", desc := "(I)[I" } : Jvm.MethodName)) ∈ TG := tg_6 31 rfl rfl
theorem kw_6_26 : (Jvm.Cond.methodLink "BondWarehouse$Journal" (25 : Nat) ({ cls := "BondWarehouse$Journal", name := "reads", desc := "(I)Z" } : Jvm.MethodName)) ∈ TG := tg_6 26 rfl rfl
theorem kw_6_29 : (Jvm.Cond.code ({ cls := "BondWarehouse$Journal", name := "reads", desc := "(I)Z" } : Jvm.MethodName) prog_6_method_10_code (2 : Nat) (Option.some Jvm.ClassFile.FieldType.boolean)) ∈ TG := tg_6 29 rfl rfl
theorem kw_6_28 : (Jvm.Cond.instanceMethod ({ cls := "BondWarehouse$Journal", name := "reads", desc := "(I)Z" } : Jvm.MethodName)) ∈ TG := tg_6 28 rfl rfl
theorem ks_74 : Cond.selects "BondWarehouse$Journal" ⟨"BondWarehouse$Journal", "reads", "(I)Z"⟩ ⟨"BondWarehouse$Journal", "reads", "(I)Z"⟩ ∈ TG := tgS (q := (⟨"BondWarehouse$Journal", "reads", "(I)Z"⟩, 6)) (List.mem_of_getElem? (i := 74) rfl)
theorem kw_6_14 : (Jvm.Cond.methodLink "BondWarehouse$Journal" (29 : Nat) ({ cls := "BondWarehouse$Journal", name := "firstWrong", desc := "()I" } : Jvm.MethodName)) ∈ TG := tg_6 14 rfl rfl
theorem kw_6_17 : (Jvm.Cond.code ({ cls := "BondWarehouse$Journal", name := "firstWrong", desc := "()I" } : Jvm.MethodName) prog_6_method_4_code (2 : Nat) (Option.some Jvm.ClassFile.FieldType.int)) ∈ TG := tg_6 17 rfl rfl
theorem kw_6_16 : (Jvm.Cond.instanceMethod ({ cls := "BondWarehouse$Journal", name := "firstWrong", desc := "()I" } : Jvm.MethodName)) ∈ TG := tg_6 16 rfl rfl
theorem ks_71 : Cond.selects "BondWarehouse$Journal" ⟨"BondWarehouse$Journal", "firstWrong", "()I"⟩ ⟨"BondWarehouse$Journal", "firstWrong", "()I"⟩ ∈ TG := tgS (q := (⟨"BondWarehouse$Journal", "firstWrong", "()I"⟩, 6)) (List.mem_of_getElem? (i := 71) rfl)
theorem kw_6_63 : (Jvm.Cond.methodLink "BondWarehouse$Journal" (33 : Nat) ({ cls := "BondWarehouse$Journal", name := "isLineComplete", desc := "()Z" } : Jvm.MethodName)) ∈ TG := tg_6 63 rfl rfl
theorem kw_6_66 : (Jvm.Cond.code ({ cls := "BondWarehouse$Journal", name := "isLineComplete", desc := "()Z" } : Jvm.MethodName) prog_6_method_9_code (1 : Nat) (Option.some Jvm.ClassFile.FieldType.boolean)) ∈ TG := tg_6 66 rfl rfl
theorem kw_6_65 : (Jvm.Cond.instanceMethod ({ cls := "BondWarehouse$Journal", name := "isLineComplete", desc := "()Z" } : Jvm.MethodName)) ∈ TG := tg_6 65 rfl rfl
theorem ks_77 : Cond.selects "BondWarehouse$Journal" ⟨"BondWarehouse$Journal", "isLineComplete", "()Z"⟩ ⟨"BondWarehouse$Journal", "isLineComplete", "()Z"⟩ ∈ TG := tgS (q := (⟨"BondWarehouse$Journal", "isLineComplete", "()Z"⟩, 6)) (List.mem_of_getElem? (i := 77) rfl)
theorem kw_6_86 : (Jvm.Cond.methodLink "BondWarehouse$Deeds" (271 : Nat) ({ cls := "BondWarehouse$Deeds", name := "damageSeal", desc := "(I)I" } : Jvm.MethodName)) ∈ TG := tg_6 86 rfl rfl
theorem kw_6_87 : (Jvm.Cond.methodLink "BondWarehouse$Deeds" (274 : Nat) ({ cls := "BondWarehouse$Deeds", name := "payIn", desc := "(I)I" } : Jvm.MethodName)) ∈ TG := tg_6 87 rfl rfl
theorem kw_6_79 : (Jvm.Cond.methodLink "BondWarehouse$Deeds" (249 : Nat) ({ cls := "BondWarehouse$Deeds", name := "bringIn", desc := "(IIII)I" } : Jvm.MethodName)) ∈ TG := tg_6 79 rfl rfl
theorem kw_6_82 : (Jvm.Cond.methodLink "BondWarehouse$Deeds" (259 : Nat) ({ cls := "BondWarehouse$Deeds", name := "putOnScales", desc := "(II)I" } : Jvm.MethodName)) ∈ TG := tg_6 82 rfl rfl
theorem kw_6_84 : (Jvm.Cond.methodLink "BondWarehouse$Deeds" (265 : Nat) ({ cls := "BondWarehouse$Deeds", name := "putSeal", desc := "(I)I" } : Jvm.MethodName)) ∈ TG := tg_6 84 rfl rfl
theorem kw_6_83 : (Jvm.Cond.methodLink "BondWarehouse$Deeds" (262 : Nat) ({ cls := "BondWarehouse$Deeds", name := "carryOver", desc := "(II)I" } : Jvm.MethodName)) ∈ TG := tg_6 83 rfl rfl
theorem kw_6_85 : (Jvm.Cond.methodLink "BondWarehouse$Deeds" (268 : Nat) ({ cls := "BondWarehouse$Deeds", name := "takeSealOff", desc := "(I)I" } : Jvm.MethodName)) ∈ TG := tg_6 85 rfl rfl
theorem kw_6_88 : (Jvm.Cond.methodLink "BondWarehouse$Deeds" (277 : Nat) ({ cls := "BondWarehouse$Deeds", name := "letPass", desc := "(I)I" } : Jvm.MethodName)) ∈ TG := tg_6 88 rfl rfl
theorem kw_6_80 : (Jvm.Cond.methodLink "BondWarehouse$Deeds" (252 : Nat) ({ cls := "BondWarehouse$Deeds", name := "takeIntoCountry", desc := "(II)I" } : Jvm.MethodName)) ∈ TG := tg_6 80 rfl rfl
theorem kw_6_81 : (Jvm.Cond.methodLink "BondWarehouse$Deeds" (256 : Nat) ({ cls := "BondWarehouse$Deeds", name := "takeAbroad", desc := "(II)I" } : Jvm.MethodName)) ∈ TG := tg_6 81 rfl rfl
theorem kw_6_13 : (Jvm.Cond.code ({ cls := "BondWarehouse$Journal", name := "isComplete", desc := "()Z" } : Jvm.MethodName) prog_6_method_5_code (1 : Nat) (Option.some Jvm.ClassFile.FieldType.boolean)) ∈ TG := tg_6 13 rfl rfl
theorem kw_6_12 : (Jvm.Cond.instanceMethod ({ cls := "BondWarehouse$Journal", name := "isComplete", desc := "()Z" } : Jvm.MethodName)) ∈ TG := tg_6 12 rfl rfl
theorem ks_70 : Cond.selects "BondWarehouse$Journal" ⟨"BondWarehouse$Journal", "isComplete", "()Z"⟩ ⟨"BondWarehouse$Journal", "isComplete", "()Z"⟩ ∈ TG := tgS (q := (⟨"BondWarehouse$Journal", "isComplete", "()Z"⟩, 6)) (List.mem_of_getElem? (i := 70) rfl)
theorem kw_2_112 : (Jvm.Cond.fieldLink "BondWarehouse" (19 : Nat) "BondWarehouse" "history" "LBondWarehouse$History;") ∈ TG := tg_2 112 rfl rfl
theorem kw_6_92 : (Jvm.Cond.code ({ cls := "BondWarehouse$Journal", name := "wipe", desc := "()I" } : Jvm.MethodName) prog_6_method_3_code (2 : Nat) (Option.some Jvm.ClassFile.FieldType.int)) ∈ TG := tg_6 92 rfl rfl
theorem kw_6_91 : (Jvm.Cond.instanceMethod ({ cls := "BondWarehouse$Journal", name := "wipe", desc := "()I" } : Jvm.MethodName)) ∈ TG := tg_6 91 rfl rfl
theorem ks_80 : Cond.selects "BondWarehouse$Journal" ⟨"BondWarehouse$Journal", "wipe", "()I"⟩ ⟨"BondWarehouse$Journal", "wipe", "()I"⟩ ∈ TG := tgS (q := (⟨"BondWarehouse$Journal", "wipe", "()I"⟩, 6)) (List.mem_of_getElem? (i := 80) rfl)
theorem kw_6_74 : (Jvm.Cond.code ({ cls := "BondWarehouse$Journal", name := "isLastOfLine", desc := "(I)Z" } : Jvm.MethodName) prog_6_method_6_code (2 : Nat) (Option.some Jvm.ClassFile.FieldType.boolean)) ∈ TG := tg_6 74 rfl rfl
theorem kw_6_73 : (Jvm.Cond.instanceMethod ({ cls := "BondWarehouse$Journal", name := "isLastOfLine", desc := "(I)Z" } : Jvm.MethodName)) ∈ TG := tg_6 73 rfl rfl
theorem ks_78 : Cond.selects "BondWarehouse$Journal" ⟨"BondWarehouse$Journal", "isLastOfLine", "(I)Z"⟩ ⟨"BondWarehouse$Journal", "isLastOfLine", "(I)Z"⟩ ∈ TG := tgS (q := (⟨"BondWarehouse$Journal", "isLastOfLine", "(I)Z"⟩, 6)) (List.mem_of_getElem? (i := 78) rfl)
theorem kw_6_78 : (Jvm.Cond.code ({ cls := "BondWarehouse$Deeds", name := "carryOutLine", desc := "(I[I)I" } : Jvm.MethodName) prog_3_method_19_code (3 : Nat) (Option.some Jvm.ClassFile.FieldType.int)) ∈ TG := tg_6 78 rfl rfl
theorem kw_6_77 : (Jvm.Cond.instanceMethod ({ cls := "BondWarehouse$Deeds", name := "carryOutLine", desc := "(I[I)I" } : Jvm.MethodName)) ∈ TG := tg_6 77 rfl rfl
theorem ks_79 : Cond.selects "BondWarehouse$Deeds" ⟨"BondWarehouse$Deeds", "carryOutLine", "(I[I)I"⟩ ⟨"BondWarehouse$Deeds", "carryOutLine", "(I[I)I"⟩ ∈ TG := tgS (q := (⟨"BondWarehouse$Deeds", "carryOutLine", "(I[I)I"⟩, 2)) (List.mem_of_getElem? (i := 79) rfl)
theorem kw_6_104 : (Jvm.Cond.code ({ cls := "BondWarehouse$History", name := "restoreLast", desc := "(LBondWarehouse$State;)V" } : Jvm.MethodName) prog_5_method_3_code (2 : Nat) (Option.none : Option Jvm.ClassFile.FieldType)) ∈ TG := tg_6 104 rfl rfl
theorem kw_6_103 : (Jvm.Cond.instanceMethod ({ cls := "BondWarehouse$History", name := "restoreLast", desc := "(LBondWarehouse$State;)V" } : Jvm.MethodName)) ∈ TG := tg_6 103 rfl rfl
theorem ks_81 : Cond.selects "BondWarehouse$History" ⟨"BondWarehouse$History", "restoreLast", "(LBondWarehouse$State;)V"⟩ ⟨"BondWarehouse$History", "restoreLast", "(LBondWarehouse$State;)V"⟩ ∈ TG := tgS (q := (⟨"BondWarehouse$History", "restoreLast", "(LBondWarehouse$State;)V"⟩, 6)) (List.mem_of_getElem? (i := 81) rfl)
theorem kw_2_49 : (Jvm.Cond.fieldLink "BondWarehouse$History" (17 : Nat) "BondWarehouse$History" "slots" "[LBondWarehouse$State;") ∈ TG := tg_2 49 rfl rfl
theorem kw_2_51 : (Jvm.Cond.fieldLink "BondWarehouse$History" (20 : Nat) "BondWarehouse$History" "isFilled" "[Z") ∈ TG := tg_2 51 rfl rfl
theorem kw_6_112 : (Jvm.Cond.methodLink "BondWarehouse" (396 : Nat) ({ cls := "BondWarehouse", name := "requireSlot", desc := "(I)V" } : Jvm.MethodName)) ∈ TG := tg_6 112 rfl rfl
theorem kw_6_114 : (Jvm.Cond.code ({ cls := "BondWarehouse", name := "requireSlot", desc := "(I)V" } : Jvm.MethodName) prog_1_method_91_code (1 : Nat) (Option.none : Option Jvm.ClassFile.FieldType)) ∈ TG := tg_6 114 rfl rfl
theorem kw_6_113 : (Jvm.Cond.static ({ cls := "BondWarehouse", name := "requireSlot", desc := "(I)V" } : Jvm.MethodName)) ∈ TG := tg_6 113 rfl rfl
theorem kw_6_119 : (Jvm.Cond.code ({ cls := "BondWarehouse$History", name := "fillSlot", desc := "(ILBondWarehouse$State;)V" } : Jvm.MethodName) prog_5_method_4_code (3 : Nat) (Option.none : Option Jvm.ClassFile.FieldType)) ∈ TG := tg_6 119 rfl rfl
theorem kw_6_118 : (Jvm.Cond.instanceMethod ({ cls := "BondWarehouse$History", name := "fillSlot", desc := "(ILBondWarehouse$State;)V" } : Jvm.MethodName)) ∈ TG := tg_6 118 rfl rfl
theorem ks_82 : Cond.selects "BondWarehouse$History" ⟨"BondWarehouse$History", "fillSlot", "(ILBondWarehouse$State;)V"⟩ ⟨"BondWarehouse$History", "fillSlot", "(ILBondWarehouse$State;)V"⟩ ∈ TG := tgS (q := (⟨"BondWarehouse$History", "fillSlot", "(ILBondWarehouse$State;)V"⟩, 6)) (List.mem_of_getElem? (i := 82) rfl)
section BASE2
/-- a loop: what one round needs, the next rounds as K -/
def itr {α : Type} (B : (α → Prop) → α → Prop) : Nat → α → Prop
  | 0, _ => False
  | n + 1, a => B (itr B n) a
theorem itr_rule {α : Type} {B : (α → Prop) → α → Prop} (I : α → Prop) (μ : α → Nat) (hB : ∀ a, I a → ∀ K : α → Prop, (∀ a', I a' → μ a' < μ a → K a') → B K a) (a : α) (ha : I a) : ∃ n, itr B n a := by
  have h : ∀ (n : Nat) (a : α), I a → μ a < n → itr B n a := by
    intro n
    induction n with
    | zero => intro a _ h; exact absurd h (Nat.not_lt_zero _)
    | succ n ih => intro a hI h; exact hB a hI _ (fun a' h1 h2 => ih a' h1 (by omega))
  exact ⟨_, h (μ a + 1) a ha (by omega)⟩
theorem okc {t : Nat} (k : Nat) (h : 1 ≤ k ∧ k ≤ cnt t) : ok t k := h
theorem ok1 {t : Nat} (h : 1 ≤ cnt t) : ok t 1 := ⟨Nat.le_refl 1, h⟩
def GC (t i : Nat) : Prop := t < 20 ∧ ok t i
def GM (t i : Nat) : Prop := (30 ≤ t ∧ t < 37) ∧ ok t i
theorem gc {t i : Nat} (h : t < 20) (k : ok t i) : GC t i := ⟨h, k⟩
theorem gm {t i : Nat} (h : 30 ≤ t ∧ t < 37) (k : ok t i) : GM t i := ⟨h, k⟩
theorem vpl {i : Int32} {n : Nat} (h : ¬ (i < 0 ∨ n ≤ i.toNatClampNeg)) : vp_in i n := h
theorem vp_lt {j : Int32} {n : Nat} (h : vp_in j n) : j.toNatClampNeg < n := Nat.not_le.mp fun q => h (Or.inr q)
theorem vp_lt' {j : Int32} {n k : Nat} (h : vp_in j n) (e : j.toNatClampNeg = k) : k < n := e ▸ vp_lt h
theorem ok_ch {k : Nat} {j : Int32} (h : ok 9 k) (hj : vp_in j 5) : ok 5 (5 * (k - 1) + j.toNatClampNeg + 1) := by
  have h1 : 1 ≤ k ∧ k ≤ 9 := h
  have h2 := vp_lt hj
  show 1 ≤ _ ∧ _ ≤ 45
  omega
theorem ok_ki {k : Nat} {j : Int32} (h : ok 10 k) (hj : vp_in j 6) : ok 6 (6 * (k - 1) + j.toNatClampNeg + 1) := by
  have h1 : 1 ≤ k ∧ k ≤ 9 := h
  have h2 := vp_lt hj
  show 1 ≤ _ ∧ _ ≤ 54
  omega
theorem ok_sv {k : Nat} {j : Int32} (_ : ok 13 k) (hj : vp_in j 6) : ok 1 (j.toNatClampNeg + 2) := by
  have h2 := vp_lt hj
  show 1 ≤ _ ∧ _ ≤ 9
  omega
theorem ok_sl {k : Nat} {j : Int32} (_ : ok 14 k) (hj : vp_in j 2) : ok 1 (j.toNatClampNeg + 8) := by
  have h2 := vp_lt hj
  show 1 ≤ _ ∧ _ ≤ 9
  omega
/-- what the class's methods take as given of statics, texts and throws -/
def txL : List (Nat × String) := [(113, "there are not so many entries"), (281, "out of range"), (340, "the buffer is full"), (355, "the buffer is not a complete journal text"), (391, "no state is saved"), (407, "the slot is empty"), (416, "there is no such entry, receipt or chamber"), (418, "this cannot be done now"), (420, "there is no such chamber"), (422, "there is no such slot"), (424, "there is no such entry"), (429, "not so many receipts are kept")]
def decL : List MethodName := [⟨"java/lang/RuntimeException", "<init>", "(Ljava/lang/String;)V"⟩, ⟨"java/lang/Exception", "<init>", "(Ljava/lang/String;)V"⟩, ⟨"java/lang/Throwable", "<init>", "(Ljava/lang/String;)V"⟩]
def aoL : List String := ["BondWarehouse$Entry", "BondWarehouse$Receipt", "BondWarehouse$Chamber", "BondWarehouse$KindAccount", "BondWarehouse$State"]
def ZC (ad : Nat → Nat → Nat) (A : Nat → Prop) (U : State) (H : Heap) : Prop :=
  (∀ r, ok 20 r → va_Z (scls r) (snm r) "[I" (.ref (ad 20 r)) A U H ∧ va_T .int (ad 20 r) (slen r) (fun j => .int (stv r j)) A U H) ∧
  vx_Zq Bundle.tN "UNASSIGNED_STACK" Bundle.steD A U H ∧ vx_Zq Bundle.tN "SUPPRESSED_SENTINEL" Bundle.listD A U H ∧
  (∀ q ∈ txL, ∃ sa, vk_R "BondWarehouse" q.1 q.2 sa U) ∧ (∀ k, k < 4 → va_Nw (.castable (exN k) (exN k)) U) ∧ (∀ y ∈ decL, va_Nw (.declares y) U) ∧ (∀ C ∈ aoL, va_AO C U)
theorem ZC_ok (ad : Nat → Nat → Nat) (A : Nat → Prop) : Zok A (ZC ad A) := by
  intro U U' H H' hW hq h
  exact ⟨fun r hr => ⟨va_Z.moved hW.alike (va_Z.kept (h.1 r hr).1 hq), va_T.moved hW.alike (va_T.kept (h.1 r hr).2 hq)⟩, vx_Zq.moved hW.alike (vx_Zq.kept h.2.1 hq), vx_Zq.moved hW.alike (vx_Zq.kept h.2.2.1 hq), fun q hq' => by
    obtain ⟨sa, h9⟩ := h.2.2.2.1 q hq'
    exact ⟨sa, vk_R.warm hW h9⟩, fun k hk => va_Nw.warmC hW (h.2.2.2.2.1 k hk), fun y hy => va_tabs rfl (rfl : (U.setVm U'.vm).vm = U'.vm) (by rw [Cond.declares_setVm hW.alike]; exact h.2.2.2.2.2.1 y hy), fun C hC => (h.2.2.2.2.2.2 C hC).moved hW.alike⟩
def ZM (_ : State) (_ : Heap) : Prop := True
theorem ZM_ok (A : Nat → Prop) : Zok A ZM := fun _ _ _ _ _ _ _ => trivial
variable {p : Program} {l : Launch} {e : Env} {R : Room} {s : State} {m : MethodId} {args : Array Value} {below : List Frame} {meth : Method} {c : Code} {cells slots : Nat} {Q : State → Prop}
variable {cc : ByteArray} {nL : Nat} {own : String} {F : Nat → Prop} {D : va_G} {cA : Nat → ClassId} {ad : Nat → Nat → Nat} {dy : Bool} {G : Nat → Nat → Prop} {A : Nat → Prop} {Z : State → Heap → Prop}
variable {P : Heap → Prop} {mm : Mm} {pc : Nat} {lv : List (Nat × Value)} {st : List Value}
theorem q_topi {x : Int32} (k : ∀ y : Int32, y = x → V p l e R s m args below meth c Q nL A cells slots P pc lv (.int y :: st)) : V p l e R s m args below meth c Q nL A cells slots P pc lv (.int x :: st) := k x rfl
theorem q_topl {x : Int64} (k : ∀ y : Int64, y = x → V p l e R s m args below meth c Q nL A cells slots P pc lv (.long y :: st)) : V p l e R s m args below meth c Q nL A cells slots P pc lv (.long x :: st) := k x rfl
theorem q_topd {x : UInt64} (k : ∀ y : UInt64, y = x → V p l e R s m args below meth c Q nL A cells slots P pc lv (.double y :: st)) : V p l e R s m args below meth c Q nL A cells slots P pc lv (.double x :: st) := k x rfl
theorem q_nmP {m1 : Mm} (k : ∀ y : Mm, y = m1 → V p l e R s m args below meth c Q nL A cells slots (Rep F D cA ad dy G y) pc lv st) : V p l e R s m args below meth c Q nL A cells slots (Rep F D cA ad dy G m1) pc lv st := k m1 rfl
theorem q_tabI (X : Fx p m c cc nL s args own) {dflt lo hi : Int} {offs : Array Int} {len tgt : Nat} {x : Int32} {k : Int32} {off : Int} (hd : decode cc pc = .ok (.tableswitch dflt lo hi offs, len)) (hx : x = k) (h1 : ¬ k.toInt < lo) (h2 : ¬ hi < k.toInt) (ho : offs[(k.toInt - lo).toNat]? = some off) (ht : (pc : Int) + off = (tgt : Int)) (kk : V p l e R s m args below meth c Q nL A cells slots P tgt lv st) : V p l e R s m args below meth c Q nL A cells slots P pc lv (.int x :: st) := by
  subst hx
  exact fun H locs ls hP hS hl => lv_tableIn X.1 X.2.1 hd h1 h2 ho ht (kk H locs ls hP hS hl)
theorem q_tabD (X : Fx p m c cc nL s args own) (ks : List Int32) {dflt lo hi : Int} {offs : Array Int} {len tgt : Nat} {x : Int32} (hd : decode cc pc = .ok (.tableswitch dflt lo hi offs, len)) (hx : ∀ k ∈ ks, ¬ x = k) (hall : (decide (-2147483648 ≤ lo) && decide (hi < 2147483648) && (List.range (hi - lo + 1).toNat).all (fun j => decide (offs[j]? = some dflt) || decide (Int32.ofInt (lo + (j : Int)) ∈ ks))) = true) (ht : (pc : Int) + dflt = (tgt : Int)) (kk : V p l e R s m args below meth c Q nL A cells slots P tgt lv st) : V p l e R s m args below meth c Q nL A cells slots P pc lv (.int x :: st) := by
  intro H locs ls hP hS hl
  by_cases h1 : x.toInt < lo
  · exact lv_tableOut X.1 X.2.1 hd (Or.inl h1) ht (kk H locs ls hP hS hl)
  by_cases h2 : hi < x.toInt
  · exact lv_tableOut X.1 X.2.1 hd (Or.inr h2) ht (kk H locs ls hP hS hl)
  simp only [Bool.and_eq_true, decide_eq_true_eq, List.all_eq_true, List.mem_range, Bool.or_eq_true] at hall
  have h3 := hall.2 (x.toInt - lo).toNat (by omega)
  rcases h3 with h3 | h3
  · exact lv_tableIn X.1 X.2.1 hd h1 h2 h3 ht (kk H locs ls hP hS hl)
  · refine absurd ?_ (hx _ h3)
    rw [show lo + (((x.toInt - lo).toNat : Nat) : Int) = x.toInt by omega]
    exact (Int32.ofInt_toInt x).symm
theorem q_lookI (X : Fx p m c cc nL s args own) {dflt : Int} {ps : Array (Int × Int)} {len tgt : Nat} {x k : Int32} (hd : decode cc pc = .ok (.lookupswitch dflt ps, len)) (hx : x = k) (hp : (ps.toList.zip (ps.toList.drop 1)).all (fun (a, next) => a.1 < next.1) = true) (ho : (pc : Int) + Op.lookupswitch.offset ps.toList dflt k.toInt = (tgt : Int)) (kk : V p l e R s m args below meth c Q nL A cells slots P tgt lv st) : V p l e R s m args below meth c Q nL A cells slots P pc lv (.int x :: st) := by
  subst hx
  exact fun H locs ls hP hS hl => lv_lookup X.1 X.2.1 hd hp rfl ho (kk H locs ls hP hS hl)
theorem look_dflt (ks : List Int32) (x : Int32) (hx : ∀ k ∈ ks, ¬ x = k) (dflt : Int) : ∀ (ps : List (Int × Int)), (∀ q ∈ ps, ∃ k ∈ ks, k.toInt = q.1) → Op.lookupswitch.offset ps dflt x.toInt = dflt := by
  intro ps
  induction ps with
  | nil => intro _; rfl
  | cons q ps ih =>
    intro h
    obtain ⟨k, hk, e⟩ := h q List.mem_cons_self
    have hne : ¬ q.1 = x.toInt := fun z => hx k hk (Int32.toInt_inj.mp (by rw [e, z]))
    have h2 := ih (fun q hq => h q (List.mem_cons_of_mem _ hq))
    simp only [Op.lookupswitch.offset] at h2 ⊢
    simp [List.find?_cons, hne] at h2 ⊢
    exact h2
theorem q_lookD (X : Fx p m c cc nL s args own) (ks : List Int32) {dflt : Int} {ps : Array (Int × Int)} {len tgt : Nat} {x : Int32} (hd : decode cc pc = .ok (.lookupswitch dflt ps, len)) (hx : ∀ k ∈ ks, ¬ x = k) (hall : ps.toList.all (fun q => ks.any (fun k => decide (k.toInt = q.1))) = true) (hp : (ps.toList.zip (ps.toList.drop 1)).all (fun (a, next) => a.1 < next.1) = true) (ht : (pc : Int) + dflt = (tgt : Int)) (kk : V p l e R s m args below meth c Q nL A cells slots P tgt lv st) : V p l e R s m args below meth c Q nL A cells slots P pc lv (.int x :: st) := by
  intro H locs ls hP hS hl
  refine lv_lookup (off := dflt) X.1 X.2.1 hd hp (look_dflt ks x hx dflt ps.toList ?_) ht (kk H locs ls hP hS hl)
  intro q hq
  have h1 := List.all_eq_true.mp hall q hq
  obtain ⟨k, hk, h2⟩ := List.any_eq_true.mp h1
  exact ⟨k, hk, of_decide_eq_true h2⟩
end BASE2
theorem inTX0 : ∀ w ∈ u_ws RX0 TX0 2, w ∈ TG := by
  intro w hw
  obtain ⟨k, hk, rfl⟩ := List.mem_map.mp hw
  have hk := List.mem_range.mp hk
  match k, hk with
  | 0, _ => exact kw_1_172
  | 1, _ => exact kw_1_174
  | k + 2, h => exact absurd h (by omega)
theorem pl_X0 : plainName RX0 = true := by decide +kernel
theorem inTX1 : ∀ w ∈ u_ws RX1 TX1 2, w ∈ TG := by
  intro w hw
  obtain ⟨k, hk, rfl⟩ := List.mem_map.mp hw
  have hk := List.mem_range.mp hk
  match k, hk with
  | 0, _ => exact kw_2_77
  | 1, _ => exact kw_2_79
  | k + 2, h => exact absurd h (by omega)
theorem pl_X1 : plainName RX1 = true := by decide +kernel
theorem inTX2 : ∀ w ∈ u_ws RX2 TX2 8, w ∈ TG := by
  intro w hw
  obtain ⟨k, hk, rfl⟩ := List.mem_map.mp hw
  have hk := List.mem_range.mp hk
  match k, hk with
  | 0, _ => exact kw_1_115
  | 1, _ => exact kw_1_117
  | 2, _ => exact kw_1_119
  | 3, _ => exact kw_1_121
  | 4, _ => exact kw_1_123
  | 5, _ => exact kw_1_125
  | 6, _ => exact kw_1_127
  | 7, _ => exact kw_1_129
  | k + 8, h => exact absurd h (by omega)
theorem pl_X2 : plainName RX2 = true := by decide +kernel
theorem inTX3 : ∀ w ∈ u_ws RX3 TX3 6, w ∈ TG := by
  intro w hw
  obtain ⟨k, hk, rfl⟩ := List.mem_map.mp hw
  have hk := List.mem_range.mp hk
  match k, hk with
  | 0, _ => exact kw_2_55
  | 1, _ => exact kw_2_57
  | 2, _ => exact kw_2_59
  | 3, _ => exact kw_2_61
  | 4, _ => exact kw_2_63
  | 5, _ => exact kw_2_65
  | k + 6, h => exact absurd h (by omega)
theorem pl_X3 : plainName RX3 = true := by decide +kernel
theorem inTX4 : ∀ w ∈ u_ws RX4 TX4 6, w ∈ TG := by
  intro w hw
  obtain ⟨k, hk, rfl⟩ := List.mem_map.mp hw
  have hk := List.mem_range.mp hk
  match k, hk with
  | 0, _ => exact kw_2_98
  | 1, _ => exact kw_2_100
  | 2, _ => exact kw_2_102
  | 3, _ => exact kw_2_104
  | 4, _ => exact kw_2_106
  | 5, _ => exact kw_2_108
  | k + 6, h => exact absurd h (by omega)
theorem pl_X4 : plainName RX4 = true := by decide +kernel
theorem inTX5 : ∀ w ∈ u_ws RX5 TX5 8, w ∈ TG := by
  intro w hw
  obtain ⟨k, hk, rfl⟩ := List.mem_map.mp hw
  have hk := List.mem_range.mp hk
  match k, hk with
  | 0, _ => exact kw_1_210
  | 1, _ => exact kw_1_212
  | 2, _ => exact kw_1_214
  | 3, _ => exact kw_1_216
  | 4, _ => exact kw_1_218
  | 5, _ => exact kw_1_220
  | 6, _ => exact kw_1_222
  | 7, _ => exact kw_1_224
  | k + 8, h => exact absurd h (by omega)
theorem pl_X5 : plainName RX5 = true := by decide +kernel
theorem inTX6 : ∀ w ∈ u_ws RX6 TX6 7, w ∈ TG := by
  intro w hw
  obtain ⟨k, hk, rfl⟩ := List.mem_map.mp hw
  have hk := List.mem_range.mp hk
  match k, hk with
  | 0, _ => exact kw_1_57
  | 1, _ => exact kw_1_59
  | 2, _ => exact kw_1_61
  | 3, _ => exact kw_1_63
  | 4, _ => exact kw_1_65
  | 5, _ => exact kw_1_67
  | 6, _ => exact kw_1_69
  | k + 7, h => exact absurd h (by omega)
theorem pl_X6 : plainName RX6 = true := by decide +kernel
theorem inTX7 : ∀ w ∈ u_ws RX7 TX7 4, w ∈ TG := by
  intro w hw
  obtain ⟨k, hk, rfl⟩ := List.mem_map.mp hw
  have hk := List.mem_range.mp hk
  match k, hk with
  | 0, _ => exact kw_1_152
  | 1, _ => exact kw_1_154
  | 2, _ => exact kw_1_156
  | 3, _ => exact kw_1_158
  | k + 4, h => exact absurd h (by omega)
theorem pl_X7 : plainName RX7 = true := by decide +kernel
theorem inTX8 : ∀ w ∈ u_ws RX8 TX8 11, w ∈ TG := by
  intro w hw
  obtain ⟨k, hk, rfl⟩ := List.mem_map.mp hw
  have hk := List.mem_range.mp hk
  match k, hk with
  | 0, _ => exact kw_2_13
  | 1, _ => exact kw_2_15
  | 2, _ => exact kw_2_17
  | 3, _ => exact kw_2_19
  | 4, _ => exact kw_2_21
  | 5, _ => exact kw_2_23
  | 6, _ => exact kw_2_25
  | 7, _ => exact kw_2_27
  | 8, _ => exact kw_2_29
  | 9, _ => exact kw_2_31
  | 10, _ => exact kw_2_33
  | k + 11, h => exact absurd h (by omega)
theorem pl_X8 : plainName RX8 = true := by decide +kernel
theorem inTX9 : ∀ w ∈ u_ws RX9 TX9 4, w ∈ TG := by
  intro w hw
  obtain ⟨k, hk, rfl⟩ := List.mem_map.mp hw
  have hk := List.mem_range.mp hk
  match k, hk with
  | 0, _ => exact kw_2_115
  | 1, _ => exact kw_2_117
  | 2, _ => exact kw_2_119
  | 3, _ => exact kw_2_121
  | k + 4, h => exact absurd h (by omega)
theorem pl_X9 : plainName RX9 = true := by decide +kernel
