theorem kw_5_172 : Jvm.Cond.methodLink "BondWarehouseLaw" (332 : Nat) ({ cls := "BondWarehouseLaw", name := "roomIn", desc := "(LBondWarehouse;I[J)I" } : Jvm.MethodName) ∈ TG := tg_5 172 rfl rfl
theorem kw_5_173 : Jvm.Cond.static ({ cls := "BondWarehouseLaw", name := "roomIn", desc := "(LBondWarehouse;I[J)I" } : Jvm.MethodName) ∈ TG := tg_5 173 rfl rfl
theorem kw_5_174 : Jvm.Cond.codeWith ({ cls := "BondWarehouseLaw", name := "roomIn", desc := "(LBondWarehouse;I[J)I" } : Jvm.MethodName) method_34_code (4 : Nat) (Option.some Jvm.ClassFile.FieldType.int) [((0 : Nat), (9 : Nat), (12 : Nat), (21 : Nat))] ∈ TG := tg_5 174 rfl rfl
theorem kw_8_190 : Jvm.Cond.methodLink "BondWarehouseLaw" (334 : Nat) ({ cls := "BondWarehouseModel", name := "roomIn", desc := "(I)I" } : Jvm.MethodName) ∈ TG := tg_8 190 rfl rfl
theorem kw_8_191 : Jvm.Cond.instanceMethod ({ cls := "BondWarehouseModel", name := "roomIn", desc := "(I)I" } : Jvm.MethodName) ∈ TG := tg_8 191 rfl rfl
theorem kw_8_192 : Jvm.Cond.selects "BondWarehouseModel" ({ cls := "BondWarehouseModel", name := "roomIn", desc := "(I)I" } : Jvm.MethodName) ({ cls := "BondWarehouseModel", name := "roomIn", desc := "(I)I" } : Jvm.MethodName) ∈ TG := tg_8 192 rfl rfl
theorem kw_8_193 : Jvm.Cond.code ({ cls := "BondWarehouseModel", name := "roomIn", desc := "(I)I" } : Jvm.MethodName) prog_12_method_95_code (2 : Nat) (Option.some Jvm.ClassFile.FieldType.int) ∈ TG := tg_8 193 rfl rfl
theorem kw_2_165 : Jvm.Cond.methodLink "BondWarehouseLaw" (335 : Nat) ({ cls := "BondWarehouse", name := "receipts", desc := "()I" } : Jvm.MethodName) ∈ TG := tg_2 165 rfl rfl
theorem kw_2_166 : Jvm.Cond.instanceMethod ({ cls := "BondWarehouse", name := "receipts", desc := "()I" } : Jvm.MethodName) ∈ TG := tg_2 166 rfl rfl
theorem kw_2_167 : Jvm.Cond.selects "BondWarehouse" ({ cls := "BondWarehouse", name := "receipts", desc := "()I" } : Jvm.MethodName) ({ cls := "BondWarehouse", name := "receipts", desc := "()I" } : Jvm.MethodName) ∈ TG := tg_2 167 rfl rfl
theorem kw_2_168 : Jvm.Cond.code ({ cls := "BondWarehouse", name := "receipts", desc := "()I" } : Jvm.MethodName) prog_1_method_39_code (1 : Nat) (Option.some Jvm.ClassFile.FieldType.int) ∈ TG := tg_2 168 rfl rfl
theorem kw_8_194 : Jvm.Cond.methodLink "BondWarehouseLaw" (338 : Nat) ({ cls := "BondWarehouseModel", name := "receipts", desc := "()I" } : Jvm.MethodName) ∈ TG := tg_8 194 rfl rfl
theorem kw_8_195 : Jvm.Cond.instanceMethod ({ cls := "BondWarehouseModel", name := "receipts", desc := "()I" } : Jvm.MethodName) ∈ TG := tg_8 195 rfl rfl
theorem kw_8_196 : Jvm.Cond.selects "BondWarehouseModel" ({ cls := "BondWarehouseModel", name := "receipts", desc := "()I" } : Jvm.MethodName) ({ cls := "BondWarehouseModel", name := "receipts", desc := "()I" } : Jvm.MethodName) ∈ TG := tg_8 196 rfl rfl
theorem kw_8_197 : Jvm.Cond.code ({ cls := "BondWarehouseModel", name := "receipts", desc := "()I" } : Jvm.MethodName) prog_12_method_96_code (1 : Nat) (Option.some Jvm.ClassFile.FieldType.int) ∈ TG := tg_8 197 rfl rfl
theorem kw_5_180 : Jvm.Cond.methodLink "BondWarehouseLaw" (339 : Nat) ({ cls := "BondWarehouseLaw", name := "receiptKind", desc := "(LBondWarehouse;I[J)I" } : Jvm.MethodName) ∈ TG := tg_5 180 rfl rfl
theorem kw_5_181 : Jvm.Cond.static ({ cls := "BondWarehouseLaw", name := "receiptKind", desc := "(LBondWarehouse;I[J)I" } : Jvm.MethodName) ∈ TG := tg_5 181 rfl rfl
theorem kw_5_182 : Jvm.Cond.codeWith ({ cls := "BondWarehouseLaw", name := "receiptKind", desc := "(LBondWarehouse;I[J)I" } : Jvm.MethodName) method_35_code (4 : Nat) (Option.some Jvm.ClassFile.FieldType.int) [((0 : Nat), (9 : Nat), (12 : Nat), (21 : Nat))] ∈ TG := tg_5 182 rfl rfl
theorem kw_8_198 : Jvm.Cond.methodLink "BondWarehouseLaw" (341 : Nat) ({ cls := "BondWarehouseModel", name := "receiptKind", desc := "(I)I" } : Jvm.MethodName) ∈ TG := tg_8 198 rfl rfl
theorem kw_8_199 : Jvm.Cond.instanceMethod ({ cls := "BondWarehouseModel", name := "receiptKind", desc := "(I)I" } : Jvm.MethodName) ∈ TG := tg_8 199 rfl rfl
theorem kw_8_200 : Jvm.Cond.selects "BondWarehouseModel" ({ cls := "BondWarehouseModel", name := "receiptKind", desc := "(I)I" } : Jvm.MethodName) ({ cls := "BondWarehouseModel", name := "receiptKind", desc := "(I)I" } : Jvm.MethodName) ∈ TG := tg_8 200 rfl rfl
theorem kw_8_201 : Jvm.Cond.code ({ cls := "BondWarehouseModel", name := "receiptKind", desc := "(I)I" } : Jvm.MethodName) prog_12_method_98_code (2 : Nat) (Option.some Jvm.ClassFile.FieldType.int) ∈ TG := tg_8 201 rfl rfl
theorem kw_5_193 : Jvm.Cond.methodLink "BondWarehouseLaw" (342 : Nat) ({ cls := "BondWarehouseLaw", name := "receiptWeight", desc := "(LBondWarehouse;I[J)I" } : Jvm.MethodName) ∈ TG := tg_5 193 rfl rfl
theorem kw_5_194 : Jvm.Cond.static ({ cls := "BondWarehouseLaw", name := "receiptWeight", desc := "(LBondWarehouse;I[J)I" } : Jvm.MethodName) ∈ TG := tg_5 194 rfl rfl
theorem kw_5_195 : Jvm.Cond.codeWith ({ cls := "BondWarehouseLaw", name := "receiptWeight", desc := "(LBondWarehouse;I[J)I" } : Jvm.MethodName) method_36_code (4 : Nat) (Option.some Jvm.ClassFile.FieldType.int) [((0 : Nat), (9 : Nat), (12 : Nat), (21 : Nat))] ∈ TG := tg_5 195 rfl rfl
theorem kw_8_206 : Jvm.Cond.methodLink "BondWarehouseLaw" (344 : Nat) ({ cls := "BondWarehouseModel", name := "receiptWeight", desc := "(I)I" } : Jvm.MethodName) ∈ TG := tg_8 206 rfl rfl
theorem kw_8_207 : Jvm.Cond.instanceMethod ({ cls := "BondWarehouseModel", name := "receiptWeight", desc := "(I)I" } : Jvm.MethodName) ∈ TG := tg_8 207 rfl rfl
theorem kw_8_208 : Jvm.Cond.selects "BondWarehouseModel" ({ cls := "BondWarehouseModel", name := "receiptWeight", desc := "(I)I" } : Jvm.MethodName) ({ cls := "BondWarehouseModel", name := "receiptWeight", desc := "(I)I" } : Jvm.MethodName) ∈ TG := tg_8 208 rfl rfl
theorem kw_8_209 : Jvm.Cond.code ({ cls := "BondWarehouseModel", name := "receiptWeight", desc := "(I)I" } : Jvm.MethodName) prog_12_method_99_code (2 : Nat) (Option.some Jvm.ClassFile.FieldType.int) ∈ TG := tg_8 209 rfl rfl
theorem kw_5_200 : Jvm.Cond.methodLink "BondWarehouseLaw" (345 : Nat) ({ cls := "BondWarehouseLaw", name := "receiptDuty", desc := "(LBondWarehouse;I[J)I" } : Jvm.MethodName) ∈ TG := tg_5 200 rfl rfl
theorem kw_5_201 : Jvm.Cond.static ({ cls := "BondWarehouseLaw", name := "receiptDuty", desc := "(LBondWarehouse;I[J)I" } : Jvm.MethodName) ∈ TG := tg_5 201 rfl rfl
theorem kw_5_202 : Jvm.Cond.codeWith ({ cls := "BondWarehouseLaw", name := "receiptDuty", desc := "(LBondWarehouse;I[J)I" } : Jvm.MethodName) method_37_code (4 : Nat) (Option.some Jvm.ClassFile.FieldType.int) [((0 : Nat), (9 : Nat), (12 : Nat), (21 : Nat))] ∈ TG := tg_5 202 rfl rfl
theorem kw_8_210 : Jvm.Cond.methodLink "BondWarehouseLaw" (347 : Nat) ({ cls := "BondWarehouseModel", name := "receiptDuty", desc := "(I)I" } : Jvm.MethodName) ∈ TG := tg_8 210 rfl rfl
theorem kw_8_211 : Jvm.Cond.instanceMethod ({ cls := "BondWarehouseModel", name := "receiptDuty", desc := "(I)I" } : Jvm.MethodName) ∈ TG := tg_8 211 rfl rfl
theorem kw_8_212 : Jvm.Cond.selects "BondWarehouseModel" ({ cls := "BondWarehouseModel", name := "receiptDuty", desc := "(I)I" } : Jvm.MethodName) ({ cls := "BondWarehouseModel", name := "receiptDuty", desc := "(I)I" } : Jvm.MethodName) ∈ TG := tg_8 212 rfl rfl
theorem kw_8_213 : Jvm.Cond.code ({ cls := "BondWarehouseModel", name := "receiptDuty", desc := "(I)I" } : Jvm.MethodName) prog_12_method_100_code (2 : Nat) (Option.some Jvm.ClassFile.FieldType.int) ∈ TG := tg_8 213 rfl rfl
theorem kw_5_207 : Jvm.Cond.methodLink "BondWarehouseLaw" (348 : Nat) ({ cls := "BondWarehouseLaw", name := "receiptAge", desc := "(LBondWarehouse;I[J)I" } : Jvm.MethodName) ∈ TG := tg_5 207 rfl rfl
theorem kw_5_208 : Jvm.Cond.static ({ cls := "BondWarehouseLaw", name := "receiptAge", desc := "(LBondWarehouse;I[J)I" } : Jvm.MethodName) ∈ TG := tg_5 208 rfl rfl
theorem kw_5_209 : Jvm.Cond.codeWith ({ cls := "BondWarehouseLaw", name := "receiptAge", desc := "(LBondWarehouse;I[J)I" } : Jvm.MethodName) method_38_code (4 : Nat) (Option.some Jvm.ClassFile.FieldType.int) [((0 : Nat), (9 : Nat), (12 : Nat), (21 : Nat))] ∈ TG := tg_5 209 rfl rfl
theorem kw_8_214 : Jvm.Cond.methodLink "BondWarehouseLaw" (350 : Nat) ({ cls := "BondWarehouseModel", name := "receiptAge", desc := "(I)I" } : Jvm.MethodName) ∈ TG := tg_8 214 rfl rfl
theorem kw_8_215 : Jvm.Cond.instanceMethod ({ cls := "BondWarehouseModel", name := "receiptAge", desc := "(I)I" } : Jvm.MethodName) ∈ TG := tg_8 215 rfl rfl
theorem kw_8_216 : Jvm.Cond.selects "BondWarehouseModel" ({ cls := "BondWarehouseModel", name := "receiptAge", desc := "(I)I" } : Jvm.MethodName) ({ cls := "BondWarehouseModel", name := "receiptAge", desc := "(I)I" } : Jvm.MethodName) ∈ TG := tg_8 216 rfl rfl
theorem kw_8_217 : Jvm.Cond.code ({ cls := "BondWarehouseModel", name := "receiptAge", desc := "(I)I" } : Jvm.MethodName) prog_12_method_101_code (3 : Nat) (Option.some Jvm.ClassFile.FieldType.int) ∈ TG := tg_8 217 rfl rfl
theorem kw_5_214 : Jvm.Cond.methodLink "BondWarehouseLaw" (351 : Nat) ({ cls := "BondWarehouseLaw", name := "rateByValue", desc := "(LBondWarehouse;I[J)I" } : Jvm.MethodName) ∈ TG := tg_5 214 rfl rfl
theorem kw_5_215 : Jvm.Cond.static ({ cls := "BondWarehouseLaw", name := "rateByValue", desc := "(LBondWarehouse;I[J)I" } : Jvm.MethodName) ∈ TG := tg_5 215 rfl rfl
theorem kw_5_216 : Jvm.Cond.codeWith ({ cls := "BondWarehouseLaw", name := "rateByValue", desc := "(LBondWarehouse;I[J)I" } : Jvm.MethodName) method_39_code (4 : Nat) (Option.some Jvm.ClassFile.FieldType.int) [((0 : Nat), (9 : Nat), (12 : Nat), (13 : Nat))] ∈ TG := tg_5 216 rfl rfl
theorem kw_8_218 : Jvm.Cond.methodLink "BondWarehouseLaw" (353 : Nat) ({ cls := "BondWarehouseModel", name := "rateByValue", desc := "(I)I" } : Jvm.MethodName) ∈ TG := tg_8 218 rfl rfl
theorem kw_8_219 : Jvm.Cond.instanceMethod ({ cls := "BondWarehouseModel", name := "rateByValue", desc := "(I)I" } : Jvm.MethodName) ∈ TG := tg_8 219 rfl rfl
theorem kw_8_220 : Jvm.Cond.selects "BondWarehouseModel" ({ cls := "BondWarehouseModel", name := "rateByValue", desc := "(I)I" } : Jvm.MethodName) ({ cls := "BondWarehouseModel", name := "rateByValue", desc := "(I)I" } : Jvm.MethodName) ∈ TG := tg_8 220 rfl rfl
theorem kw_8_221 : Jvm.Cond.code ({ cls := "BondWarehouseModel", name := "rateByValue", desc := "(I)I" } : Jvm.MethodName) prog_12_method_103_code (2 : Nat) (Option.some Jvm.ClassFile.FieldType.int) ∈ TG := tg_8 221 rfl rfl
theorem kw_5_225 : Jvm.Cond.methodLink "BondWarehouseLaw" (354 : Nat) ({ cls := "BondWarehouseLaw", name := "rateByWeight", desc := "(LBondWarehouse;I[J)I" } : Jvm.MethodName) ∈ TG := tg_5 225 rfl rfl
theorem kw_5_226 : Jvm.Cond.static ({ cls := "BondWarehouseLaw", name := "rateByWeight", desc := "(LBondWarehouse;I[J)I" } : Jvm.MethodName) ∈ TG := tg_5 226 rfl rfl
theorem kw_5_227 : Jvm.Cond.codeWith ({ cls := "BondWarehouseLaw", name := "rateByWeight", desc := "(LBondWarehouse;I[J)I" } : Jvm.MethodName) method_40_code (4 : Nat) (Option.some Jvm.ClassFile.FieldType.int) [((0 : Nat), (9 : Nat), (12 : Nat), (13 : Nat))] ∈ TG := tg_5 227 rfl rfl
theorem kw_8_226 : Jvm.Cond.methodLink "BondWarehouseLaw" (356 : Nat) ({ cls := "BondWarehouseModel", name := "rateByWeight", desc := "(I)I" } : Jvm.MethodName) ∈ TG := tg_8 226 rfl rfl
theorem kw_8_227 : Jvm.Cond.instanceMethod ({ cls := "BondWarehouseModel", name := "rateByWeight", desc := "(I)I" } : Jvm.MethodName) ∈ TG := tg_8 227 rfl rfl
theorem kw_8_228 : Jvm.Cond.selects "BondWarehouseModel" ({ cls := "BondWarehouseModel", name := "rateByWeight", desc := "(I)I" } : Jvm.MethodName) ({ cls := "BondWarehouseModel", name := "rateByWeight", desc := "(I)I" } : Jvm.MethodName) ∈ TG := tg_8 228 rfl rfl
theorem kw_8_229 : Jvm.Cond.code ({ cls := "BondWarehouseModel", name := "rateByWeight", desc := "(I)I" } : Jvm.MethodName) prog_12_method_104_code (2 : Nat) (Option.some Jvm.ClassFile.FieldType.int) ∈ TG := tg_8 229 rfl rfl
theorem kw_2_169 : Jvm.Cond.methodLink "BondWarehouseLaw" (357 : Nat) ({ cls := "BondWarehouse", name := "bond", desc := "()I" } : Jvm.MethodName) ∈ TG := tg_2 169 rfl rfl
theorem kw_2_170 : Jvm.Cond.instanceMethod ({ cls := "BondWarehouse", name := "bond", desc := "()I" } : Jvm.MethodName) ∈ TG := tg_2 170 rfl rfl
theorem kw_2_171 : Jvm.Cond.selects "BondWarehouse" ({ cls := "BondWarehouse", name := "bond", desc := "()I" } : Jvm.MethodName) ({ cls := "BondWarehouse", name := "bond", desc := "()I" } : Jvm.MethodName) ∈ TG := tg_2 171 rfl rfl
theorem kw_2_172 : Jvm.Cond.code ({ cls := "BondWarehouse", name := "bond", desc := "()I" } : Jvm.MethodName) prog_1_method_46_code (1 : Nat) (Option.some Jvm.ClassFile.FieldType.int) ∈ TG := tg_2 172 rfl rfl
theorem kw_8_230 : Jvm.Cond.methodLink "BondWarehouseLaw" (360 : Nat) ({ cls := "BondWarehouseModel", name := "bond", desc := "()I" } : Jvm.MethodName) ∈ TG := tg_8 230 rfl rfl
theorem kw_8_231 : Jvm.Cond.instanceMethod ({ cls := "BondWarehouseModel", name := "bond", desc := "()I" } : Jvm.MethodName) ∈ TG := tg_8 231 rfl rfl
theorem kw_8_232 : Jvm.Cond.selects "BondWarehouseModel" ({ cls := "BondWarehouseModel", name := "bond", desc := "()I" } : Jvm.MethodName) ({ cls := "BondWarehouseModel", name := "bond", desc := "()I" } : Jvm.MethodName) ∈ TG := tg_8 232 rfl rfl
theorem kw_8_233 : Jvm.Cond.code ({ cls := "BondWarehouseModel", name := "bond", desc := "()I" } : Jvm.MethodName) prog_12_method_105_code (1 : Nat) (Option.some Jvm.ClassFile.FieldType.int) ∈ TG := tg_8 233 rfl rfl
theorem kw_2_173 : Jvm.Cond.methodLink "BondWarehouseLaw" (361 : Nat) ({ cls := "BondWarehouse", name := "dutyAtStake", desc := "()I" } : Jvm.MethodName) ∈ TG := tg_2 173 rfl rfl
theorem kw_2_174 : Jvm.Cond.instanceMethod ({ cls := "BondWarehouse", name := "dutyAtStake", desc := "()I" } : Jvm.MethodName) ∈ TG := tg_2 174 rfl rfl
theorem kw_2_175 : Jvm.Cond.selects "BondWarehouse" ({ cls := "BondWarehouse", name := "dutyAtStake", desc := "()I" } : Jvm.MethodName) ({ cls := "BondWarehouse", name := "dutyAtStake", desc := "()I" } : Jvm.MethodName) ∈ TG := tg_2 175 rfl rfl
theorem kw_2_176 : Jvm.Cond.code ({ cls := "BondWarehouse", name := "dutyAtStake", desc := "()I" } : Jvm.MethodName) prog_1_method_47_code (1 : Nat) (Option.some Jvm.ClassFile.FieldType.int) ∈ TG := tg_2 176 rfl rfl
theorem kw_8_234 : Jvm.Cond.methodLink "BondWarehouseLaw" (364 : Nat) ({ cls := "BondWarehouseModel", name := "dutyAtStake", desc := "()I" } : Jvm.MethodName) ∈ TG := tg_8 234 rfl rfl
theorem kw_8_235 : Jvm.Cond.instanceMethod ({ cls := "BondWarehouseModel", name := "dutyAtStake", desc := "()I" } : Jvm.MethodName) ∈ TG := tg_8 235 rfl rfl
theorem kw_8_236 : Jvm.Cond.selects "BondWarehouseModel" ({ cls := "BondWarehouseModel", name := "dutyAtStake", desc := "()I" } : Jvm.MethodName) ({ cls := "BondWarehouseModel", name := "dutyAtStake", desc := "()I" } : Jvm.MethodName) ∈ TG := tg_8 236 rfl rfl
theorem kw_8_237 : Jvm.Cond.code ({ cls := "BondWarehouseModel", name := "dutyAtStake", desc := "()I" } : Jvm.MethodName) prog_12_method_106_code (1 : Nat) (Option.some Jvm.ClassFile.FieldType.int) ∈ TG := tg_8 237 rfl rfl
theorem kw_2_177 : Jvm.Cond.methodLink "BondWarehouseLaw" (365 : Nat) ({ cls := "BondWarehouse", name := "account", desc := "()I" } : Jvm.MethodName) ∈ TG := tg_2 177 rfl rfl
theorem kw_2_178 : Jvm.Cond.instanceMethod ({ cls := "BondWarehouse", name := "account", desc := "()I" } : Jvm.MethodName) ∈ TG := tg_2 178 rfl rfl
theorem kw_2_179 : Jvm.Cond.selects "BondWarehouse" ({ cls := "BondWarehouse", name := "account", desc := "()I" } : Jvm.MethodName) ({ cls := "BondWarehouse", name := "account", desc := "()I" } : Jvm.MethodName) ∈ TG := tg_2 179 rfl rfl
theorem kw_2_180 : Jvm.Cond.code ({ cls := "BondWarehouse", name := "account", desc := "()I" } : Jvm.MethodName) prog_1_method_48_code (1 : Nat) (Option.some Jvm.ClassFile.FieldType.int) ∈ TG := tg_2 180 rfl rfl
theorem kw_8_238 : Jvm.Cond.methodLink "BondWarehouseLaw" (368 : Nat) ({ cls := "BondWarehouseModel", name := "account", desc := "()I" } : Jvm.MethodName) ∈ TG := tg_8 238 rfl rfl
theorem kw_8_239 : Jvm.Cond.instanceMethod ({ cls := "BondWarehouseModel", name := "account", desc := "()I" } : Jvm.MethodName) ∈ TG := tg_8 239 rfl rfl
theorem kw_9_0 : Jvm.Cond.selects "BondWarehouseModel" ({ cls := "BondWarehouseModel", name := "account", desc := "()I" } : Jvm.MethodName) ({ cls := "BondWarehouseModel", name := "account", desc := "()I" } : Jvm.MethodName) ∈ TG := tg_9 0 rfl rfl
theorem kw_9_1 : Jvm.Cond.code ({ cls := "BondWarehouseModel", name := "account", desc := "()I" } : Jvm.MethodName) prog_12_method_107_code (1 : Nat) (Option.some Jvm.ClassFile.FieldType.int) ∈ TG := tg_9 1 rfl rfl
theorem kw_2_181 : Jvm.Cond.methodLink "BondWarehouseLaw" (369 : Nat) ({ cls := "BondWarehouse", name := "debt", desc := "()I" } : Jvm.MethodName) ∈ TG := tg_2 181 rfl rfl
theorem kw_2_182 : Jvm.Cond.instanceMethod ({ cls := "BondWarehouse", name := "debt", desc := "()I" } : Jvm.MethodName) ∈ TG := tg_2 182 rfl rfl
theorem kw_2_183 : Jvm.Cond.selects "BondWarehouse" ({ cls := "BondWarehouse", name := "debt", desc := "()I" } : Jvm.MethodName) ({ cls := "BondWarehouse", name := "debt", desc := "()I" } : Jvm.MethodName) ∈ TG := tg_2 183 rfl rfl
theorem kw_2_184 : Jvm.Cond.code ({ cls := "BondWarehouse", name := "debt", desc := "()I" } : Jvm.MethodName) prog_1_method_49_code (1 : Nat) (Option.some Jvm.ClassFile.FieldType.int) ∈ TG := tg_2 184 rfl rfl
theorem kw_9_2 : Jvm.Cond.methodLink "BondWarehouseLaw" (372 : Nat) ({ cls := "BondWarehouseModel", name := "debt", desc := "()I" } : Jvm.MethodName) ∈ TG := tg_9 2 rfl rfl
theorem kw_9_3 : Jvm.Cond.instanceMethod ({ cls := "BondWarehouseModel", name := "debt", desc := "()I" } : Jvm.MethodName) ∈ TG := tg_9 3 rfl rfl
theorem kw_9_4 : Jvm.Cond.selects "BondWarehouseModel" ({ cls := "BondWarehouseModel", name := "debt", desc := "()I" } : Jvm.MethodName) ({ cls := "BondWarehouseModel", name := "debt", desc := "()I" } : Jvm.MethodName) ∈ TG := tg_9 4 rfl rfl
theorem kw_9_5 : Jvm.Cond.code ({ cls := "BondWarehouseModel", name := "debt", desc := "()I" } : Jvm.MethodName) prog_12_method_108_code (1 : Nat) (Option.some Jvm.ClassFile.FieldType.int) ∈ TG := tg_9 5 rfl rfl
theorem hy_L_roomIn : yL_roomIn.cls ≠ "java/lang/invoke/MethodHandle" ∧ yL_roomIn.cls ≠ "java/lang/invoke/VarHandle" ∧ (parseMethodDescriptor yL_roomIn.desc).map (fun d => d.parameters.length) = some 3 := by decide +kernel
theorem hy_L_receiptKind : yL_receiptKind.cls ≠ "java/lang/invoke/MethodHandle" ∧ yL_receiptKind.cls ≠ "java/lang/invoke/VarHandle" ∧ (parseMethodDescriptor yL_receiptKind.desc).map (fun d => d.parameters.length) = some 3 := by decide +kernel
theorem hy_L_receiptWeight : yL_receiptWeight.cls ≠ "java/lang/invoke/MethodHandle" ∧ yL_receiptWeight.cls ≠ "java/lang/invoke/VarHandle" ∧ (parseMethodDescriptor yL_receiptWeight.desc).map (fun d => d.parameters.length) = some 3 := by decide +kernel
theorem hy_L_receiptDuty : yL_receiptDuty.cls ≠ "java/lang/invoke/MethodHandle" ∧ yL_receiptDuty.cls ≠ "java/lang/invoke/VarHandle" ∧ (parseMethodDescriptor yL_receiptDuty.desc).map (fun d => d.parameters.length) = some 3 := by decide +kernel
theorem hy_L_receiptAge : yL_receiptAge.cls ≠ "java/lang/invoke/MethodHandle" ∧ yL_receiptAge.cls ≠ "java/lang/invoke/VarHandle" ∧ (parseMethodDescriptor yL_receiptAge.desc).map (fun d => d.parameters.length) = some 3 := by decide +kernel
theorem hy_L_rateByValue : yL_rateByValue.cls ≠ "java/lang/invoke/MethodHandle" ∧ yL_rateByValue.cls ≠ "java/lang/invoke/VarHandle" ∧ (parseMethodDescriptor yL_rateByValue.desc).map (fun d => d.parameters.length) = some 3 := by decide +kernel
theorem hy_L_rateByWeight : yL_rateByWeight.cls ≠ "java/lang/invoke/MethodHandle" ∧ yL_rateByWeight.cls ≠ "java/lang/invoke/VarHandle" ∧ (parseMethodDescriptor yL_rateByWeight.desc).map (fun d => d.parameters.length) = some 3 := by decide +kernel
theorem dL_law_2409 : decode cL_law 2409 = .ok (.aload_n 1, 1) := by decide +kernel
theorem dL_law_2410 : decode cL_law 2410 = .ok (.aload_n 0, 1) := by decide +kernel
theorem dL_law_2411 : decode cL_law 2411 = .ok (.iload 4, 2) := by decide +kernel
theorem dL_law_2413 : decode cL_law 2413 = .ok (.iconst 1, 1) := by decide +kernel
theorem dL_law_2414 : decode cL_law 2414 = .ok (.iadd, 1) := by decide +kernel
theorem dL_law_2415 : decode cL_law 2415 = .ok (.iaload, 1) := by decide +kernel
theorem dL_law_2416 : decode cL_law 2416 = .ok (.aload_n 3, 1) := by decide +kernel
theorem dL_law_2417 : decode cL_law 2417 = .ok (.invokestatic 332, 3) := by decide +kernel
theorem dL_law_2420 : decode cL_law 2420 = .ok (.istore 5, 2) := by decide +kernel
theorem dL_law_2422 : decode cL_law 2422 = .ok (.aload_n 2, 1) := by decide +kernel
theorem dL_law_2423 : decode cL_law 2423 = .ok (.aload_n 0, 1) := by decide +kernel
theorem dL_law_2424 : decode cL_law 2424 = .ok (.iload 4, 2) := by decide +kernel
theorem dL_law_2426 : decode cL_law 2426 = .ok (.iconst 1, 1) := by decide +kernel
theorem dL_law_2427 : decode cL_law 2427 = .ok (.iadd, 1) := by decide +kernel
theorem dL_law_2428 : decode cL_law 2428 = .ok (.iaload, 1) := by decide +kernel
theorem dL_law_2429 : decode cL_law 2429 = .ok (.invokevirtual 334, 3) := by decide +kernel
theorem dL_law_2432 : decode cL_law 2432 = .ok (.istore 6, 2) := by decide +kernel
theorem dL_law_2434 : decode cL_law 2434 = .ok (.aload_n 2, 1) := by decide +kernel
theorem dL_law_2435 : decode cL_law 2435 = .ok (.invokevirtual 216, 3) := by decide +kernel
theorem dL_law_2438 : decode cL_law 2438 = .ok (.iload 5, 2) := by decide +kernel
theorem dL_law_2440 : decode cL_law 2440 = .ok (.if_icmp .eq 5, 3) := by decide +kernel
theorem dL_law_2445 : decode cL_law 2445 = .ok (.iload 5, 2) := by decide +kernel
theorem dL_law_2447 : decode cL_law 2447 = .ok (.ifCond .ne 15, 3) := by decide +kernel
theorem dL_law_2450 : decode cL_law 2450 = .ok (.aload_n 3, 1) := by decide +kernel
theorem dL_law_2451 : decode cL_law 2451 = .ok (.iconst 0, 1) := by decide +kernel
theorem dL_law_2452 : decode cL_law 2452 = .ok (.laload, 1) := by decide +kernel
theorem dL_law_2453 : decode cL_law 2453 = .ok (.iload 6, 2) := by decide +kernel
theorem dL_law_2455 : decode cL_law 2455 = .ok (.i2l, 1) := by decide +kernel
theorem dL_law_2456 : decode cL_law 2456 = .ok (.lcmp, 1) := by decide +kernel
theorem dL_law_2457 : decode cL_law 2457 = .ok (.ifCond .eq 5, 3) := by decide +kernel
theorem dL_law_2462 : decode cL_law 2462 = .ok (.goto 1999, 3) := by decide +kernel
theorem dL_law_2465 : decode cL_law 2465 = .ok (.aload_n 1, 1) := by decide +kernel
theorem dL_law_2466 : decode cL_law 2466 = .ok (.invokevirtual 335, 3) := by decide +kernel
theorem dL_law_2469 : decode cL_law 2469 = .ok (.aload_n 2, 1) := by decide +kernel
theorem dL_law_2470 : decode cL_law 2470 = .ok (.invokevirtual 338, 3) := by decide +kernel
theorem dL_law_2473 : decode cL_law 2473 = .ok (.if_icmp .eq 1988, 3) := by decide +kernel
theorem dL_law_2478 : decode cL_law 2478 = .ok (.aload_n 1, 1) := by decide +kernel
theorem dL_law_2479 : decode cL_law 2479 = .ok (.aload_n 0, 1) := by decide +kernel
theorem dL_law_2480 : decode cL_law 2480 = .ok (.iload 4, 2) := by decide +kernel
theorem dL_law_2482 : decode cL_law 2482 = .ok (.iconst 1, 1) := by decide +kernel
theorem dL_law_2483 : decode cL_law 2483 = .ok (.iadd, 1) := by decide +kernel
theorem dL_law_2484 : decode cL_law 2484 = .ok (.iaload, 1) := by decide +kernel
theorem dL_law_2485 : decode cL_law 2485 = .ok (.aload_n 3, 1) := by decide +kernel
theorem dL_law_2486 : decode cL_law 2486 = .ok (.invokestatic 339, 3) := by decide +kernel
theorem dL_law_2489 : decode cL_law 2489 = .ok (.istore 5, 2) := by decide +kernel
theorem dL_law_2491 : decode cL_law 2491 = .ok (.aload_n 2, 1) := by decide +kernel
theorem dL_law_2492 : decode cL_law 2492 = .ok (.aload_n 0, 1) := by decide +kernel
theorem dL_law_2493 : decode cL_law 2493 = .ok (.iload 4, 2) := by decide +kernel
theorem dL_law_2495 : decode cL_law 2495 = .ok (.iconst 1, 1) := by decide +kernel
theorem dL_law_2496 : decode cL_law 2496 = .ok (.iadd, 1) := by decide +kernel
theorem dL_law_2497 : decode cL_law 2497 = .ok (.iaload, 1) := by decide +kernel
theorem dL_law_2498 : decode cL_law 2498 = .ok (.invokevirtual 341, 3) := by decide +kernel
theorem dL_law_2501 : decode cL_law 2501 = .ok (.istore 6, 2) := by decide +kernel
theorem dL_law_2503 : decode cL_law 2503 = .ok (.aload_n 2, 1) := by decide +kernel
theorem dL_law_2504 : decode cL_law 2504 = .ok (.invokevirtual 216, 3) := by decide +kernel
theorem dL_law_2507 : decode cL_law 2507 = .ok (.iload 5, 2) := by decide +kernel
theorem dL_law_2509 : decode cL_law 2509 = .ok (.if_icmp .eq 5, 3) := by decide +kernel
theorem dL_law_2514 : decode cL_law 2514 = .ok (.iload 5, 2) := by decide +kernel
theorem dL_law_2516 : decode cL_law 2516 = .ok (.ifCond .ne 15, 3) := by decide +kernel
theorem dL_law_2519 : decode cL_law 2519 = .ok (.aload_n 3, 1) := by decide +kernel
theorem dL_law_2520 : decode cL_law 2520 = .ok (.iconst 0, 1) := by decide +kernel
theorem dL_law_2521 : decode cL_law 2521 = .ok (.laload, 1) := by decide +kernel
theorem dL_law_2522 : decode cL_law 2522 = .ok (.iload 6, 2) := by decide +kernel
theorem dL_law_2524 : decode cL_law 2524 = .ok (.i2l, 1) := by decide +kernel
theorem dL_law_2525 : decode cL_law 2525 = .ok (.lcmp, 1) := by decide +kernel
theorem dL_law_2526 : decode cL_law 2526 = .ok (.ifCond .eq 5, 3) := by decide +kernel
theorem dL_law_2531 : decode cL_law 2531 = .ok (.goto 1930, 3) := by decide +kernel
theorem dL_law_2534 : decode cL_law 2534 = .ok (.aload_n 1, 1) := by decide +kernel
theorem dL_law_2535 : decode cL_law 2535 = .ok (.aload_n 0, 1) := by decide +kernel
theorem dL_law_2536 : decode cL_law 2536 = .ok (.iload 4, 2) := by decide +kernel
theorem dL_law_2538 : decode cL_law 2538 = .ok (.iconst 1, 1) := by decide +kernel
theorem dL_law_2539 : decode cL_law 2539 = .ok (.iadd, 1) := by decide +kernel
theorem dL_law_2540 : decode cL_law 2540 = .ok (.iaload, 1) := by decide +kernel
theorem dL_law_2541 : decode cL_law 2541 = .ok (.aload_n 3, 1) := by decide +kernel
theorem dL_law_2542 : decode cL_law 2542 = .ok (.invokestatic 342, 3) := by decide +kernel
theorem dL_law_2545 : decode cL_law 2545 = .ok (.istore 5, 2) := by decide +kernel
theorem dL_law_2547 : decode cL_law 2547 = .ok (.aload_n 2, 1) := by decide +kernel
theorem dL_law_2548 : decode cL_law 2548 = .ok (.aload_n 0, 1) := by decide +kernel
theorem dL_law_2549 : decode cL_law 2549 = .ok (.iload 4, 2) := by decide +kernel
theorem dL_law_2551 : decode cL_law 2551 = .ok (.iconst 1, 1) := by decide +kernel
theorem dL_law_2552 : decode cL_law 2552 = .ok (.iadd, 1) := by decide +kernel
theorem dL_law_2553 : decode cL_law 2553 = .ok (.iaload, 1) := by decide +kernel
theorem dL_law_2554 : decode cL_law 2554 = .ok (.invokevirtual 344, 3) := by decide +kernel
theorem dL_law_2557 : decode cL_law 2557 = .ok (.istore 6, 2) := by decide +kernel
theorem dL_law_2559 : decode cL_law 2559 = .ok (.aload_n 2, 1) := by decide +kernel
theorem dL_law_2560 : decode cL_law 2560 = .ok (.invokevirtual 216, 3) := by decide +kernel
theorem dL_law_2563 : decode cL_law 2563 = .ok (.iload 5, 2) := by decide +kernel
theorem dL_law_2565 : decode cL_law 2565 = .ok (.if_icmp .eq 5, 3) := by decide +kernel
theorem dL_law_2570 : decode cL_law 2570 = .ok (.iload 5, 2) := by decide +kernel
theorem dL_law_2572 : decode cL_law 2572 = .ok (.ifCond .ne 15, 3) := by decide +kernel
theorem dL_law_2575 : decode cL_law 2575 = .ok (.aload_n 3, 1) := by decide +kernel
theorem dL_law_2576 : decode cL_law 2576 = .ok (.iconst 0, 1) := by decide +kernel
theorem dL_law_2577 : decode cL_law 2577 = .ok (.laload, 1) := by decide +kernel
theorem dL_law_2578 : decode cL_law 2578 = .ok (.iload 6, 2) := by decide +kernel
theorem dL_law_2580 : decode cL_law 2580 = .ok (.i2l, 1) := by decide +kernel
theorem dL_law_2581 : decode cL_law 2581 = .ok (.lcmp, 1) := by decide +kernel
theorem dL_law_2582 : decode cL_law 2582 = .ok (.ifCond .eq 5, 3) := by decide +kernel
theorem dL_law_2587 : decode cL_law 2587 = .ok (.goto 1874, 3) := by decide +kernel
theorem dL_law_2590 : decode cL_law 2590 = .ok (.aload_n 1, 1) := by decide +kernel
theorem dL_law_2591 : decode cL_law 2591 = .ok (.aload_n 0, 1) := by decide +kernel
theorem dL_law_2592 : decode cL_law 2592 = .ok (.iload 4, 2) := by decide +kernel
theorem dL_law_2594 : decode cL_law 2594 = .ok (.iconst 1, 1) := by decide +kernel
theorem dL_law_2595 : decode cL_law 2595 = .ok (.iadd, 1) := by decide +kernel
theorem dL_law_2596 : decode cL_law 2596 = .ok (.iaload, 1) := by decide +kernel
theorem dL_law_2597 : decode cL_law 2597 = .ok (.aload_n 3, 1) := by decide +kernel
theorem dL_law_2598 : decode cL_law 2598 = .ok (.invokestatic 345, 3) := by decide +kernel
theorem dL_law_2601 : decode cL_law 2601 = .ok (.istore 5, 2) := by decide +kernel
theorem dL_law_2603 : decode cL_law 2603 = .ok (.aload_n 2, 1) := by decide +kernel
theorem dL_law_2604 : decode cL_law 2604 = .ok (.aload_n 0, 1) := by decide +kernel
theorem dL_law_2605 : decode cL_law 2605 = .ok (.iload 4, 2) := by decide +kernel
theorem dL_law_2607 : decode cL_law 2607 = .ok (.iconst 1, 1) := by decide +kernel
theorem dL_law_2608 : decode cL_law 2608 = .ok (.iadd, 1) := by decide +kernel
theorem dL_law_2609 : decode cL_law 2609 = .ok (.iaload, 1) := by decide +kernel
theorem dL_law_2610 : decode cL_law 2610 = .ok (.invokevirtual 347, 3) := by decide +kernel
theorem dL_law_2613 : decode cL_law 2613 = .ok (.istore 6, 2) := by decide +kernel
theorem dL_law_2615 : decode cL_law 2615 = .ok (.aload_n 2, 1) := by decide +kernel
theorem dL_law_2616 : decode cL_law 2616 = .ok (.invokevirtual 216, 3) := by decide +kernel
theorem dL_law_2619 : decode cL_law 2619 = .ok (.iload 5, 2) := by decide +kernel
theorem dL_law_2621 : decode cL_law 2621 = .ok (.if_icmp .eq 5, 3) := by decide +kernel
theorem dL_law_2626 : decode cL_law 2626 = .ok (.iload 5, 2) := by decide +kernel
theorem dL_law_2628 : decode cL_law 2628 = .ok (.ifCond .ne 15, 3) := by decide +kernel
theorem dL_law_2631 : decode cL_law 2631 = .ok (.aload_n 3, 1) := by decide +kernel
theorem dL_law_2632 : decode cL_law 2632 = .ok (.iconst 0, 1) := by decide +kernel
theorem dL_law_2633 : decode cL_law 2633 = .ok (.laload, 1) := by decide +kernel
theorem dL_law_2634 : decode cL_law 2634 = .ok (.iload 6, 2) := by decide +kernel
theorem dL_law_2636 : decode cL_law 2636 = .ok (.i2l, 1) := by decide +kernel
theorem dL_law_2637 : decode cL_law 2637 = .ok (.lcmp, 1) := by decide +kernel
theorem dL_law_2638 : decode cL_law 2638 = .ok (.ifCond .eq 5, 3) := by decide +kernel
theorem dL_law_2643 : decode cL_law 2643 = .ok (.goto 1818, 3) := by decide +kernel
theorem dL_law_2646 : decode cL_law 2646 = .ok (.aload_n 1, 1) := by decide +kernel
theorem dL_law_2647 : decode cL_law 2647 = .ok (.aload_n 0, 1) := by decide +kernel
theorem dL_law_2648 : decode cL_law 2648 = .ok (.iload 4, 2) := by decide +kernel
theorem dL_law_2650 : decode cL_law 2650 = .ok (.iconst 1, 1) := by decide +kernel
theorem dL_law_2651 : decode cL_law 2651 = .ok (.iadd, 1) := by decide +kernel
theorem dL_law_2652 : decode cL_law 2652 = .ok (.iaload, 1) := by decide +kernel
theorem dL_law_2653 : decode cL_law 2653 = .ok (.aload_n 3, 1) := by decide +kernel
theorem dL_law_2654 : decode cL_law 2654 = .ok (.invokestatic 348, 3) := by decide +kernel
theorem dL_law_2657 : decode cL_law 2657 = .ok (.istore 5, 2) := by decide +kernel
theorem dL_law_2659 : decode cL_law 2659 = .ok (.aload_n 2, 1) := by decide +kernel
theorem dL_law_2660 : decode cL_law 2660 = .ok (.aload_n 0, 1) := by decide +kernel
theorem dL_law_2661 : decode cL_law 2661 = .ok (.iload 4, 2) := by decide +kernel
theorem dL_law_2663 : decode cL_law 2663 = .ok (.iconst 1, 1) := by decide +kernel
theorem dL_law_2664 : decode cL_law 2664 = .ok (.iadd, 1) := by decide +kernel
theorem dL_law_2665 : decode cL_law 2665 = .ok (.iaload, 1) := by decide +kernel
theorem dL_law_2666 : decode cL_law 2666 = .ok (.invokevirtual 350, 3) := by decide +kernel
theorem dL_law_2669 : decode cL_law 2669 = .ok (.istore 6, 2) := by decide +kernel
theorem dL_law_2671 : decode cL_law 2671 = .ok (.aload_n 2, 1) := by decide +kernel
theorem dL_law_2672 : decode cL_law 2672 = .ok (.invokevirtual 216, 3) := by decide +kernel
theorem dL_law_2675 : decode cL_law 2675 = .ok (.iload 5, 2) := by decide +kernel
theorem dL_law_2677 : decode cL_law 2677 = .ok (.if_icmp .eq 5, 3) := by decide +kernel
theorem dL_law_2682 : decode cL_law 2682 = .ok (.iload 5, 2) := by decide +kernel
theorem dL_law_2684 : decode cL_law 2684 = .ok (.ifCond .ne 15, 3) := by decide +kernel
theorem dL_law_2687 : decode cL_law 2687 = .ok (.aload_n 3, 1) := by decide +kernel
theorem dL_law_2688 : decode cL_law 2688 = .ok (.iconst 0, 1) := by decide +kernel
theorem dL_law_2689 : decode cL_law 2689 = .ok (.laload, 1) := by decide +kernel
theorem dL_law_2690 : decode cL_law 2690 = .ok (.iload 6, 2) := by decide +kernel
theorem dL_law_2692 : decode cL_law 2692 = .ok (.i2l, 1) := by decide +kernel
theorem dL_law_2693 : decode cL_law 2693 = .ok (.lcmp, 1) := by decide +kernel
theorem dL_law_2694 : decode cL_law 2694 = .ok (.ifCond .eq 5, 3) := by decide +kernel
theorem dL_law_2699 : decode cL_law 2699 = .ok (.goto 1762, 3) := by decide +kernel
theorem dL_law_2702 : decode cL_law 2702 = .ok (.aload_n 1, 1) := by decide +kernel
theorem dL_law_2703 : decode cL_law 2703 = .ok (.aload_n 0, 1) := by decide +kernel
theorem dL_law_2704 : decode cL_law 2704 = .ok (.iload 4, 2) := by decide +kernel
theorem dL_law_2706 : decode cL_law 2706 = .ok (.iconst 1, 1) := by decide +kernel
theorem dL_law_2707 : decode cL_law 2707 = .ok (.iadd, 1) := by decide +kernel
theorem dL_law_2708 : decode cL_law 2708 = .ok (.iaload, 1) := by decide +kernel
theorem dL_law_2709 : decode cL_law 2709 = .ok (.aload_n 3, 1) := by decide +kernel
theorem dL_law_2710 : decode cL_law 2710 = .ok (.invokestatic 351, 3) := by decide +kernel
theorem dL_law_2713 : decode cL_law 2713 = .ok (.istore 5, 2) := by decide +kernel
theorem dL_law_2715 : decode cL_law 2715 = .ok (.aload_n 2, 1) := by decide +kernel
theorem dL_law_2716 : decode cL_law 2716 = .ok (.aload_n 0, 1) := by decide +kernel
theorem dL_law_2717 : decode cL_law 2717 = .ok (.iload 4, 2) := by decide +kernel
theorem dL_law_2719 : decode cL_law 2719 = .ok (.iconst 1, 1) := by decide +kernel
theorem dL_law_2720 : decode cL_law 2720 = .ok (.iadd, 1) := by decide +kernel
theorem dL_law_2721 : decode cL_law 2721 = .ok (.iaload, 1) := by decide +kernel
theorem dL_law_2722 : decode cL_law 2722 = .ok (.invokevirtual 353, 3) := by decide +kernel
theorem dL_law_2725 : decode cL_law 2725 = .ok (.istore 6, 2) := by decide +kernel
theorem dL_law_2727 : decode cL_law 2727 = .ok (.aload_n 2, 1) := by decide +kernel
theorem dL_law_2728 : decode cL_law 2728 = .ok (.invokevirtual 216, 3) := by decide +kernel
theorem dL_law_2731 : decode cL_law 2731 = .ok (.iload 5, 2) := by decide +kernel
theorem dL_law_2733 : decode cL_law 2733 = .ok (.if_icmp .eq 5, 3) := by decide +kernel
theorem dL_law_2738 : decode cL_law 2738 = .ok (.iload 5, 2) := by decide +kernel
theorem dL_law_2740 : decode cL_law 2740 = .ok (.ifCond .ne 15, 3) := by decide +kernel
theorem dL_law_2743 : decode cL_law 2743 = .ok (.aload_n 3, 1) := by decide +kernel
theorem dL_law_2744 : decode cL_law 2744 = .ok (.iconst 0, 1) := by decide +kernel
theorem dL_law_2745 : decode cL_law 2745 = .ok (.laload, 1) := by decide +kernel
theorem dL_law_2746 : decode cL_law 2746 = .ok (.iload 6, 2) := by decide +kernel
theorem dL_law_2748 : decode cL_law 2748 = .ok (.i2l, 1) := by decide +kernel
theorem dL_law_2749 : decode cL_law 2749 = .ok (.lcmp, 1) := by decide +kernel
theorem dL_law_2750 : decode cL_law 2750 = .ok (.ifCond .eq 5, 3) := by decide +kernel
theorem dL_law_2755 : decode cL_law 2755 = .ok (.goto 1706, 3) := by decide +kernel
theorem dL_law_2758 : decode cL_law 2758 = .ok (.aload_n 1, 1) := by decide +kernel
theorem dL_law_2759 : decode cL_law 2759 = .ok (.aload_n 0, 1) := by decide +kernel
theorem dL_law_2760 : decode cL_law 2760 = .ok (.iload 4, 2) := by decide +kernel
theorem dL_law_2762 : decode cL_law 2762 = .ok (.iconst 1, 1) := by decide +kernel
theorem dL_law_2763 : decode cL_law 2763 = .ok (.iadd, 1) := by decide +kernel
theorem dL_law_2764 : decode cL_law 2764 = .ok (.iaload, 1) := by decide +kernel
theorem dL_law_2765 : decode cL_law 2765 = .ok (.aload_n 3, 1) := by decide +kernel
theorem dL_law_2766 : decode cL_law 2766 = .ok (.invokestatic 354, 3) := by decide +kernel
theorem dL_law_2769 : decode cL_law 2769 = .ok (.istore 5, 2) := by decide +kernel
theorem dL_law_2771 : decode cL_law 2771 = .ok (.aload_n 2, 1) := by decide +kernel
theorem dL_law_2772 : decode cL_law 2772 = .ok (.aload_n 0, 1) := by decide +kernel
theorem dL_law_2773 : decode cL_law 2773 = .ok (.iload 4, 2) := by decide +kernel
theorem dL_law_2775 : decode cL_law 2775 = .ok (.iconst 1, 1) := by decide +kernel
theorem dL_law_2776 : decode cL_law 2776 = .ok (.iadd, 1) := by decide +kernel
theorem dL_law_2777 : decode cL_law 2777 = .ok (.iaload, 1) := by decide +kernel
theorem dL_law_2778 : decode cL_law 2778 = .ok (.invokevirtual 356, 3) := by decide +kernel
theorem dL_law_2781 : decode cL_law 2781 = .ok (.istore 6, 2) := by decide +kernel
theorem dL_law_2783 : decode cL_law 2783 = .ok (.aload_n 2, 1) := by decide +kernel
theorem dL_law_2784 : decode cL_law 2784 = .ok (.invokevirtual 216, 3) := by decide +kernel
theorem dL_law_2787 : decode cL_law 2787 = .ok (.iload 5, 2) := by decide +kernel
theorem dL_law_2789 : decode cL_law 2789 = .ok (.if_icmp .eq 5, 3) := by decide +kernel
theorem dL_law_2794 : decode cL_law 2794 = .ok (.iload 5, 2) := by decide +kernel
theorem dL_law_2796 : decode cL_law 2796 = .ok (.ifCond .ne 15, 3) := by decide +kernel
theorem dL_law_2799 : decode cL_law 2799 = .ok (.aload_n 3, 1) := by decide +kernel
theorem dL_law_2800 : decode cL_law 2800 = .ok (.iconst 0, 1) := by decide +kernel
theorem dL_law_2801 : decode cL_law 2801 = .ok (.laload, 1) := by decide +kernel
theorem dL_law_2802 : decode cL_law 2802 = .ok (.iload 6, 2) := by decide +kernel
theorem dL_law_2804 : decode cL_law 2804 = .ok (.i2l, 1) := by decide +kernel
theorem dL_law_2805 : decode cL_law 2805 = .ok (.lcmp, 1) := by decide +kernel
theorem dL_law_2806 : decode cL_law 2806 = .ok (.ifCond .eq 5, 3) := by decide +kernel
theorem dL_law_2811 : decode cL_law 2811 = .ok (.goto 1650, 3) := by decide +kernel
theorem dL_law_2814 : decode cL_law 2814 = .ok (.aload_n 1, 1) := by decide +kernel
theorem dL_law_2815 : decode cL_law 2815 = .ok (.invokevirtual 357, 3) := by decide +kernel
theorem dL_law_2818 : decode cL_law 2818 = .ok (.aload_n 2, 1) := by decide +kernel
theorem dL_law_2819 : decode cL_law 2819 = .ok (.invokevirtual 360, 3) := by decide +kernel
theorem dL_law_2822 : decode cL_law 2822 = .ok (.if_icmp .eq 1639, 3) := by decide +kernel
theorem dL_law_2827 : decode cL_law 2827 = .ok (.aload_n 1, 1) := by decide +kernel
theorem dL_law_2828 : decode cL_law 2828 = .ok (.invokevirtual 361, 3) := by decide +kernel
theorem dL_law_2831 : decode cL_law 2831 = .ok (.aload_n 2, 1) := by decide +kernel
theorem dL_law_2832 : decode cL_law 2832 = .ok (.invokevirtual 364, 3) := by decide +kernel
theorem dL_law_2835 : decode cL_law 2835 = .ok (.if_icmp .eq 1626, 3) := by decide +kernel
theorem dL_law_2840 : decode cL_law 2840 = .ok (.aload_n 1, 1) := by decide +kernel
theorem dL_law_2841 : decode cL_law 2841 = .ok (.invokevirtual 365, 3) := by decide +kernel
theorem dL_law_2844 : decode cL_law 2844 = .ok (.aload_n 2, 1) := by decide +kernel
theorem dL_law_2845 : decode cL_law 2845 = .ok (.invokevirtual 368, 3) := by decide +kernel
theorem dL_law_2848 : decode cL_law 2848 = .ok (.if_icmp .eq 1613, 3) := by decide +kernel
theorem dL_law_2853 : decode cL_law 2853 = .ok (.aload_n 1, 1) := by decide +kernel
theorem dL_law_2854 : decode cL_law 2854 = .ok (.invokevirtual 369, 3) := by decide +kernel
theorem dL_law_2857 : decode cL_law 2857 = .ok (.aload_n 2, 1) := by decide +kernel
theorem dL_law_2858 : decode cL_law 2858 = .ok (.invokevirtual 372, 3) := by decide +kernel
theorem dL_law_2861 : decode cL_law 2861 = .ok (.if_icmp .eq 1600, 3) := by decide +kernel
section CASE3
variable {p : Program} {l : Launch} {e : Env} {s : State} {m : MethodId} {args : Array Value} {below : List Frame} {meth : Method} {c : Code} {cells slots : Nat} {Q : State → Prop}
variable {D : va_G} {cA : Nat → ClassId} {ad : Nat → Nat → Nat} {A AC AM : Nat → Prop} {ob : Nat} {cO : ClassId}
variable {mc mm : Mm} {v : Int64} {b L i a s0 : Nat} {xs : Nat → Int32}
set_option maxRecDepth 100000 in
set_option maxHeartbeats 4000000 in
theorem case_36 (C : LC p l s m args c D cA ad A AC AM ob cO b L xs) (h : Hy a s0 mc mm (Rel (a + 400000) (s0 + 64))) (hi : i + 4 < L) (hroom : cells + 2 ≤ room_1.cells ∧ slots + 12 ≤ room_1.slots) (kk : ∀ (mc' mm' : Mm) (v' : Int64), Rel (a + 400000) (s0 + 64) mc' mm' → V p l e room_1 s m args below meth c Q 9 A (cells + 2) (slots + 12) (PL D cA ad ob cO mc' mm' v') 4461 (lvL ad ob b i) []) : V p l e room_1 s m args below meth c Q 9 A cells slots (PL D cA ad ob cO mc mm v) 2409 (lvL ad ob b i) [] := by
  have C0 := C
  obtain ⟨X, hA, hW, hZ, hX, hb1, hst, hL⟩ := C
  have hroom0 : cells ≤ room_1.cells ∧ slots ≤ room_1.slots := ⟨by omega, by omega⟩
  refine q_aload_n (j := 3) X dL_law_2409 rfl rfl ?_
  refine qL_arg C0 1 (j0 := 4) (j4 := 0) rfl (by decide) dL_law_2410 dL_law_2411 dL_law_2413 dL_law_2414 dL_law_2415 rfl rfl hi ?_
  refine q_aload_n (j := 1) X dL_law_2416 rfl rfl ?_
  refine qL_w X hA hW hZ [.ref (ad 0 1), .int (xs (i + 1)), .ref ob] rfl rfl dL_law_2417 hroom (k_L_roomIn hA.1 hA.2.2.1.1 hst (xs (i + 1)) mc v _ _ (J_roomIn (K := Rel (a + 400000) (s0 + 64)) h.1 (fun v9 => h.2.2.2 mc _ ((h.1.ref v9).mono (by omega) (by omega) h.2.2.1)) (xs (i + 1))) (fun _ _ hx => hx.1)) rfl rfl (gSW kw_5_172 kw_5_173 kw_1_0 kw_5_174) hy_L_roomIn ⟨(Nat.le_of_ble_eq_true rfl), (Nat.le_of_ble_eq_true rfl)⟩ (fun k mc' v' hq => ?_)
  refine q_istore X dL_law_2420 (Nat.le_of_ble_eq_true rfl) rfl ?_
  refine q_aload_n (j := 3) X dL_law_2422 rfl rfl ?_
  refine qL_arg C0 1 (j0 := 5) (j4 := 1) rfl (by decide) dL_law_2423 dL_law_2424 dL_law_2426 dL_law_2427 dL_law_2428 rfl rfl hi ?_
  have hroom1 : cells + 2 ≤ room_1.cells ∧ slots + 12 ≤ room_1.slots := hroom
  rcases hq with ⟨rfl, r, rfl, hj⟩ | ⟨hk0, k0, hk, hj⟩
  · skip
    obtain ⟨hj, rfl⟩ := hj
    unfold jq at hj
    refine qL_m X hA hW [.int (xs (i + 1))] [] rfl rfl (Nat.le_of_ble_eq_true rfl) dL_law_2429 hroom1 (c_X10_roomIn hA.2.1 (xs (i + 1)) mm _ hj) rfl rfl (gV kw_8_190 kw_8_191 kw_8_192 kw_1_11 kw_8_193) hy_X10_roomIn ⟨(Nat.le_of_ble_eq_true rfl), (Nat.le_of_ble_eq_true rfl)⟩ (fun b9 mm9 hb => ?_)
    obtain ⟨h1, rfl, hK⟩ := hb
    refine q_istore X dL_law_2432 (Nat.le_of_ble_eq_true rfl) rfl ?_
    exact tailI C0 hroom1 ⟨(Nat.le_of_ble_eq_true rfl), (Nat.le_of_ble_eq_true rfl)⟩ h1 (fun _ => rfl) dL_law_2434 dL_law_2435 dL_law_2438 dL_law_2440 dL_law_2445 dL_law_2447 dL_law_2450 dL_law_2451 dL_law_2452 dL_law_2453 dL_law_2455 dL_law_2456 dL_law_2457 dL_law_2462 (by decide) (kk _ _ _ hK)
  · obtain ⟨_, hj⟩ := hj
    unfold jx at hj
    refine qL_m X hA hW [.int (xs (i + 1))] [] rfl rfl (Nat.le_of_ble_eq_true rfl) dL_law_2429 hroom1 (c_X10_roomIn hA.2.1 (xs (i + 1)) mm _ hj) rfl rfl (gV kw_8_190 kw_8_191 kw_8_192 kw_1_11 kw_8_193) hy_X10_roomIn ⟨(Nat.le_of_ble_eq_true rfl), (Nat.le_of_ble_eq_true rfl)⟩ (fun b9 mm9 hb => ?_)
    obtain ⟨h1, hK⟩ := hb
    refine q_istore X dL_law_2432 (Nat.le_of_ble_eq_true rfl) rfl ?_
    exact tailI C0 hroom1 ⟨(Nat.le_of_ble_eq_true rfl), (Nat.le_of_ble_eq_true rfl)⟩ (h1.trans hk.symm) (fun h0 => absurd h0 hk0) dL_law_2434 dL_law_2435 dL_law_2438 dL_law_2440 dL_law_2445 dL_law_2447 dL_law_2450 dL_law_2451 dL_law_2452 dL_law_2453 dL_law_2455 dL_law_2456 dL_law_2457 dL_law_2462 (by decide) (kk _ _ _ hK)
set_option maxRecDepth 100000 in
set_option maxHeartbeats 4000000 in
theorem case_37 (C : LC p l s m args c D cA ad A AC AM ob cO b L xs) (h : Hy a s0 mc mm (Rel (a + 400000) (s0 + 64))) (hi : i + 4 < L) (hroom : cells + 2 ≤ room_1.cells ∧ slots + 12 ≤ room_1.slots) (kk : ∀ (mc' mm' : Mm) (v' : Int64), Rel (a + 400000) (s0 + 64) mc' mm' → V p l e room_1 s m args below meth c Q 9 A (cells + 2) (slots + 12) (PL D cA ad ob cO mc' mm' v') 4461 (lvL ad ob b i) []) : V p l e room_1 s m args below meth c Q 9 A cells slots (PL D cA ad ob cO mc mm v) 2465 (lvL ad ob b i) [] := by
  have C0 := C
  obtain ⟨X, hA, hW, hZ, hX, hb1, hst, hL⟩ := C
  have hroom0 : cells ≤ room_1.cells ∧ slots ≤ room_1.slots := ⟨by omega, by omega⟩
  refine q_aload_n (j := 3) X dL_law_2465 rfl rfl ?_
  refine qL_c X hA hW hZ [] [] rfl rfl (Nat.le_of_ble_eq_true rfl) dL_law_2466 hroom0 (c_X9_receipts hA.1  mc _ (J_receipts (K := Rel (a + 400000) (s0 + 64)) h.1 (fun v9 => h.2.2.2 mc _ ((h.1.ref v9).mono (by omega) (by omega) h.2.2.1)) )) rfl rfl (gV kw_2_165 kw_2_166 kw_2_167 kw_1_1 kw_2_168) hy_X9_receipts ⟨(Nat.le_of_ble_eq_true rfl), (Nat.le_of_ble_eq_true rfl)⟩ (fun r mc' hj => ?_)
  obtain ⟨hj, rfl⟩ := hj
  unfold jn at hj
  refine q_aload_n (j := 2) X dL_law_2469 rfl rfl ?_
  refine qL_m X hA hW [] [.int r] rfl rfl (Nat.le_of_ble_eq_true rfl) dL_law_2470 hroom0 (c_X10_receipts hA.2.1  mm _ hj) rfl rfl (gV kw_8_194 kw_8_195 kw_8_196 kw_1_11 kw_8_197) hy_X10_receipts ⟨(Nat.le_of_ble_eq_true rfl), (Nat.le_of_ble_eq_true rfl)⟩ (fun b9 mm9 hb => ?_)
  obtain ⟨rfl, hK⟩ := hb
  refine q_icmp_eq X dL_law_2473 (tgt := 4461) (by decide) (fun _ => ?_) (fun h9 => absurd rfl h9)
  exact q_w (Nat.le_add_right _ _) (Nat.le_add_right _ _) (kk _ _ _ hK)
set_option maxRecDepth 100000 in
set_option maxHeartbeats 4000000 in
theorem case_38 (C : LC p l s m args c D cA ad A AC AM ob cO b L xs) (h : Hy a s0 mc mm (Rel (a + 400000) (s0 + 64))) (hi : i + 4 < L) (hroom : cells + 2 ≤ room_1.cells ∧ slots + 12 ≤ room_1.slots) (kk : ∀ (mc' mm' : Mm) (v' : Int64), Rel (a + 400000) (s0 + 64) mc' mm' → V p l e room_1 s m args below meth c Q 9 A (cells + 2) (slots + 12) (PL D cA ad ob cO mc' mm' v') 4461 (lvL ad ob b i) []) : V p l e room_1 s m args below meth c Q 9 A cells slots (PL D cA ad ob cO mc mm v) 2478 (lvL ad ob b i) [] := by
  have C0 := C
  obtain ⟨X, hA, hW, hZ, hX, hb1, hst, hL⟩ := C
  have hroom0 : cells ≤ room_1.cells ∧ slots ≤ room_1.slots := ⟨by omega, by omega⟩
  refine q_aload_n (j := 3) X dL_law_2478 rfl rfl ?_
  refine qL_arg C0 1 (j0 := 4) (j4 := 0) rfl (by decide) dL_law_2479 dL_law_2480 dL_law_2482 dL_law_2483 dL_law_2484 rfl rfl hi ?_
  refine q_aload_n (j := 1) X dL_law_2485 rfl rfl ?_
  refine qL_w X hA hW hZ [.ref (ad 0 1), .int (xs (i + 1)), .ref ob] rfl rfl dL_law_2486 hroom (k_L_receiptKind hA.1 hA.2.2.1.1 hst (xs (i + 1)) mc v _ _ (J_receiptKind (K := Rel (a + 400000) (s0 + 64)) h.1 (fun v9 => h.2.2.2 mc _ ((h.1.ref v9).mono (by omega) (by omega) h.2.2.1)) (xs (i + 1))) (fun _ _ hx => hx.1)) rfl rfl (gSW kw_5_180 kw_5_181 kw_1_0 kw_5_182) hy_L_receiptKind ⟨(Nat.le_of_ble_eq_true rfl), (Nat.le_of_ble_eq_true rfl)⟩ (fun k mc' v' hq => ?_)
  refine q_istore X dL_law_2489 (Nat.le_of_ble_eq_true rfl) rfl ?_
  refine q_aload_n (j := 3) X dL_law_2491 rfl rfl ?_
  refine qL_arg C0 1 (j0 := 5) (j4 := 1) rfl (by decide) dL_law_2492 dL_law_2493 dL_law_2495 dL_law_2496 dL_law_2497 rfl rfl hi ?_
  have hroom1 : cells + 2 ≤ room_1.cells ∧ slots + 12 ≤ room_1.slots := hroom
  rcases hq with ⟨rfl, r, rfl, hj⟩ | ⟨hk0, k0, hk, hj⟩
  · skip
    obtain ⟨hj, rfl⟩ := hj
    unfold jq at hj
    refine qL_m X hA hW [.int (xs (i + 1))] [] rfl rfl (Nat.le_of_ble_eq_true rfl) dL_law_2498 hroom1 (c_X10_receiptKind hA.2.1 (xs (i + 1)) mm _ hj) rfl rfl (gV kw_8_198 kw_8_199 kw_8_200 kw_1_11 kw_8_201) hy_X10_receiptKind ⟨(Nat.le_of_ble_eq_true rfl), (Nat.le_of_ble_eq_true rfl)⟩ (fun b9 mm9 hb => ?_)
    obtain ⟨h1, rfl, hK⟩ := hb
    refine q_istore X dL_law_2501 (Nat.le_of_ble_eq_true rfl) rfl ?_
    exact tailI C0 hroom1 ⟨(Nat.le_of_ble_eq_true rfl), (Nat.le_of_ble_eq_true rfl)⟩ h1 (fun _ => rfl) dL_law_2503 dL_law_2504 dL_law_2507 dL_law_2509 dL_law_2514 dL_law_2516 dL_law_2519 dL_law_2520 dL_law_2521 dL_law_2522 dL_law_2524 dL_law_2525 dL_law_2526 dL_law_2531 (by decide) (kk _ _ _ hK)
  · obtain ⟨_, hj⟩ := hj
    unfold jx at hj
    refine qL_m X hA hW [.int (xs (i + 1))] [] rfl rfl (Nat.le_of_ble_eq_true rfl) dL_law_2498 hroom1 (c_X10_receiptKind hA.2.1 (xs (i + 1)) mm _ hj) rfl rfl (gV kw_8_198 kw_8_199 kw_8_200 kw_1_11 kw_8_201) hy_X10_receiptKind ⟨(Nat.le_of_ble_eq_true rfl), (Nat.le_of_ble_eq_true rfl)⟩ (fun b9 mm9 hb => ?_)
    obtain ⟨h1, hK⟩ := hb
    refine q_istore X dL_law_2501 (Nat.le_of_ble_eq_true rfl) rfl ?_
    exact tailI C0 hroom1 ⟨(Nat.le_of_ble_eq_true rfl), (Nat.le_of_ble_eq_true rfl)⟩ (h1.trans hk.symm) (fun h0 => absurd h0 hk0) dL_law_2503 dL_law_2504 dL_law_2507 dL_law_2509 dL_law_2514 dL_law_2516 dL_law_2519 dL_law_2520 dL_law_2521 dL_law_2522 dL_law_2524 dL_law_2525 dL_law_2526 dL_law_2531 (by decide) (kk _ _ _ hK)
set_option maxRecDepth 100000 in
set_option maxHeartbeats 4000000 in
theorem case_39 (C : LC p l s m args c D cA ad A AC AM ob cO b L xs) (h : Hy a s0 mc mm (Rel (a + 400000) (s0 + 64))) (hi : i + 4 < L) (hroom : cells + 2 ≤ room_1.cells ∧ slots + 12 ≤ room_1.slots) (kk : ∀ (mc' mm' : Mm) (v' : Int64), Rel (a + 400000) (s0 + 64) mc' mm' → V p l e room_1 s m args below meth c Q 9 A (cells + 2) (slots + 12) (PL D cA ad ob cO mc' mm' v') 4461 (lvL ad ob b i) []) : V p l e room_1 s m args below meth c Q 9 A cells slots (PL D cA ad ob cO mc mm v) 2534 (lvL ad ob b i) [] := by
  have C0 := C
  obtain ⟨X, hA, hW, hZ, hX, hb1, hst, hL⟩ := C
  have hroom0 : cells ≤ room_1.cells ∧ slots ≤ room_1.slots := ⟨by omega, by omega⟩
  refine q_aload_n (j := 3) X dL_law_2534 rfl rfl ?_
  refine qL_arg C0 1 (j0 := 4) (j4 := 0) rfl (by decide) dL_law_2535 dL_law_2536 dL_law_2538 dL_law_2539 dL_law_2540 rfl rfl hi ?_
  refine q_aload_n (j := 1) X dL_law_2541 rfl rfl ?_
  refine qL_w X hA hW hZ [.ref (ad 0 1), .int (xs (i + 1)), .ref ob] rfl rfl dL_law_2542 hroom (k_L_receiptWeight hA.1 hA.2.2.1.1 hst (xs (i + 1)) mc v _ _ (J_receiptWeight (K := Rel (a + 400000) (s0 + 64)) h.1 (fun v9 => h.2.2.2 mc _ ((h.1.ref v9).mono (by omega) (by omega) h.2.2.1)) (xs (i + 1))) (fun _ _ hx => hx.1)) rfl rfl (gSW kw_5_193 kw_5_194 kw_1_0 kw_5_195) hy_L_receiptWeight ⟨(Nat.le_of_ble_eq_true rfl), (Nat.le_of_ble_eq_true rfl)⟩ (fun k mc' v' hq => ?_)
  refine q_istore X dL_law_2545 (Nat.le_of_ble_eq_true rfl) rfl ?_
  refine q_aload_n (j := 3) X dL_law_2547 rfl rfl ?_
  refine qL_arg C0 1 (j0 := 5) (j4 := 1) rfl (by decide) dL_law_2548 dL_law_2549 dL_law_2551 dL_law_2552 dL_law_2553 rfl rfl hi ?_
  have hroom1 : cells + 2 ≤ room_1.cells ∧ slots + 12 ≤ room_1.slots := hroom
  rcases hq with ⟨rfl, r, rfl, hj⟩ | ⟨hk0, k0, hk, hj⟩
  · skip
    obtain ⟨hj, rfl⟩ := hj
    unfold jq at hj
    refine qL_m X hA hW [.int (xs (i + 1))] [] rfl rfl (Nat.le_of_ble_eq_true rfl) dL_law_2554 hroom1 (c_X10_receiptWeight hA.2.1 (xs (i + 1)) mm _ hj) rfl rfl (gV kw_8_206 kw_8_207 kw_8_208 kw_1_11 kw_8_209) hy_X10_receiptWeight ⟨(Nat.le_of_ble_eq_true rfl), (Nat.le_of_ble_eq_true rfl)⟩ (fun b9 mm9 hb => ?_)
    obtain ⟨h1, rfl, hK⟩ := hb
    refine q_istore X dL_law_2557 (Nat.le_of_ble_eq_true rfl) rfl ?_
    exact tailI C0 hroom1 ⟨(Nat.le_of_ble_eq_true rfl), (Nat.le_of_ble_eq_true rfl)⟩ h1 (fun _ => rfl) dL_law_2559 dL_law_2560 dL_law_2563 dL_law_2565 dL_law_2570 dL_law_2572 dL_law_2575 dL_law_2576 dL_law_2577 dL_law_2578 dL_law_2580 dL_law_2581 dL_law_2582 dL_law_2587 (by decide) (kk _ _ _ hK)
  · obtain ⟨_, hj⟩ := hj
    unfold jx at hj
    refine qL_m X hA hW [.int (xs (i + 1))] [] rfl rfl (Nat.le_of_ble_eq_true rfl) dL_law_2554 hroom1 (c_X10_receiptWeight hA.2.1 (xs (i + 1)) mm _ hj) rfl rfl (gV kw_8_206 kw_8_207 kw_8_208 kw_1_11 kw_8_209) hy_X10_receiptWeight ⟨(Nat.le_of_ble_eq_true rfl), (Nat.le_of_ble_eq_true rfl)⟩ (fun b9 mm9 hb => ?_)
    obtain ⟨h1, hK⟩ := hb
    refine q_istore X dL_law_2557 (Nat.le_of_ble_eq_true rfl) rfl ?_
    exact tailI C0 hroom1 ⟨(Nat.le_of_ble_eq_true rfl), (Nat.le_of_ble_eq_true rfl)⟩ (h1.trans hk.symm) (fun h0 => absurd h0 hk0) dL_law_2559 dL_law_2560 dL_law_2563 dL_law_2565 dL_law_2570 dL_law_2572 dL_law_2575 dL_law_2576 dL_law_2577 dL_law_2578 dL_law_2580 dL_law_2581 dL_law_2582 dL_law_2587 (by decide) (kk _ _ _ hK)
set_option maxRecDepth 100000 in
set_option maxHeartbeats 4000000 in
theorem case_40 (C : LC p l s m args c D cA ad A AC AM ob cO b L xs) (h : Hy a s0 mc mm (Rel (a + 400000) (s0 + 64))) (hi : i + 4 < L) (hroom : cells + 2 ≤ room_1.cells ∧ slots + 12 ≤ room_1.slots) (kk : ∀ (mc' mm' : Mm) (v' : Int64), Rel (a + 400000) (s0 + 64) mc' mm' → V p l e room_1 s m args below meth c Q 9 A (cells + 2) (slots + 12) (PL D cA ad ob cO mc' mm' v') 4461 (lvL ad ob b i) []) : V p l e room_1 s m args below meth c Q 9 A cells slots (PL D cA ad ob cO mc mm v) 2590 (lvL ad ob b i) [] := by
  have C0 := C
  obtain ⟨X, hA, hW, hZ, hX, hb1, hst, hL⟩ := C
  have hroom0 : cells ≤ room_1.cells ∧ slots ≤ room_1.slots := ⟨by omega, by omega⟩
  refine q_aload_n (j := 3) X dL_law_2590 rfl rfl ?_
  refine qL_arg C0 1 (j0 := 4) (j4 := 0) rfl (by decide) dL_law_2591 dL_law_2592 dL_law_2594 dL_law_2595 dL_law_2596 rfl rfl hi ?_
  refine q_aload_n (j := 1) X dL_law_2597 rfl rfl ?_
  refine qL_w X hA hW hZ [.ref (ad 0 1), .int (xs (i + 1)), .ref ob] rfl rfl dL_law_2598 hroom (k_L_receiptDuty hA.1 hA.2.2.1.1 hst (xs (i + 1)) mc v _ _ (J_receiptDuty (K := Rel (a + 400000) (s0 + 64)) h.1 (fun v9 => h.2.2.2 mc _ ((h.1.ref v9).mono (by omega) (by omega) h.2.2.1)) (xs (i + 1))) (fun _ _ hx => hx.1)) rfl rfl (gSW kw_5_200 kw_5_201 kw_1_0 kw_5_202) hy_L_receiptDuty ⟨(Nat.le_of_ble_eq_true rfl), (Nat.le_of_ble_eq_true rfl)⟩ (fun k mc' v' hq => ?_)
  refine q_istore X dL_law_2601 (Nat.le_of_ble_eq_true rfl) rfl ?_
  refine q_aload_n (j := 3) X dL_law_2603 rfl rfl ?_
  refine qL_arg C0 1 (j0 := 5) (j4 := 1) rfl (by decide) dL_law_2604 dL_law_2605 dL_law_2607 dL_law_2608 dL_law_2609 rfl rfl hi ?_
  have hroom1 : cells + 2 ≤ room_1.cells ∧ slots + 12 ≤ room_1.slots := hroom
  rcases hq with ⟨rfl, r, rfl, hj⟩ | ⟨hk0, k0, hk, hj⟩
  · skip
    obtain ⟨hj, rfl⟩ := hj
    unfold jq at hj
    refine qL_m X hA hW [.int (xs (i + 1))] [] rfl rfl (Nat.le_of_ble_eq_true rfl) dL_law_2610 hroom1 (c_X10_receiptDuty hA.2.1 (xs (i + 1)) mm _ hj) rfl rfl (gV kw_8_210 kw_8_211 kw_8_212 kw_1_11 kw_8_213) hy_X10_receiptDuty ⟨(Nat.le_of_ble_eq_true rfl), (Nat.le_of_ble_eq_true rfl)⟩ (fun b9 mm9 hb => ?_)
    obtain ⟨h1, rfl, hK⟩ := hb
    refine q_istore X dL_law_2613 (Nat.le_of_ble_eq_true rfl) rfl ?_
    exact tailI C0 hroom1 ⟨(Nat.le_of_ble_eq_true rfl), (Nat.le_of_ble_eq_true rfl)⟩ h1 (fun _ => rfl) dL_law_2615 dL_law_2616 dL_law_2619 dL_law_2621 dL_law_2626 dL_law_2628 dL_law_2631 dL_law_2632 dL_law_2633 dL_law_2634 dL_law_2636 dL_law_2637 dL_law_2638 dL_law_2643 (by decide) (kk _ _ _ hK)
  · obtain ⟨_, hj⟩ := hj
    unfold jx at hj
    refine qL_m X hA hW [.int (xs (i + 1))] [] rfl rfl (Nat.le_of_ble_eq_true rfl) dL_law_2610 hroom1 (c_X10_receiptDuty hA.2.1 (xs (i + 1)) mm _ hj) rfl rfl (gV kw_8_210 kw_8_211 kw_8_212 kw_1_11 kw_8_213) hy_X10_receiptDuty ⟨(Nat.le_of_ble_eq_true rfl), (Nat.le_of_ble_eq_true rfl)⟩ (fun b9 mm9 hb => ?_)
    obtain ⟨h1, hK⟩ := hb
    refine q_istore X dL_law_2613 (Nat.le_of_ble_eq_true rfl) rfl ?_
    exact tailI C0 hroom1 ⟨(Nat.le_of_ble_eq_true rfl), (Nat.le_of_ble_eq_true rfl)⟩ (h1.trans hk.symm) (fun h0 => absurd h0 hk0) dL_law_2615 dL_law_2616 dL_law_2619 dL_law_2621 dL_law_2626 dL_law_2628 dL_law_2631 dL_law_2632 dL_law_2633 dL_law_2634 dL_law_2636 dL_law_2637 dL_law_2638 dL_law_2643 (by decide) (kk _ _ _ hK)
set_option maxRecDepth 100000 in
set_option maxHeartbeats 4000000 in
theorem case_41 (C : LC p l s m args c D cA ad A AC AM ob cO b L xs) (h : Hy a s0 mc mm (Rel (a + 400000) (s0 + 64))) (hi : i + 4 < L) (hroom : cells + 2 ≤ room_1.cells ∧ slots + 12 ≤ room_1.slots) (kk : ∀ (mc' mm' : Mm) (v' : Int64), Rel (a + 400000) (s0 + 64) mc' mm' → V p l e room_1 s m args below meth c Q 9 A (cells + 2) (slots + 12) (PL D cA ad ob cO mc' mm' v') 4461 (lvL ad ob b i) []) : V p l e room_1 s m args below meth c Q 9 A cells slots (PL D cA ad ob cO mc mm v) 2646 (lvL ad ob b i) [] := by
  have C0 := C
  obtain ⟨X, hA, hW, hZ, hX, hb1, hst, hL⟩ := C
  have hroom0 : cells ≤ room_1.cells ∧ slots ≤ room_1.slots := ⟨by omega, by omega⟩
  refine q_aload_n (j := 3) X dL_law_2646 rfl rfl ?_
  refine qL_arg C0 1 (j0 := 4) (j4 := 0) rfl (by decide) dL_law_2647 dL_law_2648 dL_law_2650 dL_law_2651 dL_law_2652 rfl rfl hi ?_
  refine q_aload_n (j := 1) X dL_law_2653 rfl rfl ?_
  refine qL_w X hA hW hZ [.ref (ad 0 1), .int (xs (i + 1)), .ref ob] rfl rfl dL_law_2654 hroom (k_L_receiptAge hA.1 hA.2.2.1.1 hst (xs (i + 1)) mc v _ _ (J_receiptAge (K := Rel (a + 400000) (s0 + 64)) h.1 (fun v9 => h.2.2.2 mc _ ((h.1.ref v9).mono (by omega) (by omega) h.2.2.1)) (xs (i + 1))) (fun _ _ hx => hx.1)) rfl rfl (gSW kw_5_207 kw_5_208 kw_1_0 kw_5_209) hy_L_receiptAge ⟨(Nat.le_of_ble_eq_true rfl), (Nat.le_of_ble_eq_true rfl)⟩ (fun k mc' v' hq => ?_)
  refine q_istore X dL_law_2657 (Nat.le_of_ble_eq_true rfl) rfl ?_
  refine q_aload_n (j := 3) X dL_law_2659 rfl rfl ?_
  refine qL_arg C0 1 (j0 := 5) (j4 := 1) rfl (by decide) dL_law_2660 dL_law_2661 dL_law_2663 dL_law_2664 dL_law_2665 rfl rfl hi ?_
  have hroom1 : cells + 2 ≤ room_1.cells ∧ slots + 12 ≤ room_1.slots := hroom
  rcases hq with ⟨rfl, r, rfl, hj⟩ | ⟨hk0, k0, hk, hj⟩
  · skip
    obtain ⟨hj, rfl⟩ := hj
    unfold jq at hj
    refine qL_m X hA hW [.int (xs (i + 1))] [] rfl rfl (Nat.le_of_ble_eq_true rfl) dL_law_2666 hroom1 (c_X10_receiptAge hA.2.1 (xs (i + 1)) mm _ hj) rfl rfl (gV kw_8_214 kw_8_215 kw_8_216 kw_1_11 kw_8_217) hy_X10_receiptAge ⟨(Nat.le_of_ble_eq_true rfl), (Nat.le_of_ble_eq_true rfl)⟩ (fun b9 mm9 hb => ?_)
    obtain ⟨h1, rfl, hK⟩ := hb
    refine q_istore X dL_law_2669 (Nat.le_of_ble_eq_true rfl) rfl ?_
    exact tailI C0 hroom1 ⟨(Nat.le_of_ble_eq_true rfl), (Nat.le_of_ble_eq_true rfl)⟩ h1 (fun _ => rfl) dL_law_2671 dL_law_2672 dL_law_2675 dL_law_2677 dL_law_2682 dL_law_2684 dL_law_2687 dL_law_2688 dL_law_2689 dL_law_2690 dL_law_2692 dL_law_2693 dL_law_2694 dL_law_2699 (by decide) (kk _ _ _ hK)
  · obtain ⟨_, hj⟩ := hj
    unfold jx at hj
    refine qL_m X hA hW [.int (xs (i + 1))] [] rfl rfl (Nat.le_of_ble_eq_true rfl) dL_law_2666 hroom1 (c_X10_receiptAge hA.2.1 (xs (i + 1)) mm _ hj) rfl rfl (gV kw_8_214 kw_8_215 kw_8_216 kw_1_11 kw_8_217) hy_X10_receiptAge ⟨(Nat.le_of_ble_eq_true rfl), (Nat.le_of_ble_eq_true rfl)⟩ (fun b9 mm9 hb => ?_)
    obtain ⟨h1, hK⟩ := hb
    refine q_istore X dL_law_2669 (Nat.le_of_ble_eq_true rfl) rfl ?_
    exact tailI C0 hroom1 ⟨(Nat.le_of_ble_eq_true rfl), (Nat.le_of_ble_eq_true rfl)⟩ (h1.trans hk.symm) (fun h0 => absurd h0 hk0) dL_law_2671 dL_law_2672 dL_law_2675 dL_law_2677 dL_law_2682 dL_law_2684 dL_law_2687 dL_law_2688 dL_law_2689 dL_law_2690 dL_law_2692 dL_law_2693 dL_law_2694 dL_law_2699 (by decide) (kk _ _ _ hK)
set_option maxRecDepth 100000 in
set_option maxHeartbeats 4000000 in
theorem case_42 (C : LC p l s m args c D cA ad A AC AM ob cO b L xs) (h : Hy a s0 mc mm (Rel (a + 400000) (s0 + 64))) (hi : i + 4 < L) (hroom : cells + 2 ≤ room_1.cells ∧ slots + 12 ≤ room_1.slots) (kk : ∀ (mc' mm' : Mm) (v' : Int64), Rel (a + 400000) (s0 + 64) mc' mm' → V p l e room_1 s m args below meth c Q 9 A (cells + 2) (slots + 12) (PL D cA ad ob cO mc' mm' v') 4461 (lvL ad ob b i) []) : V p l e room_1 s m args below meth c Q 9 A cells slots (PL D cA ad ob cO mc mm v) 2702 (lvL ad ob b i) [] := by
  have C0 := C
  obtain ⟨X, hA, hW, hZ, hX, hb1, hst, hL⟩ := C
  have hroom0 : cells ≤ room_1.cells ∧ slots ≤ room_1.slots := ⟨by omega, by omega⟩
  refine q_aload_n (j := 3) X dL_law_2702 rfl rfl ?_
  refine qL_arg C0 1 (j0 := 4) (j4 := 0) rfl (by decide) dL_law_2703 dL_law_2704 dL_law_2706 dL_law_2707 dL_law_2708 rfl rfl hi ?_
  refine q_aload_n (j := 1) X dL_law_2709 rfl rfl ?_
  refine qL_w X hA hW hZ [.ref (ad 0 1), .int (xs (i + 1)), .ref ob] rfl rfl dL_law_2710 hroom (k_L_rateByValue hA.1 hA.2.2.1.1 hst (xs (i + 1)) mc v _ _ (J_rateByValue (K := Rel (a + 400000) (s0 + 64)) h.1 (fun v9 => h.2.2.2 mc _ ((h.1.ref v9).mono (by omega) (by omega) h.2.2.1)) (xs (i + 1))) (fun _ _ hx => hx.1)) rfl rfl (gSW kw_5_214 kw_5_215 kw_1_0 kw_5_216) hy_L_rateByValue ⟨(Nat.le_of_ble_eq_true rfl), (Nat.le_of_ble_eq_true rfl)⟩ (fun k mc' v' hq => ?_)
  refine q_istore X dL_law_2713 (Nat.le_of_ble_eq_true rfl) rfl ?_
  refine q_aload_n (j := 3) X dL_law_2715 rfl rfl ?_
  refine qL_arg C0 1 (j0 := 5) (j4 := 1) rfl (by decide) dL_law_2716 dL_law_2717 dL_law_2719 dL_law_2720 dL_law_2721 rfl rfl hi ?_
  have hroom1 : cells + 2 ≤ room_1.cells ∧ slots + 12 ≤ room_1.slots := hroom
  rcases hq with ⟨rfl, r, rfl, hj⟩ | ⟨hk0, k0, hk, hj⟩
  · skip
    obtain ⟨hj, rfl⟩ := hj
    unfold jq at hj
    refine qL_m X hA hW [.int (xs (i + 1))] [] rfl rfl (Nat.le_of_ble_eq_true rfl) dL_law_2722 hroom1 (c_X10_rateByValue hA.2.1 (xs (i + 1)) mm _ hj) rfl rfl (gV kw_8_218 kw_8_219 kw_8_220 kw_1_11 kw_8_221) hy_X10_rateByValue ⟨(Nat.le_of_ble_eq_true rfl), (Nat.le_of_ble_eq_true rfl)⟩ (fun b9 mm9 hb => ?_)
    obtain ⟨h1, rfl, hK⟩ := hb
    refine q_istore X dL_law_2725 (Nat.le_of_ble_eq_true rfl) rfl ?_
    exact tailI C0 hroom1 ⟨(Nat.le_of_ble_eq_true rfl), (Nat.le_of_ble_eq_true rfl)⟩ h1 (fun _ => rfl) dL_law_2727 dL_law_2728 dL_law_2731 dL_law_2733 dL_law_2738 dL_law_2740 dL_law_2743 dL_law_2744 dL_law_2745 dL_law_2746 dL_law_2748 dL_law_2749 dL_law_2750 dL_law_2755 (by decide) (kk _ _ _ hK)
  · obtain ⟨_, hj⟩ := hj
    unfold jx at hj
    refine qL_m X hA hW [.int (xs (i + 1))] [] rfl rfl (Nat.le_of_ble_eq_true rfl) dL_law_2722 hroom1 (c_X10_rateByValue hA.2.1 (xs (i + 1)) mm _ hj) rfl rfl (gV kw_8_218 kw_8_219 kw_8_220 kw_1_11 kw_8_221) hy_X10_rateByValue ⟨(Nat.le_of_ble_eq_true rfl), (Nat.le_of_ble_eq_true rfl)⟩ (fun b9 mm9 hb => ?_)
    obtain ⟨h1, hK⟩ := hb
    refine q_istore X dL_law_2725 (Nat.le_of_ble_eq_true rfl) rfl ?_
    exact tailI C0 hroom1 ⟨(Nat.le_of_ble_eq_true rfl), (Nat.le_of_ble_eq_true rfl)⟩ (h1.trans hk.symm) (fun h0 => absurd h0 hk0) dL_law_2727 dL_law_2728 dL_law_2731 dL_law_2733 dL_law_2738 dL_law_2740 dL_law_2743 dL_law_2744 dL_law_2745 dL_law_2746 dL_law_2748 dL_law_2749 dL_law_2750 dL_law_2755 (by decide) (kk _ _ _ hK)
set_option maxRecDepth 100000 in
set_option maxHeartbeats 4000000 in
theorem case_43 (C : LC p l s m args c D cA ad A AC AM ob cO b L xs) (h : Hy a s0 mc mm (Rel (a + 400000) (s0 + 64))) (hi : i + 4 < L) (hroom : cells + 2 ≤ room_1.cells ∧ slots + 12 ≤ room_1.slots) (kk : ∀ (mc' mm' : Mm) (v' : Int64), Rel (a + 400000) (s0 + 64) mc' mm' → V p l e room_1 s m args below meth c Q 9 A (cells + 2) (slots + 12) (PL D cA ad ob cO mc' mm' v') 4461 (lvL ad ob b i) []) : V p l e room_1 s m args below meth c Q 9 A cells slots (PL D cA ad ob cO mc mm v) 2758 (lvL ad ob b i) [] := by
  have C0 := C
  obtain ⟨X, hA, hW, hZ, hX, hb1, hst, hL⟩ := C
  have hroom0 : cells ≤ room_1.cells ∧ slots ≤ room_1.slots := ⟨by omega, by omega⟩
  refine q_aload_n (j := 3) X dL_law_2758 rfl rfl ?_
  refine qL_arg C0 1 (j0 := 4) (j4 := 0) rfl (by decide) dL_law_2759 dL_law_2760 dL_law_2762 dL_law_2763 dL_law_2764 rfl rfl hi ?_
  refine q_aload_n (j := 1) X dL_law_2765 rfl rfl ?_
  refine qL_w X hA hW hZ [.ref (ad 0 1), .int (xs (i + 1)), .ref ob] rfl rfl dL_law_2766 hroom (k_L_rateByWeight hA.1 hA.2.2.1.1 hst (xs (i + 1)) mc v _ _ (J_rateByWeight (K := Rel (a + 400000) (s0 + 64)) h.1 (fun v9 => h.2.2.2 mc _ ((h.1.ref v9).mono (by omega) (by omega) h.2.2.1)) (xs (i + 1))) (fun _ _ hx => hx.1)) rfl rfl (gSW kw_5_225 kw_5_226 kw_1_0 kw_5_227) hy_L_rateByWeight ⟨(Nat.le_of_ble_eq_true rfl), (Nat.le_of_ble_eq_true rfl)⟩ (fun k mc' v' hq => ?_)
  refine q_istore X dL_law_2769 (Nat.le_of_ble_eq_true rfl) rfl ?_
  refine q_aload_n (j := 3) X dL_law_2771 rfl rfl ?_
  refine qL_arg C0 1 (j0 := 5) (j4 := 1) rfl (by decide) dL_law_2772 dL_law_2773 dL_law_2775 dL_law_2776 dL_law_2777 rfl rfl hi ?_
  have hroom1 : cells + 2 ≤ room_1.cells ∧ slots + 12 ≤ room_1.slots := hroom
  rcases hq with ⟨rfl, r, rfl, hj⟩ | ⟨hk0, k0, hk, hj⟩
  · skip
    obtain ⟨hj, rfl⟩ := hj
    unfold jq at hj
    refine qL_m X hA hW [.int (xs (i + 1))] [] rfl rfl (Nat.le_of_ble_eq_true rfl) dL_law_2778 hroom1 (c_X10_rateByWeight hA.2.1 (xs (i + 1)) mm _ hj) rfl rfl (gV kw_8_226 kw_8_227 kw_8_228 kw_1_11 kw_8_229) hy_X10_rateByWeight ⟨(Nat.le_of_ble_eq_true rfl), (Nat.le_of_ble_eq_true rfl)⟩ (fun b9 mm9 hb => ?_)
    obtain ⟨h1, rfl, hK⟩ := hb
    refine q_istore X dL_law_2781 (Nat.le_of_ble_eq_true rfl) rfl ?_
    exact tailI C0 hroom1 ⟨(Nat.le_of_ble_eq_true rfl), (Nat.le_of_ble_eq_true rfl)⟩ h1 (fun _ => rfl) dL_law_2783 dL_law_2784 dL_law_2787 dL_law_2789 dL_law_2794 dL_law_2796 dL_law_2799 dL_law_2800 dL_law_2801 dL_law_2802 dL_law_2804 dL_law_2805 dL_law_2806 dL_law_2811 (by decide) (kk _ _ _ hK)
  · obtain ⟨_, hj⟩ := hj
    unfold jx at hj
    refine qL_m X hA hW [.int (xs (i + 1))] [] rfl rfl (Nat.le_of_ble_eq_true rfl) dL_law_2778 hroom1 (c_X10_rateByWeight hA.2.1 (xs (i + 1)) mm _ hj) rfl rfl (gV kw_8_226 kw_8_227 kw_8_228 kw_1_11 kw_8_229) hy_X10_rateByWeight ⟨(Nat.le_of_ble_eq_true rfl), (Nat.le_of_ble_eq_true rfl)⟩ (fun b9 mm9 hb => ?_)
    obtain ⟨h1, hK⟩ := hb
    refine q_istore X dL_law_2781 (Nat.le_of_ble_eq_true rfl) rfl ?_
    exact tailI C0 hroom1 ⟨(Nat.le_of_ble_eq_true rfl), (Nat.le_of_ble_eq_true rfl)⟩ (h1.trans hk.symm) (fun h0 => absurd h0 hk0) dL_law_2783 dL_law_2784 dL_law_2787 dL_law_2789 dL_law_2794 dL_law_2796 dL_law_2799 dL_law_2800 dL_law_2801 dL_law_2802 dL_law_2804 dL_law_2805 dL_law_2806 dL_law_2811 (by decide) (kk _ _ _ hK)
set_option maxRecDepth 100000 in
set_option maxHeartbeats 4000000 in
theorem case_44 (C : LC p l s m args c D cA ad A AC AM ob cO b L xs) (h : Hy a s0 mc mm (Rel (a + 400000) (s0 + 64))) (hi : i + 4 < L) (hroom : cells + 2 ≤ room_1.cells ∧ slots + 12 ≤ room_1.slots) (kk : ∀ (mc' mm' : Mm) (v' : Int64), Rel (a + 400000) (s0 + 64) mc' mm' → V p l e room_1 s m args below meth c Q 9 A (cells + 2) (slots + 12) (PL D cA ad ob cO mc' mm' v') 4461 (lvL ad ob b i) []) : V p l e room_1 s m args below meth c Q 9 A cells slots (PL D cA ad ob cO mc mm v) 2814 (lvL ad ob b i) [] := by
  have C0 := C
  obtain ⟨X, hA, hW, hZ, hX, hb1, hst, hL⟩ := C
  have hroom0 : cells ≤ room_1.cells ∧ slots ≤ room_1.slots := ⟨by omega, by omega⟩
  refine q_aload_n (j := 3) X dL_law_2814 rfl rfl ?_
  refine qL_c X hA hW hZ [] [] rfl rfl (Nat.le_of_ble_eq_true rfl) dL_law_2815 hroom0 (c_X9_bond hA.1  mc _ (J_bond (K := Rel (a + 400000) (s0 + 64)) h.1 (fun v9 => h.2.2.2 mc _ ((h.1.ref v9).mono (by omega) (by omega) h.2.2.1)) )) rfl rfl (gV kw_2_169 kw_2_170 kw_2_171 kw_1_1 kw_2_172) hy_X9_bond ⟨(Nat.le_of_ble_eq_true rfl), (Nat.le_of_ble_eq_true rfl)⟩ (fun r mc' hj => ?_)
  obtain ⟨hj, rfl⟩ := hj
  unfold jn at hj
  refine q_aload_n (j := 2) X dL_law_2818 rfl rfl ?_
  refine qL_m X hA hW [] [.int r] rfl rfl (Nat.le_of_ble_eq_true rfl) dL_law_2819 hroom0 (c_X10_bond hA.2.1  mm _ hj) rfl rfl (gV kw_8_230 kw_8_231 kw_8_232 kw_1_11 kw_8_233) hy_X10_bond ⟨(Nat.le_of_ble_eq_true rfl), (Nat.le_of_ble_eq_true rfl)⟩ (fun b9 mm9 hb => ?_)
  obtain ⟨rfl, hK⟩ := hb
  refine q_icmp_eq X dL_law_2822 (tgt := 4461) (by decide) (fun _ => ?_) (fun h9 => absurd rfl h9)
  exact q_w (Nat.le_add_right _ _) (Nat.le_add_right _ _) (kk _ _ _ hK)
set_option maxRecDepth 100000 in
set_option maxHeartbeats 4000000 in
theorem case_45 (C : LC p l s m args c D cA ad A AC AM ob cO b L xs) (h : Hy a s0 mc mm (Rel (a + 400000) (s0 + 64))) (hi : i + 4 < L) (hroom : cells + 2 ≤ room_1.cells ∧ slots + 12 ≤ room_1.slots) (kk : ∀ (mc' mm' : Mm) (v' : Int64), Rel (a + 400000) (s0 + 64) mc' mm' → V p l e room_1 s m args below meth c Q 9 A (cells + 2) (slots + 12) (PL D cA ad ob cO mc' mm' v') 4461 (lvL ad ob b i) []) : V p l e room_1 s m args below meth c Q 9 A cells slots (PL D cA ad ob cO mc mm v) 2827 (lvL ad ob b i) [] := by
  have C0 := C
  obtain ⟨X, hA, hW, hZ, hX, hb1, hst, hL⟩ := C
  have hroom0 : cells ≤ room_1.cells ∧ slots ≤ room_1.slots := ⟨by omega, by omega⟩
  refine q_aload_n (j := 3) X dL_law_2827 rfl rfl ?_
  refine qL_c X hA hW hZ [] [] rfl rfl (Nat.le_of_ble_eq_true rfl) dL_law_2828 hroom0 (c_X9_dutyAtStake hA.1  mc _ (J_dutyAtStake (K := Rel (a + 400000) (s0 + 64)) h.1 (fun v9 => h.2.2.2 mc _ ((h.1.ref v9).mono (by omega) (by omega) h.2.2.1)) )) rfl rfl (gV kw_2_173 kw_2_174 kw_2_175 kw_1_1 kw_2_176) hy_X9_dutyAtStake ⟨(Nat.le_of_ble_eq_true rfl), (Nat.le_of_ble_eq_true rfl)⟩ (fun r mc' hj => ?_)
  obtain ⟨hj, rfl⟩ := hj
  unfold jn at hj
  refine q_aload_n (j := 2) X dL_law_2831 rfl rfl ?_
  refine qL_m X hA hW [] [.int r] rfl rfl (Nat.le_of_ble_eq_true rfl) dL_law_2832 hroom0 (c_X10_dutyAtStake hA.2.1  mm _ hj) rfl rfl (gV kw_8_234 kw_8_235 kw_8_236 kw_1_11 kw_8_237) hy_X10_dutyAtStake ⟨(Nat.le_of_ble_eq_true rfl), (Nat.le_of_ble_eq_true rfl)⟩ (fun b9 mm9 hb => ?_)
  obtain ⟨rfl, hK⟩ := hb
  refine q_icmp_eq X dL_law_2835 (tgt := 4461) (by decide) (fun _ => ?_) (fun h9 => absurd rfl h9)
  exact q_w (Nat.le_add_right _ _) (Nat.le_add_right _ _) (kk _ _ _ hK)
set_option maxRecDepth 100000 in
set_option maxHeartbeats 4000000 in
theorem case_46 (C : LC p l s m args c D cA ad A AC AM ob cO b L xs) (h : Hy a s0 mc mm (Rel (a + 400000) (s0 + 64))) (hi : i + 4 < L) (hroom : cells + 2 ≤ room_1.cells ∧ slots + 12 ≤ room_1.slots) (kk : ∀ (mc' mm' : Mm) (v' : Int64), Rel (a + 400000) (s0 + 64) mc' mm' → V p l e room_1 s m args below meth c Q 9 A (cells + 2) (slots + 12) (PL D cA ad ob cO mc' mm' v') 4461 (lvL ad ob b i) []) : V p l e room_1 s m args below meth c Q 9 A cells slots (PL D cA ad ob cO mc mm v) 2840 (lvL ad ob b i) [] := by
  have C0 := C
  obtain ⟨X, hA, hW, hZ, hX, hb1, hst, hL⟩ := C
  have hroom0 : cells ≤ room_1.cells ∧ slots ≤ room_1.slots := ⟨by omega, by omega⟩
  refine q_aload_n (j := 3) X dL_law_2840 rfl rfl ?_
  refine qL_c X hA hW hZ [] [] rfl rfl (Nat.le_of_ble_eq_true rfl) dL_law_2841 hroom0 (c_X9_account hA.1  mc _ (J_account (K := Rel (a + 400000) (s0 + 64)) h.1 (fun v9 => h.2.2.2 mc _ ((h.1.ref v9).mono (by omega) (by omega) h.2.2.1)) )) rfl rfl (gV kw_2_177 kw_2_178 kw_2_179 kw_1_1 kw_2_180) hy_X9_account ⟨(Nat.le_of_ble_eq_true rfl), (Nat.le_of_ble_eq_true rfl)⟩ (fun r mc' hj => ?_)
  obtain ⟨hj, rfl⟩ := hj
  unfold jn at hj
  refine q_aload_n (j := 2) X dL_law_2844 rfl rfl ?_
  refine qL_m X hA hW [] [.int r] rfl rfl (Nat.le_of_ble_eq_true rfl) dL_law_2845 hroom0 (c_X10_account hA.2.1  mm _ hj) rfl rfl (gV kw_8_238 kw_8_239 kw_9_0 kw_1_11 kw_9_1) hy_X10_account ⟨(Nat.le_of_ble_eq_true rfl), (Nat.le_of_ble_eq_true rfl)⟩ (fun b9 mm9 hb => ?_)
  obtain ⟨rfl, hK⟩ := hb
  refine q_icmp_eq X dL_law_2848 (tgt := 4461) (by decide) (fun _ => ?_) (fun h9 => absurd rfl h9)
  exact q_w (Nat.le_add_right _ _) (Nat.le_add_right _ _) (kk _ _ _ hK)
set_option maxRecDepth 100000 in
set_option maxHeartbeats 4000000 in
theorem case_47 (C : LC p l s m args c D cA ad A AC AM ob cO b L xs) (h : Hy a s0 mc mm (Rel (a + 400000) (s0 + 64))) (hi : i + 4 < L) (hroom : cells + 2 ≤ room_1.cells ∧ slots + 12 ≤ room_1.slots) (kk : ∀ (mc' mm' : Mm) (v' : Int64), Rel (a + 400000) (s0 + 64) mc' mm' → V p l e room_1 s m args below meth c Q 9 A (cells + 2) (slots + 12) (PL D cA ad ob cO mc' mm' v') 4461 (lvL ad ob b i) []) : V p l e room_1 s m args below meth c Q 9 A cells slots (PL D cA ad ob cO mc mm v) 2853 (lvL ad ob b i) [] := by
  have C0 := C
  obtain ⟨X, hA, hW, hZ, hX, hb1, hst, hL⟩ := C
  have hroom0 : cells ≤ room_1.cells ∧ slots ≤ room_1.slots := ⟨by omega, by omega⟩
  refine q_aload_n (j := 3) X dL_law_2853 rfl rfl ?_
  refine qL_c X hA hW hZ [] [] rfl rfl (Nat.le_of_ble_eq_true rfl) dL_law_2854 hroom0 (c_X9_debt hA.1  mc _ (J_debt (K := Rel (a + 400000) (s0 + 64)) h.1 (fun v9 => h.2.2.2 mc _ ((h.1.ref v9).mono (by omega) (by omega) h.2.2.1)) )) rfl rfl (gV kw_2_181 kw_2_182 kw_2_183 kw_1_1 kw_2_184) hy_X9_debt ⟨(Nat.le_of_ble_eq_true rfl), (Nat.le_of_ble_eq_true rfl)⟩ (fun r mc' hj => ?_)
  obtain ⟨hj, rfl⟩ := hj
  unfold jn at hj
  refine q_aload_n (j := 2) X dL_law_2857 rfl rfl ?_
  refine qL_m X hA hW [] [.int r] rfl rfl (Nat.le_of_ble_eq_true rfl) dL_law_2858 hroom0 (c_X10_debt hA.2.1  mm _ hj) rfl rfl (gV kw_9_2 kw_9_3 kw_9_4 kw_1_11 kw_9_5) hy_X10_debt ⟨(Nat.le_of_ble_eq_true rfl), (Nat.le_of_ble_eq_true rfl)⟩ (fun b9 mm9 hb => ?_)
  obtain ⟨rfl, hK⟩ := hb
  refine q_icmp_eq X dL_law_2861 (tgt := 4461) (by decide) (fun _ => ?_) (fun h9 => absurd rfl h9)
  exact q_w (Nat.le_add_right _ _) (Nat.le_add_right _ _) (kk _ _ _ hK)
end CASE3
