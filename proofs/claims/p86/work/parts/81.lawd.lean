theorem kw_7_7 : Jvm.Cond.methodLink "BondWarehouseLaw" (483 : Nat) ({ cls := "BondWarehouseLaw", name := "undoes", desc := "(LBondWarehouse;LBondWarehouse;I)Z" } : Jvm.MethodName) ∈ TG := tg_7 7 rfl rfl
theorem kw_7_8 : Jvm.Cond.static ({ cls := "BondWarehouseLaw", name := "undoes", desc := "(LBondWarehouse;LBondWarehouse;I)Z" } : Jvm.MethodName) ∈ TG := tg_7 8 rfl rfl
theorem kw_7_9 : Jvm.Cond.code ({ cls := "BondWarehouseLaw", name := "undoes", desc := "(LBondWarehouse;LBondWarehouse;I)Z" } : Jvm.MethodName) method_72_code (5 : Nat) (Option.some Jvm.ClassFile.FieldType.boolean) ∈ TG := tg_7 9 rfl rfl
theorem dL_leaves_0 : decode cL_leaves 0 = .ok (.aload_n 0, 1) := by decide +kernel
theorem dL_leaves_1 : decode cL_leaves 1 = .ok (.invokevirtual 397, 3) := by decide +kernel
theorem dL_leaves_4 : decode cL_leaves 4 = .ok (.ifCond .ne 5, 3) := by decide +kernel
theorem dL_leaves_7 : decode cL_leaves 7 = .ok (.iconst 1, 1) := by decide +kernel
theorem dL_leaves_8 : decode cL_leaves 8 = .ok (.ireturn, 1) := by decide +kernel
theorem dL_leaves_9 : decode cL_leaves 9 = .ok (.aload_n 0, 1) := by decide +kernel
theorem dL_leaves_10 : decode cL_leaves 10 = .ok (.bipush 15, 2) := by decide +kernel
theorem dL_leaves_12 : decode cL_leaves 12 = .ok (.iload_n 2, 1) := by decide +kernel
theorem dL_leaves_13 : decode cL_leaves 13 = .ok (.aload_n 0, 1) := by decide +kernel
theorem dL_leaves_14 : decode cL_leaves 14 = .ok (.invokevirtual 397, 3) := by decide +kernel
theorem dL_leaves_17 : decode cL_leaves 17 = .ok (.irem, 1) := by decide +kernel
theorem dL_leaves_18 : decode cL_leaves 18 = .ok (.iconst 0, 1) := by decide +kernel
theorem dL_leaves_19 : decode cL_leaves 19 = .ok (.iconst 0, 1) := by decide +kernel
theorem dL_leaves_20 : decode cL_leaves 20 = .ok (.invokestatic 393, 3) := by decide +kernel
theorem dL_leaves_23 : decode cL_leaves 23 = .ok (.istore_n 3, 1) := by decide +kernel
theorem dL_leaves_24 : decode cL_leaves 24 = .ok (.iconst 1, 1) := by decide +kernel
theorem dL_leaves_25 : decode cL_leaves 25 = .ok (.iload_n 2, 1) := by decide +kernel
theorem dL_leaves_26 : decode cL_leaves 26 = .ok (.bipush 16, 2) := by decide +kernel
theorem dL_leaves_28 : decode cL_leaves 28 = .ok (.idiv, 1) := by decide +kernel
theorem dL_leaves_29 : decode cL_leaves 29 = .ok (.aload_n 0, 1) := by decide +kernel
theorem dL_leaves_30 : decode cL_leaves 30 = .ok (.bipush 17, 2) := by decide +kernel
theorem dL_leaves_32 : decode cL_leaves 32 = .ok (.iload_n 3, 1) := by decide +kernel
theorem dL_leaves_33 : decode cL_leaves 33 = .ok (.iconst 0, 1) := by decide +kernel
theorem dL_leaves_34 : decode cL_leaves 34 = .ok (.iconst 0, 1) := by decide +kernel
theorem dL_leaves_35 : decode cL_leaves 35 = .ok (.invokestatic 393, 3) := by decide +kernel
theorem dL_leaves_38 : decode cL_leaves 38 = .ok (.irem, 1) := by decide +kernel
theorem dL_leaves_39 : decode cL_leaves 39 = .ok (.iadd, 1) := by decide +kernel
theorem dL_leaves_40 : decode cL_leaves 40 = .ok (.istore 4, 2) := by decide +kernel
theorem dL_leaves_42 : decode cL_leaves 42 = .ok (.aload_n 0, 1) := by decide +kernel
theorem dL_leaves_43 : decode cL_leaves 43 = .ok (.bipush 21, 2) := by decide +kernel
theorem dL_leaves_45 : decode cL_leaves 45 = .ok (.iload_n 3, 1) := by decide +kernel
theorem dL_leaves_46 : decode cL_leaves 46 = .ok (.iload 4, 2) := by decide +kernel
theorem dL_leaves_48 : decode cL_leaves 48 = .ok (.iconst 0, 1) := by decide +kernel
theorem dL_leaves_49 : decode cL_leaves 49 = .ok (.invokestatic 393, 3) := by decide +kernel
theorem dL_leaves_52 : decode cL_leaves 52 = .ok (.istore 5, 2) := by decide +kernel
theorem dL_leaves_54 : decode cL_leaves 54 = .ok (.aload_n 0, 1) := by decide +kernel
theorem dL_leaves_55 : decode cL_leaves 55 = .ok (.bipush 41, 2) := by decide +kernel
theorem dL_leaves_57 : decode cL_leaves 57 = .ok (.iload_n 3, 1) := by decide +kernel
theorem dL_leaves_58 : decode cL_leaves 58 = .ok (.iload 4, 2) := by decide +kernel
theorem dL_leaves_60 : decode cL_leaves 60 = .ok (.iconst 0, 1) := by decide +kernel
theorem dL_leaves_61 : decode cL_leaves 61 = .ok (.invokestatic 393, 3) := by decide +kernel
theorem dL_leaves_64 : decode cL_leaves 64 = .ok (.ifCond .le 37, 3) := by decide +kernel
theorem dL_leaves_67 : decode cL_leaves 67 = .ok (.aload_n 0, 1) := by decide +kernel
theorem dL_leaves_68 : decode cL_leaves 68 = .ok (.iconst 0, 1) := by decide +kernel
theorem dL_leaves_69 : decode cL_leaves 69 = .ok (.iload_n 3, 1) := by decide +kernel
theorem dL_leaves_70 : decode cL_leaves 70 = .ok (.iload 4, 2) := by decide +kernel
theorem dL_leaves_72 : decode cL_leaves 72 = .ok (.iconst 0, 1) := by decide +kernel
theorem dL_leaves_73 : decode cL_leaves 73 = .ok (.invokestatic 393, 3) := by decide +kernel
theorem dL_leaves_76 : decode cL_leaves 76 = .ok (.ldc 18, 2) := by decide +kernel
theorem dL_leaves_78 : decode cL_leaves 78 = .ok (.if_icmp .ne 21, 3) := by decide +kernel
theorem dL_leaves_81 : decode cL_leaves 81 = .ok (.aload_n 1, 1) := by decide +kernel
theorem dL_leaves_82 : decode cL_leaves 82 = .ok (.iconst 0, 1) := by decide +kernel
theorem dL_leaves_83 : decode cL_leaves 83 = .ok (.iload_n 3, 1) := by decide +kernel
theorem dL_leaves_84 : decode cL_leaves 84 = .ok (.iload 4, 2) := by decide +kernel
theorem dL_leaves_86 : decode cL_leaves 86 = .ok (.iconst 0, 1) := by decide +kernel
theorem dL_leaves_87 : decode cL_leaves 87 = .ok (.invokestatic 393, 3) := by decide +kernel
theorem dL_leaves_90 : decode cL_leaves 90 = .ok (.ldc 18, 2) := by decide +kernel
theorem dL_leaves_92 : decode cL_leaves 92 = .ok (.if_icmp .ne 7, 3) := by decide +kernel
theorem dL_leaves_95 : decode cL_leaves 95 = .ok (.iconst 1, 1) := by decide +kernel
theorem dL_leaves_96 : decode cL_leaves 96 = .ok (.goto 4, 3) := by decide +kernel
theorem dL_leaves_99 : decode cL_leaves 99 = .ok (.iconst 0, 1) := by decide +kernel
theorem dL_leaves_100 : decode cL_leaves 100 = .ok (.ireturn, 1) := by decide +kernel
theorem dL_leaves_101 : decode cL_leaves 101 = .ok (.aload_n 0, 1) := by decide +kernel
theorem dL_leaves_102 : decode cL_leaves 102 = .ok (.invokevirtual 420, 3) := by decide +kernel
theorem dL_leaves_105 : decode cL_leaves 105 = .ok (.istore 6, 2) := by decide +kernel
theorem dL_leaves_107 : decode cL_leaves 107 = .ok (.aload_n 0, 1) := by decide +kernel
theorem dL_leaves_108 : decode cL_leaves 108 = .ok (.bipush 16, 2) := by decide +kernel
theorem dL_leaves_110 : decode cL_leaves 110 = .ok (.iload_n 3, 1) := by decide +kernel
theorem dL_leaves_111 : decode cL_leaves 111 = .ok (.iconst 0, 1) := by decide +kernel
theorem dL_leaves_112 : decode cL_leaves 112 = .ok (.iconst 0, 1) := by decide +kernel
theorem dL_leaves_113 : decode cL_leaves 113 = .ok (.invokestatic 393, 3) := by decide +kernel
theorem dL_leaves_116 : decode cL_leaves 116 = .ok (.istore 7, 2) := by decide +kernel
theorem dL_leaves_118 : decode cL_leaves 118 = .ok (.aload_n 0, 1) := by decide +kernel
theorem dL_leaves_119 : decode cL_leaves 119 = .ok (.bipush 17, 2) := by decide +kernel
theorem dL_leaves_121 : decode cL_leaves 121 = .ok (.iload_n 3, 1) := by decide +kernel
theorem dL_leaves_122 : decode cL_leaves 122 = .ok (.iconst 0, 1) := by decide +kernel
theorem dL_leaves_123 : decode cL_leaves 123 = .ok (.iconst 0, 1) := by decide +kernel
theorem dL_leaves_124 : decode cL_leaves 124 = .ok (.invokestatic 393, 3) := by decide +kernel
theorem dL_leaves_127 : decode cL_leaves 127 = .ok (.istore 8, 2) := by decide +kernel
theorem dL_leaves_129 : decode cL_leaves 129 = .ok (.aload_n 0, 1) := by decide +kernel
theorem dL_leaves_130 : decode cL_leaves 130 = .ok (.bipush 39, 2) := by decide +kernel
theorem dL_leaves_132 : decode cL_leaves 132 = .ok (.iload 7, 2) := by decide +kernel
theorem dL_leaves_134 : decode cL_leaves 134 = .ok (.iconst 0, 1) := by decide +kernel
theorem dL_leaves_135 : decode cL_leaves 135 = .ok (.iconst 0, 1) := by decide +kernel
theorem dL_leaves_136 : decode cL_leaves 136 = .ok (.invokestatic 393, 3) := by decide +kernel
theorem dL_leaves_139 : decode cL_leaves 139 = .ok (.istore 9, 2) := by decide +kernel
theorem dL_leaves_141 : decode cL_leaves 141 = .ok (.aload_n 0, 1) := by decide +kernel
theorem dL_leaves_142 : decode cL_leaves 142 = .ok (.iconst 0, 1) := by decide +kernel
theorem dL_leaves_143 : decode cL_leaves 143 = .ok (.iload_n 3, 1) := by decide +kernel
theorem dL_leaves_144 : decode cL_leaves 144 = .ok (.iload 4, 2) := by decide +kernel
theorem dL_leaves_146 : decode cL_leaves 146 = .ok (.iconst 0, 1) := by decide +kernel
theorem dL_leaves_147 : decode cL_leaves 147 = .ok (.invokestatic 393, 3) := by decide +kernel
theorem dL_leaves_150 : decode cL_leaves 150 = .ok (.iload 5, 2) := by decide +kernel
theorem dL_leaves_152 : decode cL_leaves 152 = .ok (.if_icmp .ne 111, 3) := by decide +kernel
theorem dL_leaves_155 : decode cL_leaves 155 = .ok (.aload_n 1, 1) := by decide +kernel
theorem dL_leaves_156 : decode cL_leaves 156 = .ok (.iconst 0, 1) := by decide +kernel
theorem dL_leaves_157 : decode cL_leaves 157 = .ok (.iload_n 3, 1) := by decide +kernel
theorem dL_leaves_158 : decode cL_leaves 158 = .ok (.iload 4, 2) := by decide +kernel
theorem dL_leaves_160 : decode cL_leaves 160 = .ok (.iconst 0, 1) := by decide +kernel
theorem dL_leaves_161 : decode cL_leaves 161 = .ok (.invokestatic 393, 3) := by decide +kernel
theorem dL_leaves_164 : decode cL_leaves 164 = .ok (.iload 5, 2) := by decide +kernel
theorem dL_leaves_166 : decode cL_leaves 166 = .ok (.if_icmp .ne 97, 3) := by decide +kernel
theorem dL_leaves_169 : decode cL_leaves 169 = .ok (.aload_n 0, 1) := by decide +kernel
theorem dL_leaves_170 : decode cL_leaves 170 = .ok (.invokevirtual 420, 3) := by decide +kernel
theorem dL_leaves_173 : decode cL_leaves 173 = .ok (.iload 6, 2) := by decide +kernel
theorem dL_leaves_175 : decode cL_leaves 175 = .ok (.iload 5, 2) := by decide +kernel
theorem dL_leaves_177 : decode cL_leaves 177 = .ok (.isub, 1) := by decide +kernel
theorem dL_leaves_178 : decode cL_leaves 178 = .ok (.if_icmp .ne 85, 3) := by decide +kernel
theorem dL_leaves_181 : decode cL_leaves 181 = .ok (.aload_n 0, 1) := by decide +kernel
theorem dL_leaves_182 : decode cL_leaves 182 = .ok (.bipush 39, 2) := by decide +kernel
theorem dL_leaves_184 : decode cL_leaves 184 = .ok (.iload 7, 2) := by decide +kernel
theorem dL_leaves_186 : decode cL_leaves 186 = .ok (.iconst 0, 1) := by decide +kernel
theorem dL_leaves_187 : decode cL_leaves 187 = .ok (.iconst 0, 1) := by decide +kernel
theorem dL_leaves_188 : decode cL_leaves 188 = .ok (.invokestatic 393, 3) := by decide +kernel
theorem dL_leaves_191 : decode cL_leaves 191 = .ok (.iload 9, 2) := by decide +kernel
theorem dL_leaves_193 : decode cL_leaves 193 = .ok (.iload 4, 2) := by decide +kernel
theorem dL_leaves_195 : decode cL_leaves 195 = .ok (.isub, 1) := by decide +kernel
theorem dL_leaves_196 : decode cL_leaves 196 = .ok (.if_icmp .ne 67, 3) := by decide +kernel
theorem dL_leaves_199 : decode cL_leaves 199 = .ok (.aload_n 0, 1) := by decide +kernel
theorem dL_leaves_200 : decode cL_leaves 200 = .ok (.bipush 28, 2) := by decide +kernel
theorem dL_leaves_202 : decode cL_leaves 202 = .ok (.iconst 0, 1) := by decide +kernel
theorem dL_leaves_203 : decode cL_leaves 203 = .ok (.iconst 0, 1) := by decide +kernel
theorem dL_leaves_204 : decode cL_leaves 204 = .ok (.iconst 0, 1) := by decide +kernel
theorem dL_leaves_205 : decode cL_leaves 205 = .ok (.invokestatic 393, 3) := by decide +kernel
theorem dL_leaves_208 : decode cL_leaves 208 = .ok (.iload 4, 2) := by decide +kernel
theorem dL_leaves_210 : decode cL_leaves 210 = .ok (.if_icmp .ne 53, 3) := by decide +kernel
theorem dL_leaves_213 : decode cL_leaves 213 = .ok (.aload_n 0, 1) := by decide +kernel
theorem dL_leaves_214 : decode cL_leaves 214 = .ok (.bipush 29, 2) := by decide +kernel
theorem dL_leaves_216 : decode cL_leaves 216 = .ok (.iconst 0, 1) := by decide +kernel
theorem dL_leaves_217 : decode cL_leaves 217 = .ok (.iconst 0, 1) := by decide +kernel
theorem dL_leaves_218 : decode cL_leaves 218 = .ok (.iconst 0, 1) := by decide +kernel
theorem dL_leaves_219 : decode cL_leaves 219 = .ok (.invokestatic 393, 3) := by decide +kernel
theorem dL_leaves_222 : decode cL_leaves 222 = .ok (.iload 5, 2) := by decide +kernel
theorem dL_leaves_224 : decode cL_leaves 224 = .ok (.if_icmp .ne 39, 3) := by decide +kernel
theorem dL_leaves_227 : decode cL_leaves 227 = .ok (.aload_n 0, 1) := by decide +kernel
theorem dL_leaves_228 : decode cL_leaves 228 = .ok (.bipush 30, 2) := by decide +kernel
theorem dL_leaves_230 : decode cL_leaves 230 = .ok (.iconst 0, 1) := by decide +kernel
theorem dL_leaves_231 : decode cL_leaves 231 = .ok (.iconst 0, 1) := by decide +kernel
theorem dL_leaves_232 : decode cL_leaves 232 = .ok (.iconst 0, 1) := by decide +kernel
theorem dL_leaves_233 : decode cL_leaves 233 = .ok (.invokestatic 393, 3) := by decide +kernel
theorem dL_leaves_236 : decode cL_leaves 236 = .ok (.ifCond .ne 27, 3) := by decide +kernel
theorem dL_leaves_239 : decode cL_leaves 239 = .ok (.aload_n 0, 1) := by decide +kernel
theorem dL_leaves_240 : decode cL_leaves 240 = .ok (.iload_n 3, 1) := by decide +kernel
theorem dL_leaves_241 : decode cL_leaves 241 = .ok (.invokevirtual 426, 3) := by decide +kernel
theorem dL_leaves_244 : decode cL_leaves 244 = .ok (.iload 4, 2) := by decide +kernel
theorem dL_leaves_246 : decode cL_leaves 246 = .ok (.iload 8, 2) := by decide +kernel
theorem dL_leaves_248 : decode cL_leaves 248 = .ok (.if_icmp .ge 7, 3) := by decide +kernel
theorem dL_leaves_251 : decode cL_leaves 251 = .ok (.iconst 1, 1) := by decide +kernel
theorem dL_leaves_252 : decode cL_leaves 252 = .ok (.goto 4, 3) := by decide +kernel
theorem dL_leaves_255 : decode cL_leaves 255 = .ok (.iconst 0, 1) := by decide +kernel
theorem dL_leaves_256 : decode cL_leaves 256 = .ok (.if_icmp .ne 7, 3) := by decide +kernel
theorem dL_leaves_259 : decode cL_leaves 259 = .ok (.iconst 1, 1) := by decide +kernel
theorem dL_leaves_260 : decode cL_leaves 260 = .ok (.goto 4, 3) := by decide +kernel
theorem dL_leaves_263 : decode cL_leaves 263 = .ok (.iconst 0, 1) := by decide +kernel
theorem dL_leaves_264 : decode cL_leaves 264 = .ok (.istore 10, 2) := by decide +kernel
theorem dL_leaves_266 : decode cL_leaves 266 = .ok (.aload_n 0, 1) := by decide +kernel
theorem dL_leaves_267 : decode cL_leaves 267 = .ok (.bipush 46, 2) := by decide +kernel
theorem dL_leaves_269 : decode cL_leaves 269 = .ok (.iconst 0, 1) := by decide +kernel
theorem dL_leaves_270 : decode cL_leaves 270 = .ok (.iload 4, 2) := by decide +kernel
theorem dL_leaves_272 : decode cL_leaves 272 = .ok (.iconst 0, 1) := by decide +kernel
theorem dL_leaves_273 : decode cL_leaves 273 = .ok (.invokestatic 393, 3) := by decide +kernel
theorem dL_leaves_276 : decode cL_leaves 276 = .ok (.istore 11, 2) := by decide +kernel
theorem dL_leaves_278 : decode cL_leaves 278 = .ok (.iload 10, 2) := by decide +kernel
theorem dL_leaves_280 : decode cL_leaves 280 = .ok (.ifCond .eq 87, 3) := by decide +kernel
theorem dL_leaves_283 : decode cL_leaves 283 = .ok (.iload 11, 2) := by decide +kernel
theorem dL_leaves_285 : decode cL_leaves 285 = .ok (.iload 5, 2) := by decide +kernel
theorem dL_leaves_287 : decode cL_leaves 287 = .ok (.bipush 9, 2) := by decide +kernel
theorem dL_leaves_289 : decode cL_leaves 289 = .ok (.imul, 1) := by decide +kernel
theorem dL_leaves_290 : decode cL_leaves 290 = .ok (.bipush 10, 2) := by decide +kernel
theorem dL_leaves_292 : decode cL_leaves 292 = .ok (.idiv, 1) := by decide +kernel
theorem dL_leaves_293 : decode cL_leaves 293 = .ok (.if_icmp .ne 74, 3) := by decide +kernel
theorem dL_leaves_296 : decode cL_leaves 296 = .ok (.aload_n 0, 1) := by decide +kernel
theorem dL_leaves_297 : decode cL_leaves 297 = .ok (.iconst 2, 1) := by decide +kernel
theorem dL_leaves_298 : decode cL_leaves 298 = .ok (.iconst 0, 1) := by decide +kernel
theorem dL_leaves_299 : decode cL_leaves 299 = .ok (.iload 4, 2) := by decide +kernel
theorem dL_leaves_301 : decode cL_leaves 301 = .ok (.iconst 0, 1) := by decide +kernel
theorem dL_leaves_302 : decode cL_leaves 302 = .ok (.invokestatic 393, 3) := by decide +kernel
theorem dL_leaves_305 : decode cL_leaves 305 = .ok (.iload 11, 2) := by decide +kernel
theorem dL_leaves_307 : decode cL_leaves 307 = .ok (.if_icmp .ne 60, 3) := by decide +kernel
theorem dL_leaves_310 : decode cL_leaves 310 = .ok (.aload_n 1, 1) := by decide +kernel
theorem dL_leaves_311 : decode cL_leaves 311 = .ok (.iconst 2, 1) := by decide +kernel
theorem dL_leaves_312 : decode cL_leaves 312 = .ok (.iconst 0, 1) := by decide +kernel
theorem dL_leaves_313 : decode cL_leaves 313 = .ok (.iload 4, 2) := by decide +kernel
theorem dL_leaves_315 : decode cL_leaves 315 = .ok (.iconst 0, 1) := by decide +kernel
theorem dL_leaves_316 : decode cL_leaves 316 = .ok (.invokestatic 393, 3) := by decide +kernel
theorem dL_leaves_319 : decode cL_leaves 319 = .ok (.iload 11, 2) := by decide +kernel
theorem dL_leaves_321 : decode cL_leaves 321 = .ok (.if_icmp .ne 46, 3) := by decide +kernel
theorem dL_leaves_324 : decode cL_leaves 324 = .ok (.aload_n 0, 1) := by decide +kernel
theorem dL_leaves_325 : decode cL_leaves 325 = .ok (.invokevirtual 420, 3) := by decide +kernel
theorem dL_leaves_328 : decode cL_leaves 328 = .ok (.iload 6, 2) := by decide +kernel
theorem dL_leaves_330 : decode cL_leaves 330 = .ok (.iload 5, 2) := by decide +kernel
theorem dL_leaves_332 : decode cL_leaves 332 = .ok (.isub, 1) := by decide +kernel
theorem dL_leaves_333 : decode cL_leaves 333 = .ok (.iload 11, 2) := by decide +kernel
theorem dL_leaves_335 : decode cL_leaves 335 = .ok (.iadd, 1) := by decide +kernel
theorem dL_leaves_336 : decode cL_leaves 336 = .ok (.if_icmp .ne 31, 3) := by decide +kernel
theorem dL_leaves_339 : decode cL_leaves 339 = .ok (.aload_n 0, 1) := by decide +kernel
theorem dL_leaves_340 : decode cL_leaves 340 = .ok (.bipush 28, 2) := by decide +kernel
theorem dL_leaves_342 : decode cL_leaves 342 = .ok (.iconst 0, 1) := by decide +kernel
theorem dL_leaves_343 : decode cL_leaves 343 = .ok (.iconst 0, 1) := by decide +kernel
theorem dL_leaves_344 : decode cL_leaves 344 = .ok (.iconst 0, 1) := by decide +kernel
theorem dL_leaves_345 : decode cL_leaves 345 = .ok (.invokestatic 393, 3) := by decide +kernel
theorem dL_leaves_348 : decode cL_leaves 348 = .ok (.ifCond .ne 19, 3) := by decide +kernel
theorem dL_leaves_351 : decode cL_leaves 351 = .ok (.aload_n 0, 1) := by decide +kernel
theorem dL_leaves_352 : decode cL_leaves 352 = .ok (.bipush 29, 2) := by decide +kernel
theorem dL_leaves_354 : decode cL_leaves 354 = .ok (.iconst 0, 1) := by decide +kernel
theorem dL_leaves_355 : decode cL_leaves 355 = .ok (.iconst 0, 1) := by decide +kernel
theorem dL_leaves_356 : decode cL_leaves 356 = .ok (.iconst 0, 1) := by decide +kernel
theorem dL_leaves_357 : decode cL_leaves 357 = .ok (.invokestatic 393, 3) := by decide +kernel
theorem dL_leaves_360 : decode cL_leaves 360 = .ok (.ifCond .ne 7, 3) := by decide +kernel
theorem dL_leaves_363 : decode cL_leaves 363 = .ok (.iconst 1, 1) := by decide +kernel
theorem dL_leaves_364 : decode cL_leaves 364 = .ok (.goto 4, 3) := by decide +kernel
theorem dL_leaves_367 : decode cL_leaves 367 = .ok (.iconst 0, 1) := by decide +kernel
theorem dL_leaves_368 : decode cL_leaves 368 = .ok (.istore 10, 2) := by decide +kernel
theorem dL_leaves_370 : decode cL_leaves 370 = .ok (.iload 10, 2) := by decide +kernel
theorem dL_leaves_372 : decode cL_leaves 372 = .ok (.ifCond .eq 54, 3) := by decide +kernel
theorem dL_leaves_375 : decode cL_leaves 375 = .ok (.aload_n 0, 1) := by decide +kernel
theorem dL_leaves_376 : decode cL_leaves 376 = .ok (.aload_n 1, 1) := by decide +kernel
theorem dL_leaves_377 : decode cL_leaves 377 = .ok (.iconst 2, 1) := by decide +kernel
theorem dL_leaves_378 : decode cL_leaves 378 = .ok (.invokestatic 483, 3) := by decide +kernel
theorem dL_leaves_381 : decode cL_leaves 381 = .ok (.ifCond .eq 45, 3) := by decide +kernel
theorem dL_leaves_384 : decode cL_leaves 384 = .ok (.aload_n 0, 1) := by decide +kernel
theorem dL_leaves_385 : decode cL_leaves 385 = .ok (.invokevirtual 420, 3) := by decide +kernel
theorem dL_leaves_388 : decode cL_leaves 388 = .ok (.iload 6, 2) := by decide +kernel
theorem dL_leaves_390 : decode cL_leaves 390 = .ok (.if_icmp .ne 36, 3) := by decide +kernel
theorem dL_leaves_393 : decode cL_leaves 393 = .ok (.aload_n 0, 1) := by decide +kernel
theorem dL_leaves_394 : decode cL_leaves 394 = .ok (.bipush 17, 2) := by decide +kernel
theorem dL_leaves_396 : decode cL_leaves 396 = .ok (.iload_n 3, 1) := by decide +kernel
theorem dL_leaves_397 : decode cL_leaves 397 = .ok (.iconst 0, 1) := by decide +kernel
theorem dL_leaves_398 : decode cL_leaves 398 = .ok (.iconst 0, 1) := by decide +kernel
theorem dL_leaves_399 : decode cL_leaves 399 = .ok (.invokestatic 393, 3) := by decide +kernel
theorem dL_leaves_402 : decode cL_leaves 402 = .ok (.iload 8, 2) := by decide +kernel
theorem dL_leaves_404 : decode cL_leaves 404 = .ok (.if_icmp .ne 22, 3) := by decide +kernel
theorem dL_leaves_407 : decode cL_leaves 407 = .ok (.aload_n 0, 1) := by decide +kernel
theorem dL_leaves_408 : decode cL_leaves 408 = .ok (.bipush 39, 2) := by decide +kernel
theorem dL_leaves_410 : decode cL_leaves 410 = .ok (.iload 7, 2) := by decide +kernel
theorem dL_leaves_412 : decode cL_leaves 412 = .ok (.iconst 0, 1) := by decide +kernel
theorem dL_leaves_413 : decode cL_leaves 413 = .ok (.iconst 0, 1) := by decide +kernel
theorem dL_leaves_414 : decode cL_leaves 414 = .ok (.invokestatic 393, 3) := by decide +kernel
theorem dL_leaves_417 : decode cL_leaves 417 = .ok (.iload 9, 2) := by decide +kernel
theorem dL_leaves_419 : decode cL_leaves 419 = .ok (.if_icmp .ne 7, 3) := by decide +kernel
theorem dL_leaves_422 : decode cL_leaves 422 = .ok (.iconst 1, 1) := by decide +kernel
theorem dL_leaves_423 : decode cL_leaves 423 = .ok (.goto 4, 3) := by decide +kernel
theorem dL_leaves_426 : decode cL_leaves 426 = .ok (.iconst 0, 1) := by decide +kernel
theorem dL_leaves_427 : decode cL_leaves 427 = .ok (.ireturn, 1) := by decide +kernel
def w_L_leaves_J368 (o : Bool) (q : Bool) (Q9 : Int32 → Gh → Prop) (r_7 : Int32) (r_18 : Int32) (r_20 : Int32) (r_22 : Int32) (r_24 : Int32) (y_33 : Int32) (m_34 : Gh) : Prop :=
  ((y_33 = 0 → Q9 0 m_34) ∧
  (¬ y_33 = 0 → w_L_undoes o q 2 m_34 (fun (r_36 : Int32) (g_37 : Gh) => ((r_36 = 0 → Q9 0 g_37) ∧
  (¬ r_36 = 0 → g_37.2 ≤ 2400 ∧ ∀ r_39 : Int32, r_39 = (v_account (g_37.1 o)) → (((¬ r_39 = r_18 → Q9 0 g_37) ∧
  (r_39 = r_18 → g_37.2 ≤ 2400 ∧ ∀ r_42 : Int32, r_42 = y_tryWeight r_7 (g_37.1 o) → (((¬ r_42 = r_22 → Q9 0 g_37) ∧
  (r_42 = r_22 → g_37.2 ≤ 2400 ∧ ∀ r_45 : Int32, r_45 = y_tryStock r_20 (g_37.1 o) → (((¬ r_45 = r_24 → Q9 0 g_37) ∧
  (r_45 = r_24 → Q9 1 g_37))))))))))))))
def w_L_leaves_J367 (o : Bool) (q : Bool) (Q9 : Int32 → Gh → Prop) (r_7 : Int32) (r_18 : Int32) (r_20 : Int32) (r_22 : Int32) (r_24 : Int32) (m_48 : Gh) : Prop :=
  w_L_leaves_J368 o q Q9 r_7 r_18 r_20 r_22 r_24 0 m_48
def w_L_leaves_J264 (o : Bool) (q : Bool) (Q9 : Int32 → Gh → Prop) (r_7 : Int32) (x_12 : Int32) (r_13 : Int32) (r_18 : Int32) (r_20 : Int32) (r_22 : Int32) (r_24 : Int32) (y_29 : Int32) (m_30 : Gh) : Prop :=
  m_30.2 ≤ 2400 ∧ ∀ r_31 : Int32, r_31 = y_tryDrawFor 0 x_12 (m_30.1 o) → (((y_29 = 0 → w_L_leaves_J367 o q Q9 r_7 r_18 r_20 r_22 r_24 m_30) ∧
  (¬ y_29 = 0 → ((¬ r_31 = ((r_13 * 9) / 10) → w_L_leaves_J367 o q Q9 r_7 r_18 r_20 r_22 r_24 m_30) ∧
  (r_31 = ((r_13 * 9) / 10) → m_30.2 + 1 ≤ 2400 ∧ ∀ r_51 : Int32, r_51 = (z_tryDraw 0 x_12 (m_30.1 o)).1 → ∀ g_53 : Gh, g_53 = gz m_30 o (z_tryDraw 0 x_12 (m_30.1 o)).2 → GI g_53 → (((¬ r_51 = r_31 → w_L_leaves_J367 o q Q9 r_7 r_18 r_20 r_22 r_24 g_53) ∧
  (r_51 = r_31 → g_53.2 + 1 ≤ 2400 ∧ ∀ r_55 : Int32, r_55 = (z_tryDraw 0 x_12 (g_53.1 q)).1 → ∀ g_57 : Gh, g_57 = gz g_53 q (z_tryDraw 0 x_12 (g_53.1 q)).2 → GI g_57 → (((¬ r_55 = r_31 → w_L_leaves_J367 o q Q9 r_7 r_18 r_20 r_22 r_24 g_57) ∧
  (r_55 = r_31 → g_57.2 ≤ 2400 ∧ ∀ r_59 : Int32, r_59 = (v_account (g_57.1 o)) → (((¬ r_59 = ((r_18 - r_13) + r_31) → w_L_leaves_J367 o q Q9 r_7 r_18 r_20 r_22 r_24 g_57) ∧
  (r_59 = ((r_18 - r_13) + r_31) → g_57.2 ≤ 2400 ∧ ∀ r_62 : Int32, r_62 = y_tryPaper 0 (g_57.1 o) → (((¬ r_62 = 0 → w_L_leaves_J367 o q Q9 r_7 r_18 r_20 r_22 r_24 g_57) ∧
  (r_62 = 0 → g_57.2 ≤ 2400 ∧ ∀ r_65 : Int32, r_65 = y_tryPaperDuty 0 (g_57.1 o) → (((¬ r_65 = 0 → w_L_leaves_J367 o q Q9 r_7 r_18 r_20 r_22 r_24 g_57) ∧
  (r_65 = 0 → w_L_leaves_J368 o q Q9 r_7 r_18 r_20 r_22 r_24 1 g_57))))))))))))))))))))
def w_L_leaves_J263 (o : Bool) (q : Bool) (Q9 : Int32 → Gh → Prop) (r_7 : Int32) (x_12 : Int32) (r_13 : Int32) (r_18 : Int32) (r_20 : Int32) (r_22 : Int32) (r_24 : Int32) (m_68 : Gh) : Prop :=
  w_L_leaves_J264 o q Q9 r_7 x_12 r_13 r_18 r_20 r_22 r_24 0 m_68
def w_L_leaves_J256 (o : Bool) (q : Bool) (Q9 : Int32 → Gh → Prop) (r_7 : Int32) (x_12 : Int32) (r_13 : Int32) (r_18 : Int32) (r_20 : Int32) (r_22 : Int32) (r_24 : Int32) (g_72 : Gh) (r_89 : Int32) (y_91 : Int32) : Prop :=
  ((¬ r_89 = y_91 → w_L_leaves_J263 o q Q9 r_7 x_12 r_13 r_18 r_20 r_22 r_24 g_72) ∧
  (r_89 = y_91 → w_L_leaves_J264 o q Q9 r_7 x_12 r_13 r_18 r_20 r_22 r_24 1 g_72))
def w_L_leaves (o : Bool) (q : Bool) (p2 : Int32) (g : Gh) (Q9 : Int32 → Gh → Prop) : Prop :=
  g.2 ≤ 2400 ∧ ∀ r_1 : Int32, r_1 = (v_entries (g.1 o)) → (((¬ r_1 = 0 → g.2 ≤ 2400 ∧ ∀ r_4 : Int32, r_4 = (v_entries (g.1 o)) → (¬ r_4 = 0 ∧ (g.2 ≤ 2400 ∧ ∀ r_7 : Int32, r_7 = y_tryAt (p2 - p2 / r_4 * r_4) (g.1 o) → (g.2 ≤ 2400 ∧ ∀ r_9 : Int32, r_9 = y_tryWeight r_7 (g.1 o) → (¬ r_9 = 0 ∧ (∀ x_12 : Int32, x_12 = (1 + ((p2 / 16) - (p2 / 16) / r_9 * r_9)) → (g.2 ≤ 2400 ∧ ∀ r_13 : Int32, r_13 = y_tryPart r_7 x_12 (g.1 o) → (g.2 ≤ 2400 ∧ ∀ r_15 : Int32, r_15 = y_tryWhyOut r_7 x_12 (g.1 o) → (((r_15 ≤ 0 → g.2 ≤ 2400 ∧ ∀ r_18 : Int32, r_18 = (v_account (g.1 o)) → (g.2 ≤ 2400 ∧ ∀ r_20 : Int32, r_20 = y_tryKind r_7 (g.1 o) → (g.2 ≤ 2400 ∧ ∀ r_22 : Int32, r_22 = y_tryWeight r_7 (g.1 o) → (g.2 ≤ 2400 ∧ ∀ r_24 : Int32, r_24 = y_tryStock r_20 (g.1 o) → (g.2 + 1 ≤ 2400 ∧ ∀ r_26 : Int32, r_26 = (z_tryWithdraw r_7 x_12 (g.1 o)).1 → ∀ g_28 : Gh, g_28 = gz g o (z_tryWithdraw r_7 x_12 (g.1 o)).2 → GI g_28 → (((¬ r_26 = r_13 → w_L_leaves_J263 o q Q9 r_7 x_12 r_13 r_18 r_20 r_22 r_24 g_28) ∧
  (r_26 = r_13 → g_28.2 + 1 ≤ 2400 ∧ ∀ r_70 : Int32, r_70 = (z_tryWithdraw r_7 x_12 (g_28.1 q)).1 → ∀ g_72 : Gh, g_72 = gz g_28 q (z_tryWithdraw r_7 x_12 (g_28.1 q)).2 → GI g_72 → (((¬ r_70 = r_13 → w_L_leaves_J263 o q Q9 r_7 x_12 r_13 r_18 r_20 r_22 r_24 g_72) ∧
  (r_70 = r_13 → g_72.2 ≤ 2400 ∧ ∀ r_74 : Int32, r_74 = (v_account (g_72.1 o)) → (((¬ r_74 = (r_18 - r_13) → w_L_leaves_J263 o q Q9 r_7 x_12 r_13 r_18 r_20 r_22 r_24 g_72) ∧
  (r_74 = (r_18 - r_13) → g_72.2 ≤ 2400 ∧ ∀ r_77 : Int32, r_77 = y_tryStock r_20 (g_72.1 o) → (((¬ r_77 = (r_24 - x_12) → w_L_leaves_J263 o q Q9 r_7 x_12 r_13 r_18 r_20 r_22 r_24 g_72) ∧
  (r_77 = (r_24 - x_12) → g_72.2 ≤ 2400 ∧ ∀ r_80 : Int32, r_80 = y_tryPaper 0 (g_72.1 o) → (((¬ r_80 = x_12 → w_L_leaves_J263 o q Q9 r_7 x_12 r_13 r_18 r_20 r_22 r_24 g_72) ∧
  (r_80 = x_12 → g_72.2 ≤ 2400 ∧ ∀ r_83 : Int32, r_83 = y_tryPaperDuty 0 (g_72.1 o) → (((¬ r_83 = r_13 → w_L_leaves_J263 o q Q9 r_7 x_12 r_13 r_18 r_20 r_22 r_24 g_72) ∧
  (r_83 = r_13 → g_72.2 ≤ 2400 ∧ ∀ r_86 : Int32, r_86 = y_tryPaperAge 0 (g_72.1 o) → (((¬ r_86 = 0 → w_L_leaves_J263 o q Q9 r_7 x_12 r_13 r_18 r_20 r_22 r_24 g_72) ∧
  (r_86 = 0 → g_72.2 ≤ 2400 ∧ ∀ r_89 : Int32, r_89 = (v_isOpenEntry r_7 (g_72.1 o)) → (((r_22 ≤ x_12 → w_L_leaves_J256 o q Q9 r_7 x_12 r_13 r_18 r_20 r_22 r_24 g_72 r_89 0) ∧
  (¬ r_22 ≤ x_12 → w_L_leaves_J256 o q Q9 r_7 x_12 r_13 r_18 r_20 r_22 r_24 g_72 r_89 1))))))))))))))))))))))))))))) ∧
  (¬ r_15 ≤ 0 → g.2 + 1 ≤ 2400 ∧ ∀ r_94 : Int32, r_94 = (z_tryWithdraw r_7 x_12 (g.1 o)).1 → ∀ g_96 : Gh, g_96 = gz g o (z_tryWithdraw r_7 x_12 (g.1 o)).2 → GI g_96 → (((¬ r_94 = -9999003 → Q9 0 g_96) ∧
  (r_94 = -9999003 → g_96.2 + 1 ≤ 2400 ∧ ∀ r_98 : Int32, r_98 = (z_tryWithdraw r_7 x_12 (g_96.1 q)).1 → ∀ g_100 : Gh, g_100 = gz g_96 q (z_tryWithdraw r_7 x_12 (g_96.1 q)).2 → GI g_100 → (((¬ r_98 = -9999003 → Q9 0 g_100) ∧
  (r_98 = -9999003 → Q9 1 g_100))))))))))))))))) ∧
  (r_1 = 0 → Q9 1 g)))
def rm_L_leaves : Room := { frames := 12, cells := 52, slots := 312, locals := 231 }
theorem hy_L_leaves : yL_leaves.cls = RL ∧ yL_leaves.cls ≠ "java/lang/invoke/MethodHandle" ∧ yL_leaves.cls ≠ "java/lang/invoke/VarHandle" ∧ (parseMethodDescriptor yL_leaves.desc).map (fun d => d.parameters.length) = some 3 := by decide +kernel
set_option maxRecDepth 100000 in
set_option maxHeartbeats 4000000 in
theorem c_L_leaves {l : Launch} {D : va_G} {cA : Nat → ClassId} {ad : Bool → Nat → Nat → Nat} {A : Bool → Nat → Prop} (ha : AG ad A) (hst : l.stackTraces = false) (o : Bool) (q : Bool) (p2 : Int32) (g : Gh) (Q9 : Int32 → Gh → Prop) (h : w_L_leaves o q p2 g Q9) : Met l yL_leaves (.code yL_leaves cL_leaves 12 (some .boolean) :: TG) rm_L_leaves (PcG D cA ad A [.ref (ad o 0 1), .ref (ad q 0 1), .int p2] g) (QcG D cA ad A Q9) 52 312 (AU A) := by
  unfold w_L_leaves at h
  refine enterGZ pl_L rfl (Nat.le_of_ble_eq_true rfl) ?_
  intro p e s m args below meth c QQ X hW hZ hE
  refine q_aload_n (j := 0) X dL_leaves_0 rfl rfl ?_
  obtain ⟨k_2, h⟩ := h
  refine qG_ask X hW hZ ha (fun _ h => h) YT_ok o (val := (v_entries (g.1 o))) (Qp := (fun mo r m1 => r = (v_entries (g.1 o)) ∧ mo = m1)) [] [] rfl rfl (Nat.le_of_ble_eq_true rfl) dL_leaves_1 ⟨(Nat.le_of_ble_eq_true rfl), (Nat.le_of_ble_eq_true rfl)⟩ k_2 (fun mo hmo => c_X9_entries (ha.1 o)  mo _ (n_entries hmo.rs hmo.inv  _ rfl)) (fun mo r m1 hr h => ⟨h.1, by rw [← h.2]; exact hr⟩) rfl rfl (gV kw_6_130 kw_6_131 kw_6_132 kw_1_1 kw_6_133) hy_X9_entries ⟨(Nat.le_of_ble_eq_true rfl), (Nat.le_of_ble_eq_true rfl)⟩ ?_
  refine q_topi (fun r_1 er_1 => ?_)
  have h := h r_1 er_1
  refine q_if_ne (tgt := 9) X dL_leaves_4 (by decide) (fun c_3 => ?_) (fun c_3 => ?_)
  · have h := h.1 c_3
    refine q_aload_n (j := 0) X dL_leaves_9 rfl rfl ?_
    refine q_bipush (v := 15) X dL_leaves_10 (by decide) ?_
    refine q_iload_n (j := 2) X dL_leaves_12 rfl rfl ?_
    refine q_aload_n (j := 0) X dL_leaves_13 rfl rfl ?_
    obtain ⟨k_5, h⟩ := h
    refine qG_ask X hW hZ ha (fun _ h => h) YT_ok o (val := (v_entries (g.1 o))) (Qp := (fun mo r m1 => r = (v_entries (g.1 o)) ∧ mo = m1)) [] [.int p2, .int 15, .ref (ad o 0 1)] rfl rfl (Nat.le_of_ble_eq_true rfl) dL_leaves_14 ⟨(Nat.le_of_ble_eq_true rfl), (Nat.le_of_ble_eq_true rfl)⟩ k_5 (fun mo hmo => c_X9_entries (ha.1 o)  mo _ (n_entries hmo.rs hmo.inv  _ rfl)) (fun mo r m1 hr h => ⟨h.1, by rw [← h.2]; exact hr⟩) rfl rfl (gV kw_6_130 kw_6_131 kw_6_132 kw_1_1 kw_6_133) hy_X9_entries ⟨(Nat.le_of_ble_eq_true rfl), (Nat.le_of_ble_eq_true rfl)⟩ ?_
    refine q_topi (fun r_4 er_4 => ?_)
    have h := h r_4 er_4
    obtain ⟨c_6, h⟩ := h
    refine q_irem X dL_leaves_17 c_6 ?_
    refine q_iconst (v := 0) X dL_leaves_18 (by decide) ?_
    refine q_iconst (v := 0) X dL_leaves_19 (by decide) ?_
    obtain ⟨k_8, h⟩ := h
    refine qG_own X hW hZ (fun _ h => h) YT_ok [.ref (ad o 0 1), .int 15, .int (p2 - p2 / r_4 * r_4), .int 0, .int 0] [] rfl rfl (Nat.le_of_ble_eq_true rfl) dL_leaves_20 ⟨(Nat.le_of_ble_eq_true rfl), (Nat.le_of_ble_eq_true rfl)⟩ (k_C_15 ha hst o (p2 - p2 / r_4 * r_4) 0 0 g k_8) rfl rfl (gS kw_3_88 kw_3_89 kw_1_0 kw_3_90) hy_L_call.2 ⟨(Nat.le_of_ble_eq_true rfl), (Nat.le_of_ble_eq_true rfl)⟩ (fun r_7 g9 hq => ?_)
    obtain ⟨er_7, hq⟩ := hq
    rw [hq]
    have h := h r_7 er_7
    refine q_istore_n (lv' := [(3, .int r_7), (0, .ref (ad o 0 1)), (1, .ref (ad q 0 1)), (2, .int p2)]) X dL_leaves_23 rfl (by decide) rfl ?_
    refine q_iconst (v := 1) X dL_leaves_24 (by decide) ?_
    refine q_iload_n (j := 3) X dL_leaves_25 rfl rfl ?_
    refine q_bipush (v := 16) X dL_leaves_26 (by decide) ?_
    refine q_idiv X dL_leaves_28 (by decide) ?_
    refine q_aload_n (j := 1) X dL_leaves_29 rfl rfl ?_
    refine q_bipush (v := 17) X dL_leaves_30 (by decide) ?_
    refine q_iload_n (j := 0) X dL_leaves_32 rfl rfl ?_
    refine q_iconst (v := 0) X dL_leaves_33 (by decide) ?_
    refine q_iconst (v := 0) X dL_leaves_34 (by decide) ?_
    obtain ⟨k_10, h⟩ := h
    refine qG_own X hW hZ (fun _ h => h) YT_ok [.ref (ad o 0 1), .int 17, .int r_7, .int 0, .int 0] [.int (p2 / 16), .int 1] rfl rfl (Nat.le_of_ble_eq_true rfl) dL_leaves_35 ⟨(Nat.le_of_ble_eq_true rfl), (Nat.le_of_ble_eq_true rfl)⟩ (k_C_17 ha hst o r_7 0 0 g k_10) rfl rfl (gS kw_3_88 kw_3_89 kw_1_0 kw_3_90) hy_L_call.2 ⟨(Nat.le_of_ble_eq_true rfl), (Nat.le_of_ble_eq_true rfl)⟩ (fun r_9 g9 hq => ?_)
    obtain ⟨er_9, hq⟩ := hq
    rw [hq]
    have h := h r_9 er_9
    obtain ⟨c_11, h⟩ := h
    refine q_irem X dL_leaves_38 c_11 ?_
    refine q_iadd X dL_leaves_39 ?_
    refine q_topi (fun x_12 ex_12 => ?_)
    have h := h x_12 ex_12
    refine q_istore (lv' := [(4, .int x_12), (3, .int r_7), (0, .ref (ad o 0 1)), (1, .ref (ad q 0 1)), (2, .int p2)]) X dL_leaves_40 (by decide) rfl ?_
    refine q_aload_n (j := 2) X dL_leaves_42 rfl rfl ?_
    refine q_bipush (v := 21) X dL_leaves_43 (by decide) ?_
    refine q_iload_n (j := 1) X dL_leaves_45 rfl rfl ?_
    refine q_iload (j := 0) X dL_leaves_46 rfl ?_
    refine q_iconst (v := 0) X dL_leaves_48 (by decide) ?_
    obtain ⟨k_14, h⟩ := h
    refine qG_own X hW hZ (fun _ h => h) YT_ok [.ref (ad o 0 1), .int 21, .int r_7, .int x_12, .int 0] [] rfl rfl (Nat.le_of_ble_eq_true rfl) dL_leaves_49 ⟨(Nat.le_of_ble_eq_true rfl), (Nat.le_of_ble_eq_true rfl)⟩ (k_C_21 ha hst o r_7 x_12 0 g k_14) rfl rfl (gS kw_3_88 kw_3_89 kw_1_0 kw_3_90) hy_L_call.2 ⟨(Nat.le_of_ble_eq_true rfl), (Nat.le_of_ble_eq_true rfl)⟩ (fun r_13 g9 hq => ?_)
    obtain ⟨er_13, hq⟩ := hq
    rw [hq]
    have h := h r_13 er_13
    refine q_istore (lv' := [(5, .int r_13), (4, .int x_12), (3, .int r_7), (0, .ref (ad o 0 1)), (1, .ref (ad q 0 1)), (2, .int p2)]) X dL_leaves_52 (by decide) rfl ?_
    refine q_aload_n (j := 3) X dL_leaves_54 rfl rfl ?_
    refine q_bipush (v := 41) X dL_leaves_55 (by decide) ?_
    refine q_iload_n (j := 2) X dL_leaves_57 rfl rfl ?_
    refine q_iload (j := 1) X dL_leaves_58 rfl ?_
    refine q_iconst (v := 0) X dL_leaves_60 (by decide) ?_
    obtain ⟨k_16, h⟩ := h
    refine qG_own X hW hZ (fun _ h => h) YT_ok [.ref (ad o 0 1), .int 41, .int r_7, .int x_12, .int 0] [] rfl rfl (Nat.le_of_ble_eq_true rfl) dL_leaves_61 ⟨(Nat.le_of_ble_eq_true rfl), (Nat.le_of_ble_eq_true rfl)⟩ (k_C_41 ha hst o r_7 x_12 0 g k_16) rfl rfl (gS kw_3_88 kw_3_89 kw_1_0 kw_3_90) hy_L_call.2 ⟨(Nat.le_of_ble_eq_true rfl), (Nat.le_of_ble_eq_true rfl)⟩ (fun r_15 g9 hq => ?_)
    obtain ⟨er_15, hq⟩ := hq
    rw [hq]
    have h := h r_15 er_15
    refine q_if_le (tgt := 101) X dL_leaves_64 (by decide) (fun c_17 => ?_) (fun c_17 => ?_)
    · have h := h.1 c_17
      refine q_aload_n (j := 3) X dL_leaves_101 rfl rfl ?_
      obtain ⟨k_19, h⟩ := h
      refine qG_ask X hW hZ ha (fun _ h => h) YT_ok o (val := (v_account (g.1 o))) (Qp := (fun mo r m1 => r = (v_account (g.1 o)) ∧ mo = m1)) [] [] rfl rfl (Nat.le_of_ble_eq_true rfl) dL_leaves_102 ⟨(Nat.le_of_ble_eq_true rfl), (Nat.le_of_ble_eq_true rfl)⟩ k_19 (fun mo hmo => c_X9_account (ha.1 o)  mo _ (n_account hmo.rs hmo.inv  _ rfl)) (fun mo r m1 hr h => ⟨h.1, by rw [← h.2]; exact hr⟩) rfl rfl (gV kw_6_182 kw_6_183 kw_6_184 kw_1_1 kw_6_185) hy_X9_account ⟨(Nat.le_of_ble_eq_true rfl), (Nat.le_of_ble_eq_true rfl)⟩ ?_
      refine q_topi (fun r_18 er_18 => ?_)
      have h := h r_18 er_18
      refine q_istore (lv' := [(6, .int r_18), (5, .int r_13), (4, .int x_12), (3, .int r_7), (0, .ref (ad o 0 1)), (1, .ref (ad q 0 1)), (2, .int p2)]) X dL_leaves_105 (by decide) rfl ?_
      refine q_aload_n (j := 4) X dL_leaves_107 rfl rfl ?_
      refine q_bipush (v := 16) X dL_leaves_108 (by decide) ?_
      refine q_iload_n (j := 3) X dL_leaves_110 rfl rfl ?_
      refine q_iconst (v := 0) X dL_leaves_111 (by decide) ?_
      refine q_iconst (v := 0) X dL_leaves_112 (by decide) ?_
      obtain ⟨k_21, h⟩ := h
      refine qG_own X hW hZ (fun _ h => h) YT_ok [.ref (ad o 0 1), .int 16, .int r_7, .int 0, .int 0] [] rfl rfl (Nat.le_of_ble_eq_true rfl) dL_leaves_113 ⟨(Nat.le_of_ble_eq_true rfl), (Nat.le_of_ble_eq_true rfl)⟩ (k_C_16 ha hst o r_7 0 0 g k_21) rfl rfl (gS kw_3_88 kw_3_89 kw_1_0 kw_3_90) hy_L_call.2 ⟨(Nat.le_of_ble_eq_true rfl), (Nat.le_of_ble_eq_true rfl)⟩ (fun r_20 g9 hq => ?_)
      obtain ⟨er_20, hq⟩ := hq
      rw [hq]
      have h := h r_20 er_20
      refine q_istore (lv' := [(7, .int r_20), (6, .int r_18), (5, .int r_13), (4, .int x_12), (3, .int r_7), (0, .ref (ad o 0 1)), (1, .ref (ad q 0 1)), (2, .int p2)]) X dL_leaves_116 (by decide) rfl ?_
      refine q_aload_n (j := 5) X dL_leaves_118 rfl rfl ?_
      refine q_bipush (v := 17) X dL_leaves_119 (by decide) ?_
      refine q_iload_n (j := 4) X dL_leaves_121 rfl rfl ?_
      refine q_iconst (v := 0) X dL_leaves_122 (by decide) ?_
      refine q_iconst (v := 0) X dL_leaves_123 (by decide) ?_
      obtain ⟨k_23, h⟩ := h
      refine qG_own X hW hZ (fun _ h => h) YT_ok [.ref (ad o 0 1), .int 17, .int r_7, .int 0, .int 0] [] rfl rfl (Nat.le_of_ble_eq_true rfl) dL_leaves_124 ⟨(Nat.le_of_ble_eq_true rfl), (Nat.le_of_ble_eq_true rfl)⟩ (k_C_17 ha hst o r_7 0 0 g k_23) rfl rfl (gS kw_3_88 kw_3_89 kw_1_0 kw_3_90) hy_L_call.2 ⟨(Nat.le_of_ble_eq_true rfl), (Nat.le_of_ble_eq_true rfl)⟩ (fun r_22 g9 hq => ?_)
      obtain ⟨er_22, hq⟩ := hq
      rw [hq]
      have h := h r_22 er_22
      refine q_istore (lv' := [(8, .int r_22), (7, .int r_20), (6, .int r_18), (5, .int r_13), (4, .int x_12), (3, .int r_7), (0, .ref (ad o 0 1)), (1, .ref (ad q 0 1)), (2, .int p2)]) X dL_leaves_127 (by decide) rfl ?_
      refine q_aload_n (j := 6) X dL_leaves_129 rfl rfl ?_
      refine q_bipush (v := 39) X dL_leaves_130 (by decide) ?_
      refine q_iload (j := 1) X dL_leaves_132 rfl ?_
      refine q_iconst (v := 0) X dL_leaves_134 (by decide) ?_
      refine q_iconst (v := 0) X dL_leaves_135 (by decide) ?_
      obtain ⟨k_25, h⟩ := h
      refine qG_own X hW hZ (fun _ h => h) YT_ok [.ref (ad o 0 1), .int 39, .int r_20, .int 0, .int 0] [] rfl rfl (Nat.le_of_ble_eq_true rfl) dL_leaves_136 ⟨(Nat.le_of_ble_eq_true rfl), (Nat.le_of_ble_eq_true rfl)⟩ (k_C_39 ha hst o r_20 0 0 g k_25) rfl rfl (gS kw_3_88 kw_3_89 kw_1_0 kw_3_90) hy_L_call.2 ⟨(Nat.le_of_ble_eq_true rfl), (Nat.le_of_ble_eq_true rfl)⟩ (fun r_24 g9 hq => ?_)
      obtain ⟨er_24, hq⟩ := hq
      rw [hq]
      have h := h r_24 er_24
      refine q_istore (lv' := [(9, .int r_24), (8, .int r_22), (7, .int r_20), (6, .int r_18), (5, .int r_13), (4, .int x_12), (3, .int r_7), (0, .ref (ad o 0 1)), (1, .ref (ad q 0 1)), (2, .int p2)]) X dL_leaves_139 (by decide) rfl ?_
      refine q_aload_n (j := 7) X dL_leaves_141 rfl rfl ?_
      refine q_iconst (v := 0) X dL_leaves_142 (by decide) ?_
      refine q_iload_n (j := 6) X dL_leaves_143 rfl rfl ?_
      refine q_iload (j := 5) X dL_leaves_144 rfl ?_
      refine q_iconst (v := 0) X dL_leaves_146 (by decide) ?_
      obtain ⟨k_27, h⟩ := h
      refine qG_own X hW hZ (fun _ h => h) YT_ok [.ref (ad o 0 1), .int 0, .int r_7, .int x_12, .int 0] [] rfl rfl (Nat.le_of_ble_eq_true rfl) dL_leaves_147 ⟨(Nat.le_of_ble_eq_true rfl), (Nat.le_of_ble_eq_true rfl)⟩ (k_C_0 ha hst o r_7 x_12 0 g k_27) rfl rfl (gS kw_3_88 kw_3_89 kw_1_0 kw_3_90) hy_L_call.2 ⟨(Nat.le_of_ble_eq_true rfl), (Nat.le_of_ble_eq_true rfl)⟩ (fun r_26 g_28 hq => ?_)
      refine q_wi (fun hi => ?_)
      have h := h r_26 hq.1 g_28 hq.2 hi
      refine q_iload (j := 4) X dL_leaves_150 rfl ?_
      have J264 : ∀ (y_29 : Int32) (m_30 : Gh), w_L_leaves_J264 o q Q9 r_7 x_12 r_13 r_18 r_20 r_22 r_24 y_29 m_30 → V p l e rm_L_leaves s m args below meth c QQ 12 (AU A) 26 (6 * 26) (WY D cA ad YT m_30) 264 [(0, .ref (ad o 0 1)), (1, .ref (ad q 0 1)), (3, .int r_7), (4, .int x_12), (5, .int r_13), (6, .int r_18), (7, .int r_20), (8, .int r_22), (9, .int r_24)] [.int y_29] := by
        intro y_29 m_30 h
        unfold w_L_leaves_J264 at h
        refine q_istore (lv' := [(10, .int y_29), (0, .ref (ad o 0 1)), (1, .ref (ad q 0 1)), (3, .int r_7), (4, .int x_12), (5, .int r_13), (6, .int r_18), (7, .int r_20), (8, .int r_22), (9, .int r_24)]) X dL_leaves_264 (by decide) rfl ?_
        refine q_aload_n (j := 1) X dL_leaves_266 rfl rfl ?_
        refine q_bipush (v := 46) X dL_leaves_267 (by decide) ?_
        refine q_iconst (v := 0) X dL_leaves_269 (by decide) ?_
        refine q_iload (j := 4) X dL_leaves_270 rfl ?_
        refine q_iconst (v := 0) X dL_leaves_272 (by decide) ?_
        obtain ⟨k_32, h⟩ := h
        refine qG_own X hW hZ (fun _ h => h) YT_ok [.ref (ad o 0 1), .int 46, .int 0, .int x_12, .int 0] [] rfl rfl (Nat.le_of_ble_eq_true rfl) dL_leaves_273 ⟨(Nat.le_of_ble_eq_true rfl), (Nat.le_of_ble_eq_true rfl)⟩ (k_C_46 ha hst o 0 x_12 0 m_30 k_32) rfl rfl (gS kw_3_88 kw_3_89 kw_1_0 kw_3_90) hy_L_call.2 ⟨(Nat.le_of_ble_eq_true rfl), (Nat.le_of_ble_eq_true rfl)⟩ (fun r_31 g9 hq => ?_)
        obtain ⟨er_31, hq⟩ := hq
        rw [hq]
        have h := h r_31 er_31
        refine q_istore (lv' := [(11, .int r_31), (10, .int y_29), (0, .ref (ad o 0 1)), (1, .ref (ad q 0 1)), (3, .int r_7), (4, .int x_12), (5, .int r_13), (6, .int r_18), (7, .int r_20), (8, .int r_22), (9, .int r_24)]) X dL_leaves_276 (by decide) rfl ?_
        refine q_iload (j := 1) X dL_leaves_278 rfl ?_
        have J368 : ∀ (y_33 : Int32) (m_34 : Gh), w_L_leaves_J368 o q Q9 r_7 r_18 r_20 r_22 r_24 y_33 m_34 → V p l e rm_L_leaves s m args below meth c QQ 12 (AU A) 36 (6 * 36) (WY D cA ad YT m_34) 368 [(0, .ref (ad o 0 1)), (1, .ref (ad q 0 1)), (3, .int r_7), (6, .int r_18), (7, .int r_20), (8, .int r_22), (9, .int r_24)] [.int y_33] := by
          intro y_33 m_34 h
          unfold w_L_leaves_J368 at h
          refine q_istore (lv' := [(10, .int y_33), (0, .ref (ad o 0 1)), (1, .ref (ad q 0 1)), (3, .int r_7), (6, .int r_18), (7, .int r_20), (8, .int r_22), (9, .int r_24)]) X dL_leaves_368 (by decide) rfl ?_
          refine q_iload (j := 0) X dL_leaves_370 rfl ?_
          refine q_if_eq (tgt := 426) X dL_leaves_372 (by decide) (fun c_35 => ?_) (fun c_35 => ?_)
          · have h := h.1 c_35
            refine q_iconst (v := 0) X dL_leaves_426 (by decide) ?_
            exact hE _ _ _ _ _ _ dL_leaves_427 (by omega) (by omega) (Or.inl rfl) h
          · have h := h.2 c_35
            refine q_aload_n (j := 1) X dL_leaves_375 rfl rfl ?_
            refine q_aload_n (j := 2) X dL_leaves_376 rfl rfl ?_
            refine q_iconst (v := 2) X dL_leaves_377 (by decide) ?_
            refine qG_own X hW hZ (fun _ h => h) YT_ok [.ref (ad o 0 1), .ref (ad q 0 1), .int 2] [] rfl rfl (Nat.le_of_ble_eq_true rfl) dL_leaves_378 ⟨(Nat.le_of_ble_eq_true rfl), (Nat.le_of_ble_eq_true rfl)⟩ (c_L_undoes ha hst o q 2 m_34 _ h) rfl rfl (gS kw_7_7 kw_7_8 kw_1_0 kw_7_9) hy_L_undoes.2 ⟨(Nat.le_of_ble_eq_true rfl), (Nat.le_of_ble_eq_true rfl)⟩ (fun r_36 g_37 h => ?_)
            refine q_if_eq (tgt := 426) X dL_leaves_381 (by decide) (fun c_38 => ?_) (fun c_38 => ?_)
            · have h := h.1 c_38
              refine q_iconst (v := 0) X dL_leaves_426 (by decide) ?_
              exact hE _ _ _ _ _ _ dL_leaves_427 (by omega) (by omega) (Or.inl rfl) h
            · have h := h.2 c_38
              refine q_aload_n (j := 1) X dL_leaves_384 rfl rfl ?_
              obtain ⟨k_40, h⟩ := h
              refine qG_ask X hW hZ ha (fun _ h => h) YT_ok o (val := (v_account (g_37.1 o))) (Qp := (fun mo r m1 => r = (v_account (g_37.1 o)) ∧ mo = m1)) [] [] rfl rfl (Nat.le_of_ble_eq_true rfl) dL_leaves_385 ⟨(Nat.le_of_ble_eq_true rfl), (Nat.le_of_ble_eq_true rfl)⟩ k_40 (fun mo hmo => c_X9_account (ha.1 o)  mo _ (n_account hmo.rs hmo.inv  _ rfl)) (fun mo r m1 hr h => ⟨h.1, by rw [← h.2]; exact hr⟩) rfl rfl (gV kw_6_182 kw_6_183 kw_6_184 kw_1_1 kw_6_185) hy_X9_account ⟨(Nat.le_of_ble_eq_true rfl), (Nat.le_of_ble_eq_true rfl)⟩ ?_
              refine q_topi (fun r_39 er_39 => ?_)
              have h := h r_39 er_39
              refine q_iload (j := 4) X dL_leaves_388 rfl ?_
              refine q_icmp_ne (tgt := 426) X dL_leaves_390 (by decide) (fun c_41 => ?_) (fun c_41 => ?_)
              · have h := h.1 c_41
                refine q_iconst (v := 0) X dL_leaves_426 (by decide) ?_
                exact hE _ _ _ _ _ _ dL_leaves_427 (by omega) (by omega) (Or.inl rfl) h
              · have h := h.2 c_41
                refine q_aload_n (j := 1) X dL_leaves_393 rfl rfl ?_
                refine q_bipush (v := 17) X dL_leaves_394 (by decide) ?_
                refine q_iload_n (j := 3) X dL_leaves_396 rfl rfl ?_
                refine q_iconst (v := 0) X dL_leaves_397 (by decide) ?_
                refine q_iconst (v := 0) X dL_leaves_398 (by decide) ?_
                obtain ⟨k_43, h⟩ := h
                refine qG_own X hW hZ (fun _ h => h) YT_ok [.ref (ad o 0 1), .int 17, .int r_7, .int 0, .int 0] [] rfl rfl (Nat.le_of_ble_eq_true rfl) dL_leaves_399 ⟨(Nat.le_of_ble_eq_true rfl), (Nat.le_of_ble_eq_true rfl)⟩ (k_C_17 ha hst o r_7 0 0 g_37 k_43) rfl rfl (gS kw_3_88 kw_3_89 kw_1_0 kw_3_90) hy_L_call.2 ⟨(Nat.le_of_ble_eq_true rfl), (Nat.le_of_ble_eq_true rfl)⟩ (fun r_42 g9 hq => ?_)
                obtain ⟨er_42, hq⟩ := hq
                rw [hq]
                have h := h r_42 er_42
                refine q_iload (j := 6) X dL_leaves_402 rfl ?_
                refine q_icmp_ne (tgt := 426) X dL_leaves_404 (by decide) (fun c_44 => ?_) (fun c_44 => ?_)
                · have h := h.1 c_44
                  refine q_iconst (v := 0) X dL_leaves_426 (by decide) ?_
                  exact hE _ _ _ _ _ _ dL_leaves_427 (by omega) (by omega) (Or.inl rfl) h
                · have h := h.2 c_44
                  refine q_aload_n (j := 1) X dL_leaves_407 rfl rfl ?_
                  refine q_bipush (v := 39) X dL_leaves_408 (by decide) ?_
                  refine q_iload (j := 5) X dL_leaves_410 rfl ?_
                  refine q_iconst (v := 0) X dL_leaves_412 (by decide) ?_
                  refine q_iconst (v := 0) X dL_leaves_413 (by decide) ?_
                  obtain ⟨k_46, h⟩ := h
                  refine qG_own X hW hZ (fun _ h => h) YT_ok [.ref (ad o 0 1), .int 39, .int r_20, .int 0, .int 0] [] rfl rfl (Nat.le_of_ble_eq_true rfl) dL_leaves_414 ⟨(Nat.le_of_ble_eq_true rfl), (Nat.le_of_ble_eq_true rfl)⟩ (k_C_39 ha hst o r_20 0 0 g_37 k_46) rfl rfl (gS kw_3_88 kw_3_89 kw_1_0 kw_3_90) hy_L_call.2 ⟨(Nat.le_of_ble_eq_true rfl), (Nat.le_of_ble_eq_true rfl)⟩ (fun r_45 g9 hq => ?_)
                  obtain ⟨er_45, hq⟩ := hq
                  rw [hq]
                  have h := h r_45 er_45
                  refine q_iload (j := 7) X dL_leaves_417 rfl ?_
                  refine q_icmp_ne (tgt := 426) X dL_leaves_419 (by decide) (fun c_47 => ?_) (fun c_47 => ?_)
                  · have h := h.1 c_47
                    refine q_iconst (v := 0) X dL_leaves_426 (by decide) ?_
                    exact hE _ _ _ _ _ _ dL_leaves_427 (by omega) (by omega) (Or.inl rfl) h
                  · have h := h.2 c_47
                    refine q_iconst (v := 1) X dL_leaves_422 (by decide) ?_
                    refine q_goto (tgt := 427) X dL_leaves_423 (by decide) ?_
                    exact hE _ _ _ _ _ _ dL_leaves_427 (by omega) (by omega) (Or.inr rfl) h
        have J367 : ∀ (m_48 : Gh), w_L_leaves_J367 o q Q9 r_7 r_18 r_20 r_22 r_24 m_48 → V p l e rm_L_leaves s m args below meth c QQ 12 (AU A) 36 (6 * 36) (WY D cA ad YT m_48) 367 [(0, .ref (ad o 0 1)), (1, .ref (ad q 0 1)), (3, .int r_7), (6, .int r_18), (7, .int r_20), (8, .int r_22), (9, .int r_24)] [] := by
          intro m_48 h
          unfold w_L_leaves_J367 at h
          refine q_iconst (v := 0) X dL_leaves_367 (by decide) ?_
          refine q_sub [0, 1, 2, 3, 4, 5, 6] rfl ?_
          refine q_w (c2 := 36) (n2 := (6 * 36)) (by omega) (by omega) ?_
          exact J368 0 m_48 h
        refine q_if_eq (tgt := 367) X dL_leaves_280 (by decide) (fun c_49 => ?_) (fun c_49 => ?_)
        · have h := h.1 c_49
          refine q_sub [2, 3, 4, 7, 8, 9, 10] rfl ?_
          refine q_w (c2 := 36) (n2 := (6 * 36)) (by omega) (by omega) ?_
          exact J367 m_30 h
        · have h := h.2 c_49
          refine q_iload (j := 0) X dL_leaves_283 rfl ?_
          refine q_iload (j := 6) X dL_leaves_285 rfl ?_
          refine q_bipush (v := 9) X dL_leaves_287 (by decide) ?_
          refine q_imul X dL_leaves_289 ?_
          refine q_bipush (v := 10) X dL_leaves_290 (by decide) ?_
          refine q_idiv X dL_leaves_292 (by decide) ?_
          refine q_icmp_ne (tgt := 367) X dL_leaves_293 (by decide) (fun c_50 => ?_) (fun c_50 => ?_)
          · have h := h.1 c_50
            refine q_sub [2, 3, 4, 7, 8, 9, 10] rfl ?_
            refine q_w (c2 := 36) (n2 := (6 * 36)) (by omega) (by omega) ?_
            exact J367 m_30 h
          · have h := h.2 c_50
            refine q_aload_n (j := 2) X dL_leaves_296 rfl rfl ?_
            refine q_iconst (v := 2) X dL_leaves_297 (by decide) ?_
            refine q_iconst (v := 0) X dL_leaves_298 (by decide) ?_
            refine q_iload (j := 5) X dL_leaves_299 rfl ?_
            refine q_iconst (v := 0) X dL_leaves_301 (by decide) ?_
            obtain ⟨k_52, h⟩ := h
            refine qG_own X hW hZ (fun _ h => h) YT_ok [.ref (ad o 0 1), .int 2, .int 0, .int x_12, .int 0] [] rfl rfl (Nat.le_of_ble_eq_true rfl) dL_leaves_302 ⟨(Nat.le_of_ble_eq_true rfl), (Nat.le_of_ble_eq_true rfl)⟩ (k_C_2 ha hst o 0 x_12 0 m_30 k_52) rfl rfl (gS kw_3_88 kw_3_89 kw_1_0 kw_3_90) hy_L_call.2 ⟨(Nat.le_of_ble_eq_true rfl), (Nat.le_of_ble_eq_true rfl)⟩ (fun r_51 g_53 hq => ?_)
            refine q_wi (fun hi => ?_)
            have h := h r_51 hq.1 g_53 hq.2 hi
            refine q_iload (j := 0) X dL_leaves_305 rfl ?_
            refine q_icmp_ne (tgt := 367) X dL_leaves_307 (by decide) (fun c_54 => ?_) (fun c_54 => ?_)
            · have h := h.1 c_54
              refine q_sub [2, 3, 4, 7, 8, 9, 10] rfl ?_
              refine q_w (c2 := 36) (n2 := (6 * 36)) (by omega) (by omega) ?_
              exact J367 g_53 h
            · have h := h.2 c_54
              refine q_aload_n (j := 3) X dL_leaves_310 rfl rfl ?_
              refine q_iconst (v := 2) X dL_leaves_311 (by decide) ?_
              refine q_iconst (v := 0) X dL_leaves_312 (by decide) ?_
              refine q_iload (j := 5) X dL_leaves_313 rfl ?_
              refine q_iconst (v := 0) X dL_leaves_315 (by decide) ?_
              obtain ⟨k_56, h⟩ := h
              refine qG_own X hW hZ (fun _ h => h) YT_ok [.ref (ad q 0 1), .int 2, .int 0, .int x_12, .int 0] [] rfl rfl (Nat.le_of_ble_eq_true rfl) dL_leaves_316 ⟨(Nat.le_of_ble_eq_true rfl), (Nat.le_of_ble_eq_true rfl)⟩ (k_C_2 ha hst q 0 x_12 0 g_53 k_56) rfl rfl (gS kw_3_88 kw_3_89 kw_1_0 kw_3_90) hy_L_call.2 ⟨(Nat.le_of_ble_eq_true rfl), (Nat.le_of_ble_eq_true rfl)⟩ (fun r_55 g_57 hq => ?_)
              refine q_wi (fun hi => ?_)
              have h := h r_55 hq.1 g_57 hq.2 hi
              refine q_iload (j := 0) X dL_leaves_319 rfl ?_
              refine q_icmp_ne (tgt := 367) X dL_leaves_321 (by decide) (fun c_58 => ?_) (fun c_58 => ?_)
              · have h := h.1 c_58
                refine q_sub [2, 3, 4, 7, 8, 9, 10] rfl ?_
                refine q_w (c2 := 36) (n2 := (6 * 36)) (by omega) (by omega) ?_
                exact J367 g_57 h
              · have h := h.2 c_58
                refine q_aload_n (j := 2) X dL_leaves_324 rfl rfl ?_
                obtain ⟨k_60, h⟩ := h
                refine qG_ask X hW hZ ha (fun _ h => h) YT_ok o (val := (v_account (g_57.1 o))) (Qp := (fun mo r m1 => r = (v_account (g_57.1 o)) ∧ mo = m1)) [] [] rfl rfl (Nat.le_of_ble_eq_true rfl) dL_leaves_325 ⟨(Nat.le_of_ble_eq_true rfl), (Nat.le_of_ble_eq_true rfl)⟩ k_60 (fun mo hmo => c_X9_account (ha.1 o)  mo _ (n_account hmo.rs hmo.inv  _ rfl)) (fun mo r m1 hr h => ⟨h.1, by rw [← h.2]; exact hr⟩) rfl rfl (gV kw_6_182 kw_6_183 kw_6_184 kw_1_1 kw_6_185) hy_X9_account ⟨(Nat.le_of_ble_eq_true rfl), (Nat.le_of_ble_eq_true rfl)⟩ ?_
                refine q_topi (fun r_59 er_59 => ?_)
                have h := h r_59 er_59
                refine q_iload (j := 7) X dL_leaves_328 rfl ?_
                refine q_iload (j := 6) X dL_leaves_330 rfl ?_
                refine q_isub X dL_leaves_332 ?_
                refine q_iload (j := 0) X dL_leaves_333 rfl ?_
                refine q_iadd X dL_leaves_335 ?_
                refine q_icmp_ne (tgt := 367) X dL_leaves_336 (by decide) (fun c_61 => ?_) (fun c_61 => ?_)
                · have h := h.1 c_61
                  refine q_sub [2, 3, 4, 7, 8, 9, 10] rfl ?_
                  refine q_w (c2 := 36) (n2 := (6 * 36)) (by omega) (by omega) ?_
                  exact J367 g_57 h
                · have h := h.2 c_61
                  refine q_aload_n (j := 2) X dL_leaves_339 rfl rfl ?_
                  refine q_bipush (v := 28) X dL_leaves_340 (by decide) ?_
                  refine q_iconst (v := 0) X dL_leaves_342 (by decide) ?_
                  refine q_iconst (v := 0) X dL_leaves_343 (by decide) ?_
                  refine q_iconst (v := 0) X dL_leaves_344 (by decide) ?_
                  obtain ⟨k_63, h⟩ := h
                  refine qG_own X hW hZ (fun _ h => h) YT_ok [.ref (ad o 0 1), .int 28, .int 0, .int 0, .int 0] [] rfl rfl (Nat.le_of_ble_eq_true rfl) dL_leaves_345 ⟨(Nat.le_of_ble_eq_true rfl), (Nat.le_of_ble_eq_true rfl)⟩ (k_C_28 ha hst o 0 0 0 g_57 k_63) rfl rfl (gS kw_3_88 kw_3_89 kw_1_0 kw_3_90) hy_L_call.2 ⟨(Nat.le_of_ble_eq_true rfl), (Nat.le_of_ble_eq_true rfl)⟩ (fun r_62 g9 hq => ?_)
                  obtain ⟨er_62, hq⟩ := hq
                  rw [hq]
                  have h := h r_62 er_62
                  refine q_if_ne (tgt := 367) X dL_leaves_348 (by decide) (fun c_64 => ?_) (fun c_64 => ?_)
                  · have h := h.1 c_64
                    refine q_sub [2, 3, 4, 7, 8, 9, 10] rfl ?_
                    refine q_w (c2 := 36) (n2 := (6 * 36)) (by omega) (by omega) ?_
                    exact J367 g_57 h
                  · have h := h.2 c_64
                    refine q_aload_n (j := 2) X dL_leaves_351 rfl rfl ?_
                    refine q_bipush (v := 29) X dL_leaves_352 (by decide) ?_
                    refine q_iconst (v := 0) X dL_leaves_354 (by decide) ?_
                    refine q_iconst (v := 0) X dL_leaves_355 (by decide) ?_
                    refine q_iconst (v := 0) X dL_leaves_356 (by decide) ?_
                    obtain ⟨k_66, h⟩ := h
                    refine qG_own X hW hZ (fun _ h => h) YT_ok [.ref (ad o 0 1), .int 29, .int 0, .int 0, .int 0] [] rfl rfl (Nat.le_of_ble_eq_true rfl) dL_leaves_357 ⟨(Nat.le_of_ble_eq_true rfl), (Nat.le_of_ble_eq_true rfl)⟩ (k_C_29 ha hst o 0 0 0 g_57 k_66) rfl rfl (gS kw_3_88 kw_3_89 kw_1_0 kw_3_90) hy_L_call.2 ⟨(Nat.le_of_ble_eq_true rfl), (Nat.le_of_ble_eq_true rfl)⟩ (fun r_65 g9 hq => ?_)
                    obtain ⟨er_65, hq⟩ := hq
                    rw [hq]
                    have h := h r_65 er_65
                    refine q_if_ne (tgt := 367) X dL_leaves_360 (by decide) (fun c_67 => ?_) (fun c_67 => ?_)
                    · have h := h.1 c_67
                      refine q_sub [2, 3, 4, 7, 8, 9, 10] rfl ?_
                      refine q_w (c2 := 36) (n2 := (6 * 36)) (by omega) (by omega) ?_
                      exact J367 g_57 h
                    · have h := h.2 c_67
                      refine q_iconst (v := 1) X dL_leaves_363 (by decide) ?_
                      refine q_goto (tgt := 368) X dL_leaves_364 (by decide) ?_
                      refine q_sub [2, 3, 4, 7, 8, 9, 10] rfl ?_
                      refine q_w (c2 := 36) (n2 := (6 * 36)) (by omega) (by omega) ?_
                      exact J368 1 g_57 h
      have J263 : ∀ (m_68 : Gh), w_L_leaves_J263 o q Q9 r_7 x_12 r_13 r_18 r_20 r_22 r_24 m_68 → V p l e rm_L_leaves s m args below meth c QQ 12 (AU A) 26 (6 * 26) (WY D cA ad YT m_68) 263 [(0, .ref (ad o 0 1)), (1, .ref (ad q 0 1)), (3, .int r_7), (4, .int x_12), (5, .int r_13), (6, .int r_18), (7, .int r_20), (8, .int r_22), (9, .int r_24)] [] := by
        intro m_68 h
        unfold w_L_leaves_J263 at h
        refine q_iconst (v := 0) X dL_leaves_263 (by decide) ?_
        refine q_sub [0, 1, 2, 3, 4, 5, 6, 7, 8] rfl ?_
        refine q_w (c2 := 26) (n2 := (6 * 26)) (by omega) (by omega) ?_
        exact J264 0 m_68 h
      refine q_icmp_ne (tgt := 263) X dL_leaves_152 (by decide) (fun c_69 => ?_) (fun c_69 => ?_)
      · have h := h.1 c_69
        refine q_sub [7, 8, 6, 5, 4, 3, 2, 1, 0] rfl ?_
        refine q_w (c2 := 26) (n2 := (6 * 26)) (by omega) (by omega) ?_
        exact J263 g_28 h
      · have h := h.2 c_69
        refine q_aload_n (j := 8) X dL_leaves_155 rfl rfl ?_
        refine q_iconst (v := 0) X dL_leaves_156 (by decide) ?_
        refine q_iload_n (j := 6) X dL_leaves_157 rfl rfl ?_
        refine q_iload (j := 5) X dL_leaves_158 rfl ?_
        refine q_iconst (v := 0) X dL_leaves_160 (by decide) ?_
        obtain ⟨k_71, h⟩ := h
        refine qG_own X hW hZ (fun _ h => h) YT_ok [.ref (ad q 0 1), .int 0, .int r_7, .int x_12, .int 0] [] rfl rfl (Nat.le_of_ble_eq_true rfl) dL_leaves_161 ⟨(Nat.le_of_ble_eq_true rfl), (Nat.le_of_ble_eq_true rfl)⟩ (k_C_0 ha hst q r_7 x_12 0 g_28 k_71) rfl rfl (gS kw_3_88 kw_3_89 kw_1_0 kw_3_90) hy_L_call.2 ⟨(Nat.le_of_ble_eq_true rfl), (Nat.le_of_ble_eq_true rfl)⟩ (fun r_70 g_72 hq => ?_)
        refine q_wi (fun hi => ?_)
        have h := h r_70 hq.1 g_72 hq.2 hi
        refine q_iload (j := 4) X dL_leaves_164 rfl ?_
        refine q_icmp_ne (tgt := 263) X dL_leaves_166 (by decide) (fun c_73 => ?_) (fun c_73 => ?_)
        · have h := h.1 c_73
          refine q_sub [7, 8, 6, 5, 4, 3, 2, 1, 0] rfl ?_
          refine q_w (c2 := 26) (n2 := (6 * 26)) (by omega) (by omega) ?_
          exact J263 g_72 h
        · have h := h.2 c_73
          refine q_aload_n (j := 7) X dL_leaves_169 rfl rfl ?_
          obtain ⟨k_75, h⟩ := h
          refine qG_ask X hW hZ ha (fun _ h => h) YT_ok o (val := (v_account (g_72.1 o))) (Qp := (fun mo r m1 => r = (v_account (g_72.1 o)) ∧ mo = m1)) [] [] rfl rfl (Nat.le_of_ble_eq_true rfl) dL_leaves_170 ⟨(Nat.le_of_ble_eq_true rfl), (Nat.le_of_ble_eq_true rfl)⟩ k_75 (fun mo hmo => c_X9_account (ha.1 o)  mo _ (n_account hmo.rs hmo.inv  _ rfl)) (fun mo r m1 hr h => ⟨h.1, by rw [← h.2]; exact hr⟩) rfl rfl (gV kw_6_182 kw_6_183 kw_6_184 kw_1_1 kw_6_185) hy_X9_account ⟨(Nat.le_of_ble_eq_true rfl), (Nat.le_of_ble_eq_true rfl)⟩ ?_
          refine q_topi (fun r_74 er_74 => ?_)
          have h := h r_74 er_74
          refine q_iload (j := 3) X dL_leaves_173 rfl ?_
          refine q_iload (j := 4) X dL_leaves_175 rfl ?_
          refine q_isub X dL_leaves_177 ?_
          refine q_icmp_ne (tgt := 263) X dL_leaves_178 (by decide) (fun c_76 => ?_) (fun c_76 => ?_)
          · have h := h.1 c_76
            refine q_sub [7, 8, 6, 5, 4, 3, 2, 1, 0] rfl ?_
            refine q_w (c2 := 26) (n2 := (6 * 26)) (by omega) (by omega) ?_
            exact J263 g_72 h
          · have h := h.2 c_76
            refine q_aload_n (j := 7) X dL_leaves_181 rfl rfl ?_
            refine q_bipush (v := 39) X dL_leaves_182 (by decide) ?_
            refine q_iload (j := 2) X dL_leaves_184 rfl ?_
            refine q_iconst (v := 0) X dL_leaves_186 (by decide) ?_
            refine q_iconst (v := 0) X dL_leaves_187 (by decide) ?_
            obtain ⟨k_78, h⟩ := h
            refine qG_own X hW hZ (fun _ h => h) YT_ok [.ref (ad o 0 1), .int 39, .int r_20, .int 0, .int 0] [] rfl rfl (Nat.le_of_ble_eq_true rfl) dL_leaves_188 ⟨(Nat.le_of_ble_eq_true rfl), (Nat.le_of_ble_eq_true rfl)⟩ (k_C_39 ha hst o r_20 0 0 g_72 k_78) rfl rfl (gS kw_3_88 kw_3_89 kw_1_0 kw_3_90) hy_L_call.2 ⟨(Nat.le_of_ble_eq_true rfl), (Nat.le_of_ble_eq_true rfl)⟩ (fun r_77 g9 hq => ?_)
            obtain ⟨er_77, hq⟩ := hq
            rw [hq]
            have h := h r_77 er_77
            refine q_iload (j := 0) X dL_leaves_191 rfl ?_
            refine q_iload (j := 5) X dL_leaves_193 rfl ?_
            refine q_isub X dL_leaves_195 ?_
            refine q_icmp_ne (tgt := 263) X dL_leaves_196 (by decide) (fun c_79 => ?_) (fun c_79 => ?_)
            · have h := h.1 c_79
              refine q_sub [7, 8, 6, 5, 4, 3, 2, 1, 0] rfl ?_
              refine q_w (c2 := 26) (n2 := (6 * 26)) (by omega) (by omega) ?_
              exact J263 g_72 h
            · have h := h.2 c_79
              refine q_aload_n (j := 7) X dL_leaves_199 rfl rfl ?_
              refine q_bipush (v := 28) X dL_leaves_200 (by decide) ?_
              refine q_iconst (v := 0) X dL_leaves_202 (by decide) ?_
              refine q_iconst (v := 0) X dL_leaves_203 (by decide) ?_
              refine q_iconst (v := 0) X dL_leaves_204 (by decide) ?_
              obtain ⟨k_81, h⟩ := h
              refine qG_own X hW hZ (fun _ h => h) YT_ok [.ref (ad o 0 1), .int 28, .int 0, .int 0, .int 0] [] rfl rfl (Nat.le_of_ble_eq_true rfl) dL_leaves_205 ⟨(Nat.le_of_ble_eq_true rfl), (Nat.le_of_ble_eq_true rfl)⟩ (k_C_28 ha hst o 0 0 0 g_72 k_81) rfl rfl (gS kw_3_88 kw_3_89 kw_1_0 kw_3_90) hy_L_call.2 ⟨(Nat.le_of_ble_eq_true rfl), (Nat.le_of_ble_eq_true rfl)⟩ (fun r_80 g9 hq => ?_)
              obtain ⟨er_80, hq⟩ := hq
              rw [hq]
              have h := h r_80 er_80
              refine q_iload (j := 5) X dL_leaves_208 rfl ?_
              refine q_icmp_ne (tgt := 263) X dL_leaves_210 (by decide) (fun c_82 => ?_) (fun c_82 => ?_)
              · have h := h.1 c_82
                refine q_sub [7, 8, 6, 5, 4, 3, 2, 1, 0] rfl ?_
                refine q_w (c2 := 26) (n2 := (6 * 26)) (by omega) (by omega) ?_
                exact J263 g_72 h
              · have h := h.2 c_82
                refine q_aload_n (j := 7) X dL_leaves_213 rfl rfl ?_
                refine q_bipush (v := 29) X dL_leaves_214 (by decide) ?_
                refine q_iconst (v := 0) X dL_leaves_216 (by decide) ?_
                refine q_iconst (v := 0) X dL_leaves_217 (by decide) ?_
                refine q_iconst (v := 0) X dL_leaves_218 (by decide) ?_
                obtain ⟨k_84, h⟩ := h
                refine qG_own X hW hZ (fun _ h => h) YT_ok [.ref (ad o 0 1), .int 29, .int 0, .int 0, .int 0] [] rfl rfl (Nat.le_of_ble_eq_true rfl) dL_leaves_219 ⟨(Nat.le_of_ble_eq_true rfl), (Nat.le_of_ble_eq_true rfl)⟩ (k_C_29 ha hst o 0 0 0 g_72 k_84) rfl rfl (gS kw_3_88 kw_3_89 kw_1_0 kw_3_90) hy_L_call.2 ⟨(Nat.le_of_ble_eq_true rfl), (Nat.le_of_ble_eq_true rfl)⟩ (fun r_83 g9 hq => ?_)
                obtain ⟨er_83, hq⟩ := hq
                rw [hq]
                have h := h r_83 er_83
                refine q_iload (j := 4) X dL_leaves_222 rfl ?_
                refine q_icmp_ne (tgt := 263) X dL_leaves_224 (by decide) (fun c_85 => ?_) (fun c_85 => ?_)
                · have h := h.1 c_85
                  refine q_sub [7, 8, 6, 5, 4, 3, 2, 1, 0] rfl ?_
                  refine q_w (c2 := 26) (n2 := (6 * 26)) (by omega) (by omega) ?_
                  exact J263 g_72 h
                · have h := h.2 c_85
                  refine q_aload_n (j := 7) X dL_leaves_227 rfl rfl ?_
                  refine q_bipush (v := 30) X dL_leaves_228 (by decide) ?_
                  refine q_iconst (v := 0) X dL_leaves_230 (by decide) ?_
                  refine q_iconst (v := 0) X dL_leaves_231 (by decide) ?_
                  refine q_iconst (v := 0) X dL_leaves_232 (by decide) ?_
                  obtain ⟨k_87, h⟩ := h
                  refine qG_own X hW hZ (fun _ h => h) YT_ok [.ref (ad o 0 1), .int 30, .int 0, .int 0, .int 0] [] rfl rfl (Nat.le_of_ble_eq_true rfl) dL_leaves_233 ⟨(Nat.le_of_ble_eq_true rfl), (Nat.le_of_ble_eq_true rfl)⟩ (k_C_30 ha hst o 0 0 0 g_72 k_87) rfl rfl (gS kw_3_88 kw_3_89 kw_1_0 kw_3_90) hy_L_call.2 ⟨(Nat.le_of_ble_eq_true rfl), (Nat.le_of_ble_eq_true rfl)⟩ (fun r_86 g9 hq => ?_)
                  obtain ⟨er_86, hq⟩ := hq
                  rw [hq]
                  have h := h r_86 er_86
                  refine q_if_ne (tgt := 263) X dL_leaves_236 (by decide) (fun c_88 => ?_) (fun c_88 => ?_)
                  · have h := h.1 c_88
                    refine q_sub [7, 8, 6, 5, 4, 3, 2, 1, 0] rfl ?_
                    refine q_w (c2 := 26) (n2 := (6 * 26)) (by omega) (by omega) ?_
                    exact J263 g_72 h
                  · have h := h.2 c_88
                    refine q_aload_n (j := 7) X dL_leaves_239 rfl rfl ?_
                    refine q_iload_n (j := 6) X dL_leaves_240 rfl rfl ?_
                    obtain ⟨k_90, h⟩ := h
                    refine qG_ask X hW hZ ha (fun _ h => h) YT_ok o (val := (v_isOpenEntry r_7 (g_72.1 o))) (Qp := (fun mo r m1 => r = (v_isOpenEntry r_7 (g_72.1 o)) ∧ mo = m1)) [.int r_7] [] rfl rfl (Nat.le_of_ble_eq_true rfl) dL_leaves_241 ⟨(Nat.le_of_ble_eq_true rfl), (Nat.le_of_ble_eq_true rfl)⟩ k_90 (fun mo hmo => c_X9_isOpenEntry (ha.1 o) r_7 mo _ (n_isOpenEntry hmo.rs hmo.inv r_7 _ rfl)) (fun mo r m1 hr h => ⟨h.1, by rw [← h.2]; exact hr⟩) rfl rfl (gV kw_6_190 kw_6_191 kw_6_192 kw_1_1 kw_6_193) hy_X9_isOpenEntry ⟨(Nat.le_of_ble_eq_true rfl), (Nat.le_of_ble_eq_true rfl)⟩ ?_
                    refine q_topi (fun r_89 er_89 => ?_)
                    have h := h r_89 er_89
                    refine q_iload (j := 5) X dL_leaves_244 rfl ?_
                    refine q_iload (j := 1) X dL_leaves_246 rfl ?_
                    have J256 : ∀ (y_91 : Int32), w_L_leaves_J256 o q Q9 r_7 x_12 r_13 r_18 r_20 r_22 r_24 g_72 r_89 y_91 → V p l e rm_L_leaves s m args below meth c QQ 12 (AU A) 26 (6 * 26) (WY D cA ad YT g_72) 256 [(0, .ref (ad o 0 1)), (1, .ref (ad q 0 1)), (3, .int r_7), (4, .int x_12), (5, .int r_13), (6, .int r_18), (7, .int r_20), (8, .int r_22), (9, .int r_24)] [.int y_91, .int r_89] := by
                      intro y_91 h
                      unfold w_L_leaves_J256 at h
                      refine q_icmp_ne (tgt := 263) X dL_leaves_256 (by decide) (fun c_92 => ?_) (fun c_92 => ?_)
                      · have h := h.1 c_92
                        refine q_sub [0, 1, 2, 3, 4, 5, 6, 7, 8] rfl ?_
                        refine q_w (c2 := 26) (n2 := (6 * 26)) (by omega) (by omega) ?_
                        exact J263 g_72 h
                      · have h := h.2 c_92
                        refine q_iconst (v := 1) X dL_leaves_259 (by decide) ?_
                        refine q_goto (tgt := 264) X dL_leaves_260 (by decide) ?_
                        refine q_sub [0, 1, 2, 3, 4, 5, 6, 7, 8] rfl ?_
                        refine q_w (c2 := 26) (n2 := (6 * 26)) (by omega) (by omega) ?_
                        exact J264 1 g_72 h
                    refine q_icmp_ge (tgt := 255) X dL_leaves_248 (by decide) (fun c_93 => ?_) (fun c_93 => ?_)
                    · have h := h.1 c_93
                      refine q_iconst (v := 0) X dL_leaves_255 (by decide) ?_
                      refine q_sub [7, 8, 6, 5, 4, 3, 2, 1, 0] rfl ?_
                      refine q_w (c2 := 26) (n2 := (6 * 26)) (by omega) (by omega) ?_
                      exact J256 0 h
                    · have h := h.2 c_93
                      refine q_iconst (v := 1) X dL_leaves_251 (by decide) ?_
                      refine q_goto (tgt := 256) X dL_leaves_252 (by decide) ?_
                      refine q_sub [7, 8, 6, 5, 4, 3, 2, 1, 0] rfl ?_
                      refine q_w (c2 := 26) (n2 := (6 * 26)) (by omega) (by omega) ?_
                      exact J256 1 h
    · have h := h.2 c_17
      refine q_aload_n (j := 3) X dL_leaves_67 rfl rfl ?_
      refine q_iconst (v := 0) X dL_leaves_68 (by decide) ?_
      refine q_iload_n (j := 2) X dL_leaves_69 rfl rfl ?_
      refine q_iload (j := 1) X dL_leaves_70 rfl ?_
      refine q_iconst (v := 0) X dL_leaves_72 (by decide) ?_
      obtain ⟨k_95, h⟩ := h
      refine qG_own X hW hZ (fun _ h => h) YT_ok [.ref (ad o 0 1), .int 0, .int r_7, .int x_12, .int 0] [] rfl rfl (Nat.le_of_ble_eq_true rfl) dL_leaves_73 ⟨(Nat.le_of_ble_eq_true rfl), (Nat.le_of_ble_eq_true rfl)⟩ (k_C_0 ha hst o r_7 x_12 0 g k_95) rfl rfl (gS kw_3_88 kw_3_89 kw_1_0 kw_3_90) hy_L_call.2 ⟨(Nat.le_of_ble_eq_true rfl), (Nat.le_of_ble_eq_true rfl)⟩ (fun r_94 g_96 hq => ?_)
      refine q_wi (fun hi => ?_)
      have h := h r_94 hq.1 g_96 hq.2 hi
      refine q_ldc (v := -9999003) X kw_3_87 dL_leaves_76 ?_
      refine q_icmp_ne (tgt := 99) X dL_leaves_78 (by decide) (fun c_97 => ?_) (fun c_97 => ?_)
      · have h := h.1 c_97
        refine q_iconst (v := 0) X dL_leaves_99 (by decide) ?_
        exact hE _ _ _ _ _ _ dL_leaves_100 (by omega) (by omega) (Or.inl rfl) h
      · have h := h.2 c_97
        refine q_aload_n (j := 4) X dL_leaves_81 rfl rfl ?_
        refine q_iconst (v := 0) X dL_leaves_82 (by decide) ?_
        refine q_iload_n (j := 2) X dL_leaves_83 rfl rfl ?_
        refine q_iload (j := 1) X dL_leaves_84 rfl ?_
        refine q_iconst (v := 0) X dL_leaves_86 (by decide) ?_
        obtain ⟨k_99, h⟩ := h
        refine qG_own X hW hZ (fun _ h => h) YT_ok [.ref (ad q 0 1), .int 0, .int r_7, .int x_12, .int 0] [] rfl rfl (Nat.le_of_ble_eq_true rfl) dL_leaves_87 ⟨(Nat.le_of_ble_eq_true rfl), (Nat.le_of_ble_eq_true rfl)⟩ (k_C_0 ha hst q r_7 x_12 0 g_96 k_99) rfl rfl (gS kw_3_88 kw_3_89 kw_1_0 kw_3_90) hy_L_call.2 ⟨(Nat.le_of_ble_eq_true rfl), (Nat.le_of_ble_eq_true rfl)⟩ (fun r_98 g_100 hq => ?_)
        refine q_wi (fun hi => ?_)
        have h := h r_98 hq.1 g_100 hq.2 hi
        refine q_ldc (v := -9999003) X kw_3_87 dL_leaves_90 ?_
        refine q_icmp_ne (tgt := 99) X dL_leaves_92 (by decide) (fun c_101 => ?_) (fun c_101 => ?_)
        · have h := h.1 c_101
          refine q_iconst (v := 0) X dL_leaves_99 (by decide) ?_
          exact hE _ _ _ _ _ _ dL_leaves_100 (by omega) (by omega) (Or.inl rfl) h
        · have h := h.2 c_101
          refine q_iconst (v := 1) X dL_leaves_95 (by decide) ?_
          refine q_goto (tgt := 100) X dL_leaves_96 (by decide) ?_
          exact hE _ _ _ _ _ _ dL_leaves_100 (by omega) (by omega) (Or.inr rfl) h
  · have h := h.2 c_3
    refine q_iconst (v := 1) X dL_leaves_7 (by decide) ?_
    exact hE _ _ _ _ _ _ dL_leaves_8 (by omega) (by omega) (Or.inr rfl) h
theorem dL_weighs_0 : decode cL_weighs 0 = .ok (.aload_n 0, 1) := by decide +kernel
theorem dL_weighs_1 : decode cL_weighs 1 = .ok (.invokevirtual 397, 3) := by decide +kernel
theorem dL_weighs_4 : decode cL_weighs 4 = .ok (.ifCond .ne 5, 3) := by decide +kernel
theorem dL_weighs_7 : decode cL_weighs 7 = .ok (.iconst 1, 1) := by decide +kernel
theorem dL_weighs_8 : decode cL_weighs 8 = .ok (.ireturn, 1) := by decide +kernel
theorem dL_weighs_9 : decode cL_weighs 9 = .ok (.aload_n 0, 1) := by decide +kernel
theorem dL_weighs_10 : decode cL_weighs 10 = .ok (.bipush 15, 2) := by decide +kernel
theorem dL_weighs_12 : decode cL_weighs 12 = .ok (.iload_n 2, 1) := by decide +kernel
theorem dL_weighs_13 : decode cL_weighs 13 = .ok (.aload_n 0, 1) := by decide +kernel
theorem dL_weighs_14 : decode cL_weighs 14 = .ok (.invokevirtual 397, 3) := by decide +kernel
theorem dL_weighs_17 : decode cL_weighs 17 = .ok (.irem, 1) := by decide +kernel
theorem dL_weighs_18 : decode cL_weighs 18 = .ok (.iconst 0, 1) := by decide +kernel
theorem dL_weighs_19 : decode cL_weighs 19 = .ok (.iconst 0, 1) := by decide +kernel
theorem dL_weighs_20 : decode cL_weighs 20 = .ok (.invokestatic 393, 3) := by decide +kernel
theorem dL_weighs_23 : decode cL_weighs 23 = .ok (.istore_n 3, 1) := by decide +kernel
theorem dL_weighs_24 : decode cL_weighs 24 = .ok (.aload_n 0, 1) := by decide +kernel
theorem dL_weighs_25 : decode cL_weighs 25 = .ok (.bipush 17, 2) := by decide +kernel
theorem dL_weighs_27 : decode cL_weighs 27 = .ok (.iload_n 3, 1) := by decide +kernel
theorem dL_weighs_28 : decode cL_weighs 28 = .ok (.iconst 0, 1) := by decide +kernel
theorem dL_weighs_29 : decode cL_weighs 29 = .ok (.iconst 0, 1) := by decide +kernel
theorem dL_weighs_30 : decode cL_weighs 30 = .ok (.invokestatic 393, 3) := by decide +kernel
theorem dL_weighs_33 : decode cL_weighs 33 = .ok (.istore 4, 2) := by decide +kernel
theorem dL_weighs_35 : decode cL_weighs 35 = .ok (.iload_n 2, 1) := by decide +kernel
theorem dL_weighs_36 : decode cL_weighs 36 = .ok (.bipush 16, 2) := by decide +kernel
theorem dL_weighs_38 : decode cL_weighs 38 = .ok (.idiv, 1) := by decide +kernel
theorem dL_weighs_39 : decode cL_weighs 39 = .ok (.iload 4, 2) := by decide +kernel
theorem dL_weighs_41 : decode cL_weighs 41 = .ok (.iconst 1, 1) := by decide +kernel
theorem dL_weighs_42 : decode cL_weighs 42 = .ok (.iadd, 1) := by decide +kernel
theorem dL_weighs_43 : decode cL_weighs 43 = .ok (.irem, 1) := by decide +kernel
theorem dL_weighs_44 : decode cL_weighs 44 = .ok (.istore 5, 2) := by decide +kernel
theorem dL_weighs_46 : decode cL_weighs 46 = .ok (.aload_n 0, 1) := by decide +kernel
theorem dL_weighs_47 : decode cL_weighs 47 = .ok (.bipush 45, 2) := by decide +kernel
theorem dL_weighs_49 : decode cL_weighs 49 = .ok (.iload_n 3, 1) := by decide +kernel
theorem dL_weighs_50 : decode cL_weighs 50 = .ok (.iload 5, 2) := by decide +kernel
theorem dL_weighs_52 : decode cL_weighs 52 = .ok (.iconst 0, 1) := by decide +kernel
theorem dL_weighs_53 : decode cL_weighs 53 = .ok (.invokestatic 393, 3) := by decide +kernel
theorem dL_weighs_56 : decode cL_weighs 56 = .ok (.istore 6, 2) := by decide +kernel
theorem dL_weighs_58 : decode cL_weighs 58 = .ok (.aload_n 0, 1) := by decide +kernel
theorem dL_weighs_59 : decode cL_weighs 59 = .ok (.invokevirtual 414, 3) := by decide +kernel
theorem dL_weighs_62 : decode cL_weighs 62 = .ok (.istore 7, 2) := by decide +kernel
theorem dL_weighs_64 : decode cL_weighs 64 = .ok (.aload_n 0, 1) := by decide +kernel
theorem dL_weighs_65 : decode cL_weighs 65 = .ok (.bipush 16, 2) := by decide +kernel
theorem dL_weighs_67 : decode cL_weighs 67 = .ok (.iload_n 3, 1) := by decide +kernel
theorem dL_weighs_68 : decode cL_weighs 68 = .ok (.iconst 0, 1) := by decide +kernel
theorem dL_weighs_69 : decode cL_weighs 69 = .ok (.iconst 0, 1) := by decide +kernel
theorem dL_weighs_70 : decode cL_weighs 70 = .ok (.invokestatic 393, 3) := by decide +kernel
theorem dL_weighs_73 : decode cL_weighs 73 = .ok (.istore 8, 2) := by decide +kernel
theorem dL_weighs_75 : decode cL_weighs 75 = .ok (.aload_n 0, 1) := by decide +kernel
theorem dL_weighs_76 : decode cL_weighs 76 = .ok (.bipush 36, 2) := by decide +kernel
theorem dL_weighs_78 : decode cL_weighs 78 = .ok (.iload 8, 2) := by decide +kernel
theorem dL_weighs_80 : decode cL_weighs 80 = .ok (.iconst 0, 1) := by decide +kernel
theorem dL_weighs_81 : decode cL_weighs 81 = .ok (.iconst 0, 1) := by decide +kernel
theorem dL_weighs_82 : decode cL_weighs 82 = .ok (.invokestatic 393, 3) := by decide +kernel
theorem dL_weighs_85 : decode cL_weighs 85 = .ok (.aload_n 0, 1) := by decide +kernel
theorem dL_weighs_86 : decode cL_weighs 86 = .ok (.bipush 37, 2) := by decide +kernel
theorem dL_weighs_88 : decode cL_weighs 88 = .ok (.iload 8, 2) := by decide +kernel
theorem dL_weighs_90 : decode cL_weighs 90 = .ok (.iconst 0, 1) := by decide +kernel
theorem dL_weighs_91 : decode cL_weighs 91 = .ok (.iconst 0, 1) := by decide +kernel
theorem dL_weighs_92 : decode cL_weighs 92 = .ok (.invokestatic 393, 3) := by decide +kernel
theorem dL_weighs_95 : decode cL_weighs 95 = .ok (.iadd, 1) := by decide +kernel
theorem dL_weighs_96 : decode cL_weighs 96 = .ok (.istore 9, 2) := by decide +kernel
theorem dL_weighs_98 : decode cL_weighs 98 = .ok (.aload_n 0, 1) := by decide +kernel
theorem dL_weighs_99 : decode cL_weighs 99 = .ok (.bipush 37, 2) := by decide +kernel
theorem dL_weighs_101 : decode cL_weighs 101 = .ok (.iload 8, 2) := by decide +kernel
theorem dL_weighs_103 : decode cL_weighs 103 = .ok (.iconst 0, 1) := by decide +kernel
theorem dL_weighs_104 : decode cL_weighs 104 = .ok (.iconst 0, 1) := by decide +kernel
theorem dL_weighs_105 : decode cL_weighs 105 = .ok (.invokestatic 393, 3) := by decide +kernel
theorem dL_weighs_108 : decode cL_weighs 108 = .ok (.istore 10, 2) := by decide +kernel
theorem dL_weighs_110 : decode cL_weighs 110 = .ok (.aload_n 0, 1) := by decide +kernel
theorem dL_weighs_111 : decode cL_weighs 111 = .ok (.bipush 23, 2) := by decide +kernel
theorem dL_weighs_113 : decode cL_weighs 113 = .ok (.iload_n 3, 1) := by decide +kernel
theorem dL_weighs_114 : decode cL_weighs 114 = .ok (.iconst 0, 1) := by decide +kernel
theorem dL_weighs_115 : decode cL_weighs 115 = .ok (.iconst 0, 1) := by decide +kernel
theorem dL_weighs_116 : decode cL_weighs 116 = .ok (.invokestatic 393, 3) := by decide +kernel
theorem dL_weighs_119 : decode cL_weighs 119 = .ok (.istore 11, 2) := by decide +kernel
theorem dL_weighs_121 : decode cL_weighs 121 = .ok (.aload_n 0, 1) := by decide +kernel
theorem dL_weighs_122 : decode cL_weighs 122 = .ok (.aload_n 0, 1) := by decide +kernel
theorem dL_weighs_123 : decode cL_weighs 123 = .ok (.bipush 19, 2) := by decide +kernel
theorem dL_weighs_125 : decode cL_weighs 125 = .ok (.iload_n 3, 1) := by decide +kernel
theorem dL_weighs_126 : decode cL_weighs 126 = .ok (.iconst 0, 1) := by decide +kernel
theorem dL_weighs_127 : decode cL_weighs 127 = .ok (.iconst 0, 1) := by decide +kernel
theorem dL_weighs_128 : decode cL_weighs 128 = .ok (.invokestatic 393, 3) := by decide +kernel
theorem dL_weighs_131 : decode cL_weighs 131 = .ok (.invokestatic 402, 3) := by decide +kernel
theorem dL_weighs_134 : decode cL_weighs 134 = .ok (.iconst 1, 1) := by decide +kernel
theorem dL_weighs_135 : decode cL_weighs 135 = .ok (.if_icmp .ne 39, 3) := by decide +kernel
theorem dL_weighs_138 : decode cL_weighs 138 = .ok (.aload_n 0, 1) := by decide +kernel
theorem dL_weighs_139 : decode cL_weighs 139 = .ok (.bipush 6, 2) := by decide +kernel
theorem dL_weighs_141 : decode cL_weighs 141 = .ok (.iload_n 3, 1) := by decide +kernel
theorem dL_weighs_142 : decode cL_weighs 142 = .ok (.iload 5, 2) := by decide +kernel
theorem dL_weighs_144 : decode cL_weighs 144 = .ok (.iconst 0, 1) := by decide +kernel
theorem dL_weighs_145 : decode cL_weighs 145 = .ok (.invokestatic 393, 3) := by decide +kernel
theorem dL_weighs_148 : decode cL_weighs 148 = .ok (.ldc 18, 2) := by decide +kernel
theorem dL_weighs_150 : decode cL_weighs 150 = .ok (.if_icmp .ne 22, 3) := by decide +kernel
theorem dL_weighs_153 : decode cL_weighs 153 = .ok (.aload_n 1, 1) := by decide +kernel
theorem dL_weighs_154 : decode cL_weighs 154 = .ok (.bipush 6, 2) := by decide +kernel
theorem dL_weighs_156 : decode cL_weighs 156 = .ok (.iload_n 3, 1) := by decide +kernel
theorem dL_weighs_157 : decode cL_weighs 157 = .ok (.iload 5, 2) := by decide +kernel
theorem dL_weighs_159 : decode cL_weighs 159 = .ok (.iconst 0, 1) := by decide +kernel
theorem dL_weighs_160 : decode cL_weighs 160 = .ok (.invokestatic 393, 3) := by decide +kernel
theorem dL_weighs_163 : decode cL_weighs 163 = .ok (.ldc 18, 2) := by decide +kernel
theorem dL_weighs_165 : decode cL_weighs 165 = .ok (.if_icmp .ne 7, 3) := by decide +kernel
theorem dL_weighs_168 : decode cL_weighs 168 = .ok (.iconst 1, 1) := by decide +kernel
theorem dL_weighs_169 : decode cL_weighs 169 = .ok (.goto 4, 3) := by decide +kernel
theorem dL_weighs_172 : decode cL_weighs 172 = .ok (.iconst 0, 1) := by decide +kernel
theorem dL_weighs_173 : decode cL_weighs 173 = .ok (.ireturn, 1) := by decide +kernel
theorem dL_weighs_174 : decode cL_weighs 174 = .ok (.aload_n 0, 1) := by decide +kernel
theorem dL_weighs_175 : decode cL_weighs 175 = .ok (.bipush 6, 2) := by decide +kernel
theorem dL_weighs_177 : decode cL_weighs 177 = .ok (.iload_n 3, 1) := by decide +kernel
theorem dL_weighs_178 : decode cL_weighs 178 = .ok (.iload 5, 2) := by decide +kernel
theorem dL_weighs_180 : decode cL_weighs 180 = .ok (.iconst 0, 1) := by decide +kernel
theorem dL_weighs_181 : decode cL_weighs 181 = .ok (.invokestatic 393, 3) := by decide +kernel
theorem dL_weighs_184 : decode cL_weighs 184 = .ok (.iload 6, 2) := by decide +kernel
theorem dL_weighs_186 : decode cL_weighs 186 = .ok (.if_icmp .ne 145, 3) := by decide +kernel
theorem dL_weighs_189 : decode cL_weighs 189 = .ok (.aload_n 1, 1) := by decide +kernel
theorem dL_weighs_190 : decode cL_weighs 190 = .ok (.bipush 6, 2) := by decide +kernel
theorem dL_weighs_192 : decode cL_weighs 192 = .ok (.iload_n 3, 1) := by decide +kernel
theorem dL_weighs_193 : decode cL_weighs 193 = .ok (.iload 5, 2) := by decide +kernel
theorem dL_weighs_195 : decode cL_weighs 195 = .ok (.iconst 0, 1) := by decide +kernel
theorem dL_weighs_196 : decode cL_weighs 196 = .ok (.invokestatic 393, 3) := by decide +kernel
theorem dL_weighs_199 : decode cL_weighs 199 = .ok (.iload 6, 2) := by decide +kernel
theorem dL_weighs_201 : decode cL_weighs 201 = .ok (.if_icmp .ne 130, 3) := by decide +kernel
theorem dL_weighs_204 : decode cL_weighs 204 = .ok (.aload_n 0, 1) := by decide +kernel
theorem dL_weighs_205 : decode cL_weighs 205 = .ok (.invokevirtual 414, 3) := by decide +kernel
theorem dL_weighs_208 : decode cL_weighs 208 = .ok (.iload 7, 2) := by decide +kernel
theorem dL_weighs_210 : decode cL_weighs 210 = .ok (.iload 6, 2) := by decide +kernel
theorem dL_weighs_212 : decode cL_weighs 212 = .ok (.isub, 1) := by decide +kernel
theorem dL_weighs_213 : decode cL_weighs 213 = .ok (.if_icmp .ne 118, 3) := by decide +kernel
theorem dL_weighs_216 : decode cL_weighs 216 = .ok (.aload_n 0, 1) := by decide +kernel
theorem dL_weighs_217 : decode cL_weighs 217 = .ok (.invokevirtual 417, 3) := by decide +kernel
theorem dL_weighs_220 : decode cL_weighs 220 = .ok (.iload 7, 2) := by decide +kernel
theorem dL_weighs_222 : decode cL_weighs 222 = .ok (.iload 6, 2) := by decide +kernel
theorem dL_weighs_224 : decode cL_weighs 224 = .ok (.isub, 1) := by decide +kernel
theorem dL_weighs_225 : decode cL_weighs 225 = .ok (.if_icmp .ne 106, 3) := by decide +kernel
theorem dL_weighs_228 : decode cL_weighs 228 = .ok (.aload_n 0, 1) := by decide +kernel
theorem dL_weighs_229 : decode cL_weighs 229 = .ok (.bipush 36, 2) := by decide +kernel
theorem dL_weighs_231 : decode cL_weighs 231 = .ok (.iload 8, 2) := by decide +kernel
theorem dL_weighs_233 : decode cL_weighs 233 = .ok (.iconst 0, 1) := by decide +kernel
theorem dL_weighs_234 : decode cL_weighs 234 = .ok (.iconst 0, 1) := by decide +kernel
theorem dL_weighs_235 : decode cL_weighs 235 = .ok (.invokestatic 393, 3) := by decide +kernel
theorem dL_weighs_238 : decode cL_weighs 238 = .ok (.aload_n 0, 1) := by decide +kernel
theorem dL_weighs_239 : decode cL_weighs 239 = .ok (.bipush 37, 2) := by decide +kernel
theorem dL_weighs_241 : decode cL_weighs 241 = .ok (.iload 8, 2) := by decide +kernel
theorem dL_weighs_243 : decode cL_weighs 243 = .ok (.iconst 0, 1) := by decide +kernel
theorem dL_weighs_244 : decode cL_weighs 244 = .ok (.iconst 0, 1) := by decide +kernel
theorem dL_weighs_245 : decode cL_weighs 245 = .ok (.invokestatic 393, 3) := by decide +kernel
theorem dL_weighs_248 : decode cL_weighs 248 = .ok (.iadd, 1) := by decide +kernel
theorem dL_weighs_249 : decode cL_weighs 249 = .ok (.iload 9, 2) := by decide +kernel
theorem dL_weighs_251 : decode cL_weighs 251 = .ok (.iload 4, 2) := by decide +kernel
theorem dL_weighs_253 : decode cL_weighs 253 = .ok (.iadd, 1) := by decide +kernel
theorem dL_weighs_254 : decode cL_weighs 254 = .ok (.iload 5, 2) := by decide +kernel
theorem dL_weighs_256 : decode cL_weighs 256 = .ok (.isub, 1) := by decide +kernel
theorem dL_weighs_257 : decode cL_weighs 257 = .ok (.if_icmp .ne 74, 3) := by decide +kernel
theorem dL_weighs_260 : decode cL_weighs 260 = .ok (.iload 4, 2) := by decide +kernel
theorem dL_weighs_262 : decode cL_weighs 262 = .ok (.iload 5, 2) := by decide +kernel
theorem dL_weighs_264 : decode cL_weighs 264 = .ok (.isub, 1) := by decide +kernel
theorem dL_weighs_265 : decode cL_weighs 265 = .ok (.iload 11, 2) := by decide +kernel
theorem dL_weighs_267 : decode cL_weighs 267 = .ok (.if_icmp .gt 23, 3) := by decide +kernel
theorem dL_weighs_270 : decode cL_weighs 270 = .ok (.aload_n 0, 1) := by decide +kernel
theorem dL_weighs_271 : decode cL_weighs 271 = .ok (.bipush 37, 2) := by decide +kernel
theorem dL_weighs_273 : decode cL_weighs 273 = .ok (.iload 8, 2) := by decide +kernel
theorem dL_weighs_275 : decode cL_weighs 275 = .ok (.iconst 0, 1) := by decide +kernel
theorem dL_weighs_276 : decode cL_weighs 276 = .ok (.iconst 0, 1) := by decide +kernel
theorem dL_weighs_277 : decode cL_weighs 277 = .ok (.invokestatic 393, 3) := by decide +kernel
theorem dL_weighs_280 : decode cL_weighs 280 = .ok (.iload 10, 2) := by decide +kernel
theorem dL_weighs_282 : decode cL_weighs 282 = .ok (.if_icmp .ne 49, 3) := by decide +kernel
theorem dL_weighs_285 : decode cL_weighs 285 = .ok (.iload 6, 2) := by decide +kernel
theorem dL_weighs_287 : decode cL_weighs 287 = .ok (.ifCond .ne 44, 3) := by decide +kernel
theorem dL_weighs_290 : decode cL_weighs 290 = .ok (.iload 5, 2) := by decide +kernel
theorem dL_weighs_292 : decode cL_weighs 292 = .ok (.ifCond .ne 14, 3) := by decide +kernel
theorem dL_weighs_295 : decode cL_weighs 295 = .ok (.aload_n 0, 1) := by decide +kernel
theorem dL_weighs_296 : decode cL_weighs 296 = .ok (.iload_n 3, 1) := by decide +kernel
theorem dL_weighs_297 : decode cL_weighs 297 = .ok (.invokevirtual 426, 3) := by decide +kernel
theorem dL_weighs_300 : decode cL_weighs 300 = .ok (.ifCond .ne 31, 3) := by decide +kernel
theorem dL_weighs_303 : decode cL_weighs 303 = .ok (.goto 24, 3) := by decide +kernel
theorem dL_weighs_306 : decode cL_weighs 306 = .ok (.aload_n 0, 1) := by decide +kernel
theorem dL_weighs_307 : decode cL_weighs 307 = .ok (.iload_n 3, 1) := by decide +kernel
theorem dL_weighs_308 : decode cL_weighs 308 = .ok (.invokestatic 400, 3) := by decide +kernel
theorem dL_weighs_311 : decode cL_weighs 311 = .ok (.iconst 1, 1) := by decide +kernel
theorem dL_weighs_312 : decode cL_weighs 312 = .ok (.if_icmp .ne 19, 3) := by decide +kernel
theorem dL_weighs_315 : decode cL_weighs 315 = .ok (.aload_n 0, 1) := by decide +kernel
theorem dL_weighs_316 : decode cL_weighs 316 = .ok (.bipush 23, 2) := by decide +kernel
theorem dL_weighs_318 : decode cL_weighs 318 = .ok (.iload_n 3, 1) := by decide +kernel
theorem dL_weighs_319 : decode cL_weighs 319 = .ok (.iconst 0, 1) := by decide +kernel
theorem dL_weighs_320 : decode cL_weighs 320 = .ok (.iconst 0, 1) := by decide +kernel
theorem dL_weighs_321 : decode cL_weighs 321 = .ok (.invokestatic 393, 3) := by decide +kernel
theorem dL_weighs_324 : decode cL_weighs 324 = .ok (.ifCond .ne 7, 3) := by decide +kernel
theorem dL_weighs_327 : decode cL_weighs 327 = .ok (.iconst 1, 1) := by decide +kernel
theorem dL_weighs_328 : decode cL_weighs 328 = .ok (.goto 4, 3) := by decide +kernel
theorem dL_weighs_331 : decode cL_weighs 331 = .ok (.iconst 0, 1) := by decide +kernel
theorem dL_weighs_332 : decode cL_weighs 332 = .ok (.istore 12, 2) := by decide +kernel
theorem dL_weighs_334 : decode cL_weighs 334 = .ok (.iload 12, 2) := by decide +kernel
theorem dL_weighs_336 : decode cL_weighs 336 = .ok (.ifCond .eq 39, 3) := by decide +kernel
theorem dL_weighs_339 : decode cL_weighs 339 = .ok (.aload_n 0, 1) := by decide +kernel
theorem dL_weighs_340 : decode cL_weighs 340 = .ok (.aload_n 1, 1) := by decide +kernel
theorem dL_weighs_341 : decode cL_weighs 341 = .ok (.iconst 1, 1) := by decide +kernel
theorem dL_weighs_342 : decode cL_weighs 342 = .ok (.invokestatic 483, 3) := by decide +kernel
theorem dL_weighs_345 : decode cL_weighs 345 = .ok (.ifCond .eq 30, 3) := by decide +kernel
theorem dL_weighs_348 : decode cL_weighs 348 = .ok (.aload_n 0, 1) := by decide +kernel
theorem dL_weighs_349 : decode cL_weighs 349 = .ok (.invokevirtual 414, 3) := by decide +kernel
theorem dL_weighs_352 : decode cL_weighs 352 = .ok (.iload 7, 2) := by decide +kernel
theorem dL_weighs_354 : decode cL_weighs 354 = .ok (.if_icmp .ne 21, 3) := by decide +kernel
theorem dL_weighs_357 : decode cL_weighs 357 = .ok (.aload_n 0, 1) := by decide +kernel
theorem dL_weighs_358 : decode cL_weighs 358 = .ok (.bipush 17, 2) := by decide +kernel
theorem dL_weighs_360 : decode cL_weighs 360 = .ok (.iload_n 3, 1) := by decide +kernel
theorem dL_weighs_361 : decode cL_weighs 361 = .ok (.iconst 0, 1) := by decide +kernel
theorem dL_weighs_362 : decode cL_weighs 362 = .ok (.iconst 0, 1) := by decide +kernel
theorem dL_weighs_363 : decode cL_weighs 363 = .ok (.invokestatic 393, 3) := by decide +kernel
theorem dL_weighs_366 : decode cL_weighs 366 = .ok (.iload 4, 2) := by decide +kernel
theorem dL_weighs_368 : decode cL_weighs 368 = .ok (.if_icmp .ne 7, 3) := by decide +kernel
theorem dL_weighs_371 : decode cL_weighs 371 = .ok (.iconst 1, 1) := by decide +kernel
theorem dL_weighs_372 : decode cL_weighs 372 = .ok (.goto 4, 3) := by decide +kernel
theorem dL_weighs_375 : decode cL_weighs 375 = .ok (.iconst 0, 1) := by decide +kernel
theorem dL_weighs_376 : decode cL_weighs 376 = .ok (.ireturn, 1) := by decide +kernel
def w_L_weighs_J332 (o : Bool) (q : Bool) (Q9 : Int32 → Gh → Prop) (r_7 : Int32) (r_9 : Int32) (r_15 : Int32) (y_36 : Int32) (m_37 : Gh) : Prop :=
  ((y_36 = 0 → Q9 0 m_37) ∧
  (¬ y_36 = 0 → w_L_undoes o q 1 m_37 (fun (r_39 : Int32) (g_40 : Gh) => ((r_39 = 0 → Q9 0 g_40) ∧
  (¬ r_39 = 0 → g_40.2 ≤ 2400 ∧ ∀ r_42 : Int32, r_42 = (v_balance (g_40.1 o)) → (((¬ r_42 = r_15 → Q9 0 g_40) ∧
  (r_42 = r_15 → g_40.2 ≤ 2400 ∧ ∀ r_45 : Int32, r_45 = y_tryWeight r_7 (g_40.1 o) → (((¬ r_45 = r_9 → Q9 0 g_40) ∧
  (r_45 = r_9 → Q9 1 g_40)))))))))))
def w_L_weighs_J331 (o : Bool) (q : Bool) (Q9 : Int32 → Gh → Prop) (r_7 : Int32) (r_9 : Int32) (r_15 : Int32) (m_48 : Gh) : Prop :=
  w_L_weighs_J332 o q Q9 r_7 r_9 r_15 0 m_48
def w_L_weighs_J327 (o : Bool) (q : Bool) (Q9 : Int32 → Gh → Prop) (r_7 : Int32) (r_9 : Int32) (r_15 : Int32) (g_52 : Gh) : Prop :=
  w_L_weighs_J332 o q Q9 r_7 r_9 r_15 1 g_52
def w_L_weighs_J290 (o : Bool) (q : Bool) (Q9 : Int32 → Gh → Prop) (r_7 : Int32) (r_9 : Int32) (x_12 : Int32) (r_15 : Int32) (g_52 : Gh) : Prop :=
  ((¬ x_12 = 0 → g_52.2 ≤ 2400 ∧ ∀ r_66 : Int32, r_66 = y_isProved r_7 (g_52.1 o) → (((¬ r_66 = 1 → w_L_weighs_J331 o q Q9 r_7 r_9 r_15 g_52) ∧
  (r_66 = 1 → g_52.2 ≤ 2400 ∧ ∀ r_69 : Int32, r_69 = y_tryAllowed r_7 (g_52.1 o) → (((¬ r_69 = 0 → w_L_weighs_J331 o q Q9 r_7 r_9 r_15 g_52) ∧
  (r_69 = 0 → w_L_weighs_J327 o q Q9 r_7 r_9 r_15 g_52))))))) ∧
  (x_12 = 0 → g_52.2 ≤ 2400 ∧ ∀ r_72 : Int32, r_72 = (v_isOpenEntry r_7 (g_52.1 o)) → (((¬ r_72 = 0 → w_L_weighs_J331 o q Q9 r_7 r_9 r_15 g_52) ∧
  (r_72 = 0 → w_L_weighs_J327 o q Q9 r_7 r_9 r_15 g_52)))))
def w_L_weighs (o : Bool) (q : Bool) (p2 : Int32) (g : Gh) (Q9 : Int32 → Gh → Prop) : Prop :=
  g.2 ≤ 2400 ∧ ∀ r_1 : Int32, r_1 = (v_entries (g.1 o)) → (((¬ r_1 = 0 → g.2 ≤ 2400 ∧ ∀ r_4 : Int32, r_4 = (v_entries (g.1 o)) → (¬ r_4 = 0 ∧ (g.2 ≤ 2400 ∧ ∀ r_7 : Int32, r_7 = y_tryAt (p2 - p2 / r_4 * r_4) (g.1 o) → (g.2 ≤ 2400 ∧ ∀ r_9 : Int32, r_9 = y_tryWeight r_7 (g.1 o) → (¬ (r_9 + 1) = 0 ∧ (∀ x_12 : Int32, x_12 = ((p2 / 16) - (p2 / 16) / (r_9 + 1) * (r_9 + 1)) → (g.2 ≤ 2400 ∧ ∀ r_13 : Int32, r_13 = y_tryCharge r_7 x_12 (g.1 o) → (g.2 ≤ 2400 ∧ ∀ r_15 : Int32, r_15 = (v_balance (g.1 o)) → (g.2 ≤ 2400 ∧ ∀ r_17 : Int32, r_17 = y_tryKind r_7 (g.1 o) → (g.2 ≤ 2400 ∧ ∀ r_19 : Int32, r_19 = y_tryWasted r_17 (g.1 o) → (g.2 ≤ 2400 ∧ ∀ r_21 : Int32, r_21 = y_tryLost r_17 (g.1 o) → (∀ x_23 : Int32, x_23 = (r_19 + r_21) → (g.2 ≤ 2400 ∧ ∀ r_24 : Int32, r_24 = y_tryLost r_17 (g.1 o) → (g.2 ≤ 2400 ∧ ∀ r_26 : Int32, r_26 = y_tryAllowed r_7 (g.1 o) → (g.2 ≤ 2400 ∧ ∀ r_28 : Int32, r_28 = y_tryChamber r_7 (g.1 o) → (g.2 ≤ 2400 ∧ ∀ r_30 : Int32, r_30 = y_isLocked r_28 (g.1 o) → (((¬ r_30 = 1 → g.2 + 1 ≤ 2400 ∧ ∀ r_33 : Int32, r_33 = (z_tryWeigh r_7 x_12 (g.1 o)).1 → ∀ g_35 : Gh, g_35 = gz g o (z_tryWeigh r_7 x_12 (g.1 o)).2 → GI g_35 → (((¬ r_33 = r_13 → w_L_weighs_J331 o q Q9 r_7 r_9 r_15 g_35) ∧
  (r_33 = r_13 → g_35.2 + 1 ≤ 2400 ∧ ∀ r_50 : Int32, r_50 = (z_tryWeigh r_7 x_12 (g_35.1 q)).1 → ∀ g_52 : Gh, g_52 = gz g_35 q (z_tryWeigh r_7 x_12 (g_35.1 q)).2 → GI g_52 → (((¬ r_50 = r_13 → w_L_weighs_J331 o q Q9 r_7 r_9 r_15 g_52) ∧
  (r_50 = r_13 → g_52.2 ≤ 2400 ∧ ∀ r_54 : Int32, r_54 = (v_balance (g_52.1 o)) → (((¬ r_54 = (r_15 - r_13) → w_L_weighs_J331 o q Q9 r_7 r_9 r_15 g_52) ∧
  (r_54 = (r_15 - r_13) → g_52.2 ≤ 2400 ∧ ∀ r_57 : Int32, r_57 = (v_balanceByTotals (g_52.1 o)) → (((¬ r_57 = (r_15 - r_13) → w_L_weighs_J331 o q Q9 r_7 r_9 r_15 g_52) ∧
  (r_57 = (r_15 - r_13) → g_52.2 ≤ 2400 ∧ ∀ r_60 : Int32, r_60 = y_tryWasted r_17 (g_52.1 o) → (g_52.2 ≤ 2400 ∧ ∀ r_62 : Int32, r_62 = y_tryLost r_17 (g_52.1 o) → (((¬ (r_60 + r_62) = ((x_23 + r_9) - x_12) → w_L_weighs_J331 o q Q9 r_7 r_9 r_15 g_52) ∧
  ((r_60 + r_62) = ((x_23 + r_9) - x_12) → ((r_26 < (r_9 - x_12) → w_L_weighs_J290 o q Q9 r_7 r_9 x_12 r_15 g_52) ∧
  (¬ r_26 < (r_9 - x_12) → g_52.2 ≤ 2400 ∧ ∀ r_76 : Int32, r_76 = y_tryLost r_17 (g_52.1 o) → (((¬ r_76 = r_24 → w_L_weighs_J331 o q Q9 r_7 r_9 r_15 g_52) ∧
  (r_76 = r_24 → ((¬ r_13 = 0 → w_L_weighs_J331 o q Q9 r_7 r_9 r_15 g_52) ∧
  (r_13 = 0 → w_L_weighs_J290 o q Q9 r_7 r_9 x_12 r_15 g_52)))))))))))))))))))))))) ∧
  (r_30 = 1 → g.2 + 1 ≤ 2400 ∧ ∀ r_80 : Int32, r_80 = (z_tryWeigh r_7 x_12 (g.1 o)).1 → ∀ g_82 : Gh, g_82 = gz g o (z_tryWeigh r_7 x_12 (g.1 o)).2 → GI g_82 → (((¬ r_80 = -9999003 → Q9 0 g_82) ∧
  (r_80 = -9999003 → g_82.2 + 1 ≤ 2400 ∧ ∀ r_84 : Int32, r_84 = (z_tryWeigh r_7 x_12 (g_82.1 q)).1 → ∀ g_86 : Gh, g_86 = gz g_82 q (z_tryWeigh r_7 x_12 (g_82.1 q)).2 → GI g_86 → (((¬ r_84 = -9999003 → Q9 0 g_86) ∧
  (r_84 = -9999003 → Q9 1 g_86))))))))))))))))))))))))) ∧
  (r_1 = 0 → Q9 1 g)))
def rm_L_weighs : Room := { frames := 12, cells := 48, slots := 288, locals := 231 }
theorem hy_L_weighs : yL_weighs.cls = RL ∧ yL_weighs.cls ≠ "java/lang/invoke/MethodHandle" ∧ yL_weighs.cls ≠ "java/lang/invoke/VarHandle" ∧ (parseMethodDescriptor yL_weighs.desc).map (fun d => d.parameters.length) = some 3 := by decide +kernel
set_option maxRecDepth 100000 in
set_option maxHeartbeats 4000000 in
theorem c_L_weighs {l : Launch} {D : va_G} {cA : Nat → ClassId} {ad : Bool → Nat → Nat → Nat} {A : Bool → Nat → Prop} (ha : AG ad A) (hst : l.stackTraces = false) (o : Bool) (q : Bool) (p2 : Int32) (g : Gh) (Q9 : Int32 → Gh → Prop) (h : w_L_weighs o q p2 g Q9) : Met l yL_weighs (.code yL_weighs cL_weighs 13 (some .boolean) :: TG) rm_L_weighs (PcG D cA ad A [.ref (ad o 0 1), .ref (ad q 0 1), .int p2] g) (QcG D cA ad A Q9) 48 288 (AU A) := by
  unfold w_L_weighs at h
  refine enterGZ pl_L rfl (Nat.le_of_ble_eq_true rfl) ?_
  intro p e s m args below meth c QQ X hW hZ hE
  refine q_aload_n (j := 0) X dL_weighs_0 rfl rfl ?_
  obtain ⟨k_2, h⟩ := h
  refine qG_ask X hW hZ ha (fun _ h => h) YT_ok o (val := (v_entries (g.1 o))) (Qp := (fun mo r m1 => r = (v_entries (g.1 o)) ∧ mo = m1)) [] [] rfl rfl (Nat.le_of_ble_eq_true rfl) dL_weighs_1 ⟨(Nat.le_of_ble_eq_true rfl), (Nat.le_of_ble_eq_true rfl)⟩ k_2 (fun mo hmo => c_X9_entries (ha.1 o)  mo _ (n_entries hmo.rs hmo.inv  _ rfl)) (fun mo r m1 hr h => ⟨h.1, by rw [← h.2]; exact hr⟩) rfl rfl (gV kw_6_130 kw_6_131 kw_6_132 kw_1_1 kw_6_133) hy_X9_entries ⟨(Nat.le_of_ble_eq_true rfl), (Nat.le_of_ble_eq_true rfl)⟩ ?_
  refine q_topi (fun r_1 er_1 => ?_)
  have h := h r_1 er_1
  refine q_if_ne (tgt := 9) X dL_weighs_4 (by decide) (fun c_3 => ?_) (fun c_3 => ?_)
  · have h := h.1 c_3
    refine q_aload_n (j := 0) X dL_weighs_9 rfl rfl ?_
    refine q_bipush (v := 15) X dL_weighs_10 (by decide) ?_
    refine q_iload_n (j := 2) X dL_weighs_12 rfl rfl ?_
    refine q_aload_n (j := 0) X dL_weighs_13 rfl rfl ?_
    obtain ⟨k_5, h⟩ := h
    refine qG_ask X hW hZ ha (fun _ h => h) YT_ok o (val := (v_entries (g.1 o))) (Qp := (fun mo r m1 => r = (v_entries (g.1 o)) ∧ mo = m1)) [] [.int p2, .int 15, .ref (ad o 0 1)] rfl rfl (Nat.le_of_ble_eq_true rfl) dL_weighs_14 ⟨(Nat.le_of_ble_eq_true rfl), (Nat.le_of_ble_eq_true rfl)⟩ k_5 (fun mo hmo => c_X9_entries (ha.1 o)  mo _ (n_entries hmo.rs hmo.inv  _ rfl)) (fun mo r m1 hr h => ⟨h.1, by rw [← h.2]; exact hr⟩) rfl rfl (gV kw_6_130 kw_6_131 kw_6_132 kw_1_1 kw_6_133) hy_X9_entries ⟨(Nat.le_of_ble_eq_true rfl), (Nat.le_of_ble_eq_true rfl)⟩ ?_
    refine q_topi (fun r_4 er_4 => ?_)
    have h := h r_4 er_4
    obtain ⟨c_6, h⟩ := h
    refine q_irem X dL_weighs_17 c_6 ?_
    refine q_iconst (v := 0) X dL_weighs_18 (by decide) ?_
    refine q_iconst (v := 0) X dL_weighs_19 (by decide) ?_
    obtain ⟨k_8, h⟩ := h
    refine qG_own X hW hZ (fun _ h => h) YT_ok [.ref (ad o 0 1), .int 15, .int (p2 - p2 / r_4 * r_4), .int 0, .int 0] [] rfl rfl (Nat.le_of_ble_eq_true rfl) dL_weighs_20 ⟨(Nat.le_of_ble_eq_true rfl), (Nat.le_of_ble_eq_true rfl)⟩ (k_C_15 ha hst o (p2 - p2 / r_4 * r_4) 0 0 g k_8) rfl rfl (gS kw_3_88 kw_3_89 kw_1_0 kw_3_90) hy_L_call.2 ⟨(Nat.le_of_ble_eq_true rfl), (Nat.le_of_ble_eq_true rfl)⟩ (fun r_7 g9 hq => ?_)
    obtain ⟨er_7, hq⟩ := hq
    rw [hq]
    have h := h r_7 er_7
    refine q_istore_n (lv' := [(3, .int r_7), (0, .ref (ad o 0 1)), (1, .ref (ad q 0 1)), (2, .int p2)]) X dL_weighs_23 rfl (by decide) rfl ?_
    refine q_aload_n (j := 1) X dL_weighs_24 rfl rfl ?_
    refine q_bipush (v := 17) X dL_weighs_25 (by decide) ?_
    refine q_iload_n (j := 0) X dL_weighs_27 rfl rfl ?_
    refine q_iconst (v := 0) X dL_weighs_28 (by decide) ?_
    refine q_iconst (v := 0) X dL_weighs_29 (by decide) ?_
    obtain ⟨k_10, h⟩ := h
    refine qG_own X hW hZ (fun _ h => h) YT_ok [.ref (ad o 0 1), .int 17, .int r_7, .int 0, .int 0] [] rfl rfl (Nat.le_of_ble_eq_true rfl) dL_weighs_30 ⟨(Nat.le_of_ble_eq_true rfl), (Nat.le_of_ble_eq_true rfl)⟩ (k_C_17 ha hst o r_7 0 0 g k_10) rfl rfl (gS kw_3_88 kw_3_89 kw_1_0 kw_3_90) hy_L_call.2 ⟨(Nat.le_of_ble_eq_true rfl), (Nat.le_of_ble_eq_true rfl)⟩ (fun r_9 g9 hq => ?_)
    obtain ⟨er_9, hq⟩ := hq
    rw [hq]
    have h := h r_9 er_9
    refine q_istore (lv' := [(4, .int r_9), (3, .int r_7), (0, .ref (ad o 0 1)), (1, .ref (ad q 0 1)), (2, .int p2)]) X dL_weighs_33 (by decide) rfl ?_
    refine q_iload_n (j := 4) X dL_weighs_35 rfl rfl ?_
    refine q_bipush (v := 16) X dL_weighs_36 (by decide) ?_
    refine q_idiv X dL_weighs_38 (by decide) ?_
    refine q_iload (j := 0) X dL_weighs_39 rfl ?_
    refine q_iconst (v := 1) X dL_weighs_41 (by decide) ?_
    refine q_iadd X dL_weighs_42 ?_
    obtain ⟨c_11, h⟩ := h
    refine q_irem X dL_weighs_43 c_11 ?_
    refine q_topi (fun x_12 ex_12 => ?_)
    have h := h x_12 ex_12
    refine q_istore (lv' := [(5, .int x_12), (4, .int r_9), (3, .int r_7), (0, .ref (ad o 0 1)), (1, .ref (ad q 0 1)), (2, .int p2)]) X dL_weighs_44 (by decide) rfl ?_
    refine q_aload_n (j := 3) X dL_weighs_46 rfl rfl ?_
    refine q_bipush (v := 45) X dL_weighs_47 (by decide) ?_
    refine q_iload_n (j := 2) X dL_weighs_49 rfl rfl ?_
    refine q_iload (j := 0) X dL_weighs_50 rfl ?_
    refine q_iconst (v := 0) X dL_weighs_52 (by decide) ?_
    obtain ⟨k_14, h⟩ := h
    refine qG_own X hW hZ (fun _ h => h) YT_ok [.ref (ad o 0 1), .int 45, .int r_7, .int x_12, .int 0] [] rfl rfl (Nat.le_of_ble_eq_true rfl) dL_weighs_53 ⟨(Nat.le_of_ble_eq_true rfl), (Nat.le_of_ble_eq_true rfl)⟩ (k_C_45 ha hst o r_7 x_12 0 g k_14) rfl rfl (gS kw_3_88 kw_3_89 kw_1_0 kw_3_90) hy_L_call.2 ⟨(Nat.le_of_ble_eq_true rfl), (Nat.le_of_ble_eq_true rfl)⟩ (fun r_13 g9 hq => ?_)
    obtain ⟨er_13, hq⟩ := hq
    rw [hq]
    have h := h r_13 er_13
    refine q_istore (lv' := [(6, .int r_13), (5, .int x_12), (4, .int r_9), (3, .int r_7), (0, .ref (ad o 0 1)), (1, .ref (ad q 0 1)), (2, .int p2)]) X dL_weighs_56 (by decide) rfl ?_
    refine q_aload_n (j := 4) X dL_weighs_58 rfl rfl ?_
    obtain ⟨k_16, h⟩ := h
    refine qG_ask X hW hZ ha (fun _ h => h) YT_ok o (val := (v_balance (g.1 o))) (Qp := (fun mo r m1 => r = (v_balance (g.1 o)) ∧ mo = m1)) [] [] rfl rfl (Nat.le_of_ble_eq_true rfl) dL_weighs_59 ⟨(Nat.le_of_ble_eq_true rfl), (Nat.le_of_ble_eq_true rfl)⟩ k_16 (fun mo hmo => c_X9_balance (ha.1 o)  mo _ (n_balance hmo.rs hmo.inv  _ rfl)) (fun mo r m1 hr h => ⟨h.1, by rw [← h.2]; exact hr⟩) rfl rfl (gV kw_6_174 kw_6_175 kw_6_176 kw_1_1 kw_6_177) hy_X9_balance ⟨(Nat.le_of_ble_eq_true rfl), (Nat.le_of_ble_eq_true rfl)⟩ ?_
    refine q_topi (fun r_15 er_15 => ?_)
    have h := h r_15 er_15
    refine q_istore (lv' := [(7, .int r_15), (6, .int r_13), (5, .int x_12), (4, .int r_9), (3, .int r_7), (0, .ref (ad o 0 1)), (1, .ref (ad q 0 1)), (2, .int p2)]) X dL_weighs_62 (by decide) rfl ?_
    refine q_aload_n (j := 5) X dL_weighs_64 rfl rfl ?_
    refine q_bipush (v := 16) X dL_weighs_65 (by decide) ?_
    refine q_iload_n (j := 4) X dL_weighs_67 rfl rfl ?_
    refine q_iconst (v := 0) X dL_weighs_68 (by decide) ?_
    refine q_iconst (v := 0) X dL_weighs_69 (by decide) ?_
    obtain ⟨k_18, h⟩ := h
    refine qG_own X hW hZ (fun _ h => h) YT_ok [.ref (ad o 0 1), .int 16, .int r_7, .int 0, .int 0] [] rfl rfl (Nat.le_of_ble_eq_true rfl) dL_weighs_70 ⟨(Nat.le_of_ble_eq_true rfl), (Nat.le_of_ble_eq_true rfl)⟩ (k_C_16 ha hst o r_7 0 0 g k_18) rfl rfl (gS kw_3_88 kw_3_89 kw_1_0 kw_3_90) hy_L_call.2 ⟨(Nat.le_of_ble_eq_true rfl), (Nat.le_of_ble_eq_true rfl)⟩ (fun r_17 g9 hq => ?_)
    obtain ⟨er_17, hq⟩ := hq
    rw [hq]
    have h := h r_17 er_17
    refine q_istore (lv' := [(8, .int r_17), (7, .int r_15), (6, .int r_13), (5, .int x_12), (4, .int r_9), (3, .int r_7), (0, .ref (ad o 0 1)), (1, .ref (ad q 0 1)), (2, .int p2)]) X dL_weighs_73 (by decide) rfl ?_
    refine q_aload_n (j := 6) X dL_weighs_75 rfl rfl ?_
    refine q_bipush (v := 36) X dL_weighs_76 (by decide) ?_
    refine q_iload (j := 0) X dL_weighs_78 rfl ?_
    refine q_iconst (v := 0) X dL_weighs_80 (by decide) ?_
    refine q_iconst (v := 0) X dL_weighs_81 (by decide) ?_
    obtain ⟨k_20, h⟩ := h
    refine qG_own X hW hZ (fun _ h => h) YT_ok [.ref (ad o 0 1), .int 36, .int r_17, .int 0, .int 0] [] rfl rfl (Nat.le_of_ble_eq_true rfl) dL_weighs_82 ⟨(Nat.le_of_ble_eq_true rfl), (Nat.le_of_ble_eq_true rfl)⟩ (k_C_36 ha hst o r_17 0 0 g k_20) rfl rfl (gS kw_3_88 kw_3_89 kw_1_0 kw_3_90) hy_L_call.2 ⟨(Nat.le_of_ble_eq_true rfl), (Nat.le_of_ble_eq_true rfl)⟩ (fun r_19 g9 hq => ?_)
    obtain ⟨er_19, hq⟩ := hq
    rw [hq]
    have h := h r_19 er_19
    refine q_aload_n (j := 6) X dL_weighs_85 rfl rfl ?_
    refine q_bipush (v := 37) X dL_weighs_86 (by decide) ?_
    refine q_iload (j := 0) X dL_weighs_88 rfl ?_
    refine q_iconst (v := 0) X dL_weighs_90 (by decide) ?_
    refine q_iconst (v := 0) X dL_weighs_91 (by decide) ?_
    obtain ⟨k_22, h⟩ := h
    refine qG_own X hW hZ (fun _ h => h) YT_ok [.ref (ad o 0 1), .int 37, .int r_17, .int 0, .int 0] [.int r_19] rfl rfl (Nat.le_of_ble_eq_true rfl) dL_weighs_92 ⟨(Nat.le_of_ble_eq_true rfl), (Nat.le_of_ble_eq_true rfl)⟩ (k_C_37 ha hst o r_17 0 0 g k_22) rfl rfl (gS kw_3_88 kw_3_89 kw_1_0 kw_3_90) hy_L_call.2 ⟨(Nat.le_of_ble_eq_true rfl), (Nat.le_of_ble_eq_true rfl)⟩ (fun r_21 g9 hq => ?_)
    obtain ⟨er_21, hq⟩ := hq
    rw [hq]
    have h := h r_21 er_21
    refine q_iadd X dL_weighs_95 ?_
    refine q_topi (fun x_23 ex_23 => ?_)
    have h := h x_23 ex_23
    refine q_istore (lv' := [(9, .int x_23), (8, .int r_17), (7, .int r_15), (6, .int r_13), (5, .int x_12), (4, .int r_9), (3, .int r_7), (0, .ref (ad o 0 1)), (1, .ref (ad q 0 1)), (2, .int p2)]) X dL_weighs_96 (by decide) rfl ?_
    refine q_aload_n (j := 7) X dL_weighs_98 rfl rfl ?_
    refine q_bipush (v := 37) X dL_weighs_99 (by decide) ?_
    refine q_iload (j := 1) X dL_weighs_101 rfl ?_
    refine q_iconst (v := 0) X dL_weighs_103 (by decide) ?_
    refine q_iconst (v := 0) X dL_weighs_104 (by decide) ?_
    obtain ⟨k_25, h⟩ := h
    refine qG_own X hW hZ (fun _ h => h) YT_ok [.ref (ad o 0 1), .int 37, .int r_17, .int 0, .int 0] [] rfl rfl (Nat.le_of_ble_eq_true rfl) dL_weighs_105 ⟨(Nat.le_of_ble_eq_true rfl), (Nat.le_of_ble_eq_true rfl)⟩ (k_C_37 ha hst o r_17 0 0 g k_25) rfl rfl (gS kw_3_88 kw_3_89 kw_1_0 kw_3_90) hy_L_call.2 ⟨(Nat.le_of_ble_eq_true rfl), (Nat.le_of_ble_eq_true rfl)⟩ (fun r_24 g9 hq => ?_)
    obtain ⟨er_24, hq⟩ := hq
    rw [hq]
    have h := h r_24 er_24
    refine q_istore (lv' := [(10, .int r_24), (9, .int x_23), (8, .int r_17), (7, .int r_15), (6, .int r_13), (5, .int x_12), (4, .int r_9), (3, .int r_7), (0, .ref (ad o 0 1)), (1, .ref (ad q 0 1)), (2, .int p2)]) X dL_weighs_108 (by decide) rfl ?_
    refine q_aload_n (j := 8) X dL_weighs_110 rfl rfl ?_
    refine q_bipush (v := 23) X dL_weighs_111 (by decide) ?_
    refine q_iload_n (j := 7) X dL_weighs_113 rfl rfl ?_
    refine q_iconst (v := 0) X dL_weighs_114 (by decide) ?_
    refine q_iconst (v := 0) X dL_weighs_115 (by decide) ?_
    obtain ⟨k_27, h⟩ := h
    refine qG_own X hW hZ (fun _ h => h) YT_ok [.ref (ad o 0 1), .int 23, .int r_7, .int 0, .int 0] [] rfl rfl (Nat.le_of_ble_eq_true rfl) dL_weighs_116 ⟨(Nat.le_of_ble_eq_true rfl), (Nat.le_of_ble_eq_true rfl)⟩ (k_C_23 ha hst o r_7 0 0 g k_27) rfl rfl (gS kw_3_88 kw_3_89 kw_1_0 kw_3_90) hy_L_call.2 ⟨(Nat.le_of_ble_eq_true rfl), (Nat.le_of_ble_eq_true rfl)⟩ (fun r_26 g9 hq => ?_)
    obtain ⟨er_26, hq⟩ := hq
    rw [hq]
    have h := h r_26 er_26
    refine q_istore (lv' := [(11, .int r_26), (10, .int r_24), (9, .int x_23), (8, .int r_17), (7, .int r_15), (6, .int r_13), (5, .int x_12), (4, .int r_9), (3, .int r_7), (0, .ref (ad o 0 1)), (1, .ref (ad q 0 1)), (2, .int p2)]) X dL_weighs_119 (by decide) rfl ?_
    refine q_aload_n (j := 9) X dL_weighs_121 rfl rfl ?_
    refine q_aload_n (j := 9) X dL_weighs_122 rfl rfl ?_
    refine q_bipush (v := 19) X dL_weighs_123 (by decide) ?_
    refine q_iload_n (j := 8) X dL_weighs_125 rfl rfl ?_
    refine q_iconst (v := 0) X dL_weighs_126 (by decide) ?_
    refine q_iconst (v := 0) X dL_weighs_127 (by decide) ?_
    obtain ⟨k_29, h⟩ := h
    refine qG_own X hW hZ (fun _ h => h) YT_ok [.ref (ad o 0 1), .int 19, .int r_7, .int 0, .int 0] [.ref (ad o 0 1)] rfl rfl (Nat.le_of_ble_eq_true rfl) dL_weighs_128 ⟨(Nat.le_of_ble_eq_true rfl), (Nat.le_of_ble_eq_true rfl)⟩ (k_C_19 ha hst o r_7 0 0 g k_29) rfl rfl (gS kw_3_88 kw_3_89 kw_1_0 kw_3_90) hy_L_call.2 ⟨(Nat.le_of_ble_eq_true rfl), (Nat.le_of_ble_eq_true rfl)⟩ (fun r_28 g9 hq => ?_)
    obtain ⟨er_28, hq⟩ := hq
    rw [hq]
    have h := h r_28 er_28
    obtain ⟨k_31, h⟩ := h
    refine qG_ownW X hW hZ (fun _ h => h) YT_ok [.ref (ad o 0 1), .int r_28] [] rfl rfl (Nat.le_of_ble_eq_true rfl) dL_weighs_131 ⟨(Nat.le_of_ble_eq_true rfl), (Nat.le_of_ble_eq_true rfl)⟩ (k_L_isLocked ha hst o r_28 g k_31) rfl rfl (gSW kw_6_141 kw_6_142 kw_1_0 kw_6_143) hy_L_isLocked.2 ⟨(Nat.le_of_ble_eq_true rfl), (Nat.le_of_ble_eq_true rfl)⟩ (fun r_30 g9 hq => ?_)
    obtain ⟨er_30, hq⟩ := hq
    rw [hq]
    have h := h r_30 er_30
    refine q_iconst (v := 1) X dL_weighs_134 (by decide) ?_
    refine q_icmp_ne (tgt := 174) X dL_weighs_135 (by decide) (fun c_32 => ?_) (fun c_32 => ?_)
    · have h := h.1 c_32
      refine q_aload_n (j := 9) X dL_weighs_174 rfl rfl ?_
      refine q_bipush (v := 6) X dL_weighs_175 (by decide) ?_
      refine q_iload_n (j := 8) X dL_weighs_177 rfl rfl ?_
      refine q_iload (j := 6) X dL_weighs_178 rfl ?_
      refine q_iconst (v := 0) X dL_weighs_180 (by decide) ?_
      obtain ⟨k_34, h⟩ := h
      refine qG_own X hW hZ (fun _ h => h) YT_ok [.ref (ad o 0 1), .int 6, .int r_7, .int x_12, .int 0] [] rfl rfl (Nat.le_of_ble_eq_true rfl) dL_weighs_181 ⟨(Nat.le_of_ble_eq_true rfl), (Nat.le_of_ble_eq_true rfl)⟩ (k_C_6 ha hst o r_7 x_12 0 g k_34) rfl rfl (gS kw_3_88 kw_3_89 kw_1_0 kw_3_90) hy_L_call.2 ⟨(Nat.le_of_ble_eq_true rfl), (Nat.le_of_ble_eq_true rfl)⟩ (fun r_33 g_35 hq => ?_)
      refine q_wi (fun hi => ?_)
      have h := h r_33 hq.1 g_35 hq.2 hi
      refine q_iload (j := 5) X dL_weighs_184 rfl ?_
      have J332 : ∀ (y_36 : Int32) (m_37 : Gh), w_L_weighs_J332 o q Q9 r_7 r_9 r_15 y_36 m_37 → V p l e rm_L_weighs s m args below meth c QQ 13 (AU A) 34 (6 * 34) (WY D cA ad YT m_37) 332 [(0, .ref (ad o 0 1)), (1, .ref (ad q 0 1)), (3, .int r_7), (4, .int r_9), (7, .int r_15)] [.int y_36] := by
        intro y_36 m_37 h
        unfold w_L_weighs_J332 at h
        refine q_istore (lv' := [(12, .int y_36), (0, .ref (ad o 0 1)), (1, .ref (ad q 0 1)), (3, .int r_7), (4, .int r_9), (7, .int r_15)]) X dL_weighs_332 (by decide) rfl ?_
        refine q_iload (j := 0) X dL_weighs_334 rfl ?_
        refine q_if_eq (tgt := 375) X dL_weighs_336 (by decide) (fun c_38 => ?_) (fun c_38 => ?_)
        · have h := h.1 c_38
          refine q_iconst (v := 0) X dL_weighs_375 (by decide) ?_
          exact hE _ _ _ _ _ _ dL_weighs_376 (by omega) (by omega) (Or.inl rfl) h
        · have h := h.2 c_38
          refine q_aload_n (j := 1) X dL_weighs_339 rfl rfl ?_
          refine q_aload_n (j := 2) X dL_weighs_340 rfl rfl ?_
          refine q_iconst (v := 1) X dL_weighs_341 (by decide) ?_
          refine qG_own X hW hZ (fun _ h => h) YT_ok [.ref (ad o 0 1), .ref (ad q 0 1), .int 1] [] rfl rfl (Nat.le_of_ble_eq_true rfl) dL_weighs_342 ⟨(Nat.le_of_ble_eq_true rfl), (Nat.le_of_ble_eq_true rfl)⟩ (c_L_undoes ha hst o q 1 m_37 _ h) rfl rfl (gS kw_7_7 kw_7_8 kw_1_0 kw_7_9) hy_L_undoes.2 ⟨(Nat.le_of_ble_eq_true rfl), (Nat.le_of_ble_eq_true rfl)⟩ (fun r_39 g_40 h => ?_)
          refine q_if_eq (tgt := 375) X dL_weighs_345 (by decide) (fun c_41 => ?_) (fun c_41 => ?_)
          · have h := h.1 c_41
            refine q_iconst (v := 0) X dL_weighs_375 (by decide) ?_
            exact hE _ _ _ _ _ _ dL_weighs_376 (by omega) (by omega) (Or.inl rfl) h
          · have h := h.2 c_41
            refine q_aload_n (j := 1) X dL_weighs_348 rfl rfl ?_
            obtain ⟨k_43, h⟩ := h
            refine qG_ask X hW hZ ha (fun _ h => h) YT_ok o (val := (v_balance (g_40.1 o))) (Qp := (fun mo r m1 => r = (v_balance (g_40.1 o)) ∧ mo = m1)) [] [] rfl rfl (Nat.le_of_ble_eq_true rfl) dL_weighs_349 ⟨(Nat.le_of_ble_eq_true rfl), (Nat.le_of_ble_eq_true rfl)⟩ k_43 (fun mo hmo => c_X9_balance (ha.1 o)  mo _ (n_balance hmo.rs hmo.inv  _ rfl)) (fun mo r m1 hr h => ⟨h.1, by rw [← h.2]; exact hr⟩) rfl rfl (gV kw_6_174 kw_6_175 kw_6_176 kw_1_1 kw_6_177) hy_X9_balance ⟨(Nat.le_of_ble_eq_true rfl), (Nat.le_of_ble_eq_true rfl)⟩ ?_
            refine q_topi (fun r_42 er_42 => ?_)
            have h := h r_42 er_42
            refine q_iload (j := 5) X dL_weighs_352 rfl ?_
            refine q_icmp_ne (tgt := 375) X dL_weighs_354 (by decide) (fun c_44 => ?_) (fun c_44 => ?_)
            · have h := h.1 c_44
              refine q_iconst (v := 0) X dL_weighs_375 (by decide) ?_
              exact hE _ _ _ _ _ _ dL_weighs_376 (by omega) (by omega) (Or.inl rfl) h
            · have h := h.2 c_44
              refine q_aload_n (j := 1) X dL_weighs_357 rfl rfl ?_
              refine q_bipush (v := 17) X dL_weighs_358 (by decide) ?_
              refine q_iload_n (j := 3) X dL_weighs_360 rfl rfl ?_
              refine q_iconst (v := 0) X dL_weighs_361 (by decide) ?_
              refine q_iconst (v := 0) X dL_weighs_362 (by decide) ?_
              obtain ⟨k_46, h⟩ := h
              refine qG_own X hW hZ (fun _ h => h) YT_ok [.ref (ad o 0 1), .int 17, .int r_7, .int 0, .int 0] [] rfl rfl (Nat.le_of_ble_eq_true rfl) dL_weighs_363 ⟨(Nat.le_of_ble_eq_true rfl), (Nat.le_of_ble_eq_true rfl)⟩ (k_C_17 ha hst o r_7 0 0 g_40 k_46) rfl rfl (gS kw_3_88 kw_3_89 kw_1_0 kw_3_90) hy_L_call.2 ⟨(Nat.le_of_ble_eq_true rfl), (Nat.le_of_ble_eq_true rfl)⟩ (fun r_45 g9 hq => ?_)
              obtain ⟨er_45, hq⟩ := hq
              rw [hq]
              have h := h r_45 er_45
              refine q_iload (j := 4) X dL_weighs_366 rfl ?_
              refine q_icmp_ne (tgt := 375) X dL_weighs_368 (by decide) (fun c_47 => ?_) (fun c_47 => ?_)
              · have h := h.1 c_47
                refine q_iconst (v := 0) X dL_weighs_375 (by decide) ?_
                exact hE _ _ _ _ _ _ dL_weighs_376 (by omega) (by omega) (Or.inl rfl) h
              · have h := h.2 c_47
                refine q_iconst (v := 1) X dL_weighs_371 (by decide) ?_
                refine q_goto (tgt := 376) X dL_weighs_372 (by decide) ?_
                exact hE _ _ _ _ _ _ dL_weighs_376 (by omega) (by omega) (Or.inr rfl) h
      have J331 : ∀ (m_48 : Gh), w_L_weighs_J331 o q Q9 r_7 r_9 r_15 m_48 → V p l e rm_L_weighs s m args below meth c QQ 13 (AU A) 34 (6 * 34) (WY D cA ad YT m_48) 331 [(0, .ref (ad o 0 1)), (1, .ref (ad q 0 1)), (3, .int r_7), (4, .int r_9), (7, .int r_15)] [] := by
        intro m_48 h
        unfold w_L_weighs_J331 at h
        refine q_iconst (v := 0) X dL_weighs_331 (by decide) ?_
        refine q_sub [0, 1, 2, 3, 4] rfl ?_
        refine q_w (c2 := 34) (n2 := (6 * 34)) (by omega) (by omega) ?_
        exact J332 0 m_48 h
      refine q_icmp_ne (tgt := 331) X dL_weighs_186 (by decide) (fun c_49 => ?_) (fun c_49 => ?_)
      · have h := h.1 c_49
        refine q_sub [9, 10, 8, 7, 4] rfl ?_
        refine q_w (c2 := 34) (n2 := (6 * 34)) (by omega) (by omega) ?_
        exact J331 g_35 h
      · have h := h.2 c_49
        refine q_aload_n (j := 10) X dL_weighs_189 rfl rfl ?_
        refine q_bipush (v := 6) X dL_weighs_190 (by decide) ?_
        refine q_iload_n (j := 8) X dL_weighs_192 rfl rfl ?_
        refine q_iload (j := 6) X dL_weighs_193 rfl ?_
        refine q_iconst (v := 0) X dL_weighs_195 (by decide) ?_
        obtain ⟨k_51, h⟩ := h
        refine qG_own X hW hZ (fun _ h => h) YT_ok [.ref (ad q 0 1), .int 6, .int r_7, .int x_12, .int 0] [] rfl rfl (Nat.le_of_ble_eq_true rfl) dL_weighs_196 ⟨(Nat.le_of_ble_eq_true rfl), (Nat.le_of_ble_eq_true rfl)⟩ (k_C_6 ha hst q r_7 x_12 0 g_35 k_51) rfl rfl (gS kw_3_88 kw_3_89 kw_1_0 kw_3_90) hy_L_call.2 ⟨(Nat.le_of_ble_eq_true rfl), (Nat.le_of_ble_eq_true rfl)⟩ (fun r_50 g_52 hq => ?_)
        refine q_wi (fun hi => ?_)
        have h := h r_50 hq.1 g_52 hq.2 hi
        refine q_iload (j := 5) X dL_weighs_199 rfl ?_
        refine q_icmp_ne (tgt := 331) X dL_weighs_201 (by decide) (fun c_53 => ?_) (fun c_53 => ?_)
        · have h := h.1 c_53
          refine q_sub [9, 10, 8, 7, 4] rfl ?_
          refine q_w (c2 := 34) (n2 := (6 * 34)) (by omega) (by omega) ?_
          exact J331 g_52 h
        · have h := h.2 c_53
          refine q_aload_n (j := 9) X dL_weighs_204 rfl rfl ?_
          obtain ⟨k_55, h⟩ := h
          refine qG_ask X hW hZ ha (fun _ h => h) YT_ok o (val := (v_balance (g_52.1 o))) (Qp := (fun mo r m1 => r = (v_balance (g_52.1 o)) ∧ mo = m1)) [] [] rfl rfl (Nat.le_of_ble_eq_true rfl) dL_weighs_205 ⟨(Nat.le_of_ble_eq_true rfl), (Nat.le_of_ble_eq_true rfl)⟩ k_55 (fun mo hmo => c_X9_balance (ha.1 o)  mo _ (n_balance hmo.rs hmo.inv  _ rfl)) (fun mo r m1 hr h => ⟨h.1, by rw [← h.2]; exact hr⟩) rfl rfl (gV kw_6_174 kw_6_175 kw_6_176 kw_1_1 kw_6_177) hy_X9_balance ⟨(Nat.le_of_ble_eq_true rfl), (Nat.le_of_ble_eq_true rfl)⟩ ?_
          refine q_topi (fun r_54 er_54 => ?_)
          have h := h r_54 er_54
          refine q_iload (j := 4) X dL_weighs_208 rfl ?_
          refine q_iload (j := 5) X dL_weighs_210 rfl ?_
          refine q_isub X dL_weighs_212 ?_
          refine q_icmp_ne (tgt := 331) X dL_weighs_213 (by decide) (fun c_56 => ?_) (fun c_56 => ?_)
          · have h := h.1 c_56
            refine q_sub [9, 10, 8, 7, 4] rfl ?_
            refine q_w (c2 := 34) (n2 := (6 * 34)) (by omega) (by omega) ?_
            exact J331 g_52 h
          · have h := h.2 c_56
            refine q_aload_n (j := 9) X dL_weighs_216 rfl rfl ?_
            obtain ⟨k_58, h⟩ := h
            refine qG_ask X hW hZ ha (fun _ h => h) YT_ok o (val := (v_balanceByTotals (g_52.1 o))) (Qp := (fun mo r m1 => r = (v_balanceByTotals (g_52.1 o)) ∧ mo = m1)) [] [] rfl rfl (Nat.le_of_ble_eq_true rfl) dL_weighs_217 ⟨(Nat.le_of_ble_eq_true rfl), (Nat.le_of_ble_eq_true rfl)⟩ k_58 (fun mo hmo => c_X9_balanceByTotals (ha.1 o)  mo _ (n_balanceByTotals hmo.rs hmo.inv  _ rfl)) (fun mo r m1 hr h => ⟨h.1, by rw [← h.2]; exact hr⟩) rfl rfl (gV kw_6_178 kw_6_179 kw_6_180 kw_1_1 kw_6_181) hy_X9_balanceByTotals ⟨(Nat.le_of_ble_eq_true rfl), (Nat.le_of_ble_eq_true rfl)⟩ ?_
            refine q_topi (fun r_57 er_57 => ?_)
            have h := h r_57 er_57
            refine q_iload (j := 4) X dL_weighs_220 rfl ?_
            refine q_iload (j := 5) X dL_weighs_222 rfl ?_
            refine q_isub X dL_weighs_224 ?_
            refine q_icmp_ne (tgt := 331) X dL_weighs_225 (by decide) (fun c_59 => ?_) (fun c_59 => ?_)
            · have h := h.1 c_59
              refine q_sub [9, 10, 8, 7, 4] rfl ?_
              refine q_w (c2 := 34) (n2 := (6 * 34)) (by omega) (by omega) ?_
              exact J331 g_52 h
            · have h := h.2 c_59
              refine q_aload_n (j := 9) X dL_weighs_228 rfl rfl ?_
              refine q_bipush (v := 36) X dL_weighs_229 (by decide) ?_
              refine q_iload (j := 3) X dL_weighs_231 rfl ?_
              refine q_iconst (v := 0) X dL_weighs_233 (by decide) ?_
              refine q_iconst (v := 0) X dL_weighs_234 (by decide) ?_
              obtain ⟨k_61, h⟩ := h
              refine qG_own X hW hZ (fun _ h => h) YT_ok [.ref (ad o 0 1), .int 36, .int r_17, .int 0, .int 0] [] rfl rfl (Nat.le_of_ble_eq_true rfl) dL_weighs_235 ⟨(Nat.le_of_ble_eq_true rfl), (Nat.le_of_ble_eq_true rfl)⟩ (k_C_36 ha hst o r_17 0 0 g_52 k_61) rfl rfl (gS kw_3_88 kw_3_89 kw_1_0 kw_3_90) hy_L_call.2 ⟨(Nat.le_of_ble_eq_true rfl), (Nat.le_of_ble_eq_true rfl)⟩ (fun r_60 g9 hq => ?_)
              obtain ⟨er_60, hq⟩ := hq
              rw [hq]
              have h := h r_60 er_60
              refine q_aload_n (j := 9) X dL_weighs_238 rfl rfl ?_
              refine q_bipush (v := 37) X dL_weighs_239 (by decide) ?_
              refine q_iload (j := 3) X dL_weighs_241 rfl ?_
              refine q_iconst (v := 0) X dL_weighs_243 (by decide) ?_
              refine q_iconst (v := 0) X dL_weighs_244 (by decide) ?_
              obtain ⟨k_63, h⟩ := h
              refine qG_own X hW hZ (fun _ h => h) YT_ok [.ref (ad o 0 1), .int 37, .int r_17, .int 0, .int 0] [.int r_60] rfl rfl (Nat.le_of_ble_eq_true rfl) dL_weighs_245 ⟨(Nat.le_of_ble_eq_true rfl), (Nat.le_of_ble_eq_true rfl)⟩ (k_C_37 ha hst o r_17 0 0 g_52 k_63) rfl rfl (gS kw_3_88 kw_3_89 kw_1_0 kw_3_90) hy_L_call.2 ⟨(Nat.le_of_ble_eq_true rfl), (Nat.le_of_ble_eq_true rfl)⟩ (fun r_62 g9 hq => ?_)
              obtain ⟨er_62, hq⟩ := hq
              rw [hq]
              have h := h r_62 er_62
              refine q_iadd X dL_weighs_248 ?_
              refine q_iload (j := 2) X dL_weighs_249 rfl ?_
              refine q_iload (j := 7) X dL_weighs_251 rfl ?_
              refine q_iadd X dL_weighs_253 ?_
              refine q_iload (j := 6) X dL_weighs_254 rfl ?_
              refine q_isub X dL_weighs_256 ?_
              refine q_icmp_ne (tgt := 331) X dL_weighs_257 (by decide) (fun c_64 => ?_) (fun c_64 => ?_)
              · have h := h.1 c_64
                refine q_sub [9, 10, 8, 7, 4] rfl ?_
                refine q_w (c2 := 34) (n2 := (6 * 34)) (by omega) (by omega) ?_
                exact J331 g_52 h
              · have h := h.2 c_64
                refine q_iload (j := 7) X dL_weighs_260 rfl ?_
                refine q_iload (j := 6) X dL_weighs_262 rfl ?_
                refine q_isub X dL_weighs_264 ?_
                refine q_iload (j := 0) X dL_weighs_265 rfl ?_
                have J290 : w_L_weighs_J290 o q Q9 r_7 r_9 x_12 r_15 g_52  → V p l e rm_L_weighs s m args below meth c QQ 13 (AU A) 30 (6 * 30) (WY D cA ad YT g_52) 290 [(0, .ref (ad o 0 1)), (1, .ref (ad q 0 1)), (3, .int r_7), (4, .int r_9), (5, .int x_12), (7, .int r_15)] [] := by
                  intro  h
                  unfold w_L_weighs_J290 at h
                  refine q_iload (j := 4) X dL_weighs_290 rfl ?_
                  have J327 : w_L_weighs_J327 o q Q9 r_7 r_9 r_15 g_52  → V p l e rm_L_weighs s m args below meth c QQ 13 (AU A) 34 (6 * 34) (WY D cA ad YT g_52) 327 [(0, .ref (ad o 0 1)), (1, .ref (ad q 0 1)), (3, .int r_7), (4, .int r_9), (7, .int r_15)] [] := by
                    intro  h
                    unfold w_L_weighs_J327 at h
                    refine q_iconst (v := 1) X dL_weighs_327 (by decide) ?_
                    refine q_goto (tgt := 332) X dL_weighs_328 (by decide) ?_
                    refine q_sub [0, 1, 2, 3, 4] rfl ?_
                    refine q_w (c2 := 34) (n2 := (6 * 34)) (by omega) (by omega) ?_
                    exact J332 1 g_52 h
                  refine q_if_ne (tgt := 306) X dL_weighs_292 (by decide) (fun c_65 => ?_) (fun c_65 => ?_)
                  · have h := h.1 c_65
                    refine q_aload_n (j := 0) X dL_weighs_306 rfl rfl ?_
                    refine q_iload_n (j := 2) X dL_weighs_307 rfl rfl ?_
                    obtain ⟨k_67, h⟩ := h
                    refine qG_ownW X hW hZ (fun _ h => h) YT_ok [.ref (ad o 0 1), .int r_7] [] rfl rfl (Nat.le_of_ble_eq_true rfl) dL_weighs_308 ⟨(Nat.le_of_ble_eq_true rfl), (Nat.le_of_ble_eq_true rfl)⟩ (k_L_isProved ha hst o r_7 g_52 k_67) rfl rfl (gSW kw_6_134 kw_6_135 kw_1_0 kw_6_136) hy_L_isProved.2 ⟨(Nat.le_of_ble_eq_true rfl), (Nat.le_of_ble_eq_true rfl)⟩ (fun r_66 g9 hq => ?_)
                    obtain ⟨er_66, hq⟩ := hq
                    rw [hq]
                    have h := h r_66 er_66
                    refine q_iconst (v := 1) X dL_weighs_311 (by decide) ?_
                    refine q_icmp_ne (tgt := 331) X dL_weighs_312 (by decide) (fun c_68 => ?_) (fun c_68 => ?_)
                    · have h := h.1 c_68
                      refine q_sub [0, 1, 2, 3, 5] rfl ?_
                      refine q_w (c2 := 34) (n2 := (6 * 34)) (by omega) (by omega) ?_
                      exact J331 g_52 h
                    · have h := h.2 c_68
                      refine q_aload_n (j := 0) X dL_weighs_315 rfl rfl ?_
                      refine q_bipush (v := 23) X dL_weighs_316 (by decide) ?_
                      refine q_iload_n (j := 2) X dL_weighs_318 rfl rfl ?_
                      refine q_iconst (v := 0) X dL_weighs_319 (by decide) ?_
                      refine q_iconst (v := 0) X dL_weighs_320 (by decide) ?_
                      obtain ⟨k_70, h⟩ := h
                      refine qG_own X hW hZ (fun _ h => h) YT_ok [.ref (ad o 0 1), .int 23, .int r_7, .int 0, .int 0] [] rfl rfl (Nat.le_of_ble_eq_true rfl) dL_weighs_321 ⟨(Nat.le_of_ble_eq_true rfl), (Nat.le_of_ble_eq_true rfl)⟩ (k_C_23 ha hst o r_7 0 0 g_52 k_70) rfl rfl (gS kw_3_88 kw_3_89 kw_1_0 kw_3_90) hy_L_call.2 ⟨(Nat.le_of_ble_eq_true rfl), (Nat.le_of_ble_eq_true rfl)⟩ (fun r_69 g9 hq => ?_)
                      obtain ⟨er_69, hq⟩ := hq
                      rw [hq]
                      have h := h r_69 er_69
                      refine q_if_ne (tgt := 331) X dL_weighs_324 (by decide) (fun c_71 => ?_) (fun c_71 => ?_)
                      · have h := h.1 c_71
                        refine q_sub [0, 1, 2, 3, 5] rfl ?_
                        refine q_w (c2 := 34) (n2 := (6 * 34)) (by omega) (by omega) ?_
                        exact J331 g_52 h
                      · have h := h.2 c_71
                        refine q_sub [0, 1, 2, 3, 5] rfl ?_
                        refine q_w (c2 := 34) (n2 := (6 * 34)) (by omega) (by omega) ?_
                        exact J327  h
                  · have h := h.2 c_65
                    refine q_aload_n (j := 0) X dL_weighs_295 rfl rfl ?_
                    refine q_iload_n (j := 2) X dL_weighs_296 rfl rfl ?_
                    obtain ⟨k_73, h⟩ := h
                    refine qG_ask X hW hZ ha (fun _ h => h) YT_ok o (val := (v_isOpenEntry r_7 (g_52.1 o))) (Qp := (fun mo r m1 => r = (v_isOpenEntry r_7 (g_52.1 o)) ∧ mo = m1)) [.int r_7] [] rfl rfl (Nat.le_of_ble_eq_true rfl) dL_weighs_297 ⟨(Nat.le_of_ble_eq_true rfl), (Nat.le_of_ble_eq_true rfl)⟩ k_73 (fun mo hmo => c_X9_isOpenEntry (ha.1 o) r_7 mo _ (n_isOpenEntry hmo.rs hmo.inv r_7 _ rfl)) (fun mo r m1 hr h => ⟨h.1, by rw [← h.2]; exact hr⟩) rfl rfl (gV kw_6_190 kw_6_191 kw_6_192 kw_1_1 kw_6_193) hy_X9_isOpenEntry ⟨(Nat.le_of_ble_eq_true rfl), (Nat.le_of_ble_eq_true rfl)⟩ ?_
                    refine q_topi (fun r_72 er_72 => ?_)
                    have h := h r_72 er_72
                    refine q_if_ne (tgt := 331) X dL_weighs_300 (by decide) (fun c_74 => ?_) (fun c_74 => ?_)
                    · have h := h.1 c_74
                      refine q_sub [0, 1, 2, 3, 5] rfl ?_
                      refine q_w (c2 := 34) (n2 := (6 * 34)) (by omega) (by omega) ?_
                      exact J331 g_52 h
                    · have h := h.2 c_74
                      refine q_goto (tgt := 327) X dL_weighs_303 (by decide) ?_
                      refine q_sub [0, 1, 2, 3, 5] rfl ?_
                      refine q_w (c2 := 34) (n2 := (6 * 34)) (by omega) (by omega) ?_
                      exact J327  h
                refine q_icmp_gt (tgt := 290) X dL_weighs_267 (by decide) (fun c_75 => ?_) (fun c_75 => ?_)
                · have h := h.1 c_75
                  refine q_sub [9, 10, 8, 7, 6, 4] rfl ?_
                  refine q_w (c2 := 30) (n2 := (6 * 30)) (by omega) (by omega) ?_
                  exact J290  h
                · have h := h.2 c_75
                  refine q_aload_n (j := 9) X dL_weighs_270 rfl rfl ?_
                  refine q_bipush (v := 37) X dL_weighs_271 (by decide) ?_
                  refine q_iload (j := 3) X dL_weighs_273 rfl ?_
                  refine q_iconst (v := 0) X dL_weighs_275 (by decide) ?_
                  refine q_iconst (v := 0) X dL_weighs_276 (by decide) ?_
                  obtain ⟨k_77, h⟩ := h
                  refine qG_own X hW hZ (fun _ h => h) YT_ok [.ref (ad o 0 1), .int 37, .int r_17, .int 0, .int 0] [] rfl rfl (Nat.le_of_ble_eq_true rfl) dL_weighs_277 ⟨(Nat.le_of_ble_eq_true rfl), (Nat.le_of_ble_eq_true rfl)⟩ (k_C_37 ha hst o r_17 0 0 g_52 k_77) rfl rfl (gS kw_3_88 kw_3_89 kw_1_0 kw_3_90) hy_L_call.2 ⟨(Nat.le_of_ble_eq_true rfl), (Nat.le_of_ble_eq_true rfl)⟩ (fun r_76 g9 hq => ?_)
                  obtain ⟨er_76, hq⟩ := hq
                  rw [hq]
                  have h := h r_76 er_76
                  refine q_iload (j := 1) X dL_weighs_280 rfl ?_
                  refine q_icmp_ne (tgt := 331) X dL_weighs_282 (by decide) (fun c_78 => ?_) (fun c_78 => ?_)
                  · have h := h.1 c_78
                    refine q_sub [9, 10, 8, 7, 4] rfl ?_
                    refine q_w (c2 := 34) (n2 := (6 * 34)) (by omega) (by omega) ?_
                    exact J331 g_52 h
                  · have h := h.2 c_78
                    refine q_iload (j := 5) X dL_weighs_285 rfl ?_
                    refine q_if_ne (tgt := 331) X dL_weighs_287 (by decide) (fun c_79 => ?_) (fun c_79 => ?_)
                    · have h := h.1 c_79
                      refine q_sub [9, 10, 8, 7, 4] rfl ?_
                      refine q_w (c2 := 34) (n2 := (6 * 34)) (by omega) (by omega) ?_
                      exact J331 g_52 h
                    · have h := h.2 c_79
                      refine q_sub [9, 10, 8, 7, 6, 4] rfl ?_
                      refine q_w (c2 := 30) (n2 := (6 * 30)) (by omega) (by omega) ?_
                      exact J290  h
    · have h := h.2 c_32
      refine q_aload_n (j := 9) X dL_weighs_138 rfl rfl ?_
      refine q_bipush (v := 6) X dL_weighs_139 (by decide) ?_
      refine q_iload_n (j := 8) X dL_weighs_141 rfl rfl ?_
      refine q_iload (j := 6) X dL_weighs_142 rfl ?_
      refine q_iconst (v := 0) X dL_weighs_144 (by decide) ?_
      obtain ⟨k_81, h⟩ := h
      refine qG_own X hW hZ (fun _ h => h) YT_ok [.ref (ad o 0 1), .int 6, .int r_7, .int x_12, .int 0] [] rfl rfl (Nat.le_of_ble_eq_true rfl) dL_weighs_145 ⟨(Nat.le_of_ble_eq_true rfl), (Nat.le_of_ble_eq_true rfl)⟩ (k_C_6 ha hst o r_7 x_12 0 g k_81) rfl rfl (gS kw_3_88 kw_3_89 kw_1_0 kw_3_90) hy_L_call.2 ⟨(Nat.le_of_ble_eq_true rfl), (Nat.le_of_ble_eq_true rfl)⟩ (fun r_80 g_82 hq => ?_)
      refine q_wi (fun hi => ?_)
      have h := h r_80 hq.1 g_82 hq.2 hi
      refine q_ldc (v := -9999003) X kw_3_87 dL_weighs_148 ?_
      refine q_icmp_ne (tgt := 172) X dL_weighs_150 (by decide) (fun c_83 => ?_) (fun c_83 => ?_)
      · have h := h.1 c_83
        refine q_iconst (v := 0) X dL_weighs_172 (by decide) ?_
        exact hE _ _ _ _ _ _ dL_weighs_173 (by omega) (by omega) (Or.inl rfl) h
      · have h := h.2 c_83
        refine q_aload_n (j := 10) X dL_weighs_153 rfl rfl ?_
        refine q_bipush (v := 6) X dL_weighs_154 (by decide) ?_
        refine q_iload_n (j := 8) X dL_weighs_156 rfl rfl ?_
        refine q_iload (j := 6) X dL_weighs_157 rfl ?_
        refine q_iconst (v := 0) X dL_weighs_159 (by decide) ?_
        obtain ⟨k_85, h⟩ := h
        refine qG_own X hW hZ (fun _ h => h) YT_ok [.ref (ad q 0 1), .int 6, .int r_7, .int x_12, .int 0] [] rfl rfl (Nat.le_of_ble_eq_true rfl) dL_weighs_160 ⟨(Nat.le_of_ble_eq_true rfl), (Nat.le_of_ble_eq_true rfl)⟩ (k_C_6 ha hst q r_7 x_12 0 g_82 k_85) rfl rfl (gS kw_3_88 kw_3_89 kw_1_0 kw_3_90) hy_L_call.2 ⟨(Nat.le_of_ble_eq_true rfl), (Nat.le_of_ble_eq_true rfl)⟩ (fun r_84 g_86 hq => ?_)
        refine q_wi (fun hi => ?_)
        have h := h r_84 hq.1 g_86 hq.2 hi
        refine q_ldc (v := -9999003) X kw_3_87 dL_weighs_163 ?_
        refine q_icmp_ne (tgt := 172) X dL_weighs_165 (by decide) (fun c_87 => ?_) (fun c_87 => ?_)
        · have h := h.1 c_87
          refine q_iconst (v := 0) X dL_weighs_172 (by decide) ?_
          exact hE _ _ _ _ _ _ dL_weighs_173 (by omega) (by omega) (Or.inl rfl) h
        · have h := h.2 c_87
          refine q_iconst (v := 1) X dL_weighs_168 (by decide) ?_
          refine q_goto (tgt := 173) X dL_weighs_169 (by decide) ?_
          exact hE _ _ _ _ _ _ dL_weighs_173 (by omega) (by omega) (Or.inr rfl) h
  · have h := h.2 c_3
    refine q_iconst (v := 1) X dL_weighs_7 (by decide) ?_
    exact hE _ _ _ _ _ _ dL_weighs_8 (by omega) (by omega) (Or.inr rfl) h
