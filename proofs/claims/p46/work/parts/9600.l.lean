/-! THE CLAIM OUT OF ONE WALK OF THE LAW'S BODY. Your part is whole_start (and what it stands on); all else here is the same for every law, but numbers. -/
theorem dL_law_0 : decode cL_law 0 = .ok (.new 26, 3) := by decide +kernel
theorem dL_law_3 : decode cL_law 3 = .ok (.dup, 1) := by decide +kernel
theorem dL_law_4 : decode cL_law 4 = .ok (.invokespecial 156, 3) := by decide +kernel
theorem dL_law_7 : decode cL_law 7 = .ok (.astore_n 1, 1) := by decide +kernel
theorem dL_law_8 : decode cL_law 8 = .ok (.aload_n 1, 1) := by decide +kernel
theorem dL_law_9 : decode cL_law 9 = .ok (.aload_n 0, 1) := by decide +kernel
theorem dL_law_10 : decode cL_law 10 = .ok (.invokestatic 157, 3) := by decide +kernel
theorem dL_law_13 : decode cL_law 13 = .ok (.invokestatic 161, 3) := by decide +kernel
theorem dL_law_16 : decode cL_law 16 = .ok (.aload_n 0, 1) := by decide +kernel
theorem dL_law_17 : decode cL_law 17 = .ok (.iconst 0, 1) := by decide +kernel
theorem dL_law_18 : decode cL_law 18 = .ok (.iconst 1, 1) := by decide +kernel
theorem dL_law_19 : decode cL_law 19 = .ok (.iconst 3, 1) := by decide +kernel
theorem dL_law_20 : decode cL_law 20 = .ok (.invokestatic 50, 3) := by decide +kernel
theorem dL_law_23 : decode cL_law 23 = .ok (.if_icmp .eq 5, 3) := by decide +kernel
theorem dL_law_26 : decode cL_law 26 = .ok (.iconst 0, 1) := by decide +kernel
theorem dL_law_27 : decode cL_law 27 = .ok (.ireturn, 1) := by decide +kernel
theorem dL_law_28 : decode cL_law 28 = .ok (.aload_n 0, 1) := by decide +kernel
theorem dL_law_29 : decode cL_law 29 = .ok (.bipush 15, 2) := by decide +kernel
theorem dL_law_31 : decode cL_law 31 = .ok (.iconst 3, 1) := by decide +kernel
theorem dL_law_32 : decode cL_law 32 = .ok (.bipush 30, 2) := by decide +kernel
theorem dL_law_34 : decode cL_law 34 = .ok (.invokestatic 50, 3) := by decide +kernel
theorem dL_law_37 : decode cL_law 37 = .ok (.istore_n 2, 1) := by decide +kernel
theorem dL_law_38 : decode cL_law 38 = .ok (.iconst 0, 1) := by decide +kernel
theorem dL_law_39 : decode cL_law 39 = .ok (.istore_n 3, 1) := by decide +kernel
theorem dL_law_40 : decode cL_law 40 = .ok (.iload_n 3, 1) := by decide +kernel
theorem dL_law_41 : decode cL_law 41 = .ok (.iload_n 2, 1) := by decide +kernel
theorem dL_law_42 : decode cL_law 42 = .ok (.if_icmp .ge 34, 3) := by decide +kernel
theorem dL_law_45 : decode cL_law 45 = .ok (.aload_n 1, 1) := by decide +kernel
theorem dL_law_46 : decode cL_law 46 = .ok (.aload_n 0, 1) := by decide +kernel
theorem dL_law_47 : decode cL_law 47 = .ok (.iload_n 3, 1) := by decide +kernel
theorem dL_law_48 : decode cL_law 48 = .ok (.bipush 7, 2) := by decide +kernel
theorem dL_law_50 : decode cL_law 50 = .ok (.iadd, 1) := by decide +kernel
theorem dL_law_51 : decode cL_law 51 = .ok (.invokestatic 165, 3) := by decide +kernel
theorem dL_law_54 : decode cL_law 54 = .ok (.aload_n 1, 1) := by decide +kernel
theorem dL_law_55 : decode cL_law 55 = .ok (.invokestatic 169, 3) := by decide +kernel
theorem dL_law_58 : decode cL_law 58 = .ok (.ifCond .eq 10, 3) := by decide +kernel
theorem dL_law_61 : decode cL_law 61 = .ok (.aload_n 1, 1) := by decide +kernel
theorem dL_law_62 : decode cL_law 62 = .ok (.invokestatic 173, 3) := by decide +kernel
theorem dL_law_65 : decode cL_law 65 = .ok (.ifCond .ne 5, 3) := by decide +kernel
theorem dL_law_68 : decode cL_law 68 = .ok (.iconst 0, 1) := by decide +kernel
theorem dL_law_69 : decode cL_law 69 = .ok (.ireturn, 1) := by decide +kernel
theorem dL_law_70 : decode cL_law 70 = .ok (.iinc 3 1, 3) := by decide +kernel
theorem dL_law_73 : decode cL_law 73 = .ok (.goto (-33), 3) := by decide +kernel
theorem dL_law_76 : decode cL_law 76 = .ok (.aload_n 1, 1) := by decide +kernel
theorem dL_law_77 : decode cL_law 77 = .ok (.iconst 5, 1) := by decide +kernel
theorem dL_law_78 : decode cL_law 78 = .ok (.invokevirtual 113, 3) := by decide +kernel
theorem dL_law_81 : decode cL_law 81 = .ok (.istore_n 3, 1) := by decide +kernel
theorem dL_law_82 : decode cL_law 82 = .ok (.aload_n 1, 1) := by decide +kernel
theorem dL_law_83 : decode cL_law 83 = .ok (.bipush 7, 2) := by decide +kernel
theorem dL_law_85 : decode cL_law 85 = .ok (.invokevirtual 113, 3) := by decide +kernel
theorem dL_law_88 : decode cL_law 88 = .ok (.istore 4, 2) := by decide +kernel
theorem dL_law_90 : decode cL_law 90 = .ok (.aload_n 1, 1) := by decide +kernel
theorem dL_law_91 : decode cL_law 91 = .ok (.bipush 40, 2) := by decide +kernel
theorem dL_law_93 : decode cL_law 93 = .ok (.invokevirtual 176, 3) := by decide +kernel
theorem dL_law_96 : decode cL_law 96 = .ok (.istore 5, 2) := by decide +kernel
theorem dL_law_98 : decode cL_law 98 = .ok (.aload_n 1, 1) := by decide +kernel
theorem dL_law_99 : decode cL_law 99 = .ok (.iconst 1, 1) := by decide +kernel
theorem dL_law_100 : decode cL_law 100 = .ok (.invokevirtual 179, 3) := by decide +kernel
theorem dL_law_103 : decode cL_law 103 = .ok (.istore 6, 2) := by decide +kernel
theorem dL_law_105 : decode cL_law 105 = .ok (.aload_n 1, 1) := by decide +kernel
theorem dL_law_106 : decode cL_law 106 = .ok (.invokevirtual 182, 3) := by decide +kernel
theorem dL_law_109 : decode cL_law 109 = .ok (.istore 7, 2) := by decide +kernel
theorem dL_law_111 : decode cL_law 111 = .ok (.aload_n 1, 1) := by decide +kernel
theorem dL_law_112 : decode cL_law 112 = .ok (.invokevirtual 185, 3) := by decide +kernel
theorem dL_law_115 : decode cL_law 115 = .ok (.iload_n 3, 1) := by decide +kernel
theorem dL_law_116 : decode cL_law 116 = .ok (.if_icmp .ne 20, 3) := by decide +kernel
theorem dL_law_119 : decode cL_law 119 = .ok (.aload_n 1, 1) := by decide +kernel
theorem dL_law_120 : decode cL_law 120 = .ok (.invokevirtual 188, 3) := by decide +kernel
theorem dL_law_123 : decode cL_law 123 = .ok (.iload_n 3, 1) := by decide +kernel
theorem dL_law_124 : decode cL_law 124 = .ok (.if_icmp .ne 12, 3) := by decide +kernel
theorem dL_law_127 : decode cL_law 127 = .ok (.aload_n 1, 1) := by decide +kernel
theorem dL_law_128 : decode cL_law 128 = .ok (.bipush 10, 2) := by decide +kernel
theorem dL_law_130 : decode cL_law 130 = .ok (.invokevirtual 113, 3) := by decide +kernel
theorem dL_law_133 : decode cL_law 133 = .ok (.ifCond .eq 5, 3) := by decide +kernel
theorem dL_law_136 : decode cL_law 136 = .ok (.iconst 0, 1) := by decide +kernel
theorem dL_law_137 : decode cL_law 137 = .ok (.ireturn, 1) := by decide +kernel
theorem dL_law_138 : decode cL_law 138 = .ok (.aload_n 1, 1) := by decide +kernel
theorem dL_law_139 : decode cL_law 139 = .ok (.iconst 0, 1) := by decide +kernel
theorem dL_law_140 : decode cL_law 140 = .ok (.invokevirtual 150, 3) := by decide +kernel
theorem dL_law_143 : decode cL_law 143 = .ok (.ifCond .lt 18, 3) := by decide +kernel
theorem dL_law_146 : decode cL_law 146 = .ok (.iload 6, 2) := by decide +kernel
theorem dL_law_148 : decode cL_law 148 = .ok (.iconst (-1), 1) := by decide +kernel
theorem dL_law_149 : decode cL_law 149 = .ok (.if_icmp .ne 18, 3) := by decide +kernel
theorem dL_law_152 : decode cL_law 152 = .ok (.iload 7, 2) := by decide +kernel
theorem dL_law_154 : decode cL_law 154 = .ok (.iconst (-1), 1) := by decide +kernel
theorem dL_law_155 : decode cL_law 155 = .ok (.if_icmp .eq 14, 3) := by decide +kernel
theorem dL_law_158 : decode cL_law 158 = .ok (.goto 9, 3) := by decide +kernel
theorem dL_law_161 : decode cL_law 161 = .ok (.iload 5, 2) := by decide +kernel
theorem dL_law_163 : decode cL_law 163 = .ok (.iconst (-1), 1) := by decide +kernel
theorem dL_law_164 : decode cL_law 164 = .ok (.if_icmp .eq 5, 3) := by decide +kernel
theorem dL_law_167 : decode cL_law 167 = .ok (.iconst 0, 1) := by decide +kernel
theorem dL_law_168 : decode cL_law 168 = .ok (.ireturn, 1) := by decide +kernel
theorem dL_law_169 : decode cL_law 169 = .ok (.iload 6, 2) := by decide +kernel
theorem dL_law_171 : decode cL_law 171 = .ok (.ifCond .le 54, 3) := by decide +kernel
theorem dL_law_174 : decode cL_law 174 = .ok (.aload_n 1, 1) := by decide +kernel
theorem dL_law_175 : decode cL_law 175 = .ok (.iconst 1, 1) := by decide +kernel
theorem dL_law_176 : decode cL_law 176 = .ok (.invokestatic 88, 3) := by decide +kernel
theorem dL_law_179 : decode cL_law 179 = .ok (.aload_n 1, 1) := by decide +kernel
theorem dL_law_180 : decode cL_law 180 = .ok (.bipush 6, 2) := by decide +kernel
theorem dL_law_182 : decode cL_law 182 = .ok (.invokevirtual 113, 3) := by decide +kernel
theorem dL_law_185 : decode cL_law 185 = .ok (.if_icmp .ne 38, 3) := by decide +kernel
theorem dL_law_188 : decode cL_law 188 = .ok (.aload_n 1, 1) := by decide +kernel
theorem dL_law_189 : decode cL_law 189 = .ok (.iload 6, 2) := by decide +kernel
theorem dL_law_191 : decode cL_law 191 = .ok (.invokevirtual 110, 3) := by decide +kernel
theorem dL_law_194 : decode cL_law 194 = .ok (.iconst 1, 1) := by decide +kernel
theorem dL_law_195 : decode cL_law 195 = .ok (.if_icmp .lt 28, 3) := by decide +kernel
theorem dL_law_198 : decode cL_law 198 = .ok (.aload_n 1, 1) := by decide +kernel
theorem dL_law_199 : decode cL_law 199 = .ok (.iconst 4, 1) := by decide +kernel
theorem dL_law_200 : decode cL_law 200 = .ok (.invokevirtual 153, 3) := by decide +kernel
theorem dL_law_203 : decode cL_law 203 = .ok (.iload 7, 2) := by decide +kernel
theorem dL_law_205 : decode cL_law 205 = .ok (.if_icmp .ne 18, 3) := by decide +kernel
theorem dL_law_208 : decode cL_law 208 = .ok (.aload_n 1, 1) := by decide +kernel
theorem dL_law_209 : decode cL_law 209 = .ok (.invokevirtual 191, 3) := by decide +kernel
theorem dL_law_212 : decode cL_law 212 = .ok (.iconst 1, 1) := by decide +kernel
theorem dL_law_213 : decode cL_law 213 = .ok (.if_icmp .ne 10, 3) := by decide +kernel
theorem dL_law_216 : decode cL_law 216 = .ok (.aload_n 1, 1) := by decide +kernel
theorem dL_law_217 : decode cL_law 217 = .ok (.invokevirtual 191, 3) := by decide +kernel
theorem dL_law_220 : decode cL_law 220 = .ok (.ifCond .eq 5, 3) := by decide +kernel
theorem dL_law_223 : decode cL_law 223 = .ok (.iconst 0, 1) := by decide +kernel
theorem dL_law_224 : decode cL_law 224 = .ok (.ireturn, 1) := by decide +kernel
theorem dL_law_225 : decode cL_law 225 = .ok (.iload 5, 2) := by decide +kernel
theorem dL_law_227 : decode cL_law 227 = .ok (.ifCond .le 57, 3) := by decide +kernel
theorem dL_law_230 : decode cL_law 230 = .ok (.aload_n 1, 1) := by decide +kernel
theorem dL_law_231 : decode cL_law 231 = .ok (.iload 5, 2) := by decide +kernel
theorem dL_law_233 : decode cL_law 233 = .ok (.invokevirtual 110, 3) := by decide +kernel
theorem dL_law_236 : decode cL_law 236 = .ok (.iconst 1, 1) := by decide +kernel
theorem dL_law_237 : decode cL_law 237 = .ok (.if_icmp .lt 45, 3) := by decide +kernel
theorem dL_law_240 : decode cL_law 240 = .ok (.aload_n 1, 1) := by decide +kernel
theorem dL_law_241 : decode cL_law 241 = .ok (.bipush 7, 2) := by decide +kernel
theorem dL_law_243 : decode cL_law 243 = .ok (.invokevirtual 113, 3) := by decide +kernel
theorem dL_law_246 : decode cL_law 246 = .ok (.iload 4, 2) := by decide +kernel
theorem dL_law_248 : decode cL_law 248 = .ok (.if_icmp .le 34, 3) := by decide +kernel
theorem dL_law_251 : decode cL_law 251 = .ok (.aload_n 1, 1) := by decide +kernel
theorem dL_law_252 : decode cL_law 252 = .ok (.invokevirtual 191, 3) := by decide +kernel
theorem dL_law_255 : decode cL_law 255 = .ok (.ifCond .ne 27, 3) := by decide +kernel
theorem dL_law_258 : decode cL_law 258 = .ok (.iload 5, 2) := by decide +kernel
theorem dL_law_260 : decode cL_law 260 = .ok (.iconst 1, 1) := by decide +kernel
theorem dL_law_261 : decode cL_law 261 = .ok (.if_icmp .le 23, 3) := by decide +kernel
theorem dL_law_264 : decode cL_law 264 = .ok (.aload_n 1, 1) := by decide +kernel
theorem dL_law_265 : decode cL_law 265 = .ok (.iload 5, 2) := by decide +kernel
theorem dL_law_267 : decode cL_law 267 = .ok (.iconst 1, 1) := by decide +kernel
theorem dL_law_268 : decode cL_law 268 = .ok (.isub, 1) := by decide +kernel
theorem dL_law_269 : decode cL_law 269 = .ok (.invokevirtual 110, 3) := by decide +kernel
theorem dL_law_272 : decode cL_law 272 = .ok (.ifCond .ne 10, 3) := by decide +kernel
theorem dL_law_275 : decode cL_law 275 = .ok (.aload_n 1, 1) := by decide +kernel
theorem dL_law_276 : decode cL_law 276 = .ok (.invokevirtual 191, 3) := by decide +kernel
theorem dL_law_279 : decode cL_law 279 = .ok (.ifCond .eq 5, 3) := by decide +kernel
theorem dL_law_282 : decode cL_law 282 = .ok (.iconst 0, 1) := by decide +kernel
theorem dL_law_283 : decode cL_law 283 = .ok (.ireturn, 1) := by decide +kernel
theorem dL_law_284 : decode cL_law 284 = .ok (.aload_n 1, 1) := by decide +kernel
theorem dL_law_285 : decode cL_law 285 = .ok (.invokevirtual 147, 3) := by decide +kernel
theorem dL_law_288 : decode cL_law 288 = .ok (.istore 8, 2) := by decide +kernel
theorem dL_law_290 : decode cL_law 290 = .ok (.aload_n 1, 1) := by decide +kernel
theorem dL_law_291 : decode cL_law 291 = .ok (.invokevirtual 92, 3) := by decide +kernel
theorem dL_law_294 : decode cL_law 294 = .ok (.iload 8, 2) := by decide +kernel
theorem dL_law_296 : decode cL_law 296 = .ok (.if_icmp .ne 49, 3) := by decide +kernel
theorem dL_law_299 : decode cL_law 299 = .ok (.aload_n 1, 1) := by decide +kernel
theorem dL_law_300 : decode cL_law 300 = .ok (.invokevirtual 147, 3) := by decide +kernel
theorem dL_law_303 : decode cL_law 303 = .ok (.ifCond .ne 42, 3) := by decide +kernel
theorem dL_law_306 : decode cL_law 306 = .ok (.aload_n 1, 1) := by decide +kernel
theorem dL_law_307 : decode cL_law 307 = .ok (.invokestatic 169, 3) := by decide +kernel
theorem dL_law_310 : decode cL_law 310 = .ok (.ifCond .eq 35, 3) := by decide +kernel
theorem dL_law_313 : decode cL_law 313 = .ok (.aload_n 1, 1) := by decide +kernel
theorem dL_law_314 : decode cL_law 314 = .ok (.invokestatic 173, 3) := by decide +kernel
theorem dL_law_317 : decode cL_law 317 = .ok (.ifCond .eq 28, 3) := by decide +kernel
theorem dL_law_320 : decode cL_law 320 = .ok (.aload_n 1, 1) := by decide +kernel
theorem dL_law_321 : decode cL_law 321 = .ok (.invokevirtual 191, 3) := by decide +kernel
theorem dL_law_324 : decode cL_law 324 = .ok (.ifCond .ne 21, 3) := by decide +kernel
theorem dL_law_327 : decode cL_law 327 = .ok (.aload_n 1, 1) := by decide +kernel
theorem dL_law_328 : decode cL_law 328 = .ok (.invokevirtual 147, 3) := by decide +kernel
theorem dL_law_331 : decode cL_law 331 = .ok (.iload 8, 2) := by decide +kernel
theorem dL_law_333 : decode cL_law 333 = .ok (.if_icmp .ne 12, 3) := by decide +kernel
theorem dL_law_336 : decode cL_law 336 = .ok (.aload_n 1, 1) := by decide +kernel
theorem dL_law_337 : decode cL_law 337 = .ok (.iconst 5, 1) := by decide +kernel
theorem dL_law_338 : decode cL_law 338 = .ok (.invokevirtual 113, 3) := by decide +kernel
theorem dL_law_341 : decode cL_law 341 = .ok (.iload_n 3, 1) := by decide +kernel
theorem dL_law_342 : decode cL_law 342 = .ok (.if_icmp .eq 5, 3) := by decide +kernel
theorem dL_law_345 : decode cL_law 345 = .ok (.iconst 0, 1) := by decide +kernel
theorem dL_law_346 : decode cL_law 346 = .ok (.ireturn, 1) := by decide +kernel
theorem dL_law_347 : decode cL_law 347 = .ok (.aload_n 1, 1) := by decide +kernel
theorem dL_law_348 : decode cL_law 348 = .ok (.aload_n 0, 1) := by decide +kernel
theorem dL_law_349 : decode cL_law 349 = .ok (.iload_n 2, 1) := by decide +kernel
theorem dL_law_350 : decode cL_law 350 = .ok (.bipush 7, 2) := by decide +kernel
theorem dL_law_352 : decode cL_law 352 = .ok (.iadd, 1) := by decide +kernel
theorem dL_law_353 : decode cL_law 353 = .ok (.invokestatic 165, 3) := by decide +kernel
theorem dL_law_356 : decode cL_law 356 = .ok (.aload_n 1, 1) := by decide +kernel
theorem dL_law_357 : decode cL_law 357 = .ok (.bipush 10, 2) := by decide +kernel
theorem dL_law_359 : decode cL_law 359 = .ok (.invokevirtual 113, 3) := by decide +kernel
theorem dL_law_362 : decode cL_law 362 = .ok (.ifCond .le 18, 3) := by decide +kernel
theorem dL_law_365 : decode cL_law 365 = .ok (.aload_n 1, 1) := by decide +kernel
theorem dL_law_366 : decode cL_law 366 = .ok (.invokevirtual 191, 3) := by decide +kernel
theorem dL_law_369 : decode cL_law 369 = .ok (.aload_n 1, 1) := by decide +kernel
theorem dL_law_370 : decode cL_law 370 = .ok (.bipush 10, 2) := by decide +kernel
theorem dL_law_372 : decode cL_law 372 = .ok (.invokevirtual 113, 3) := by decide +kernel
theorem dL_law_375 : decode cL_law 375 = .ok (.if_icmp .eq (-19), 3) := by decide +kernel
theorem dL_law_378 : decode cL_law 378 = .ok (.iconst 0, 1) := by decide +kernel
theorem dL_law_379 : decode cL_law 379 = .ok (.ireturn, 1) := by decide +kernel
theorem dL_law_380 : decode cL_law 380 = .ok (.aload_n 1, 1) := by decide +kernel
theorem dL_law_381 : decode cL_law 381 = .ok (.iconst 5, 1) := by decide +kernel
theorem dL_law_382 : decode cL_law 382 = .ok (.invokevirtual 113, 3) := by decide +kernel
theorem dL_law_385 : decode cL_law 385 = .ok (.iload_n 3, 1) := by decide +kernel
theorem dL_law_386 : decode cL_law 386 = .ok (.if_icmp .ne 32, 3) := by decide +kernel
theorem dL_law_389 : decode cL_law 389 = .ok (.aload_n 1, 1) := by decide +kernel
theorem dL_law_390 : decode cL_law 390 = .ok (.bipush 7, 2) := by decide +kernel
theorem dL_law_392 : decode cL_law 392 = .ok (.invokevirtual 113, 3) := by decide +kernel
theorem dL_law_395 : decode cL_law 395 = .ok (.iload 4, 2) := by decide +kernel
theorem dL_law_397 : decode cL_law 397 = .ok (.if_icmp .ne 21, 3) := by decide +kernel
theorem dL_law_400 : decode cL_law 400 = .ok (.aload_n 1, 1) := by decide +kernel
theorem dL_law_401 : decode cL_law 401 = .ok (.invokestatic 169, 3) := by decide +kernel
theorem dL_law_404 : decode cL_law 404 = .ok (.ifCond .eq 14, 3) := by decide +kernel
theorem dL_law_407 : decode cL_law 407 = .ok (.aload_n 1, 1) := by decide +kernel
theorem dL_law_408 : decode cL_law 408 = .ok (.invokestatic 173, 3) := by decide +kernel
theorem dL_law_411 : decode cL_law 411 = .ok (.ifCond .eq 7, 3) := by decide +kernel
theorem dL_law_414 : decode cL_law 414 = .ok (.iconst 1, 1) := by decide +kernel
theorem dL_law_415 : decode cL_law 415 = .ok (.goto 4, 3) := by decide +kernel
theorem dL_law_418 : decode cL_law 418 = .ok (.iconst 0, 1) := by decide +kernel
theorem dL_law_419 : decode cL_law 419 = .ok (.ireturn, 1) := by decide +kernel
theorem kw_1240 : (Jvm.Cond.methodLink "BarrierFlowLaw" (169 : Nat) ({ cls := "BarrierFlowLaw", name := "isOnce", desc := "(LBarrierFlow;)Z" } : Jvm.MethodName)) ∈ zTb := zTb_of 1240 (by decide +kernel) (by decide +kernel)
theorem kw_1242 : (Jvm.Cond.code ({ cls := "BarrierFlowLaw", name := "isOnce", desc := "(LBarrierFlow;)Z" } : Jvm.MethodName) method_9_code (5 : Nat) (Option.some Jvm.ClassFile.FieldType.boolean)) ∈ zTb := zTb_of 1242 (by decide +kernel) (by decide +kernel)
theorem kw_1241 : (Jvm.Cond.static ({ cls := "BarrierFlowLaw", name := "isOnce", desc := "(LBarrierFlow;)Z" } : Jvm.MethodName)) ∈ zTb := zTb_of 1241 (by decide +kernel) (by decide +kernel)
theorem hyL_isOnce : yL_isOnce.cls ≠ "java/lang/invoke/MethodHandle" ∧ yL_isOnce.cls ≠ "java/lang/invoke/VarHandle" ∧ (parseMethodDescriptor yL_isOnce.desc).map (fun d => d.parameters.length) = some 1 := ⟨by decide +kernel, by decide +kernel, by decide +kernel⟩
theorem kw_1302 : (Jvm.Cond.methodLink "BarrierFlowLaw" (173 : Nat) ({ cls := "BarrierFlowLaw", name := "areSums", desc := "(LBarrierFlow;)Z" } : Jvm.MethodName)) ∈ zTb := zTb_of 1302 (by decide +kernel) (by decide +kernel)
theorem kw_1304 : (Jvm.Cond.code ({ cls := "BarrierFlowLaw", name := "areSums", desc := "(LBarrierFlow;)Z" } : Jvm.MethodName) method_10_code (5 : Nat) (Option.some Jvm.ClassFile.FieldType.boolean)) ∈ zTb := zTb_of 1304 (by decide +kernel) (by decide +kernel)
theorem kw_1303 : (Jvm.Cond.static ({ cls := "BarrierFlowLaw", name := "areSums", desc := "(LBarrierFlow;)Z" } : Jvm.MethodName)) ∈ zTb := zTb_of 1303 (by decide +kernel) (by decide +kernel)
theorem kw_1184 : (Jvm.Cond.methodLink "BarrierFlowLaw" (165 : Nat) ({ cls := "BarrierFlowLaw", name := "act", desc := "(LBarrierFlow;[II)V" } : Jvm.MethodName)) ∈ zTb := zTb_of 1184 (by decide +kernel) (by decide +kernel)
theorem kw_1186 : (Jvm.Cond.code ({ cls := "BarrierFlowLaw", name := "act", desc := "(LBarrierFlow;[II)V" } : Jvm.MethodName) method_8_code (4 : Nat) (Option.none : Option Jvm.ClassFile.FieldType)) ∈ zTb := zTb_of 1186 (by decide +kernel) (by decide +kernel)
theorem kw_1185 : (Jvm.Cond.static ({ cls := "BarrierFlowLaw", name := "act", desc := "(LBarrierFlow;[II)V" } : Jvm.MethodName)) ∈ zTb := zTb_of 1185 (by decide +kernel) (by decide +kernel)
theorem hyL_act : yL_act.cls ≠ "java/lang/invoke/MethodHandle" ∧ yL_act.cls ≠ "java/lang/invoke/VarHandle" ∧ (parseMethodDescriptor yL_act.desc).map (fun d => d.parameters.length) = some 3 := ⟨by decide +kernel, by decide +kernel, by decide +kernel⟩
theorem kw_720 : (Jvm.Cond.methodLink "BarrierFlowLaw" (191 : Nat) ({ cls := "BarrierFlow", name := "undo", desc := "()I" } : Jvm.MethodName)) ∈ zTb := zTb_of 720 (by decide +kernel) (by decide +kernel)
theorem kw_721 : (Jvm.Cond.instanceMethod ({ cls := "BarrierFlow", name := "undo", desc := "()I" } : Jvm.MethodName)) ∈ zTb := zTb_of 721 (by decide +kernel) (by decide +kernel)
theorem kw_723 : (Jvm.Cond.code ({ cls := "BarrierFlow", name := "undo", desc := "()I" } : Jvm.MethodName) prog_1_method_35_code (1 : Nat) (Option.some Jvm.ClassFile.FieldType.int)) ∈ zTb := zTb_of 723 (by decide +kernel) (by decide +kernel)
theorem kw_722 : (Jvm.Cond.selects "BarrierFlow" ({ cls := "BarrierFlow", name := "undo", desc := "()I" } : Jvm.MethodName) ({ cls := "BarrierFlow", name := "undo", desc := "()I" } : Jvm.MethodName)) ∈ zTb := zTb_of 722 (by decide +kernel) (by decide +kernel)
theorem kw_743 : (Jvm.Cond.methodLink "BarrierFlowLaw" (176 : Nat) ({ cls := "BarrierFlow", name := "completesIn", desc := "(I)I" } : Jvm.MethodName)) ∈ zTb := zTb_of 743 (by decide +kernel) (by decide +kernel)
theorem kw_744 : (Jvm.Cond.instanceMethod ({ cls := "BarrierFlow", name := "completesIn", desc := "(I)I" } : Jvm.MethodName)) ∈ zTb := zTb_of 744 (by decide +kernel) (by decide +kernel)
theorem kw_746 : (Jvm.Cond.code ({ cls := "BarrierFlow", name := "completesIn", desc := "(I)I" } : Jvm.MethodName) prog_1_method_36_code (2 : Nat) (Option.some Jvm.ClassFile.FieldType.int)) ∈ zTb := zTb_of 746 (by decide +kernel) (by decide +kernel)
theorem kw_745 : (Jvm.Cond.selects "BarrierFlow" ({ cls := "BarrierFlow", name := "completesIn", desc := "(I)I" } : Jvm.MethodName) ({ cls := "BarrierFlow", name := "completesIn", desc := "(I)I" } : Jvm.MethodName)) ∈ zTb := zTb_of 745 (by decide +kernel) (by decide +kernel)
theorem kw_753 : (Jvm.Cond.methodLink "BarrierFlowLaw" (179 : Nat) ({ cls := "BarrierFlow", name := "wouldTake", desc := "(Z)I" } : Jvm.MethodName)) ∈ zTb := zTb_of 753 (by decide +kernel) (by decide +kernel)
theorem kw_754 : (Jvm.Cond.instanceMethod ({ cls := "BarrierFlow", name := "wouldTake", desc := "(Z)I" } : Jvm.MethodName)) ∈ zTb := zTb_of 754 (by decide +kernel) (by decide +kernel)
theorem kw_756 : (Jvm.Cond.code ({ cls := "BarrierFlow", name := "wouldTake", desc := "(Z)I" } : Jvm.MethodName) prog_1_method_37_code (2 : Nat) (Option.some Jvm.ClassFile.FieldType.int)) ∈ zTb := zTb_of 756 (by decide +kernel) (by decide +kernel)
theorem kw_755 : (Jvm.Cond.selects "BarrierFlow" ({ cls := "BarrierFlow", name := "wouldTake", desc := "(Z)I" } : Jvm.MethodName) ({ cls := "BarrierFlow", name := "wouldTake", desc := "(Z)I" } : Jvm.MethodName)) ∈ zTb := zTb_of 755 (by decide +kernel) (by decide +kernel)
theorem kw_758 : (Jvm.Cond.methodLink "BarrierFlowLaw" (182 : Nat) ({ cls := "BarrierFlow", name := "wouldKeep", desc := "()I" } : Jvm.MethodName)) ∈ zTb := zTb_of 758 (by decide +kernel) (by decide +kernel)
theorem kw_759 : (Jvm.Cond.instanceMethod ({ cls := "BarrierFlow", name := "wouldKeep", desc := "()I" } : Jvm.MethodName)) ∈ zTb := zTb_of 759 (by decide +kernel) (by decide +kernel)
theorem kw_761 : (Jvm.Cond.code ({ cls := "BarrierFlow", name := "wouldKeep", desc := "()I" } : Jvm.MethodName) prog_1_method_38_code (1 : Nat) (Option.some Jvm.ClassFile.FieldType.int)) ∈ zTb := zTb_of 761 (by decide +kernel) (by decide +kernel)
theorem kw_760 : (Jvm.Cond.selects "BarrierFlow" ({ cls := "BarrierFlow", name := "wouldKeep", desc := "()I" } : Jvm.MethodName) ({ cls := "BarrierFlow", name := "wouldKeep", desc := "()I" } : Jvm.MethodName)) ∈ zTb := zTb_of 760 (by decide +kernel) (by decide +kernel)
theorem kw_762 : (Jvm.Cond.methodLink "BarrierFlowLaw" (185 : Nat) ({ cls := "BarrierFlow", name := "saveState", desc := "()I" } : Jvm.MethodName)) ∈ zTb := zTb_of 762 (by decide +kernel) (by decide +kernel)
theorem kw_763 : (Jvm.Cond.instanceMethod ({ cls := "BarrierFlow", name := "saveState", desc := "()I" } : Jvm.MethodName)) ∈ zTb := zTb_of 763 (by decide +kernel) (by decide +kernel)
theorem kw_765 : (Jvm.Cond.code ({ cls := "BarrierFlow", name := "saveState", desc := "()I" } : Jvm.MethodName) prog_1_method_43_code (1 : Nat) (Option.some Jvm.ClassFile.FieldType.int)) ∈ zTb := zTb_of 765 (by decide +kernel) (by decide +kernel)
theorem kw_764 : (Jvm.Cond.selects "BarrierFlow" ({ cls := "BarrierFlow", name := "saveState", desc := "()I" } : Jvm.MethodName) ({ cls := "BarrierFlow", name := "saveState", desc := "()I" } : Jvm.MethodName)) ∈ zTb := zTb_of 764 (by decide +kernel) (by decide +kernel)
theorem kw_766 : (Jvm.Cond.methodLink "BarrierFlowLaw" (188 : Nat) ({ cls := "BarrierFlow", name := "restoreState", desc := "()I" } : Jvm.MethodName)) ∈ zTb := zTb_of 766 (by decide +kernel) (by decide +kernel)
theorem kw_767 : (Jvm.Cond.instanceMethod ({ cls := "BarrierFlow", name := "restoreState", desc := "()I" } : Jvm.MethodName)) ∈ zTb := zTb_of 767 (by decide +kernel) (by decide +kernel)
theorem kw_769 : (Jvm.Cond.code ({ cls := "BarrierFlow", name := "restoreState", desc := "()I" } : Jvm.MethodName) prog_1_method_44_code (1 : Nat) (Option.some Jvm.ClassFile.FieldType.int)) ∈ zTb := zTb_of 769 (by decide +kernel) (by decide +kernel)
theorem kw_768 : (Jvm.Cond.selects "BarrierFlow" ({ cls := "BarrierFlow", name := "restoreState", desc := "()I" } : Jvm.MethodName) ({ cls := "BarrierFlow", name := "restoreState", desc := "()I" } : Jvm.MethodName)) ∈ zTb := zTb_of 768 (by decide +kernel) (by decide +kernel)
def R_law : String := "BarrierFlowLaw"
def lw_P (b : Addr) (xs : List Int32) (args : Array Value) (s : State) : Prop := args = #[.ref b] ∧ s.IntsAt b xs ∧ xs.length ≤ 260 ∧ (Jvm.Cond.and given_1 narrow_1).before args s = true
def lw_Q (_ : Array Value) (s : State) (o : Outcome) (t : State) : Prop := o = .returned (some (.int 1)) ∧ Framed s o t [] 600086 7301442
def lw_Z (below : List Frame) (a : Array Value) (s : State) : State → Prop := fun t => ∃ o, t.status = .running ∧ Ended t below o ∧ lw_Q a s o t
/-- the law's own end, with 1 on the stack, nothing written that was there before, its room as the claim has it -/
theorem lw_ret {p : Program} {l : Launch} {e : Env} {s : State} {m : MethodId} {below : List Frame} {meth : Method} {c : Code} {b : Nat} (hx : p.tables.exec = Jvm.exec) (hb : c.code = code) (hr : meth.sig.returnType = ret) (hlocks : meth.locks = false) {pc : Nat} {H : Heap} {ls : Array Slot} (hdg : decode code pc = .ok (.ireturn, 1)) : W p l e room_1 s m #[Value.ref b] below meth c H [] 600086 7301442 (lw_Z below #[Value.ref b] s) (F0 m pc ls [.int 1]) := by
  intro T hT X
  obtain ⟨fs, hret, hrun, hended, hW, hframe⟩ := X.leave (v := some (.int 1)) (hlocks := hlocks) (fun h => by rw [hr] at h; cases h)
  have hmeth' : T.vm.method? m = some meth := X.method'
  refine ⟨T.setFrames fs, ?_, .returned (some (.int 1)), hrun, hended, rfl, ⟨_, rfl⟩, hW, hframe⟩
  jvm_step X.here [X.here.top, hx, hb, hdg, hmeth', hr, ret, narrow_b1]
  (try refine ⟨rfl, ?_⟩); (try refine ⟨rfl, ?_⟩)
  first | (intro acts; rw [hret _ acts rfl rfl rfl]) | rw [hret _ _ rfl rfl rfl]
  exact Steps.refl _
/-- what holds at the law's entry: the machine, the code, the tables' words (any of lw_tbl by 'hts w (by decide +kernel)'), the script of L ints xs at the cell b, what the Statement gives of the start (any of its parts by flat_of_before) -/
def lw_At (p : Program) (s : State) (m : MethodId) (meth : Method) (c : Code) (b L : Nat) (xs : Nat → Int32) : Prop :=
  p.tables.exec = Jvm.exec ∧ c.code = code ∧ meth.sig.returnType = ret ∧ c.maxLocals = 9 ∧ s.vm.findClass R_law = some m.cls ∧ (∀ w ∈ lw_tbl, w.before #[Value.ref b] s = true) ∧ va_X b L xs s s.heap ∧ b < s.heap.size ∧ meth.locks = false ∧ (Jvm.Cond.and given_1 narrow_1).before #[Value.ref b] s = true
/-! THE LAW, from its end on. -/

theorem qcw_in (P : qP) (M : qM) (t : Nat) : -1 ≤ qcw P M t ∧ qcw P M t ≤ t := by
  unfold qcw qfind
  cases e : (List.range (t + 1)).find? (qcomp P M) with
  | none => exact ⟨by dsimp only; omega, by dsimp only; omega⟩
  | some k =>
    have := List.mem_range.mp (List.mem_of_find?_eq_some e)
    exact ⟨by dsimp only; omega, by dsimp only; omega⟩
section LAW
variable {p : Program} {l : Launch} {e : Env} {s : State} {m : MethodId} {below : List Frame} {meth : Method} {c : Code} {b L X many : Nat} {xs : Nat → Int32} {D : va_G} {Ca : Nat → ClassId} {En : State → Prop} {P : qP} {M : qM} {H : List qM} {S : Option qM}
set_option maxRecDepth 100000 in
set_option maxHeartbeats 4000000 in
theorem law_5 (C : zC p s m #[Value.ref b] meth c cL_law RL 9 D Ca s.heap.size En) (hr : meth.sig.returnType = ret) {σ : zS} {N cells slots : Nat} {z : Int} (h : LC z σ X P M H S) (hf : zfree σ N) (hN : X + 307 ≤ N) (hz0 : 0 ≤ z) (hz : z < 399000000) (hc : cells ≤ 600000) (hs : slots ≤ 7300000) : zW p l e room_1 s m #[Value.ref b] below meth c cells slots (lw_Z below #[Value.ref b] s) D Ca s.heap.size 9 σ N 380 [(0, .ref b), (1, .ref X), (3, .int (zi (M.1 0))), (4, .int (zi (M.1 6)))] [] := by
  have hz7 : z < 700000000 := by omega
  refine z_aload_n C dL_law_380 rfl 1 rfl ?_
  refine z_iconst C (zi 5) dL_law_381 (by decide) ?_
  refine z_callVi (As := [.int (zi 5)]) (F0 := 14) (L0 := 540) C (mX9_count l D Ca s.heap.size En C.2.2.2.2.2.2.2.1 σ N X (zi 5) _ (zck_ok (lq_c5 h hz7)).2) ⟨Nat.le_of_ble_eq_true rfl, Nat.le_of_ble_eq_true rfl, by show _ ≤ 600086; omega, by show _ ≤ 7301442; omega⟩ (LC_k h) rfl kw_481 kw_1 kw_478 kw_479 kw_480 hyX9_count (Nat.le_of_ble_eq_true rfl) (Nat.le_of_ble_eq_true rfl) rfl rfl (Nat.le_of_ble_eq_true rfl) dL_law_382 ?_
  refine z_iload_n C dL_law_385 rfl 2 rfl ?_
  refine z_icmp_ne C 418 dL_law_386 (by decide) (fun q => absurd (rfl) q) (fun _ => ?_)
  refine z_aload_n C dL_law_389 rfl 1 rfl ?_
  refine z_bipush C (zi 7) dL_law_390 (by decide) ?_
  refine z_callVi (As := [.int (zi 7)]) (F0 := 14) (L0 := 540) C (mX9_count l D Ca s.heap.size En C.2.2.2.2.2.2.2.1 σ N X (zi 7) _ (zck_ok (lq_c7 h hz7)).2) ⟨Nat.le_of_ble_eq_true rfl, Nat.le_of_ble_eq_true rfl, by show _ ≤ 600086; omega, by show _ ≤ 7301442; omega⟩ (LC_k h) rfl kw_481 kw_1 kw_478 kw_479 kw_480 hyX9_count (Nat.le_of_ble_eq_true rfl) (Nat.le_of_ble_eq_true rfl) rfl rfl (Nat.le_of_ble_eq_true rfl) dL_law_392 ?_
  refine z_iload C dL_law_395 3 rfl ?_
  refine z_icmp_ne C 418 dL_law_397 (by decide) (fun q => absurd (rfl) q) (fun _ => ?_)
  refine z_aload_n C dL_law_400 rfl 1 rfl ?_
  refine z_callK (As := [.ref X]) C (mL_isOnce l D Ca s.heap.size En C.2.2.2.2.2.2.2.1 N h hz7 hN hf) kw_1242 kw_0 kw_1240 kw_1241 hyL_isOnce (Nat.le_of_ble_eq_true rfl) (Nat.le_of_ble_eq_true rfl) rfl rfl (Nat.le_of_ble_eq_true rfl) dL_law_401 (by show _ ≤ 600086; omega) (by show _ ≤ 7301442; omega) (fun τ9 r9 N1 hK9 hN1 => ?_)
  obtain ⟨ea9, eb9⟩ := hK9
  rw [ea9, eb9]
  clear ea9 eb9
  refine z_if_eq C 418 dL_law_404 (by decide) (fun q => absurd q (by decide)) (fun _ => ?_)
  refine z_aload_n C dL_law_407 rfl 1 rfl ?_
  refine z_callSi (As := [.ref X]) (F0 := 14) (L0 := 540) C (mL_areSums l D Ca s.heap.size En C.2.2.2.2.2.2.2.1 σ N1 X _ (ev_sums h (by omega) hz0)) ⟨Nat.le_of_ble_eq_true rfl, Nat.le_of_ble_eq_true rfl, by show _ ≤ 600086; omega, by show _ ≤ 7301442; omega⟩ kw_1304 kw_0 kw_1302 kw_1303 hyL_areSums (Nat.le_of_ble_eq_true rfl) (Nat.le_of_ble_eq_true rfl) rfl rfl (Nat.le_of_ble_eq_true rfl) dL_law_408 ?_
  refine z_if_eq C 418 dL_law_411 (by decide) (fun q => absurd q (show ¬ zi 1 = zi 0 by decide)) (fun _ => ?_)
  refine z_iconst C (zi 1) dL_law_414 (by decide) ?_
  refine z_goto C 419 dL_law_415 (by decide) ?_
  exact fun H9 locs ls hH hS hl => va_forget hS.2.2 (W.widen (show _ ≤ 600086 by omega) (show _ ≤ 7301442 by omega) (lw_ret C.1 C.2.1 hr C.2.2.2.2.2.2.2.2.2.1 dL_law_419))
set_option maxRecDepth 100000 in
set_option maxHeartbeats 4000000 in
theorem law_4 (C : zC p s m #[Value.ref b] meth c cL_law RL 9 D Ca s.heap.size En) (hr : meth.sig.returnType = ret) (hT : ∀ U, En U → zThr s.heap.size U) (hl0 : l.stackTraces = false) (hY : ∀ U, En U → zLS U s.heap.size b L xs) {σ : zS} {N cells slots : Nat} {z : Int} (h : LC z σ X P M [] S) (hf : zfree σ N) (hN : X + 307 ≤ N) (hz0 : 0 ≤ z) (hz : z < 398000000) (hc : cells ≤ 599990) (hs : slots ≤ 7299900) (hm : many < 200) : zW p l e room_1 s m #[Value.ref b] below meth c cells slots (lw_Z below #[Value.ref b] s) D Ca s.heap.size 9 σ N 347 [(0, .ref b), (1, .ref X), (2, .int (zi (many : Nat))), (3, .int (zi (M.1 0))), (4, .int (zi (M.1 6)))] [] := by
  have hz7 : z < 700000000 := by omega
  refine z_aload_n C dL_law_347 rfl 1 rfl ?_
  refine z_aload_n C dL_law_348 rfl 0 rfl ?_
  refine z_iload_n C dL_law_349 rfl 2 rfl ?_
  refine z_bipush C (zi 7) dL_law_350 (by decide) ?_
  refine z_iadd C dL_law_352 ?_
  rw [show zi (many : Nat) + zi 7 = zi ((many + 7 : Nat) : Int) from by rw [zi_add]; congr 1]
  refine z_callKv (As := [.ref X, .ref b, .int (zi ((many + 7 : Nat) : Int))]) C (mL_act l C.2.2.2.2.2.2.2.1 hT hl0 hY N (many + 7) h hz7 (by omega)) kw_1186 kw_0 kw_1184 kw_1185 hyL_act (Nat.le_of_ble_eq_true rfl) (Nat.le_of_ble_eq_true rfl) rfl rfl (Nat.le_of_ble_eq_true rfl) dL_law_353 (by show _ ≤ 600086; omega) (by show _ ≤ 7301442; omega) (fun τ N2 hK hN2 => ?_)
  obtain ⟨M2, H2, h2, ek, hor⟩ := hK
  have hz27 : z + 501 < 700000000 := by omega
  have hf2 : zfree τ N2 := zfree_le (zfree_k hf ek) hN2
  refine z_aload_n C dL_law_356 rfl 1 rfl ?_
  refine z_bipush C (zi 10) dL_law_357 (by decide) ?_
  refine z_callVi (As := [.int (zi 10)]) (F0 := 14) (L0 := 540) C (mX9_count l D Ca s.heap.size En C.2.2.2.2.2.2.2.1 τ N2 X (zi 10) _ (zck_ok (lq_c10 h2 hz27)).2) ⟨Nat.le_of_ble_eq_true rfl, Nat.le_of_ble_eq_true rfl, by show _ ≤ 600086; omega, by show _ ≤ 7301442; omega⟩ (LC_k h2) rfl kw_481 kw_1 kw_478 kw_479 kw_480 hyX9_count (Nat.le_of_ble_eq_true rfl) (Nat.le_of_ble_eq_true rfl) rfl rfl (Nat.le_of_ble_eq_true rfl) dL_law_359 ?_
  rcases hor with hor | ⟨hor, hor2⟩
  · have e1 : H2 = [M] := hor
    subst e1
    refine z_if_le C 380 dL_law_362 (by decide) (fun q => absurd q (show ¬ zi 1 ≤ zi 0 by decide)) (fun _ => ?_)
    refine z_aload_n C dL_law_365 rfl 1 rfl ?_
    obtain ⟨υ, eυ, hυ, fυ⟩ := la_undo h2 hz27
    refine z_callVi (As := []) (F0 := 14) (L0 := 540) C (mX9_undo l D Ca s.heap.size En C.2.2.2.2.2.2.2.1 τ N2 X  _ (zck_ok (eυ)).2) ⟨Nat.le_of_ble_eq_true rfl, Nat.le_of_ble_eq_true rfl, by show _ ≤ 600086; omega, by show _ ≤ 7301442; omega⟩ (LC_k h2) rfl kw_723 kw_1 kw_720 kw_721 kw_722 hyX9_undo (Nat.le_of_ble_eq_true rfl) (Nat.le_of_ble_eq_true rfl) rfl rfl (Nat.le_of_ble_eq_true rfl) dL_law_366 ?_
    refine z_aload_n C dL_law_369 rfl 1 rfl ?_
    refine z_bipush C (zi 10) dL_law_370 (by decide) ?_
    have hz37 : z + 501 + 501 < 700000000 := by omega
    refine z_callVi (As := [.int (zi 10)]) (F0 := 14) (L0 := 540) C (mX9_count l D Ca s.heap.size En C.2.2.2.2.2.2.2.1 υ N2 X (zi 10) _ (zck_ok (lq_c10 hυ hz37)).2) ⟨Nat.le_of_ble_eq_true rfl, Nat.le_of_ble_eq_true rfl, by show _ ≤ 600086; omega, by show _ ≤ 7301442; omega⟩ (LC_k hυ) rfl kw_481 kw_1 kw_478 kw_479 kw_480 hyX9_count (Nat.le_of_ble_eq_true rfl) (Nat.le_of_ble_eq_true rfl) rfl rfl (Nat.le_of_ble_eq_true rfl) dL_law_372 ?_
    refine z_icmp_eq C 356 dL_law_375 (by decide) (fun _ => ?_) (fun q => absurd (rfl) q)
    refine z_aload_n C dL_law_356 rfl 1 rfl ?_
    refine z_bipush C (zi 10) dL_law_357 (by decide) ?_
    refine z_callVi (As := [.int (zi 10)]) (F0 := 14) (L0 := 540) C (mX9_count l D Ca s.heap.size En C.2.2.2.2.2.2.2.1 υ N2 X (zi 10) _ (zck_ok (lq_c10 hυ hz37)).2) ⟨Nat.le_of_ble_eq_true rfl, Nat.le_of_ble_eq_true rfl, by show _ ≤ 600086; omega, by show _ ≤ 7301442; omega⟩ (LC_k hυ) rfl kw_481 kw_1 kw_478 kw_479 kw_480 hyX9_count (Nat.le_of_ble_eq_true rfl) (Nat.le_of_ble_eq_true rfl) rfl rfl (Nat.le_of_ble_eq_true rfl) dL_law_359 ?_
    refine z_if_le C 380 dL_law_362 (by decide) (fun _ => ?_) (fun q => absurd (show zi 0 ≤ zi 0 by decide) q)
    refine z_sub (lv2 := [(0, .ref b), (1, .ref X), (3, .int (zi (M.1 0))), (4, .int (zi (M.1 6)))]) [0, 1, 3, 4] rfl ?_
    exact law_5 C hr hυ (zfree_k hf2 fυ.1) (by omega) (by omega) (by omega) (by omega) (by omega)
  · rw [hor] at h2
    subst hor2
    refine z_if_le C 380 dL_law_362 (by decide) (fun _ => ?_) (fun q => absurd (show zi 0 ≤ zi 0 by decide) q)
    refine z_sub (lv2 := [(0, .ref b), (1, .ref X), (3, .int (zi (M.1 0))), (4, .int (zi (M.1 6)))]) [0, 1, 3, 4] rfl ?_
    exact law_5 C hr h2 hf2 (by omega) (by omega) (by omega) (by omega) (by omega)
set_option maxRecDepth 100000 in
set_option maxHeartbeats 4000000 in
theorem law_3 (C : zC p s m #[Value.ref b] meth c cL_law RL 9 D Ca s.heap.size En) (hr : meth.sig.returnType = ret) (hT : ∀ U, En U → zThr s.heap.size U) (hl0 : l.stackTraces = false) (hY : ∀ U, En U → zLS U s.heap.size b L xs) {σ : zS} {N cells slots : Nat} {z : Int} (h : LC z σ X P M [] S) (hf : zfree σ N) (hN : X + 307 ≤ N) (hz0 : 0 ≤ z) (hz : z < 397000000) (hc : cells ≤ 599980) (hs : slots ≤ 7299800) (hm : many < 200) : zW p l e room_1 s m #[Value.ref b] below meth c cells slots (lw_Z below #[Value.ref b] s) D Ca s.heap.size 9 σ N 284 [(0, .ref b), (1, .ref X), (2, .int (zi (many : Nat))), (3, .int (zi (M.1 0))), (4, .int (zi (M.1 6)))] [] := by
  have hz7 : z < 700000000 := by omega
  refine z_aload_n C dL_law_284 rfl 1 rfl ?_
  refine z_callVi (As := []) (F0 := 14) (L0 := 540) C (mX9_atRisk l D Ca s.heap.size En C.2.2.2.2.2.2.2.1 σ N X  _ (zck_ok (lq_risk h hz7)).2) ⟨Nat.le_of_ble_eq_true rfl, Nat.le_of_ble_eq_true rfl, by show _ ≤ 600086; omega, by show _ ≤ 7301442; omega⟩ (LC_k h) rfl kw_569 kw_1 kw_566 kw_567 kw_568 hyX9_atRisk (Nat.le_of_ble_eq_true rfl) (Nat.le_of_ble_eq_true rfl) rfl rfl (Nat.le_of_ble_eq_true rfl) dL_law_285 ?_
  refine z_istore (lv2 := [(8, .int (zi (qrisk P M))), (0, .ref b), (1, .ref X), (2, .int (zi (many : Nat))), (3, .int (zi (M.1 0))), (4, .int (zi (M.1 6)))]) C dL_law_288 (by decide) rfl ?_
  refine z_aload_n C dL_law_290 rfl 2 rfl ?_
  obtain ⟨τ, eτ, hτ, fτ⟩ := la_fail h hz7
  have hzb : z + 501 < 700000000 := by omega
  have hf2 : zfree τ N := zfree_k hf fτ.1
  refine z_callVi (As := []) (F0 := 14) (L0 := 540) C (mX9_fail l D Ca s.heap.size En C.2.2.2.2.2.2.2.1 σ N X  _ (zck_ok (eτ)).2) ⟨Nat.le_of_ble_eq_true rfl, Nat.le_of_ble_eq_true rfl, by show _ ≤ 600086; omega, by show _ ≤ 7301442; omega⟩ (LC_k h) rfl kw_718 kw_1 kw_715 kw_716 kw_717 hyX9_fail (Nat.le_of_ble_eq_true rfl) (Nat.le_of_ble_eq_true rfl) rfl rfl (Nat.le_of_ble_eq_true rfl) dL_law_291 ?_
  refine z_iload C dL_law_294 0 rfl ?_
  refine z_icmp_ne C 345 dL_law_296 (by decide) (fun q => absurd (rfl) q) (fun _ => ?_)
  refine z_aload_n C dL_law_299 rfl 2 rfl ?_
  refine z_callVi (As := []) (F0 := 14) (L0 := 540) C (mX9_atRisk l D Ca s.heap.size En C.2.2.2.2.2.2.2.1 τ N X  _ (zck_ok (lq_risk hτ hzb)).2) ⟨Nat.le_of_ble_eq_true rfl, Nat.le_of_ble_eq_true rfl, by show _ ≤ 600086; omega, by show _ ≤ 7301442; omega⟩ (LC_k hτ) rfl kw_569 kw_1 kw_566 kw_567 kw_568 hyX9_atRisk (Nat.le_of_ble_eq_true rfl) (Nat.le_of_ble_eq_true rfl) rfl rfl (Nat.le_of_ble_eq_true rfl) dL_law_300 ?_
  rw [qfail_risk (LC_I h).1]
  refine z_if_ne C 345 dL_law_303 (by decide) (fun q => absurd (rfl) q) (fun _ => ?_)
  refine z_aload_n C dL_law_306 rfl 2 rfl ?_
  refine z_callK (As := [.ref X]) C (mL_isOnce l D Ca s.heap.size En C.2.2.2.2.2.2.2.1 N hτ hzb hN hf2) kw_1242 kw_0 kw_1240 kw_1241 hyL_isOnce (Nat.le_of_ble_eq_true rfl) (Nat.le_of_ble_eq_true rfl) rfl rfl (Nat.le_of_ble_eq_true rfl) dL_law_307 (by show _ ≤ 600086; omega) (by show _ ≤ 7301442; omega) (fun τ9 r9 N1 hK9 hN1 => ?_)
  obtain ⟨ea9, eb9⟩ := hK9
  rw [ea9, eb9]
  clear ea9 eb9
  refine z_if_eq C 345 dL_law_310 (by decide) (fun q => absurd q (by decide)) (fun _ => ?_)
  refine z_aload_n C dL_law_313 rfl 2 rfl ?_
  refine z_callSi (As := [.ref X]) (F0 := 14) (L0 := 540) C (mL_areSums l D Ca s.heap.size En C.2.2.2.2.2.2.2.1 τ N1 X _ (ev_sums hτ (by omega) (by omega))) ⟨Nat.le_of_ble_eq_true rfl, Nat.le_of_ble_eq_true rfl, by show _ ≤ 600086; omega, by show _ ≤ 7301442; omega⟩ kw_1304 kw_0 kw_1302 kw_1303 hyL_areSums (Nat.le_of_ble_eq_true rfl) (Nat.le_of_ble_eq_true rfl) rfl rfl (Nat.le_of_ble_eq_true rfl) dL_law_314 ?_
  refine z_if_eq C 345 dL_law_317 (by decide) (fun q => absurd q (show ¬ zi 1 = zi 0 by decide)) (fun _ => ?_)
  refine z_aload_n C dL_law_320 rfl 2 rfl ?_
  obtain ⟨υ, eυ, hυ, fυ⟩ := la_undo hτ hzb
  have hzc : z + 501 + 501 < 700000000 := by omega
  refine z_callVi (As := []) (F0 := 14) (L0 := 540) C (mX9_undo l D Ca s.heap.size En C.2.2.2.2.2.2.2.1 τ N1 X  _ (zck_ok (eυ)).2) ⟨Nat.le_of_ble_eq_true rfl, Nat.le_of_ble_eq_true rfl, by show _ ≤ 600086; omega, by show _ ≤ 7301442; omega⟩ (LC_k hτ) rfl kw_723 kw_1 kw_720 kw_721 kw_722 hyX9_undo (Nat.le_of_ble_eq_true rfl) (Nat.le_of_ble_eq_true rfl) rfl rfl (Nat.le_of_ble_eq_true rfl) dL_law_321 ?_
  refine z_if_ne C 345 dL_law_324 (by decide) (fun q => absurd (rfl) q) (fun _ => ?_)
  refine z_aload_n C dL_law_327 rfl 2 rfl ?_
  refine z_callVi (As := []) (F0 := 14) (L0 := 540) C (mX9_atRisk l D Ca s.heap.size En C.2.2.2.2.2.2.2.1 υ N1 X  _ (zck_ok (lq_risk hυ hzc)).2) ⟨Nat.le_of_ble_eq_true rfl, Nat.le_of_ble_eq_true rfl, by show _ ≤ 600086; omega, by show _ ≤ 7301442; omega⟩ (LC_k hυ) rfl kw_569 kw_1 kw_566 kw_567 kw_568 hyX9_atRisk (Nat.le_of_ble_eq_true rfl) (Nat.le_of_ble_eq_true rfl) rfl rfl (Nat.le_of_ble_eq_true rfl) dL_law_328 ?_
  refine z_iload C dL_law_331 0 rfl ?_
  refine z_icmp_ne C 345 dL_law_333 (by decide) (fun q => absurd (rfl) q) (fun _ => ?_)
  refine z_aload_n C dL_law_336 rfl 2 rfl ?_
  refine z_iconst C (zi 5) dL_law_337 (by decide) ?_
  refine z_callVi (As := [.int (zi 5)]) (F0 := 14) (L0 := 540) C (mX9_count l D Ca s.heap.size En C.2.2.2.2.2.2.2.1 υ N1 X (zi 5) _ (zck_ok (lq_c5 hυ hzc)).2) ⟨Nat.le_of_ble_eq_true rfl, Nat.le_of_ble_eq_true rfl, by show _ ≤ 600086; omega, by show _ ≤ 7301442; omega⟩ (LC_k hυ) rfl kw_481 kw_1 kw_478 kw_479 kw_480 hyX9_count (Nat.le_of_ble_eq_true rfl) (Nat.le_of_ble_eq_true rfl) rfl rfl (Nat.le_of_ble_eq_true rfl) dL_law_338 ?_
  refine z_iload_n C dL_law_341 rfl 4 rfl ?_
  refine z_icmp_eq C 347 dL_law_342 (by decide) (fun _ => ?_) (fun q => absurd (rfl) q)
  refine z_sub (lv2 := [(0, .ref b), (1, .ref X), (2, .int (zi (many : Nat))), (3, .int (zi (M.1 0))), (4, .int (zi (M.1 6)))]) [1, 2, 3, 4, 5] rfl ?_
  exact law_4 C hr hT hl0 hY hυ (zfree_k (zfree_le hf2 hN1) fυ.1) (by omega) (by omega) (by omega) (by omega) (by omega) hm
set_option maxRecDepth 100000 in
set_option maxHeartbeats 4000000 in
theorem law_2b (C : zC p s m #[Value.ref b] meth c cL_law RL 9 D Ca s.heap.size En) (hr : meth.sig.returnType = ret) (hT : ∀ U, En U → zThr s.heap.size U) (hl0 : l.stackTraces = false) (hY : ∀ U, En U → zLS U s.heap.size b L xs) {σ : zS} {N cells slots : Nat} {z : Int} (h : LC z σ X P M [] S) (hf : zfree σ N) (hN : X + 307 ≤ N) (hz0 : 0 ≤ z) (hz : z < 396000000) (hc : cells ≤ 599980) (hs : slots ≤ 7299800) (hm : many < 200) : zW p l e room_1 s m #[Value.ref b] below meth c cells slots (lw_Z below #[Value.ref b] s) D Ca s.heap.size 9 σ N 225 [(0, .ref b), (1, .ref X), (2, .int (zi (many : Nat))), (3, .int (zi (M.1 0))), (4, .int (zi (M.1 6))), (5, .int (zi (if M.1 67 = 1 then qcw P M 40 else -1)))] [] := by
  have hz7 : z < 700000000 := by omega
  obtain ⟨hI, hKB, hJ⟩ := LC_I h
  refine z_iload C dL_law_225 5 rfl ?_
  have hq : -1 ≤ (if M.1 67 = 1 then qcw P M 40 else -1) ∧ (if M.1 67 = 1 then qcw P M 40 else -1) ≤ 100000 ∧ (0 < (if M.1 67 = 1 then qcw P M 40 else -1) → M.1 67 = 1 ∧ 0 < qcw P M 40) := by
    split
    · rename_i q
      have := qcw_in P M 40
      exact ⟨this.1, by omega, fun w => ⟨q, w⟩⟩
    · exact ⟨by omega, by omega, fun w => absurd w (by omega)⟩
  by_cases q9 : 0 < (if M.1 67 = 1 then qcw P M 40 else -1)
  · obtain ⟨h67, hk⟩ := hq.2.2 q9
    obtain ⟨k, ek, hk1, hk2, hk3, hk4⟩ := qcw_at hI hKB hJ (by omega) (by omega) hk
    have e9 : (if M.1 67 = 1 then qcw P M 40 else -1) = (k : Int) := by rw [if_pos h67, ek]
    rw [e9]
    refine z_if_le C 284 dL_law_227 (by decide) (fun q => absurd q (zi_nle (by omega) (by omega) (by omega))) (fun _ => ?_)
    refine z_aload_n C dL_law_230 rfl 1 rfl ?_
    refine z_iload C dL_law_231 5 rfl ?_
    have h6 := q6_it hI hKB k
    have hJ6 := hJ.2.2.2.1
    have hkb := KB_in hKB hz7
    obtain ⟨τ, eτ, hτ, fτ⟩ := la_run (t := k) h hz7 (by omega)
    have hzb : z + 501 < 700000000 := by omega
    have hf2 : zfree τ N := zfree_k hf fτ.1
    refine z_callVi (As := [.int (zi (k : Nat))]) (F0 := 14) (L0 := 540) C (mX9_run l D Ca s.heap.size En C.2.2.2.2.2.2.2.1 σ N X (zi (k : Nat)) _ (zck_ok (eτ)).2) ⟨Nat.le_of_ble_eq_true rfl, Nat.le_of_ble_eq_true rfl, by show _ ≤ 600086; omega, by show _ ≤ 7301442; omega⟩ (LC_k h) rfl kw_581 kw_1 kw_578 kw_579 kw_580 hyX9_run (Nat.le_of_ble_eq_true rfl) (Nat.le_of_ble_eq_true rfl) rfl rfl (Nat.le_of_ble_eq_true rfl) dL_law_233 ?_
    refine z_iconst C (zi 1) dL_law_236 (by decide) ?_
    refine z_icmp_lt C 282 dL_law_237 (by decide) (fun q => absurd q (fun q => by rw [zi_lt (by omega) (by omega) (by omega) (by omega)] at q; omega)) (fun _ => ?_)
    refine z_aload_n C dL_law_240 rfl 1 rfl ?_
    refine z_bipush C (zi 7) dL_law_241 (by decide) ?_
    refine z_callVi (As := [.int (zi 7)]) (F0 := 14) (L0 := 540) C (mX9_count l D Ca s.heap.size En C.2.2.2.2.2.2.2.1 τ N X (zi 7) _ (zck_ok (lq_c7 hτ hzb)).2) ⟨Nat.le_of_ble_eq_true rfl, Nat.le_of_ble_eq_true rfl, by show _ ≤ 600086; omega, by show _ ≤ 7301442; omega⟩ (LC_k hτ) rfl kw_481 kw_1 kw_478 kw_479 kw_480 hyX9_count (Nat.le_of_ble_eq_true rfl) (Nat.le_of_ble_eq_true rfl) rfl rfl (Nat.le_of_ble_eq_true rfl) dL_law_243 ?_
    refine z_iload C dL_law_246 4 rfl ?_
    refine z_icmp_le C 282 dL_law_248 (by decide) (fun q => absurd q (zi_nle (by omega) (by omega) (by omega))) (fun _ => ?_)
    refine z_aload_n C dL_law_251 rfl 1 rfl ?_
    obtain ⟨υ, eυ, hυ, fυ⟩ := la_undo hτ hzb
    have hzc : z + 501 + 501 < 700000000 := by omega
    have hf3 : zfree υ N := zfree_k hf2 fυ.1
    refine z_callVi (As := []) (F0 := 14) (L0 := 540) C (mX9_undo l D Ca s.heap.size En C.2.2.2.2.2.2.2.1 τ N X  _ (zck_ok (eυ)).2) ⟨Nat.le_of_ble_eq_true rfl, Nat.le_of_ble_eq_true rfl, by show _ ≤ 600086; omega, by show _ ≤ 7301442; omega⟩ (LC_k hτ) rfl kw_723 kw_1 kw_720 kw_721 kw_722 hyX9_undo (Nat.le_of_ble_eq_true rfl) (Nat.le_of_ble_eq_true rfl) rfl rfl (Nat.le_of_ble_eq_true rfl) dL_law_252 ?_
    refine z_if_ne C 282 dL_law_255 (by decide) (fun q => absurd (rfl) q) (fun _ => ?_)
    refine z_iload C dL_law_258 5 rfl ?_
    refine z_iconst C (zi 1) dL_law_260 (by decide) ?_
    by_cases q8 : k ≤ 1
    · skip
      refine z_icmp_le C 284 dL_law_261 (by decide) (fun _ => ?_) (fun q => absurd (zi_yle (by omega) (by omega) (by omega)) q)
      refine z_sub (lv2 := [(0, .ref b), (1, .ref X), (2, .int (zi (many : Nat))), (3, .int (zi (M.1 0))), (4, .int (zi (M.1 6)))]) [0, 1, 2, 3, 4] rfl ?_
      exact law_3 C hr hT hl0 hY hυ hf3 (by omega) (by omega) (by omega) (by omega) (by omega) hm
    · skip
      refine z_icmp_le C 284 dL_law_261 (by decide) (fun q => absurd q (zi_nle (by omega) (by omega) (by omega))) (fun _ => ?_)
      refine z_aload_n C dL_law_264 rfl 1 rfl ?_
      refine z_iload C dL_law_265 5 rfl ?_
      refine z_iconst C (zi 1) dL_law_267 (by decide) ?_
      refine z_isub C dL_law_268 ?_
      rw [zi_sub, show (k : Int) - 1 = ((k - 1 : Nat) : Int) from by omega]
      obtain ⟨τ2, eτ2, hτ2, fτ2⟩ := la_run (t := k - 1) hυ hzc (by omega)
      have hzd : z + 501 + 501 + 501 < 700000000 := by omega
      have hf4 : zfree τ2 N := zfree_k hf3 fτ2.1
      refine z_callVi (As := [.int (zi ((k - 1 : Nat) : Int))]) (F0 := 14) (L0 := 540) C (mX9_run l D Ca s.heap.size En C.2.2.2.2.2.2.2.1 υ N X (zi ((k - 1 : Nat) : Int)) _ (zck_ok (eτ2)).2) ⟨Nat.le_of_ble_eq_true rfl, Nat.le_of_ble_eq_true rfl, by show _ ≤ 600086; omega, by show _ ≤ 7301442; omega⟩ (LC_k hυ) rfl kw_581 kw_1 kw_578 kw_579 kw_580 hyX9_run (Nat.le_of_ble_eq_true rfl) (Nat.le_of_ble_eq_true rfl) rfl rfl (Nat.le_of_ble_eq_true rfl) dL_law_269 ?_
      rw [hk4 (k - 1) (by omega), Int.sub_self]
      refine z_if_ne C 282 dL_law_272 (by decide) (fun q => absurd (rfl) q) (fun _ => ?_)
      refine z_aload_n C dL_law_275 rfl 1 rfl ?_
      obtain ⟨υ2, eυ2, hυ2, fυ2⟩ := la_undo hτ2 hzd
      refine z_callVi (As := []) (F0 := 14) (L0 := 540) C (mX9_undo l D Ca s.heap.size En C.2.2.2.2.2.2.2.1 τ2 N X  _ (zck_ok (eυ2)).2) ⟨Nat.le_of_ble_eq_true rfl, Nat.le_of_ble_eq_true rfl, by show _ ≤ 600086; omega, by show _ ≤ 7301442; omega⟩ (LC_k hτ2) rfl kw_723 kw_1 kw_720 kw_721 kw_722 hyX9_undo (Nat.le_of_ble_eq_true rfl) (Nat.le_of_ble_eq_true rfl) rfl rfl (Nat.le_of_ble_eq_true rfl) dL_law_276 ?_
      refine z_if_eq C 284 dL_law_279 (by decide) (fun _ => ?_) (fun q => absurd (rfl) q)
      refine z_sub (lv2 := [(0, .ref b), (1, .ref X), (2, .int (zi (many : Nat))), (3, .int (zi (M.1 0))), (4, .int (zi (M.1 6)))]) [0, 1, 2, 3, 4] rfl ?_
      exact law_3 C hr hT hl0 hY hυ2 (zfree_k hf4 fυ2.1) (by omega) (by omega) (by omega) (by omega) (by omega) hm
  · skip
    refine z_if_le C 284 dL_law_227 (by decide) (fun _ => ?_) (fun q => absurd (zi_yle (by omega) (by omega) (by omega)) q)
    refine z_sub (lv2 := [(0, .ref b), (1, .ref X), (2, .int (zi (many : Nat))), (3, .int (zi (M.1 0))), (4, .int (zi (M.1 6)))]) [0, 1, 2, 3, 4] rfl ?_
    exact law_3 C hr hT hl0 hY h hf hN (by omega) (by omega) (by omega) (by omega) hm
set_option maxRecDepth 100000 in
set_option maxHeartbeats 4000000 in
theorem law_2a (C : zC p s m #[Value.ref b] meth c cL_law RL 9 D Ca s.heap.size En) (hr : meth.sig.returnType = ret) (hT : ∀ U, En U → zThr s.heap.size U) (hl0 : l.stackTraces = false) (hY : ∀ U, En U → zLS U s.heap.size b L xs) {σ : zS} {N cells slots : Nat} {z : Int} (h : LC z σ X P M [] S) (hf : zfree σ N) (hN : X + 307 ≤ N) (hz0 : 0 ≤ z) (hz : z < 395000000) (hc : cells ≤ 599970) (hs : slots ≤ 7299700) (hm : many < 200) : zW p l e room_1 s m #[Value.ref b] below meth c cells slots (lw_Z below #[Value.ref b] s) D Ca s.heap.size 9 σ N 169 [(0, .ref b), (1, .ref X), (2, .int (zi (many : Nat))), (3, .int (zi (M.1 0))), (4, .int (zi (M.1 6))), (5, .int (zi (if M.1 67 = 1 then qcw P M 40 else -1))), (6, .int (zi (aTake P M 1))), (7, .int (zi (aKeep P M)))] [] := by
  have hz7 : z < 700000000 := by omega
  obtain ⟨hI, hKB, hJ⟩ := LC_I h
  refine z_iload C dL_law_169 6 rfl ?_
  have hq : -1 ≤ aTake P M 1 ∧ aTake P M 1 ≤ 100000 ∧ (0 < aTake P M 1 → M.1 67 ≠ 1 ∧ aTake P M 1 = qcw P (qbegin 1 M) 500) := by
    unfold aTake
    split
    · exact ⟨by omega, by omega, fun w => absurd w (by omega)⟩
    · rename_i q
      have := qcw_in P (qbegin 1 M) 500
      exact ⟨this.1, by omega, fun w => ⟨q, rfl⟩⟩
  by_cases q9 : 0 < aTake P M 1
  · obtain ⟨h67, ea⟩ := hq.2.2 q9
    have hzb : z + 501 < 700000000 := by omega
    obtain ⟨τ, eτ, hτ, fτ⟩ := la_begin (d := true) h hz7 h67
    have eb : fL_begun σ X (zb true) = some (τ, zi (M.1 5 + 1)) := by
      unfold fL_begun
      rw [eτ]
      rfl
    have hτ : LC (z + 501) τ X P (qbegin 1 M) [M] S := hτ
    obtain ⟨hI1, hKB1, hJ1⟩ := LC_I hτ
    rw [ea] at q9
    obtain ⟨k, ek, hk1, hk2, hk3, hk4⟩ := qcw_at hI1 hKB1 hJ1 (by omega) (by omega) q9
    have h6 := q6_it hI1 hKB1 k
    have e9 : aTake P M 1 = (k : Int) := by rw [ea, ek]
    have hn1 : qcw P (qbegin 1 M) 500 ≠ -1 := by rw [ek]; omega
    have eM : qcwM P (qbegin 1 M) 500 = qit P k (qbegin 1 M) := by
      unfold qcwM
      rw [if_neg hn1, ek, Int.toNat_natCast]
    have hd := qcw_done hI1 hKB1 hn1
    rw [eM] at hd
    have e8 : aKeep P M = (gtot (qit P k (qbegin 1 M)) 54 : Int) := by
      unfold aKeep
      rw [if_neg h67, if_neg hn1, eM]
    have hf2 : zfree τ N := zfree_k hf fτ.1
    rw [e9, e8]
    refine z_if_le C 225 dL_law_171 (by decide) (fun q => absurd q (zi_nle (by omega) (by omega) (by omega))) (fun _ => ?_)
    refine z_aload_n C dL_law_174 rfl 1 rfl ?_
    refine z_iconst C (zi 1) dL_law_175 (by decide) ?_
    refine z_callH (As := [.ref X, .int (zb true)]) (F0 := 14) (L0 := 540) C (mL_begun l D Ca s.heap.size En C.2.2.2.2.2.2.2.1 σ N X (zb true) _ eb) ⟨Nat.le_of_ble_eq_true rfl, Nat.le_of_ble_eq_true rfl, by show _ ≤ 600086; omega, by show _ ≤ 7301442; omega⟩ kw_943 kw_0 kw_941 kw_942 hyL_begun (Nat.le_of_ble_eq_true rfl) (Nat.le_of_ble_eq_true rfl) rfl rfl (Nat.le_of_ble_eq_true rfl) dL_law_176 (by show _ ≤ 600086; omega) (by show _ ≤ 7301442; omega) (fun N2 hN2 => ?_)
    refine z_aload_n C dL_law_179 rfl 1 rfl ?_
    refine z_bipush C (zi 6) dL_law_180 (by decide) ?_
    refine z_callVi (As := [.int (zi 6)]) (F0 := 14) (L0 := 540) C (mX9_count l D Ca s.heap.size En C.2.2.2.2.2.2.2.1 τ N2 X (zi 6) _ (zck_ok (lq_c6 hτ hzb)).2) ⟨Nat.le_of_ble_eq_true rfl, Nat.le_of_ble_eq_true rfl, by show _ ≤ 600086; omega, by show _ ≤ 7301442; omega⟩ (LC_k hτ) rfl kw_481 kw_1 kw_478 kw_479 kw_480 hyX9_count (Nat.le_of_ble_eq_true rfl) (Nat.le_of_ble_eq_true rfl) rfl rfl (Nat.le_of_ble_eq_true rfl) dL_law_182 ?_
    refine z_icmp_ne C 223 dL_law_185 (by decide) (fun q => absurd (rfl) q) (fun _ => ?_)
    refine z_aload_n C dL_law_188 rfl 1 rfl ?_
    refine z_iload C dL_law_189 6 rfl ?_
    obtain ⟨υ, eυ, hυ, fυ⟩ := la_run (t := k) hτ hzb (by omega)
    have hzc : z + 501 + 501 < 700000000 := by omega
    have hf3 : zfree υ N2 := zfree_k (zfree_le hf2 hN2) fυ.1
    refine z_callVi (As := [.int (zi (k : Nat))]) (F0 := 14) (L0 := 540) C (mX9_run l D Ca s.heap.size En C.2.2.2.2.2.2.2.1 τ N2 X (zi (k : Nat)) _ (zck_ok (eυ)).2) ⟨Nat.le_of_ble_eq_true rfl, Nat.le_of_ble_eq_true rfl, by show _ ≤ 600086; omega, by show _ ≤ 7301442; omega⟩ (LC_k hτ) rfl kw_581 kw_1 kw_578 kw_579 kw_580 hyX9_run (Nat.le_of_ble_eq_true rfl) (Nat.le_of_ble_eq_true rfl) rfl rfl (Nat.le_of_ble_eq_true rfl) dL_law_191 ?_
    refine z_iconst C (zi 1) dL_law_194 (by decide) ?_
    refine z_icmp_lt C 223 dL_law_195 (by decide) (fun q => absurd q (fun q => by rw [zi_lt (by omega) (by omega) (by omega) (by omega)] at q; omega)) (fun _ => ?_)
    refine z_aload_n C dL_law_198 rfl 1 rfl ?_
    refine z_iconst C (zi 4) dL_law_199 (by decide) ?_
    refine z_callVi (As := [.int (zi 4)]) (F0 := 14) (L0 := 540) C (mX9_completed l D Ca s.heap.size En C.2.2.2.2.2.2.2.1 υ N2 X (zi 4) _ (zck_ok (lq_comp4 hυ hzc)).2) ⟨Nat.le_of_ble_eq_true rfl, Nat.le_of_ble_eq_true rfl, by show _ ≤ 600086; omega, by show _ ≤ 7301442; omega⟩ (LC_k hυ) rfl kw_565 kw_1 kw_562 kw_563 kw_564 hyX9_completed (Nat.le_of_ble_eq_true rfl) (Nat.le_of_ble_eq_true rfl) rfl rfl (Nat.le_of_ble_eq_true rfl) dL_law_200 ?_
    rw [if_pos hd]
    refine z_iload C dL_law_203 7 rfl ?_
    refine z_icmp_ne C 223 dL_law_205 (by decide) (fun q => absurd (rfl) q) (fun _ => ?_)
    refine z_aload_n C dL_law_208 rfl 1 rfl ?_
    obtain ⟨τ3, e3, h3, f3⟩ := la_undo hυ hzc
    have hzd : z + 501 + 501 + 501 < 700000000 := by omega
    have hf4 : zfree τ3 N2 := zfree_k hf3 f3.1
    refine z_callVi (As := []) (F0 := 14) (L0 := 540) C (mX9_undo l D Ca s.heap.size En C.2.2.2.2.2.2.2.1 υ N2 X  _ (zck_ok (e3)).2) ⟨Nat.le_of_ble_eq_true rfl, Nat.le_of_ble_eq_true rfl, by show _ ≤ 600086; omega, by show _ ≤ 7301442; omega⟩ (LC_k hυ) rfl kw_723 kw_1 kw_720 kw_721 kw_722 hyX9_undo (Nat.le_of_ble_eq_true rfl) (Nat.le_of_ble_eq_true rfl) rfl rfl (Nat.le_of_ble_eq_true rfl) dL_law_209 ?_
    refine z_iconst C (zi 1) dL_law_212 (by decide) ?_
    refine z_icmp_ne C 223 dL_law_213 (by decide) (fun q => absurd (rfl) q) (fun _ => ?_)
    refine z_aload_n C dL_law_216 rfl 1 rfl ?_
    have h3 : LC (z + 501 + 501 + 501) τ3 X P (qbegin 1 M) [M] S := h3
    obtain ⟨τ4, e4, h4, f4⟩ := la_undo h3 hzd
    refine z_callVi (As := []) (F0 := 14) (L0 := 540) C (mX9_undo l D Ca s.heap.size En C.2.2.2.2.2.2.2.1 τ3 N2 X  _ (zck_ok (e4)).2) ⟨Nat.le_of_ble_eq_true rfl, Nat.le_of_ble_eq_true rfl, by show _ ≤ 600086; omega, by show _ ≤ 7301442; omega⟩ (LC_k h3) rfl kw_723 kw_1 kw_720 kw_721 kw_722 hyX9_undo (Nat.le_of_ble_eq_true rfl) (Nat.le_of_ble_eq_true rfl) rfl rfl (Nat.le_of_ble_eq_true rfl) dL_law_217 ?_
    refine z_if_eq C 225 dL_law_220 (by decide) (fun _ => ?_) (fun q => absurd (rfl) q)
    refine z_sub (lv2 := [(0, .ref b), (1, .ref X), (2, .int (zi (many : Nat))), (3, .int (zi (M.1 0))), (4, .int (zi (M.1 6))), (5, .int (zi (if M.1 67 = 1 then qcw P M 40 else -1)))]) [0, 1, 2, 3, 4, 5] rfl ?_
    exact law_2b C hr hT hl0 hY h4 (zfree_k hf4 f4.1) (by omega) (by omega) (by omega) (by omega) (by omega) hm
  · skip
    refine z_if_le C 225 dL_law_171 (by decide) (fun _ => ?_) (fun q => absurd (zi_yle (by omega) (by omega) (by omega)) q)
    refine z_sub (lv2 := [(0, .ref b), (1, .ref X), (2, .int (zi (many : Nat))), (3, .int (zi (M.1 0))), (4, .int (zi (M.1 6))), (5, .int (zi (if M.1 67 = 1 then qcw P M 40 else -1)))]) [0, 1, 2, 3, 4, 5] rfl ?_
    exact law_2b C hr hT hl0 hY h hf hN (by omega) (by omega) (by omega) (by omega) hm
set_option maxRecDepth 100000 in
set_option maxHeartbeats 4000000 in
theorem law_1 (C : zC p s m #[Value.ref b] meth c cL_law RL 9 D Ca s.heap.size En) (hr : meth.sig.returnType = ret) (hT : ∀ U, En U → zThr s.heap.size U) (hl0 : l.stackTraces = false) (hY : ∀ U, En U → zLS U s.heap.size b L xs) {σ : zS} {N cells slots : Nat} {z : Int} (h : LC z σ X P M [] S) (hf : zfree σ N) (hN : X + 307 ≤ N) (hz0 : 0 ≤ z) (hz : z < 394000000) (hc : cells ≤ 599970) (hs : slots ≤ 7299700) (hm : many < 200) : zW p l e room_1 s m #[Value.ref b] below meth c cells slots (lw_Z below #[Value.ref b] s) D Ca s.heap.size 9 σ N 138 [(0, .ref b), (1, .ref X), (2, .int (zi (many : Nat))), (3, .int (zi (M.1 0))), (4, .int (zi (M.1 6))), (5, .int (zi (if M.1 67 = 1 then qcw P M 40 else -1))), (6, .int (zi (aTake P M 1))), (7, .int (zi (aKeep P M)))] [] := by
  have hz7 : z < 700000000 := by omega
  obtain ⟨hI, hKB, hJ⟩ := LC_I h
  have hkb := KB_in hKB hz7
  refine z_aload_n C dL_law_138 rfl 1 rfl ?_
  refine z_iconst C (zi 0) dL_law_139 (by decide) ?_
  refine z_callVi (As := [.int (zi 0)]) (F0 := 14) (L0 := 540) C (mX9_progress l D Ca s.heap.size En C.2.2.2.2.2.2.2.1 σ N X (zi 0) _ (zck_ok (lq_prog h hz7)).2) ⟨Nat.le_of_ble_eq_true rfl, Nat.le_of_ble_eq_true rfl, by show _ ≤ 600086; omega, by show _ ≤ 7301442; omega⟩ (LC_k h) rfl kw_485 kw_1 kw_482 kw_483 kw_484 hyX9_progress (Nat.le_of_ble_eq_true rfl) (Nat.le_of_ble_eq_true rfl) rfl rfl (Nat.le_of_ble_eq_true rfl) dL_law_140 ?_
  by_cases h67 : M.1 67 = 1
  · have e1 : aTake P M 1 = -1 := if_pos h67
    have e2 : aKeep P M = -1 := if_pos h67
    have hfin := law_2a (e := e) (below := below) (cells := cells) (slots := slots) C hr hT hl0 hY h hf hN hz0 (show z < 395000000 by omega) hc hs hm
    simp only [if_pos h67, e1, e2] at hfin ⊢
    refine z_if_lt C 161 dL_law_143 (by decide) (fun q => absurd q (fun q => by rw [zi_lt (by omega) (by omega) (by omega) (by omega)] at q; omega)) (fun _ => ?_)
    refine z_iload C dL_law_146 6 rfl ?_
    refine z_iconst C (zi (-1)) dL_law_148 (by decide) ?_
    refine z_icmp_ne C 167 dL_law_149 (by decide) (fun q => absurd (rfl) q) (fun _ => ?_)
    refine z_iload C dL_law_152 7 rfl ?_
    refine z_iconst C (zi (-1)) dL_law_154 (by decide) ?_
    refine z_icmp_eq C 169 dL_law_155 (by decide) (fun _ => ?_) (fun q => absurd (rfl) q)
    exact hfin
  · have hfin := law_2a (e := e) (below := below) (cells := cells) (slots := slots) C hr hT hl0 hY h hf hN hz0 (show z < 395000000 by omega) hc hs hm
    simp only [if_neg h67] at hfin ⊢
    refine z_if_lt C 161 dL_law_143 (by decide) (fun _ => ?_) (fun q => absurd (by decide) q)
    refine z_iload C dL_law_161 5 rfl ?_
    refine z_iconst C (zi (-1)) dL_law_163 (by decide) ?_
    refine z_icmp_eq C 169 dL_law_164 (by decide) (fun _ => ?_) (fun q => absurd (rfl) q)
    exact hfin
set_option maxRecDepth 100000 in
set_option maxHeartbeats 4000000 in
theorem law_0 (C : zC p s m #[Value.ref b] meth c cL_law RL 9 D Ca s.heap.size En) (hr : meth.sig.returnType = ret) (hT : ∀ U, En U → zThr s.heap.size U) (hl0 : l.stackTraces = false) (hY : ∀ U, En U → zLS U s.heap.size b L xs) {σ : zS} {N cells slots : Nat} {z : Int} (h : LC z σ X P M H S) (hf : zfree σ N) (hN : X + 307 ≤ N) (hz0 : 0 ≤ z) (hz : z < 393000000) (hc : cells ≤ 599970) (hs : slots ≤ 7299700) (hm : many < 200) : zW p l e room_1 s m #[Value.ref b] below meth c cells slots (lw_Z below #[Value.ref b] s) D Ca s.heap.size 9 σ N 76 [(0, .ref b), (1, .ref X), (2, .int (zi (many : Nat)))] [] := by
  have hz7 : z < 700000000 := by omega
  refine z_aload_n C dL_law_76 rfl 1 rfl ?_
  refine z_iconst C (zi 5) dL_law_77 (by decide) ?_
  refine z_callVi (As := [.int (zi 5)]) (F0 := 14) (L0 := 540) C (mX9_count l D Ca s.heap.size En C.2.2.2.2.2.2.2.1 σ N X (zi 5) _ (zck_ok (lq_c5 h hz7)).2) ⟨Nat.le_of_ble_eq_true rfl, Nat.le_of_ble_eq_true rfl, by show _ ≤ 600086; omega, by show _ ≤ 7301442; omega⟩ (LC_k h) rfl kw_481 kw_1 kw_478 kw_479 kw_480 hyX9_count (Nat.le_of_ble_eq_true rfl) (Nat.le_of_ble_eq_true rfl) rfl rfl (Nat.le_of_ble_eq_true rfl) dL_law_78 ?_
  refine z_istore_n (lv2 := [(3, .int (zi (M.1 0))), (0, .ref b), (1, .ref X), (2, .int (zi (many : Nat)))]) C dL_law_81 rfl (by decide) rfl ?_
  refine z_aload_n C dL_law_82 rfl 2 rfl ?_
  refine z_bipush C (zi 7) dL_law_83 (by decide) ?_
  refine z_callVi (As := [.int (zi 7)]) (F0 := 14) (L0 := 540) C (mX9_count l D Ca s.heap.size En C.2.2.2.2.2.2.2.1 σ N X (zi 7) _ (zck_ok (lq_c7 h hz7)).2) ⟨Nat.le_of_ble_eq_true rfl, Nat.le_of_ble_eq_true rfl, by show _ ≤ 600086; omega, by show _ ≤ 7301442; omega⟩ (LC_k h) rfl kw_481 kw_1 kw_478 kw_479 kw_480 hyX9_count (Nat.le_of_ble_eq_true rfl) (Nat.le_of_ble_eq_true rfl) rfl rfl (Nat.le_of_ble_eq_true rfl) dL_law_85 ?_
  refine z_istore (lv2 := [(4, .int (zi (M.1 6))), (3, .int (zi (M.1 0))), (0, .ref b), (1, .ref X), (2, .int (zi (many : Nat)))]) C dL_law_88 (by decide) rfl ?_
  refine z_aload_n C dL_law_90 rfl 3 rfl ?_
  refine z_bipush C (zi 40) dL_law_91 (by decide) ?_
  obtain ⟨τ1, e1, h1, f1⟩ := la_complIn (t := 40) h hz7 (by omega)
  have z1 : z + 501 < 700000000 := by omega
  have g1 : zfree τ1 N := zfree_k hf f1.1
  refine z_callVi (As := [.int (zi 40)]) (F0 := 14) (L0 := 540) C (mX9_completesIn l D Ca s.heap.size En C.2.2.2.2.2.2.2.1 σ N X (zi 40) _ (zck_ok (e1)).2) ⟨Nat.le_of_ble_eq_true rfl, Nat.le_of_ble_eq_true rfl, by show _ ≤ 600086; omega, by show _ ≤ 7301442; omega⟩ (LC_k h) rfl kw_746 kw_1 kw_743 kw_744 kw_745 hyX9_completesIn (Nat.le_of_ble_eq_true rfl) (Nat.le_of_ble_eq_true rfl) rfl rfl (Nat.le_of_ble_eq_true rfl) dL_law_93 ?_
  refine z_istore (lv2 := [(5, .int (zi (if M.1 67 = 1 then qcw P M 40 else -1))), (4, .int (zi (M.1 6))), (3, .int (zi (M.1 0))), (0, .ref b), (1, .ref X), (2, .int (zi (many : Nat)))]) C dL_law_96 (by decide) rfl ?_
  refine z_aload_n C dL_law_98 rfl 4 rfl ?_
  refine z_iconst C (zi 1) dL_law_99 (by decide) ?_
  obtain ⟨τ2, e2, h2, f2⟩ := la_take h1 z1
  have z2 : z + 501 + 501 < 700000000 := by omega
  have g2 : zfree τ2 N := zfree_k g1 f2.1
  refine z_callVi (As := [.int (zb true)]) (F0 := 14) (L0 := 540) C (mX9_wouldTake l D Ca s.heap.size En C.2.2.2.2.2.2.2.1 τ1 N X (zb true) _ (zck_ok (e2)).2) ⟨Nat.le_of_ble_eq_true rfl, Nat.le_of_ble_eq_true rfl, by show _ ≤ 600086; omega, by show _ ≤ 7301442; omega⟩ (LC_k h1) rfl kw_756 kw_1 kw_753 kw_754 kw_755 hyX9_wouldTake (Nat.le_of_ble_eq_true rfl) (Nat.le_of_ble_eq_true rfl) rfl rfl (Nat.le_of_ble_eq_true rfl) dL_law_100 ?_
  refine z_istore (lv2 := [(6, .int (zi (aTake P M 1))), (5, .int (zi (if M.1 67 = 1 then qcw P M 40 else -1))), (4, .int (zi (M.1 6))), (3, .int (zi (M.1 0))), (0, .ref b), (1, .ref X), (2, .int (zi (many : Nat)))]) C dL_law_103 (by decide) rfl ?_
  refine z_aload_n C dL_law_105 rfl 5 rfl ?_
  obtain ⟨τ3, e3, h3, f3⟩ := la_keep h2 z2
  have z3 : z + 501 + 501 + 501 < 700000000 := by omega
  have g3 : zfree τ3 N := zfree_k g2 f3.1
  refine z_callVi (As := []) (F0 := 14) (L0 := 540) C (mX9_wouldKeep l D Ca s.heap.size En C.2.2.2.2.2.2.2.1 τ2 N X  _ (zck_ok (e3)).2) ⟨Nat.le_of_ble_eq_true rfl, Nat.le_of_ble_eq_true rfl, by show _ ≤ 600086; omega, by show _ ≤ 7301442; omega⟩ (LC_k h2) rfl kw_761 kw_1 kw_758 kw_759 kw_760 hyX9_wouldKeep (Nat.le_of_ble_eq_true rfl) (Nat.le_of_ble_eq_true rfl) rfl rfl (Nat.le_of_ble_eq_true rfl) dL_law_106 ?_
  refine z_istore (lv2 := [(7, .int (zi (aKeep P M))), (6, .int (zi (aTake P M 1))), (5, .int (zi (if M.1 67 = 1 then qcw P M 40 else -1))), (4, .int (zi (M.1 6))), (3, .int (zi (M.1 0))), (0, .ref b), (1, .ref X), (2, .int (zi (many : Nat)))]) C dL_law_109 (by decide) rfl ?_
  refine z_aload_n C dL_law_111 rfl 6 rfl ?_
  obtain ⟨τ4, e4, h4, f4⟩ := la_save h3 z3
  have z4 : z + 501 + 501 + 501 + 501 < 700000000 := by omega
  have g4 : zfree τ4 N := zfree_k g3 f4.1
  refine z_callVi (As := []) (F0 := 14) (L0 := 540) C (mX9_saveState l D Ca s.heap.size En C.2.2.2.2.2.2.2.1 τ3 N X  _ (zck_ok (e4)).2) ⟨Nat.le_of_ble_eq_true rfl, Nat.le_of_ble_eq_true rfl, by show _ ≤ 600086; omega, by show _ ≤ 7301442; omega⟩ (LC_k h3) rfl kw_765 kw_1 kw_762 kw_763 kw_764 hyX9_saveState (Nat.le_of_ble_eq_true rfl) (Nat.le_of_ble_eq_true rfl) rfl rfl (Nat.le_of_ble_eq_true rfl) dL_law_112 ?_
  refine z_iload_n C dL_law_115 rfl 4 rfl ?_
  refine z_icmp_ne C 136 dL_law_116 (by decide) (fun q => absurd (rfl) q) (fun _ => ?_)
  refine z_aload_n C dL_law_119 rfl 6 rfl ?_
  obtain ⟨τ5, e5, h5, f5⟩ := la_rest h4 z4
  have z5 : z + 501 + 501 + 501 + 501 + 501 < 700000000 := by omega
  have g5 : zfree τ5 N := zfree_k g4 f5.1
  refine z_callVi (As := []) (F0 := 14) (L0 := 540) C (mX9_restoreState l D Ca s.heap.size En C.2.2.2.2.2.2.2.1 τ4 N X  _ (zck_ok (e5)).2) ⟨Nat.le_of_ble_eq_true rfl, Nat.le_of_ble_eq_true rfl, by show _ ≤ 600086; omega, by show _ ≤ 7301442; omega⟩ (LC_k h4) rfl kw_769 kw_1 kw_766 kw_767 kw_768 hyX9_restoreState (Nat.le_of_ble_eq_true rfl) (Nat.le_of_ble_eq_true rfl) rfl rfl (Nat.le_of_ble_eq_true rfl) dL_law_120 ?_
  refine z_iload_n C dL_law_123 rfl 4 rfl ?_
  refine z_icmp_ne C 136 dL_law_124 (by decide) (fun q => absurd (rfl) q) (fun _ => ?_)
  refine z_aload_n C dL_law_127 rfl 6 rfl ?_
  refine z_bipush C (zi 10) dL_law_128 (by decide) ?_
  refine z_callVi (As := [.int (zi 10)]) (F0 := 14) (L0 := 540) C (mX9_count l D Ca s.heap.size En C.2.2.2.2.2.2.2.1 τ5 N X (zi 10) _ (zck_ok (lq_c10 h5 z5)).2) ⟨Nat.le_of_ble_eq_true rfl, Nat.le_of_ble_eq_true rfl, by show _ ≤ 600086; omega, by show _ ≤ 7301442; omega⟩ (LC_k h5) rfl kw_481 kw_1 kw_478 kw_479 kw_480 hyX9_count (Nat.le_of_ble_eq_true rfl) (Nat.le_of_ble_eq_true rfl) rfl rfl (Nat.le_of_ble_eq_true rfl) dL_law_130 ?_
  refine z_if_eq C 138 dL_law_133 (by decide) (fun _ => ?_) (fun q => absurd (rfl) q)
  refine z_sub (lv2 := [(0, .ref b), (1, .ref X), (2, .int (zi (many : Nat))), (3, .int (zi (M.1 0))), (4, .int (zi (M.1 6))), (5, .int (zi (if M.1 67 = 1 then qcw P M 40 else -1))), (6, .int (zi (aTake P M 1))), (7, .int (zi (aKeep P M)))]) [5, 6, 7, 4, 3, 2, 1, 0] rfl ?_
  exact law_1 C hr hT hl0 hY h5 g5 hN (by omega) (by omega) (by omega) (by omega) hm
set_option maxRecDepth 100000 in
set_option maxHeartbeats 4000000 in
theorem law_loop (C : zC p s m #[Value.ref b] meth c cL_law RL 9 D Ca s.heap.size En) (hr : meth.sig.returnType = ret) (hT : ∀ U, En U → zThr s.heap.size U) (hl0 : l.stackTraces = false) (hY : ∀ U, En U → zLS U s.heap.size b L xs) (hm : many < 200) : ∀ (n i : Nat) (M : qM) (H : List qM) (S : Option qM) (σ : zS) (N cells slots : Nat) (z : Int), n + i = many → LC z σ X P M H S → zfree σ N → X + 307 ≤ N → 0 ≤ z → z + 501 * n < 390000000 → cells + 2 * n ≤ 599970 → slots + 22 * n ≤ 7299700 → zW p l e room_1 s m #[Value.ref b] below meth c cells slots (lw_Z below #[Value.ref b] s) D Ca s.heap.size 9 σ N 40 [(0, .ref b), (1, .ref X), (2, .int (zi (many : Nat))), (3, .int (zi (i : Nat)))] [] := by
  intro n
  induction n with
  | zero =>
    intro i M H S σ N cells slots z hn h hf hN hz0 hz hc hs
    have ei : i = many := by omega
    subst ei
    refine z_iload_n C dL_law_40 rfl 3 rfl ?_
    refine z_iload_n C dL_law_41 rfl 2 rfl ?_
    refine z_icmp_ge C 76 dL_law_42 (by decide) (fun _ => ?_) (fun q => absurd (zi_yle (by omega) (by omega) (by omega)) q)
    refine z_sub (lv2 := [(0, .ref b), (1, .ref X), (2, .int (zi (i : Nat)))]) [0, 1, 2] rfl ?_
    exact law_0 C hr hT hl0 hY h hf hN hz0 (by omega) (by omega) (by omega) hm
  | succ n ih =>
    intro i M H S σ N cells slots z hn h hf hN hz0 hz hc hs
    have hz7 : z < 700000000 := by omega
    refine z_iload_n C dL_law_40 rfl 3 rfl ?_
    refine z_iload_n C dL_law_41 rfl 2 rfl ?_
    refine z_icmp_ge C 76 dL_law_42 (by decide) (fun q => absurd q (zi_nle (by omega) (by omega) (by omega))) (fun _ => ?_)
    refine z_aload_n C dL_law_45 rfl 1 rfl ?_
    refine z_aload_n C dL_law_46 rfl 0 rfl ?_
    refine z_iload_n C dL_law_47 rfl 3 rfl ?_
    refine z_bipush C (zi 7) dL_law_48 (by decide) ?_
    refine z_iadd C dL_law_50 ?_
    rw [show zi (i : Nat) + zi 7 = zi ((i + 7 : Nat) : Int) from by rw [zi_add]; congr 1]
    refine z_callKv (As := [.ref X, .ref b, .int (zi ((i + 7 : Nat) : Int))]) C (mL_act l C.2.2.2.2.2.2.2.1 hT hl0 hY N (i + 7) h hz7 (by omega)) kw_1186 kw_0 kw_1184 kw_1185 hyL_act (Nat.le_of_ble_eq_true rfl) (Nat.le_of_ble_eq_true rfl) rfl rfl (Nat.le_of_ble_eq_true rfl) dL_law_51 (by show _ ≤ 600086; omega) (by show _ ≤ 7301442; omega) (fun τ N2 hK hN2 => ?_)
    obtain ⟨M2, H2, h2, ek, hor⟩ := hK
    have z2 : z + 501 < 700000000 := by omega
    have g2 : zfree τ N2 := zfree_le (zfree_k hf ek) hN2
    refine z_aload_n C dL_law_54 rfl 1 rfl ?_
    refine z_callK (As := [.ref X]) C (mL_isOnce l D Ca s.heap.size En C.2.2.2.2.2.2.2.1 N2 h2 z2 (by omega) g2) kw_1242 kw_0 kw_1240 kw_1241 hyL_isOnce (Nat.le_of_ble_eq_true rfl) (Nat.le_of_ble_eq_true rfl) rfl rfl (Nat.le_of_ble_eq_true rfl) dL_law_55 (by show _ ≤ 600086; omega) (by show _ ≤ 7301442; omega) (fun τ9 r9 N3 hK9 hN3 => ?_)
    obtain ⟨ea9, eb9⟩ := hK9
    rw [ea9, eb9]
    clear ea9 eb9
    refine z_if_eq C 68 dL_law_58 (by decide) (fun q => absurd q (by decide)) (fun _ => ?_)
    refine z_aload_n C dL_law_61 rfl 1 rfl ?_
    refine z_callSi (As := [.ref X]) (F0 := 14) (L0 := 540) C (mL_areSums l D Ca s.heap.size En C.2.2.2.2.2.2.2.1 τ N3 X _ (ev_sums h2 (by omega) (by omega))) ⟨Nat.le_of_ble_eq_true rfl, Nat.le_of_ble_eq_true rfl, by show _ ≤ 600086; omega, by show _ ≤ 7301442; omega⟩ kw_1304 kw_0 kw_1302 kw_1303 hyL_areSums (Nat.le_of_ble_eq_true rfl) (Nat.le_of_ble_eq_true rfl) rfl rfl (Nat.le_of_ble_eq_true rfl) dL_law_62 ?_
    refine z_if_ne C 70 dL_law_65 (by decide) (fun _ => ?_) (fun q => absurd q (show ¬ zi 1 = zi 0 by decide))
    refine z_iinc (lv2 := [(3, .int (zi ((i + 1 : Nat) : Int))), (0, .ref b), (1, .ref X), (2, .int (zi (many : Nat)))]) C (zi ((i + 1 : Nat) : Int)) dL_law_70 3 rfl (by show zi (i : Nat) + zi 1 = _; rw [zi_add]; congr 1) (by decide) rfl ?_
    refine z_goto C 40 dL_law_73 (by decide) ?_
    refine z_sub (lv2 := [(0, .ref b), (1, .ref X), (2, .int (zi (many : Nat))), (3, .int (zi ((i + 1 : Nat) : Int)))]) [1, 2, 3, 0] rfl ?_
    exact ih (i + 1) M2 H2 S τ N3 _ _ (z + 501) (by omega) h2 (zfree_le g2 hN3) (by omega) (by omega) (by omega) (by omega) (by omega)
end LAW
