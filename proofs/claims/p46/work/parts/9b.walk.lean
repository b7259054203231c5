/-! the law: the lines -/
theorem dL_areLinesRight_0 : decode cL_areLinesRight 0 = .ok (.iconst 1, 1) := by decide +kernel
theorem dL_areLinesRight_1 : decode cL_areLinesRight 1 = .ok (.istore_n 1, 1) := by decide +kernel
theorem dL_areLinesRight_2 : decode cL_areLinesRight 2 = .ok (.iconst 0, 1) := by decide +kernel
theorem dL_areLinesRight_3 : decode cL_areLinesRight 3 = .ok (.istore_n 2, 1) := by decide +kernel
theorem dL_areLinesRight_4 : decode cL_areLinesRight 4 = .ok (.iload_n 2, 1) := by decide +kernel
theorem dL_areLinesRight_5 : decode cL_areLinesRight 5 = .ok (.aload_n 0, 1) := by decide +kernel
theorem dL_areLinesRight_6 : decode cL_areLinesRight 6 = .ok (.iconst 0, 1) := by decide +kernel
theorem dL_areLinesRight_7 : decode cL_areLinesRight 7 = .ok (.invokevirtual 127, 3) := by decide +kernel
theorem dL_areLinesRight_10 : decode cL_areLinesRight 10 = .ok (.if_icmp .ge 241, 3) := by decide +kernel
theorem dL_areLinesRight_13 : decode cL_areLinesRight 13 = .ok (.new 196, 3) := by decide +kernel
theorem dL_areLinesRight_16 : decode cL_areLinesRight 16 = .ok (.dup, 1) := by decide +kernel
theorem dL_areLinesRight_17 : decode cL_areLinesRight 17 = .ok (.invokespecial 198, 3) := by decide +kernel
theorem dL_areLinesRight_20 : decode cL_areLinesRight 20 = .ok (.iload_n 2, 1) := by decide +kernel
theorem dL_areLinesRight_21 : decode cL_areLinesRight 21 = .ok (.invokevirtual 199, 3) := by decide +kernel
theorem dL_areLinesRight_24 : decode cL_areLinesRight 24 = .ok (.ldc 202, 2) := by decide +kernel
theorem dL_areLinesRight_26 : decode cL_areLinesRight 26 = .ok (.invokevirtual 204, 3) := by decide +kernel
theorem dL_areLinesRight_29 : decode cL_areLinesRight 29 = .ok (.aload_n 0, 1) := by decide +kernel
theorem dL_areLinesRight_30 : decode cL_areLinesRight 30 = .ok (.iload_n 2, 1) := by decide +kernel
theorem dL_areLinesRight_31 : decode cL_areLinesRight 31 = .ok (.iconst 0, 1) := by decide +kernel
theorem dL_areLinesRight_32 : decode cL_areLinesRight 32 = .ok (.invokevirtual 75, 3) := by decide +kernel
theorem dL_areLinesRight_35 : decode cL_areLinesRight 35 = .ok (.invokevirtual 199, 3) := by decide +kernel
theorem dL_areLinesRight_38 : decode cL_areLinesRight 38 = .ok (.ldc 207, 2) := by decide +kernel
theorem dL_areLinesRight_40 : decode cL_areLinesRight 40 = .ok (.invokevirtual 204, 3) := by decide +kernel
theorem dL_areLinesRight_43 : decode cL_areLinesRight 43 = .ok (.aload_n 0, 1) := by decide +kernel
theorem dL_areLinesRight_44 : decode cL_areLinesRight 44 = .ok (.iload_n 2, 1) := by decide +kernel
theorem dL_areLinesRight_45 : decode cL_areLinesRight 45 = .ok (.iconst 1, 1) := by decide +kernel
theorem dL_areLinesRight_46 : decode cL_areLinesRight 46 = .ok (.invokevirtual 75, 3) := by decide +kernel
theorem dL_areLinesRight_49 : decode cL_areLinesRight 49 = .ok (.invokevirtual 199, 3) := by decide +kernel
theorem dL_areLinesRight_52 : decode cL_areLinesRight 52 = .ok (.ldc 209, 2) := by decide +kernel
theorem dL_areLinesRight_54 : decode cL_areLinesRight 54 = .ok (.invokevirtual 204, 3) := by decide +kernel
theorem dL_areLinesRight_57 : decode cL_areLinesRight 57 = .ok (.invokevirtual 211, 3) := by decide +kernel
theorem dL_areLinesRight_60 : decode cL_areLinesRight 60 = .ok (.astore_n 3, 1) := by decide +kernel
theorem dL_areLinesRight_61 : decode cL_areLinesRight 61 = .ok (.iconst 0, 1) := by decide +kernel
theorem dL_areLinesRight_62 : decode cL_areLinesRight 62 = .ok (.istore 4, 2) := by decide +kernel
theorem dL_areLinesRight_64 : decode cL_areLinesRight 64 = .ok (.iload 4, 2) := by decide +kernel
theorem dL_areLinesRight_66 : decode cL_areLinesRight 66 = .ok (.aload_n 0, 1) := by decide +kernel
theorem dL_areLinesRight_67 : decode cL_areLinesRight 67 = .ok (.iconst 1, 1) := by decide +kernel
theorem dL_areLinesRight_68 : decode cL_areLinesRight 68 = .ok (.invokevirtual 127, 3) := by decide +kernel
theorem dL_areLinesRight_71 : decode cL_areLinesRight 71 = .ok (.if_icmp .ge 78, 3) := by decide +kernel
theorem dL_areLinesRight_74 : decode cL_areLinesRight 74 = .ok (.new 196, 3) := by decide +kernel
theorem dL_areLinesRight_77 : decode cL_areLinesRight 77 = .ok (.dup, 1) := by decide +kernel
theorem dL_areLinesRight_78 : decode cL_areLinesRight 78 = .ok (.invokespecial 198, 3) := by decide +kernel
theorem dL_areLinesRight_81 : decode cL_areLinesRight 81 = .ok (.aload_n 3, 1) := by decide +kernel
theorem dL_areLinesRight_82 : decode cL_areLinesRight 82 = .ok (.invokevirtual 204, 3) := by decide +kernel
theorem dL_areLinesRight_85 : decode cL_areLinesRight 85 = .ok (.aload_n 0, 1) := by decide +kernel
theorem dL_areLinesRight_86 : decode cL_areLinesRight 86 = .ok (.iload 4, 2) := by decide +kernel
theorem dL_areLinesRight_88 : decode cL_areLinesRight 88 = .ok (.iconst 0, 1) := by decide +kernel
theorem dL_areLinesRight_89 : decode cL_areLinesRight 89 = .ok (.invokevirtual 78, 3) := by decide +kernel
theorem dL_areLinesRight_92 : decode cL_areLinesRight 92 = .ok (.iload_n 2, 1) := by decide +kernel
theorem dL_areLinesRight_93 : decode cL_areLinesRight 93 = .ok (.if_icmp .ne 41, 3) := by decide +kernel
theorem dL_areLinesRight_96 : decode cL_areLinesRight 96 = .ok (.new 196, 3) := by decide +kernel
theorem dL_areLinesRight_99 : decode cL_areLinesRight 99 = .ok (.dup, 1) := by decide +kernel
theorem dL_areLinesRight_100 : decode cL_areLinesRight 100 = .ok (.invokespecial 198, 3) := by decide +kernel
theorem dL_areLinesRight_103 : decode cL_areLinesRight 103 = .ok (.iload 4, 2) := by decide +kernel
theorem dL_areLinesRight_105 : decode cL_areLinesRight 105 = .ok (.invokevirtual 199, 3) := by decide +kernel
theorem dL_areLinesRight_108 : decode cL_areLinesRight 108 = .ok (.aload_n 0, 1) := by decide +kernel
theorem dL_areLinesRight_109 : decode cL_areLinesRight 109 = .ok (.iload 4, 2) := by decide +kernel
theorem dL_areLinesRight_111 : decode cL_areLinesRight 111 = .ok (.iconst 2, 1) := by decide +kernel
theorem dL_areLinesRight_112 : decode cL_areLinesRight 112 = .ok (.invokevirtual 78, 3) := by decide +kernel
theorem dL_areLinesRight_115 : decode cL_areLinesRight 115 = .ok (.ifCond .ge 8, 3) := by decide +kernel
theorem dL_areLinesRight_118 : decode cL_areLinesRight 118 = .ok (.ldc 215, 2) := by decide +kernel
theorem dL_areLinesRight_120 : decode cL_areLinesRight 120 = .ok (.goto 5, 3) := by decide +kernel
theorem dL_areLinesRight_123 : decode cL_areLinesRight 123 = .ok (.ldc 217, 2) := by decide +kernel
theorem dL_areLinesRight_125 : decode cL_areLinesRight 125 = .ok (.invokevirtual 204, 3) := by decide +kernel
theorem dL_areLinesRight_128 : decode cL_areLinesRight 128 = .ok (.invokevirtual 211, 3) := by decide +kernel
theorem dL_areLinesRight_131 : decode cL_areLinesRight 131 = .ok (.goto 5, 3) := by decide +kernel
theorem dL_areLinesRight_134 : decode cL_areLinesRight 134 = .ok (.ldc 215, 2) := by decide +kernel
theorem dL_areLinesRight_136 : decode cL_areLinesRight 136 = .ok (.invokevirtual 204, 3) := by decide +kernel
theorem dL_areLinesRight_139 : decode cL_areLinesRight 139 = .ok (.invokevirtual 211, 3) := by decide +kernel
theorem dL_areLinesRight_142 : decode cL_areLinesRight 142 = .ok (.astore_n 3, 1) := by decide +kernel
theorem dL_areLinesRight_143 : decode cL_areLinesRight 143 = .ok (.iinc 4 1, 3) := by decide +kernel
theorem dL_areLinesRight_146 : decode cL_areLinesRight 146 = .ok (.goto (-82), 3) := by decide +kernel
theorem dL_areLinesRight_149 : decode cL_areLinesRight 149 = .ok (.iconst 0, 1) := by decide +kernel
theorem dL_areLinesRight_150 : decode cL_areLinesRight 150 = .ok (.istore 4, 2) := by decide +kernel
theorem dL_areLinesRight_152 : decode cL_areLinesRight 152 = .ok (.iload 4, 2) := by decide +kernel
theorem dL_areLinesRight_154 : decode cL_areLinesRight 154 = .ok (.aload_n 0, 1) := by decide +kernel
theorem dL_areLinesRight_155 : decode cL_areLinesRight 155 = .ok (.iconst 2, 1) := by decide +kernel
theorem dL_areLinesRight_156 : decode cL_areLinesRight 156 = .ok (.invokevirtual 127, 3) := by decide +kernel
theorem dL_areLinesRight_159 : decode cL_areLinesRight 159 = .ok (.if_icmp .ge 63, 3) := by decide +kernel
theorem dL_areLinesRight_162 : decode cL_areLinesRight 162 = .ok (.new 196, 3) := by decide +kernel
theorem dL_areLinesRight_165 : decode cL_areLinesRight 165 = .ok (.dup, 1) := by decide +kernel
theorem dL_areLinesRight_166 : decode cL_areLinesRight 166 = .ok (.invokespecial 198, 3) := by decide +kernel
theorem dL_areLinesRight_169 : decode cL_areLinesRight 169 = .ok (.aload_n 3, 1) := by decide +kernel
theorem dL_areLinesRight_170 : decode cL_areLinesRight 170 = .ok (.invokevirtual 204, 3) := by decide +kernel
theorem dL_areLinesRight_173 : decode cL_areLinesRight 173 = .ok (.aload_n 0, 1) := by decide +kernel
theorem dL_areLinesRight_174 : decode cL_areLinesRight 174 = .ok (.iload 4, 2) := by decide +kernel
theorem dL_areLinesRight_176 : decode cL_areLinesRight 176 = .ok (.iconst 2, 1) := by decide +kernel
theorem dL_areLinesRight_177 : decode cL_areLinesRight 177 = .ok (.invokevirtual 81, 3) := by decide +kernel
theorem dL_areLinesRight_180 : decode cL_areLinesRight 180 = .ok (.iload_n 2, 1) := by decide +kernel
theorem dL_areLinesRight_181 : decode cL_areLinesRight 181 = .ok (.if_icmp .ne 26, 3) := by decide +kernel
theorem dL_areLinesRight_184 : decode cL_areLinesRight 184 = .ok (.new 196, 3) := by decide +kernel
theorem dL_areLinesRight_187 : decode cL_areLinesRight 187 = .ok (.dup, 1) := by decide +kernel
theorem dL_areLinesRight_188 : decode cL_areLinesRight 188 = .ok (.invokespecial 198, 3) := by decide +kernel
theorem dL_areLinesRight_191 : decode cL_areLinesRight 191 = .ok (.ldc 219, 2) := by decide +kernel
theorem dL_areLinesRight_193 : decode cL_areLinesRight 193 = .ok (.invokevirtual 204, 3) := by decide +kernel
theorem dL_areLinesRight_196 : decode cL_areLinesRight 196 = .ok (.iload 4, 2) := by decide +kernel
theorem dL_areLinesRight_198 : decode cL_areLinesRight 198 = .ok (.invokevirtual 199, 3) := by decide +kernel
theorem dL_areLinesRight_201 : decode cL_areLinesRight 201 = .ok (.invokevirtual 211, 3) := by decide +kernel
theorem dL_areLinesRight_204 : decode cL_areLinesRight 204 = .ok (.goto 5, 3) := by decide +kernel
theorem dL_areLinesRight_207 : decode cL_areLinesRight 207 = .ok (.ldc 215, 2) := by decide +kernel
theorem dL_areLinesRight_209 : decode cL_areLinesRight 209 = .ok (.invokevirtual 204, 3) := by decide +kernel
theorem dL_areLinesRight_212 : decode cL_areLinesRight 212 = .ok (.invokevirtual 211, 3) := by decide +kernel
theorem dL_areLinesRight_215 : decode cL_areLinesRight 215 = .ok (.astore_n 3, 1) := by decide +kernel
theorem dL_areLinesRight_216 : decode cL_areLinesRight 216 = .ok (.iinc 4 1, 3) := by decide +kernel
theorem dL_areLinesRight_219 : decode cL_areLinesRight 219 = .ok (.goto (-67), 3) := by decide +kernel
theorem dL_areLinesRight_222 : decode cL_areLinesRight 222 = .ok (.iload_n 1, 1) := by decide +kernel
theorem dL_areLinesRight_223 : decode cL_areLinesRight 223 = .ok (.ifCond .eq 20, 3) := by decide +kernel
theorem dL_areLinesRight_226 : decode cL_areLinesRight 226 = .ok (.aload_n 0, 1) := by decide +kernel
theorem dL_areLinesRight_227 : decode cL_areLinesRight 227 = .ok (.aload_n 0, 1) := by decide +kernel
theorem dL_areLinesRight_228 : decode cL_areLinesRight 228 = .ok (.iload_n 2, 1) := by decide +kernel
theorem dL_areLinesRight_229 : decode cL_areLinesRight 229 = .ok (.invokevirtual 221, 3) := by decide +kernel
theorem dL_areLinesRight_232 : decode cL_areLinesRight 232 = .ok (.aload_n 3, 1) := by decide +kernel
theorem dL_areLinesRight_233 : decode cL_areLinesRight 233 = .ok (.invokestatic 224, 3) := by decide +kernel
theorem dL_areLinesRight_236 : decode cL_areLinesRight 236 = .ok (.ifCond .eq 7, 3) := by decide +kernel
theorem dL_areLinesRight_239 : decode cL_areLinesRight 239 = .ok (.iconst 1, 1) := by decide +kernel
theorem dL_areLinesRight_240 : decode cL_areLinesRight 240 = .ok (.goto 4, 3) := by decide +kernel
theorem dL_areLinesRight_243 : decode cL_areLinesRight 243 = .ok (.iconst 0, 1) := by decide +kernel
theorem dL_areLinesRight_244 : decode cL_areLinesRight 244 = .ok (.istore_n 1, 1) := by decide +kernel
theorem dL_areLinesRight_245 : decode cL_areLinesRight 245 = .ok (.iinc 2 1, 3) := by decide +kernel
theorem dL_areLinesRight_248 : decode cL_areLinesRight 248 = .ok (.goto (-244), 3) := by decide +kernel
theorem dL_areLinesRight_251 : decode cL_areLinesRight 251 = .ok (.iconst 0, 1) := by decide +kernel
theorem dL_areLinesRight_252 : decode cL_areLinesRight 252 = .ok (.istore_n 2, 1) := by decide +kernel
theorem dL_areLinesRight_253 : decode cL_areLinesRight 253 = .ok (.iload_n 2, 1) := by decide +kernel
theorem dL_areLinesRight_254 : decode cL_areLinesRight 254 = .ok (.aload_n 0, 1) := by decide +kernel
theorem dL_areLinesRight_255 : decode cL_areLinesRight 255 = .ok (.iconst 1, 1) := by decide +kernel
theorem dL_areLinesRight_256 : decode cL_areLinesRight 256 = .ok (.invokevirtual 127, 3) := by decide +kernel
theorem dL_areLinesRight_259 : decode cL_areLinesRight 259 = .ok (.if_icmp .ge 130, 3) := by decide +kernel
theorem dL_areLinesRight_262 : decode cL_areLinesRight 262 = .ok (.aload_n 0, 1) := by decide +kernel
theorem dL_areLinesRight_263 : decode cL_areLinesRight 263 = .ok (.iload_n 2, 1) := by decide +kernel
theorem dL_areLinesRight_264 : decode cL_areLinesRight 264 = .ok (.iconst 2, 1) := by decide +kernel
theorem dL_areLinesRight_265 : decode cL_areLinesRight 265 = .ok (.invokevirtual 78, 3) := by decide +kernel
theorem dL_areLinesRight_268 : decode cL_areLinesRight 268 = .ok (.ifCond .ge 8, 3) := by decide +kernel
theorem dL_areLinesRight_271 : decode cL_areLinesRight 271 = .ok (.ldc 215, 2) := by decide +kernel
theorem dL_areLinesRight_273 : decode cL_areLinesRight 273 = .ok (.goto 41, 3) := by decide +kernel
theorem dL_areLinesRight_276 : decode cL_areLinesRight 276 = .ok (.new 196, 3) := by decide +kernel
theorem dL_areLinesRight_279 : decode cL_areLinesRight 279 = .ok (.dup, 1) := by decide +kernel
theorem dL_areLinesRight_280 : decode cL_areLinesRight 280 = .ok (.invokespecial 198, 3) := by decide +kernel
theorem dL_areLinesRight_283 : decode cL_areLinesRight 283 = .ok (.ldc 228, 2) := by decide +kernel
theorem dL_areLinesRight_285 : decode cL_areLinesRight 285 = .ok (.invokevirtual 204, 3) := by decide +kernel
theorem dL_areLinesRight_288 : decode cL_areLinesRight 288 = .ok (.aload_n 0, 1) := by decide +kernel
theorem dL_areLinesRight_289 : decode cL_areLinesRight 289 = .ok (.iload_n 2, 1) := by decide +kernel
theorem dL_areLinesRight_290 : decode cL_areLinesRight 290 = .ok (.iconst 2, 1) := by decide +kernel
theorem dL_areLinesRight_291 : decode cL_areLinesRight 291 = .ok (.invokevirtual 78, 3) := by decide +kernel
theorem dL_areLinesRight_294 : decode cL_areLinesRight 294 = .ok (.invokevirtual 199, 3) := by decide +kernel
theorem dL_areLinesRight_297 : decode cL_areLinesRight 297 = .ok (.ldc 230, 2) := by decide +kernel
theorem dL_areLinesRight_299 : decode cL_areLinesRight 299 = .ok (.invokevirtual 204, 3) := by decide +kernel
theorem dL_areLinesRight_302 : decode cL_areLinesRight 302 = .ok (.aload_n 0, 1) := by decide +kernel
theorem dL_areLinesRight_303 : decode cL_areLinesRight 303 = .ok (.iload_n 2, 1) := by decide +kernel
theorem dL_areLinesRight_304 : decode cL_areLinesRight 304 = .ok (.iconst 3, 1) := by decide +kernel
theorem dL_areLinesRight_305 : decode cL_areLinesRight 305 = .ok (.invokevirtual 78, 3) := by decide +kernel
theorem dL_areLinesRight_308 : decode cL_areLinesRight 308 = .ok (.invokevirtual 199, 3) := by decide +kernel
theorem dL_areLinesRight_311 : decode cL_areLinesRight 311 = .ok (.invokevirtual 211, 3) := by decide +kernel
theorem dL_areLinesRight_314 : decode cL_areLinesRight 314 = .ok (.astore_n 3, 1) := by decide +kernel
theorem dL_areLinesRight_315 : decode cL_areLinesRight 315 = .ok (.iload_n 1, 1) := by decide +kernel
theorem dL_areLinesRight_316 : decode cL_areLinesRight 316 = .ok (.ifCond .eq 65, 3) := by decide +kernel
theorem dL_areLinesRight_319 : decode cL_areLinesRight 319 = .ok (.aload_n 0, 1) := by decide +kernel
theorem dL_areLinesRight_320 : decode cL_areLinesRight 320 = .ok (.aload_n 0, 1) := by decide +kernel
theorem dL_areLinesRight_321 : decode cL_areLinesRight 321 = .ok (.iload_n 2, 1) := by decide +kernel
theorem dL_areLinesRight_322 : decode cL_areLinesRight 322 = .ok (.invokevirtual 232, 3) := by decide +kernel
theorem dL_areLinesRight_325 : decode cL_areLinesRight 325 = .ok (.new 196, 3) := by decide +kernel
theorem dL_areLinesRight_328 : decode cL_areLinesRight 328 = .ok (.dup, 1) := by decide +kernel
theorem dL_areLinesRight_329 : decode cL_areLinesRight 329 = .ok (.invokespecial 198, 3) := by decide +kernel
theorem dL_areLinesRight_332 : decode cL_areLinesRight 332 = .ok (.iload_n 2, 1) := by decide +kernel
theorem dL_areLinesRight_333 : decode cL_areLinesRight 333 = .ok (.invokevirtual 199, 3) := by decide +kernel
theorem dL_areLinesRight_336 : decode cL_areLinesRight 336 = .ok (.ldc 235, 2) := by decide +kernel
theorem dL_areLinesRight_338 : decode cL_areLinesRight 338 = .ok (.invokevirtual 204, 3) := by decide +kernel
theorem dL_areLinesRight_341 : decode cL_areLinesRight 341 = .ok (.aload_n 0, 1) := by decide +kernel
theorem dL_areLinesRight_342 : decode cL_areLinesRight 342 = .ok (.iload_n 2, 1) := by decide +kernel
theorem dL_areLinesRight_343 : decode cL_areLinesRight 343 = .ok (.iconst 1, 1) := by decide +kernel
theorem dL_areLinesRight_344 : decode cL_areLinesRight 344 = .ok (.invokevirtual 78, 3) := by decide +kernel
theorem dL_areLinesRight_347 : decode cL_areLinesRight 347 = .ok (.invokevirtual 199, 3) := by decide +kernel
theorem dL_areLinesRight_350 : decode cL_areLinesRight 350 = .ok (.ldc 237, 2) := by decide +kernel
theorem dL_areLinesRight_352 : decode cL_areLinesRight 352 = .ok (.invokevirtual 204, 3) := by decide +kernel
theorem dL_areLinesRight_355 : decode cL_areLinesRight 355 = .ok (.aload_n 0, 1) := by decide +kernel
theorem dL_areLinesRight_356 : decode cL_areLinesRight 356 = .ok (.iload_n 2, 1) := by decide +kernel
theorem dL_areLinesRight_357 : decode cL_areLinesRight 357 = .ok (.iconst 0, 1) := by decide +kernel
theorem dL_areLinesRight_358 : decode cL_areLinesRight 358 = .ok (.invokevirtual 78, 3) := by decide +kernel
theorem dL_areLinesRight_361 : decode cL_areLinesRight 361 = .ok (.invokevirtual 199, 3) := by decide +kernel
theorem dL_areLinesRight_364 : decode cL_areLinesRight 364 = .ok (.aload_n 3, 1) := by decide +kernel
theorem dL_areLinesRight_365 : decode cL_areLinesRight 365 = .ok (.invokevirtual 204, 3) := by decide +kernel
theorem dL_areLinesRight_368 : decode cL_areLinesRight 368 = .ok (.invokevirtual 211, 3) := by decide +kernel
theorem dL_areLinesRight_371 : decode cL_areLinesRight 371 = .ok (.invokestatic 224, 3) := by decide +kernel
theorem dL_areLinesRight_374 : decode cL_areLinesRight 374 = .ok (.ifCond .eq 7, 3) := by decide +kernel
theorem dL_areLinesRight_377 : decode cL_areLinesRight 377 = .ok (.iconst 1, 1) := by decide +kernel
theorem dL_areLinesRight_378 : decode cL_areLinesRight 378 = .ok (.goto 4, 3) := by decide +kernel
theorem dL_areLinesRight_381 : decode cL_areLinesRight 381 = .ok (.iconst 0, 1) := by decide +kernel
theorem dL_areLinesRight_382 : decode cL_areLinesRight 382 = .ok (.istore_n 1, 1) := by decide +kernel
theorem dL_areLinesRight_383 : decode cL_areLinesRight 383 = .ok (.iinc 2 1, 3) := by decide +kernel
theorem dL_areLinesRight_386 : decode cL_areLinesRight 386 = .ok (.goto (-133), 3) := by decide +kernel
theorem dL_areLinesRight_389 : decode cL_areLinesRight 389 = .ok (.iconst 0, 1) := by decide +kernel
theorem dL_areLinesRight_390 : decode cL_areLinesRight 390 = .ok (.istore_n 2, 1) := by decide +kernel
theorem dL_areLinesRight_391 : decode cL_areLinesRight 391 = .ok (.iload_n 2, 1) := by decide +kernel
theorem dL_areLinesRight_392 : decode cL_areLinesRight 392 = .ok (.aload_n 0, 1) := by decide +kernel
theorem dL_areLinesRight_393 : decode cL_areLinesRight 393 = .ok (.iconst 2, 1) := by decide +kernel
theorem dL_areLinesRight_394 : decode cL_areLinesRight 394 = .ok (.invokevirtual 127, 3) := by decide +kernel
theorem dL_areLinesRight_397 : decode cL_areLinesRight 397 = .ok (.if_icmp .ge 116, 3) := by decide +kernel
theorem dL_areLinesRight_400 : decode cL_areLinesRight 400 = .ok (.aload_n 0, 1) := by decide +kernel
theorem dL_areLinesRight_401 : decode cL_areLinesRight 401 = .ok (.iload_n 2, 1) := by decide +kernel
theorem dL_areLinesRight_402 : decode cL_areLinesRight 402 = .ok (.iconst 2, 1) := by decide +kernel
theorem dL_areLinesRight_403 : decode cL_areLinesRight 403 = .ok (.invokevirtual 81, 3) := by decide +kernel
theorem dL_areLinesRight_406 : decode cL_areLinesRight 406 = .ok (.ifCond .ge 8, 3) := by decide +kernel
theorem dL_areLinesRight_409 : decode cL_areLinesRight 409 = .ok (.ldc 215, 2) := by decide +kernel
theorem dL_areLinesRight_411 : decode cL_areLinesRight 411 = .ok (.goto 27, 3) := by decide +kernel
theorem dL_areLinesRight_414 : decode cL_areLinesRight 414 = .ok (.new 196, 3) := by decide +kernel
theorem dL_areLinesRight_417 : decode cL_areLinesRight 417 = .ok (.dup, 1) := by decide +kernel
theorem dL_areLinesRight_418 : decode cL_areLinesRight 418 = .ok (.invokespecial 198, 3) := by decide +kernel
theorem dL_areLinesRight_421 : decode cL_areLinesRight 421 = .ok (.ldc 237, 2) := by decide +kernel
theorem dL_areLinesRight_423 : decode cL_areLinesRight 423 = .ok (.invokevirtual 204, 3) := by decide +kernel
theorem dL_areLinesRight_426 : decode cL_areLinesRight 426 = .ok (.aload_n 0, 1) := by decide +kernel
theorem dL_areLinesRight_427 : decode cL_areLinesRight 427 = .ok (.iload_n 2, 1) := by decide +kernel
theorem dL_areLinesRight_428 : decode cL_areLinesRight 428 = .ok (.iconst 2, 1) := by decide +kernel
theorem dL_areLinesRight_429 : decode cL_areLinesRight 429 = .ok (.invokevirtual 81, 3) := by decide +kernel
theorem dL_areLinesRight_432 : decode cL_areLinesRight 432 = .ok (.invokevirtual 199, 3) := by decide +kernel
theorem dL_areLinesRight_435 : decode cL_areLinesRight 435 = .ok (.invokevirtual 211, 3) := by decide +kernel
theorem dL_areLinesRight_438 : decode cL_areLinesRight 438 = .ok (.astore_n 3, 1) := by decide +kernel
theorem dL_areLinesRight_439 : decode cL_areLinesRight 439 = .ok (.iload_n 1, 1) := by decide +kernel
theorem dL_areLinesRight_440 : decode cL_areLinesRight 440 = .ok (.ifCond .eq 65, 3) := by decide +kernel
theorem dL_areLinesRight_443 : decode cL_areLinesRight 443 = .ok (.aload_n 0, 1) := by decide +kernel
theorem dL_areLinesRight_444 : decode cL_areLinesRight 444 = .ok (.aload_n 0, 1) := by decide +kernel
theorem dL_areLinesRight_445 : decode cL_areLinesRight 445 = .ok (.iload_n 2, 1) := by decide +kernel
theorem dL_areLinesRight_446 : decode cL_areLinesRight 446 = .ok (.invokevirtual 239, 3) := by decide +kernel
theorem dL_areLinesRight_449 : decode cL_areLinesRight 449 = .ok (.new 196, 3) := by decide +kernel
theorem dL_areLinesRight_452 : decode cL_areLinesRight 452 = .ok (.dup, 1) := by decide +kernel
theorem dL_areLinesRight_453 : decode cL_areLinesRight 453 = .ok (.invokespecial 198, 3) := by decide +kernel
theorem dL_areLinesRight_456 : decode cL_areLinesRight 456 = .ok (.iload_n 2, 1) := by decide +kernel
theorem dL_areLinesRight_457 : decode cL_areLinesRight 457 = .ok (.invokevirtual 199, 3) := by decide +kernel
theorem dL_areLinesRight_460 : decode cL_areLinesRight 460 = .ok (.ldc 242, 2) := by decide +kernel
theorem dL_areLinesRight_462 : decode cL_areLinesRight 462 = .ok (.invokevirtual 204, 3) := by decide +kernel
theorem dL_areLinesRight_465 : decode cL_areLinesRight 465 = .ok (.aload_n 0, 1) := by decide +kernel
theorem dL_areLinesRight_466 : decode cL_areLinesRight 466 = .ok (.iload_n 2, 1) := by decide +kernel
theorem dL_areLinesRight_467 : decode cL_areLinesRight 467 = .ok (.iconst 0, 1) := by decide +kernel
theorem dL_areLinesRight_468 : decode cL_areLinesRight 468 = .ok (.invokevirtual 81, 3) := by decide +kernel
theorem dL_areLinesRight_471 : decode cL_areLinesRight 471 = .ok (.invokevirtual 199, 3) := by decide +kernel
theorem dL_areLinesRight_474 : decode cL_areLinesRight 474 = .ok (.ldc 244, 2) := by decide +kernel
theorem dL_areLinesRight_476 : decode cL_areLinesRight 476 = .ok (.invokevirtual 204, 3) := by decide +kernel
theorem dL_areLinesRight_479 : decode cL_areLinesRight 479 = .ok (.aload_n 0, 1) := by decide +kernel
theorem dL_areLinesRight_480 : decode cL_areLinesRight 480 = .ok (.iload_n 2, 1) := by decide +kernel
theorem dL_areLinesRight_481 : decode cL_areLinesRight 481 = .ok (.iconst 1, 1) := by decide +kernel
theorem dL_areLinesRight_482 : decode cL_areLinesRight 482 = .ok (.invokevirtual 81, 3) := by decide +kernel
theorem dL_areLinesRight_485 : decode cL_areLinesRight 485 = .ok (.invokevirtual 199, 3) := by decide +kernel
theorem dL_areLinesRight_488 : decode cL_areLinesRight 488 = .ok (.aload_n 3, 1) := by decide +kernel
theorem dL_areLinesRight_489 : decode cL_areLinesRight 489 = .ok (.invokevirtual 204, 3) := by decide +kernel
theorem dL_areLinesRight_492 : decode cL_areLinesRight 492 = .ok (.invokevirtual 211, 3) := by decide +kernel
theorem dL_areLinesRight_495 : decode cL_areLinesRight 495 = .ok (.invokestatic 224, 3) := by decide +kernel
theorem dL_areLinesRight_498 : decode cL_areLinesRight 498 = .ok (.ifCond .eq 7, 3) := by decide +kernel
theorem dL_areLinesRight_501 : decode cL_areLinesRight 501 = .ok (.iconst 1, 1) := by decide +kernel
theorem dL_areLinesRight_502 : decode cL_areLinesRight 502 = .ok (.goto 4, 3) := by decide +kernel
theorem dL_areLinesRight_505 : decode cL_areLinesRight 505 = .ok (.iconst 0, 1) := by decide +kernel
theorem dL_areLinesRight_506 : decode cL_areLinesRight 506 = .ok (.istore_n 1, 1) := by decide +kernel
theorem dL_areLinesRight_507 : decode cL_areLinesRight 507 = .ok (.iinc 2 1, 3) := by decide +kernel
theorem dL_areLinesRight_510 : decode cL_areLinesRight 510 = .ok (.goto (-119), 3) := by decide +kernel
theorem dL_areLinesRight_513 : decode cL_areLinesRight 513 = .ok (.iload_n 1, 1) := by decide +kernel
theorem dL_areLinesRight_514 : decode cL_areLinesRight 514 = .ok (.ireturn, 1) := by decide +kernel
theorem sm_L_areLinesRight : aSm yL_areLinesRight cL_areLinesRight 5 (some .boolean) 1 := ⟨tw_1103, tw_1102, tw_0, by decide +kernel, by decide +kernel, by decide +kernel⟩
theorem AW.sub {f : aF} {z : lP} {pc : Nat} {L : List (Option Value)} {st : List Value} {dX : Nat → Nat → Int32} {t : List Nat} {R0 R1 : va_W} {ba k n : Nat} (hs : List.Sublist R0 R1) (h : AW f (lX z R0 ba) pc L st (dX, t) k n) : AW f (lX z R1 ba) pc L st (dX, t) k n := by
  intro ls H locs ex hl hI hS
  obtain ⟨⟨sb, hsb, rfl⟩, hP, hD⟩ := hI
  have hs : List.Sublist (aWl (lX z R0 ba) dX ++ (sb ++ R0)) (aWl (lX z R1 ba) dX ++ (sb ++ R1)) :=
    List.Sublist.append (List.Sublist.refl _) (List.Sublist.append (List.Sublist.refl _) hs)
  exact h ls H locs _ hl ⟨⟨sb, hsb, rfl⟩, wP_sub hs hP, wD_sub hs hD⟩ hS
theorem Str.mono {z : lP} {RS RS' : va_W} {a qa : Nat} {w : List Nat} (h : Str z RS a qa w) (hs : ∀ x ∈ RS, x ∈ RS') : Str z RS' a qa w := by
  rcases h with h | ⟨b, h1, h2, m1, m2, e⟩
  · exact Or.inl h
  · exact Or.inr ⟨b, h1, h2, hs _ m1, hs _ m2, e⟩
theorem Str.add {z : lP} {RS X : va_W} {a qa : Nat} {w : List Nat} (h : Str z RS a qa w) : Str z (X ++ RS) a qa w := h.mono (fun _ hx => List.mem_append_right _ hx)
theorem strN_ {z : lP} {RS : va_W} {o qs : Nat} {b : Nat → Int32} {w : List Nat} (hb : ∀ j, j < w.length → b j = nI (w.getD j 0)) : Str z (strC z o qs w.length b ++ RS) o qs w :=
  Or.inr ⟨b, 0, 0, List.mem_append_left _ List.mem_cons_self, List.mem_append_left _ (List.mem_cons_of_mem _ List.mem_cons_self), hb⟩
theorem strK {z : lP} {RS : va_W} (i : Nat) (hi : i < 12) : Str z RS (z.2.2.2.1 (20 + i)) (z.2.2.2.1 (40 + i)) (sLet i) := Or.inl ⟨i, hi, rfl, rfl, rfl⟩
theorem okT_k (i : Nat) (hi : i < 12) : okT (sLet i) := by
  refine ⟨Nat.le_trans (sLet_ok i hi) (by decide), ?_⟩
  have key : ∀ i, i < 12 → ∀ j, j < (sLet i).length → (sLet i).getD j 0 < 128 := by decide +kernel
  exact key i hi
section LINES
variable {f : aF} {z : lP} {u : pU} {d : Nat → Nat → Int32} {n0 k n : Nat} {RS : va_W} {t : List Nat} {x3 x4 : Option Value}
theorem g_room (ht : z.2.1.map Prod.snd = tyX) (hC : aOK f (lX z [] (z.2.2.1 205)) cL_areLinesRight 5 RL) (hR : f_R f = aR 9 1700 120000) (h : RX 1 d u) (hI : Inv n0 u) {r s m : Nat} (hr : r < cR u) (es : u 2 r = nI s) (em : u 3 r = nI m) (hs : s < 10) (hm : m < 10) (hk : k + 10 ≤ 1700) (hn : n + 804 ≤ 120000)
    (kk : ∀ (RS' : va_W) (a qa : Nat) (t' : List Nat), Str z RS' a qa (lnR r s m) → AW f (lX z RS' (z.2.2.1 205)) 64 [some (.ref (z.2.2.1 0)), some (.int 1), some (.int (nI r)), some (.ref a), some (.int 0)] [] (d, t') (k + 10) (n + 804)) : AW f (lX z RS (z.2.2.1 205)) 13 [some (.ref (z.2.2.1 0)), some (.int 1), some (.int (nI r)), x3, x4] [] (d, t) k n := by
  have hN : ∀ RS ba, aOK f (lX z RS ba) cL_areLinesRight 5 RL := lOK hC
  have hX : ∀ RS ba, isX (lX z RS ba) := lX_is ht
  have hb1 := hI.1.1.2
  have hb2 := hI.1.2.1.2
  have hb3 := hI.1.2.2.2
  have ra := dg_l (x := r) (by omega)
  have rb := dg_l hs
  have rc := dg_l hm
  refine l_newSB (pc := 13) ht (hN _ _) hR (by decide) (by omega) (by omega) dL_areLinesRight_13 dL_areLinesRight_16 dL_areLinesRight_17 rfl (Nat.le_of_ble_eq_true rfl) (fun p1 sl1 hsl1 => ?_)
  refine a_iload_n (pc := 20) (hN _ _) dL_areLinesRight_20 rfl ?_
  refine a_sbAppI (pc := 21) (q := (d, [])) rfl ht (hN _ _) hR tw_1106 (w := r) rfl (by omega) (by simp [ra.2]) ⟨(Nat.le_of_ble_eq_true rfl), (Nat.le_of_ble_eq_true rfl), by omega, by omega⟩ dL_areLinesRight_21 rfl (Nat.le_of_ble_eq_true rfl) ?_
  show AW f _ 24 _ _ (d, ([]) ++ dgs r) _ _
  refine a_ldcT (pc := 24) (hN _ _) 2 (by decide) (idx := 202) rfl dL_areLinesRight_24 ?_
  refine a_sbAppS (pc := 26) (q := (d, ([]) ++ dgs r)) rfl ht (hN _ _) hR tw_1178 (strK 2 (by decide)) (okT_k 2 (by decide)) (Nat.le_trans (Nat.add_le_add_left (sLet_ok 2 (by decide)) _) (by simp [ra.1])) ⟨(Nat.le_of_ble_eq_true rfl), (Nat.le_of_ble_eq_true rfl), by omega, by omega⟩ dL_areLinesRight_26 rfl (Nat.le_of_ble_eq_true rfl) ?_
  show AW f _ 29 _ _ (d, (([]) ++ dgs r) ++ [91]) _ _
  refine a_aload_n (pc := 29) (hN _ _) dL_areLinesRight_29 rfl ?_
  refine a_iload_n (pc := 30) (hN _ _) dL_areLinesRight_30 rfl ?_
  refine a_iconst (pc := 31) (hN _ _) dL_areLinesRight_31 (v := 0) rfl ?_
  refine a_callV (As := [.int (nI r), .int (0)]) (pc := 32) (hN _ _) hR vm_X9_roomOf tw_462 cl_X9 (oX_0 (hX _ _)) ⟨(Nat.le_of_ble_eq_true rfl), (Nat.le_of_ble_eq_true rfl), by omega, by omega⟩ dL_areLinesRight_32 (t_X9_roomOf0 (hX _ _) hC.tr (nI r) (0) (d, (([]) ++ dgs r) ++ [91]) (fun x9 q9 => x9 = u 2 r ∧ q9 = (d, (([]) ++ dgs r) ++ [91])) (y_R0 (q := (d, (([]) ++ dgs r) ++ [91])) (P := fun x9 q9 => x9 = u 2 r ∧ q9 = (d, (([]) ++ dgs r) ++ [91])) h hI hr ⟨rfl, rfl⟩)) rfl rfl rfl (Nat.le_of_ble_eq_true rfl) (fun x q2 h2 => ?_)
  obtain ⟨rfl, rfl⟩ := h2
  refine a_sbAppI (pc := 35) (q := (d, (([]) ++ dgs r) ++ [91])) rfl ht (hN _ _) hR tw_1106 (w := s) es (by omega) (by simp [ra.1, rb.2]) ⟨(Nat.le_of_ble_eq_true rfl), (Nat.le_of_ble_eq_true rfl), by omega, by omega⟩ dL_areLinesRight_35 rfl (Nat.le_of_ble_eq_true rfl) ?_
  show AW f _ 38 _ _ (d, ((([]) ++ dgs r) ++ [91]) ++ dgs s) _ _
  refine a_ldcT (pc := 38) (hN _ _) 3 (by decide) (idx := 207) rfl dL_areLinesRight_38 ?_
  refine a_sbAppS (pc := 40) (q := (d, ((([]) ++ dgs r) ++ [91]) ++ dgs s)) rfl ht (hN _ _) hR tw_1178 (strK 3 (by decide)) (okT_k 3 (by decide)) (Nat.le_trans (Nat.add_le_add_left (sLet_ok 3 (by decide)) _) (by simp [ra.1, rb.1])) ⟨(Nat.le_of_ble_eq_true rfl), (Nat.le_of_ble_eq_true rfl), by omega, by omega⟩ dL_areLinesRight_40 rfl (Nat.le_of_ble_eq_true rfl) ?_
  show AW f _ 43 _ _ (d, (((([]) ++ dgs r) ++ [91]) ++ dgs s) ++ [126]) _ _
  refine a_aload_n (pc := 43) (hN _ _) dL_areLinesRight_43 rfl ?_
  refine a_iload_n (pc := 44) (hN _ _) dL_areLinesRight_44 rfl ?_
  refine a_iconst (pc := 45) (hN _ _) dL_areLinesRight_45 (v := 1) rfl ?_
  refine a_callV (As := [.int (nI r), .int (1)]) (pc := 46) (hN _ _) hR vm_X9_roomOf tw_462 cl_X9 (oX_0 (hX _ _)) ⟨(Nat.le_of_ble_eq_true rfl), (Nat.le_of_ble_eq_true rfl), by omega, by omega⟩ dL_areLinesRight_46 (t_X9_roomOf0 (hX _ _) hC.tr (nI r) (1) (d, (((([]) ++ dgs r) ++ [91]) ++ dgs s) ++ [126]) (fun x9 q9 => x9 = u 3 r ∧ q9 = (d, (((([]) ++ dgs r) ++ [91]) ++ dgs s) ++ [126])) (y_R1 (q := (d, (((([]) ++ dgs r) ++ [91]) ++ dgs s) ++ [126])) (P := fun x9 q9 => x9 = u 3 r ∧ q9 = (d, (((([]) ++ dgs r) ++ [91]) ++ dgs s) ++ [126])) h hI hr ⟨rfl, rfl⟩)) rfl rfl rfl (Nat.le_of_ble_eq_true rfl) (fun x q2 h2 => ?_)
  obtain ⟨rfl, rfl⟩ := h2
  refine a_sbAppI (pc := 49) (q := (d, (((([]) ++ dgs r) ++ [91]) ++ dgs s) ++ [126])) rfl ht (hN _ _) hR tw_1106 (w := m) em (by omega) (by simp [ra.1, rb.1, rc.2]) ⟨(Nat.le_of_ble_eq_true rfl), (Nat.le_of_ble_eq_true rfl), by omega, by omega⟩ dL_areLinesRight_49 rfl (Nat.le_of_ble_eq_true rfl) ?_
  show AW f _ 52 _ _ (d, ((((([]) ++ dgs r) ++ [91]) ++ dgs s) ++ [126]) ++ dgs m) _ _
  refine a_ldcT (pc := 52) (hN _ _) 4 (by decide) (idx := 209) rfl dL_areLinesRight_52 ?_
  refine a_sbAppS (pc := 54) (q := (d, ((((([]) ++ dgs r) ++ [91]) ++ dgs s) ++ [126]) ++ dgs m)) rfl ht (hN _ _) hR tw_1178 (strK 4 (by decide)) (okT_k 4 (by decide)) (Nat.le_trans (Nat.add_le_add_left (sLet_ok 4 (by decide)) _) (by simp [ra.1, rb.1, rc.1])) ⟨(Nat.le_of_ble_eq_true rfl), (Nat.le_of_ble_eq_true rfl), by omega, by omega⟩ dL_areLinesRight_54 rfl (Nat.le_of_ble_eq_true rfl) ?_
  show AW f _ 57 _ _ (d, (((((([]) ++ dgs r) ++ [91]) ++ dgs s) ++ [126]) ++ dgs m) ++ [93]) _ _
  show AW f _ 57 _ _ (d, lnR r s m) _ _
  refine l_toStr (pc := 57) (t := lnR r s m) ht (hN _ _) hR tw_1229 ⟨(Nat.le_of_ble_eq_true rfl), (Nat.le_of_ble_eq_true rfl), by omega, by omega⟩ dL_areLinesRight_57 rfl (Nat.le_of_ble_eq_true rfl) (fun o1 qs1 b1 hb1 => ?_)
  refine AW.refocus (X := strC z o1 qs1 _ b1) (R0 := RS) hsl1 ?_
  refine a_astore_n (pc := 60) (hN _ _) dL_areLinesRight_60 (Nat.le_of_ble_eq_true rfl) ?_
  refine a_iconst (pc := 61) (hN _ _) dL_areLinesRight_61 (v := 0) rfl ?_
  refine a_istore (pc := 62) (hN _ _) dL_areLinesRight_62 (Nat.le_of_ble_eq_true rfl) ?_
  exact kk _ o1 qs1 _ (strN_ hb1)
theorem g_je (ht : z.2.1.map Prod.snd = tyX) (hC : aOK f (lX z [] (z.2.2.1 205)) cL_areLinesRight 5 RL) (hR : f_R f = aR 9 1700 120000) (h : RX 1 d u) (hI : Inv n0 u) {r a2 qa2 i p : Nat} {sl R1 : va_W} {y w : List Nat} (hsl : sbEX z (z.2.2.1 205) t sl) (hsub : List.Sublist (sl ++ RS) R1) (hs2 : Str z R1 a2 qa2 y) (ok2 : okT y) (h60 : w.length + y.length ≤ 60) (hk : k + 3 ≤ 1700) (hn : n + 184 ≤ 120000)
    (kk : ∀ (RS' : va_W) (a qa : Nat) (t' : List Nat), Str z RS' a qa (w ++ y) → AW f (lX z RS' (z.2.2.1 205)) 64 [some (.ref (z.2.2.1 0)), some (.int 1), some (.int (nI r)), some (.ref a), some (.int (nI (i + 1)))] [] (d, t') (k + 3) (n + 184)) : AW f (lX z R1 p) 136 [some (.ref (z.2.2.1 0)), some (.int 1), some (.int (nI r)), x3, some (.int (nI i))] [.ref a2, .ref p] (d, w) k n := by
  have hN : ∀ RS ba, aOK f (lX z RS ba) cL_areLinesRight 5 RL := lOK hC
  have hX : ∀ RS ba, isX (lX z RS ba) := lX_is ht
  have hb1 := hI.1.1.2
  have hb2 := hI.1.2.1.2
  have hb3 := hI.1.2.2.2
  refine a_sbAppS (pc := 136) (q := (d, w)) rfl ht (hN _ _) hR tw_1178 hs2 ok2 h60 ⟨(Nat.le_of_ble_eq_true rfl), (Nat.le_of_ble_eq_true rfl), by omega, by omega⟩ dL_areLinesRight_136 rfl (Nat.le_of_ble_eq_true rfl) ?_
  show AW f _ 139 _ _ (d, (w) ++ y) _ _
  refine l_toStr (pc := 139) (t := w ++ y) ht (hN _ _) hR tw_1229 ⟨(Nat.le_of_ble_eq_true rfl), (Nat.le_of_ble_eq_true rfl), by omega, by omega⟩ dL_areLinesRight_139 rfl (Nat.le_of_ble_eq_true rfl) (fun o1 qs1 b1 hb1 => ?_)
  refine AW.sub (R0 := strC z o1 qs1 _ b1 ++ (sl ++ RS)) (List.Sublist.append (List.Sublist.refl _) hsub) ?_
  refine AW.refocus (X := strC z o1 qs1 _ b1) (R0 := RS) hsl ?_
  refine a_astore_n (pc := 142) (hN _ _) dL_areLinesRight_142 (Nat.le_of_ble_eq_true rfl) ?_
  refine a_iinc (pc := 143) (hN _ _) dL_areLinesRight_143 rfl (c := 1) rfl ?_
  rw [nI_1]
  refine a_goto (pc := 146) (tgt := 64) (hN _ _) dL_areLinesRight_146 (by decide) ?_
  exact kk _ o1 qs1 _ (strN_ hb1)
theorem g_js (ht : z.2.1.map Prod.snd = tyX) (hC : aOK f (lX z [] (z.2.2.1 205)) cL_areLinesRight 5 RL) (hR : f_R f = aR 9 1700 120000) (h : RX 1 d u) (hI : Inv n0 u) {r a2 qa2 i p : Nat} {sl R1 : va_W} {y w : List Nat} (hsl : sbEX z (z.2.2.1 205) t sl) (hsub : List.Sublist (sl ++ RS) R1) (hs2 : Str z R1 a2 qa2 y) (ok2 : okT y) (h60 : w.length + y.length ≤ 60) (hk : k + 3 ≤ 1700) (hn : n + 184 ≤ 120000)
    (kk : ∀ (RS' : va_W) (a qa : Nat) (t' : List Nat), Str z RS' a qa (w ++ y) → AW f (lX z RS' (z.2.2.1 205)) 152 [some (.ref (z.2.2.1 0)), some (.int 1), some (.int (nI r)), some (.ref a), some (.int (nI (i + 1)))] [] (d, t') (k + 3) (n + 184)) : AW f (lX z R1 p) 209 [some (.ref (z.2.2.1 0)), some (.int 1), some (.int (nI r)), x3, some (.int (nI i))] [.ref a2, .ref p] (d, w) k n := by
  have hN : ∀ RS ba, aOK f (lX z RS ba) cL_areLinesRight 5 RL := lOK hC
  have hX : ∀ RS ba, isX (lX z RS ba) := lX_is ht
  have hb1 := hI.1.1.2
  have hb2 := hI.1.2.1.2
  have hb3 := hI.1.2.2.2
  refine a_sbAppS (pc := 209) (q := (d, w)) rfl ht (hN _ _) hR tw_1178 hs2 ok2 h60 ⟨(Nat.le_of_ble_eq_true rfl), (Nat.le_of_ble_eq_true rfl), by omega, by omega⟩ dL_areLinesRight_209 rfl (Nat.le_of_ble_eq_true rfl) ?_
  show AW f _ 212 _ _ (d, (w) ++ y) _ _
  refine l_toStr (pc := 212) (t := w ++ y) ht (hN _ _) hR tw_1229 ⟨(Nat.le_of_ble_eq_true rfl), (Nat.le_of_ble_eq_true rfl), by omega, by omega⟩ dL_areLinesRight_212 rfl (Nat.le_of_ble_eq_true rfl) (fun o1 qs1 b1 hb1 => ?_)
  refine AW.sub (R0 := strC z o1 qs1 _ b1 ++ (sl ++ RS)) (List.Sublist.append (List.Sublist.refl _) hsub) ?_
  refine AW.refocus (X := strC z o1 qs1 _ b1) (R0 := RS) hsl ?_
  refine a_astore_n (pc := 215) (hN _ _) dL_areLinesRight_215 (Nat.le_of_ble_eq_true rfl) ?_
  refine a_iinc (pc := 216) (hN _ _) dL_areLinesRight_216 rfl (c := 1) rfl ?_
  rw [nI_1]
  refine a_goto (pc := 219) (tgt := 152) (hN _ _) dL_areLinesRight_219 (by decide) ?_
  exact kk _ o1 qs1 _ (strN_ hb1)
theorem g_ech (ht : z.2.1.map Prod.snd = tyX) (hC : aOK f (lX z [] (z.2.2.1 205)) cL_areLinesRight 5 RL) (hR : f_R f = aR 9 1700 120000) (h : RX 1 d u) (hI : Inv n0 u) {r i a qa : Nat} {w : List Nat} (hs : Str z RS a qa w) (hok : okT w) (h60 : w.length + 2 ≤ 60) (hi : i < cE u) (hk : k + 12 ≤ 1700) (hn : n + 648 ≤ 120000)
    (kk : ∀ (RS' : va_W) (a qa : Nat) (t' : List Nat), Str z RS' a qa (w ++ (if u 6 i = nI r then [48 + i] ++ (if u 8 i = -1 then [] else [42]) else [])) → AW f (lX z RS' (z.2.2.1 205)) 64 [some (.ref (z.2.2.1 0)), some (.int 1), some (.int (nI r)), some (.ref a), some (.int (nI (i + 1)))] [] (d, t') (k + 12) (n + 648)) : AW f (lX z RS (z.2.2.1 205)) 64 [some (.ref (z.2.2.1 0)), some (.int 1), some (.int (nI r)), some (.ref a), some (.int (nI i))] [] (d, t) k n := by
  have hN : ∀ RS ba, aOK f (lX z RS ba) cL_areLinesRight 5 RL := lOK hC
  have hX : ∀ RS ba, isX (lX z RS ba) := lX_is ht
  have hb1 := hI.1.1.2
  have hb2 := hI.1.2.1.2
  have hb3 := hI.1.2.2.2
  have ra := dg_l (x := i) (by omega)
  have r1 := (dgs_1 (e := i) (by omega)).1
  refine a_iload (pc := 64) (hN _ _) dL_areLinesRight_64 rfl ?_
  refine a_aload_n (pc := 66) (hN _ _) dL_areLinesRight_66 rfl ?_
  refine a_iconst (pc := 67) (hN _ _) dL_areLinesRight_67 (v := 1) rfl ?_
  refine a_callV (As := [.int (1)]) (pc := 68) (hN _ _) hR vm_X9_account tw_327 cl_X9 (oX_0 (hX _ _)) ⟨(Nat.le_of_ble_eq_true rfl), (Nat.le_of_ble_eq_true rfl), by omega, by omega⟩ dL_areLinesRight_68 (t_X9_account0 (hX _ _) hC.tr (1) (d, t) (fun x9 q9 => x9 = nI (cE u) ∧ q9 = (d, t)) (y_A1 (q := (d, t)) (P := fun x9 q9 => x9 = nI (cE u) ∧ q9 = (d, t)) h hI ⟨rfl, rfl⟩)) rfl rfl rfl (Nat.le_of_ble_eq_true rfl) (fun x q2 h2 => ?_)
  obtain ⟨rfl, rfl⟩ := h2
  refine a_icmp_ge (pc := 71) (tgt := 149) (hN _ _) dL_areLinesRight_71 (by decide) (fun c => absurd c (nI_ge hi (by omega))) (fun _ => ?_)
  refine l_newSB (pc := 74) ht (hN _ _) hR (by decide) (by omega) (by omega) dL_areLinesRight_74 dL_areLinesRight_77 dL_areLinesRight_78 rfl (Nat.le_of_ble_eq_true rfl) (fun p1 sl1 hsl1 => ?_)
  refine a_aload_n (pc := 81) (hN _ _) dL_areLinesRight_81 rfl ?_
  refine a_sbAppS (pc := 82) (q := (d, [])) rfl ht (hN _ _) hR tw_1178 (hs.add) hok (by simp; omega) ⟨(Nat.le_of_ble_eq_true rfl), (Nat.le_of_ble_eq_true rfl), by omega, by omega⟩ dL_areLinesRight_82 rfl (Nat.le_of_ble_eq_true rfl) ?_
  show AW f _ 85 _ _ (d, ([]) ++ w) _ _
  show AW f _ 85 _ _ (d, w) _ _
  refine a_aload_n (pc := 85) (hN _ _) dL_areLinesRight_85 rfl ?_
  refine a_iload (pc := 86) (hN _ _) dL_areLinesRight_86 rfl ?_
  refine a_iconst (pc := 88) (hN _ _) dL_areLinesRight_88 (v := 0) rfl ?_
  refine a_callV (As := [.int (nI i), .int (0)]) (pc := 89) (hN _ _) hR vm_X9_echoOf tw_510 cl_X9 (oX_0 (hX _ _)) ⟨(Nat.le_of_ble_eq_true rfl), (Nat.le_of_ble_eq_true rfl), by omega, by omega⟩ dL_areLinesRight_89 (t_X9_echoOf0 (hX _ _) hC.tr (nI i) (0) (d, w) (fun x9 q9 => x9 = u 6 i ∧ q9 = (d, w)) (y_E0 (q := (d, w)) (P := fun x9 q9 => x9 = u 6 i ∧ q9 = (d, w)) h hI hi ⟨rfl, rfl⟩)) rfl rfl rfl (Nat.le_of_ble_eq_true rfl) (fun x q2 h2 => ?_)
  obtain ⟨rfl, rfl⟩ := h2
  refine a_iload_n (pc := 92) (hN _ _) dL_areLinesRight_92 rfl ?_
  refine a_icmp_ne (pc := 93) (tgt := 134) (hN _ _) dL_areLinesRight_93 (by decide) (fun c => ?_) (fun c => ?_)
  · rw [if_neg c] at kk
    refine a_ldcT (pc := 134) (hN _ _) 0 (by decide) (idx := 215) rfl dL_areLinesRight_134 ?_
    exact g_je (y := []) (a2 := z.2.2.2.1 20) (qa2 := z.2.2.2.1 40) ht hC hR h hI hsl1 (List.Sublist.refl _) (strK 0 (by decide)) okT_nil (by simp; omega) (by omega) (by omega) (fun RS' a qa t' hs => AW.widen (k2 := k + 12) (n2 := n + 648) (by omega) (by omega) (kk _ _ _ _ hs))
  · rw [if_pos c] at kk
    refine l_newSB (pc := 96) ht (hN _ _) hR (by decide) (by omega) (by omega) dL_areLinesRight_96 dL_areLinesRight_99 dL_areLinesRight_100 rfl (Nat.le_of_ble_eq_true rfl) (fun p2 sl2 hsl2 => ?_)
    refine a_iload (pc := 103) (hN _ _) dL_areLinesRight_103 rfl ?_
    refine a_sbAppI (pc := 105) (q := (d, [])) rfl ht (hN _ _) hR tw_1106 (w := i) rfl (by omega) (by simp [ra.2]) ⟨(Nat.le_of_ble_eq_true rfl), (Nat.le_of_ble_eq_true rfl), by omega, by omega⟩ dL_areLinesRight_105 rfl (Nat.le_of_ble_eq_true rfl) ?_
    show AW f _ 108 _ _ (d, ([]) ++ dgs i) _ _
    refine a_aload_n (pc := 108) (hN _ _) dL_areLinesRight_108 rfl ?_
    refine a_iload (pc := 109) (hN _ _) dL_areLinesRight_109 rfl ?_
    refine a_iconst (pc := 111) (hN _ _) dL_areLinesRight_111 (v := 2) rfl ?_
    refine a_callV (As := [.int (nI i), .int (2)]) (pc := 112) (hN _ _) hR vm_X9_echoOf tw_510 cl_X9 (oX_0 (hX _ _)) ⟨(Nat.le_of_ble_eq_true rfl), (Nat.le_of_ble_eq_true rfl), by omega, by omega⟩ dL_areLinesRight_112 (t_X9_echoOf0 (hX _ _) hC.tr (nI i) (2) (d, ([]) ++ dgs i) (fun x9 q9 => x9 = u 8 i ∧ q9 = (d, ([]) ++ dgs i)) (y_E2 (q := (d, ([]) ++ dgs i)) (P := fun x9 q9 => x9 = u 8 i ∧ q9 = (d, ([]) ++ dgs i)) h hI hi ⟨rfl, rfl⟩)) rfl rfl rfl (Nat.le_of_ble_eq_true rfl) (fun x q2 h2 => ?_)
    obtain ⟨rfl, rfl⟩ := h2
    have fin : ∀ (RS9 : va_W) (a2 qa2 : Nat) (y : List Nat), Str z (sl2 ++ (sl1 ++ RS)) a2 qa2 y → okT y → y.length ≤ 1 → ([] ++ dgs i) ++ y = [48 + i] ++ (if u 8 i = -1 then [] else [42]) → AW f (lX z (sl2 ++ (sl1 ++ RS)) p2) 125 [some (.ref (z.2.2.1 0)), some (.int 1), some (.int (nI r)), some (.ref a), some (.int (nI i))] [.ref a2, .ref p2, .ref p1] (d, ([]) ++ dgs i) (k + 2 + 1 + 2 + 1) (n + 20 + 120 + 20 + 120) := fun RS9 a2 qa2 y hy oy ly ey => by
      refine a_sbAppS (pc := 125) (q := (d, ([]) ++ dgs i)) rfl ht (hN _ _) hR tw_1178 hy oy (by simp [ra.1]; omega) ⟨(Nat.le_of_ble_eq_true rfl), (Nat.le_of_ble_eq_true rfl), by omega, by omega⟩ dL_areLinesRight_125 rfl (Nat.le_of_ble_eq_true rfl) ?_
      show AW f _ 128 _ _ (d, (([]) ++ dgs i) ++ y) _ _
      refine l_toStr (pc := 128) (t := (([]) ++ dgs i) ++ y) ht (hN _ _) hR tw_1229 ⟨(Nat.le_of_ble_eq_true rfl), (Nat.le_of_ble_eq_true rfl), by omega, by omega⟩ dL_areLinesRight_128 rfl (Nat.le_of_ble_eq_true rfl) (fun o2 qs2 b2 hb2' => ?_)
      refine AW.refocus (X := strC z o2 qs2 _ b2) (R0 := sl1 ++ RS) hsl2 ?_
      refine a_goto (pc := 131) (tgt := 136) (hN _ _) dL_areLinesRight_131 (by decide) ?_
      have hn2 := strN_ (z := z) (RS := sl1 ++ RS) (o := o2) (qs := qs2) hb2'
      refine g_je (y := ([] ++ dgs i) ++ y) ht hC hR h hI hsl1 (List.sublist_append_right _ _) hn2 ?_ ?_ (by omega) (by omega) (fun RS' a qa t' hs => AW.widen (k2 := k + 12) (n2 := n + 648) (by omega) (by omega) (kk _ _ _ _ (by rw [← ey]; exact hs)))
      · exact okT_app (okT_app okT_nil (okT_d (by omega)) (by simp [ra.1])) oy (by simp [ra.1]; omega)
      · simp [ra.1]
        omega
    refine a_if_ge (pc := 115) (tgt := 123) (hN _ _) dL_areLinesRight_115 (by decide) (fun c9 => ?_) (fun c9 => ?_)
    · have c8 : ¬ u 8 i = -1 := fun e => by
        rw [e] at c9
        exact absurd c9 (by decide)
      refine a_ldcT (pc := 123) (hN _ _) 1 (by decide) (idx := 217) rfl dL_areLinesRight_123 ?_
      exact fin [] _ _ [42] (strK 1 (by decide)) (okT_k 1 (by decide)) (Nat.le_refl _) (by rw [if_neg c8, r1]; rfl)
    · have c8 : u 8 i = -1 := by
        rcases e8_c hI hi with ⟨z, _⟩ | ⟨_, _, z, _⟩
        · exact z
        · exact absurd z c9
      refine a_ldcT (pc := 118) (hN _ _) 0 (by decide) (idx := 215) rfl dL_areLinesRight_118 ?_
      refine a_goto (pc := 120) (tgt := 125) (hN _ _) dL_areLinesRight_120 (by decide) ?_
      exact fin [] _ _ [] (strK 0 (by decide)) okT_nil (Nat.zero_le _) (by rw [if_pos c8, r1]; rfl)
theorem g_sng (ht : z.2.1.map Prod.snd = tyX) (hC : aOK f (lX z [] (z.2.2.1 205)) cL_areLinesRight 5 RL) (hR : f_R f = aR 9 1700 120000) (h : RX 1 d u) (hI : Inv n0 u) {r i a qa : Nat} {w : List Nat} (hs : Str z RS a qa w) (hok : okT w) (h60 : w.length + 2 ≤ 60) (hi : i < cS u) (hk : k + 12 ≤ 1700) (hn : n + 648 ≤ 120000)
    (kk : ∀ (RS' : va_W) (a qa : Nat) (t' : List Nat), Str z RS' a qa (w ++ (if u 14 i = nI r then [115] ++ [48 + i] else [])) → AW f (lX z RS' (z.2.2.1 205)) 152 [some (.ref (z.2.2.1 0)), some (.int 1), some (.int (nI r)), some (.ref a), some (.int (nI (i + 1)))] [] (d, t') (k + 12) (n + 648)) : AW f (lX z RS (z.2.2.1 205)) 152 [some (.ref (z.2.2.1 0)), some (.int 1), some (.int (nI r)), some (.ref a), some (.int (nI i))] [] (d, t) k n := by
  have hN : ∀ RS ba, aOK f (lX z RS ba) cL_areLinesRight 5 RL := lOK hC
  have hX : ∀ RS ba, isX (lX z RS ba) := lX_is ht
  have hb1 := hI.1.1.2
  have hb2 := hI.1.2.1.2
  have hb3 := hI.1.2.2.2
  have ra := dg_l (x := i) (by omega)
  have r1 := (dgs_1 (e := i) (by omega)).1
  refine a_iload (pc := 152) (hN _ _) dL_areLinesRight_152 rfl ?_
  refine a_aload_n (pc := 154) (hN _ _) dL_areLinesRight_154 rfl ?_
  refine a_iconst (pc := 155) (hN _ _) dL_areLinesRight_155 (v := 2) rfl ?_
  refine a_callV (As := [.int (2)]) (pc := 156) (hN _ _) hR vm_X9_account tw_327 cl_X9 (oX_0 (hX _ _)) ⟨(Nat.le_of_ble_eq_true rfl), (Nat.le_of_ble_eq_true rfl), by omega, by omega⟩ dL_areLinesRight_156 (t_X9_account0 (hX _ _) hC.tr (2) (d, t) (fun x9 q9 => x9 = nI (cS u) ∧ q9 = (d, t)) (y_A2 (q := (d, t)) (P := fun x9 q9 => x9 = nI (cS u) ∧ q9 = (d, t)) h hI ⟨rfl, rfl⟩)) rfl rfl rfl (Nat.le_of_ble_eq_true rfl) (fun x q2 h2 => ?_)
  obtain ⟨rfl, rfl⟩ := h2
  refine a_icmp_ge (pc := 159) (tgt := 222) (hN _ _) dL_areLinesRight_159 (by decide) (fun c => absurd c (nI_ge hi (by omega))) (fun _ => ?_)
  refine l_newSB (pc := 162) ht (hN _ _) hR (by decide) (by omega) (by omega) dL_areLinesRight_162 dL_areLinesRight_165 dL_areLinesRight_166 rfl (Nat.le_of_ble_eq_true rfl) (fun p1 sl1 hsl1 => ?_)
  refine a_aload_n (pc := 169) (hN _ _) dL_areLinesRight_169 rfl ?_
  refine a_sbAppS (pc := 170) (q := (d, [])) rfl ht (hN _ _) hR tw_1178 (hs.add) hok (by simp; omega) ⟨(Nat.le_of_ble_eq_true rfl), (Nat.le_of_ble_eq_true rfl), by omega, by omega⟩ dL_areLinesRight_170 rfl (Nat.le_of_ble_eq_true rfl) ?_
  show AW f _ 173 _ _ (d, ([]) ++ w) _ _
  show AW f _ 173 _ _ (d, w) _ _
  refine a_aload_n (pc := 173) (hN _ _) dL_areLinesRight_173 rfl ?_
  refine a_iload (pc := 174) (hN _ _) dL_areLinesRight_174 rfl ?_
  refine a_iconst (pc := 176) (hN _ _) dL_areLinesRight_176 (v := 2) rfl ?_
  refine a_callV (As := [.int (nI i), .int (2)]) (pc := 177) (hN _ _) hR vm_X9_singerOf tw_524 cl_X9 (oX_0 (hX _ _)) ⟨(Nat.le_of_ble_eq_true rfl), (Nat.le_of_ble_eq_true rfl), by omega, by omega⟩ dL_areLinesRight_177 (t_X9_singerOf0 (hX _ _) hC.tr (nI i) (2) (d, w) (fun x9 q9 => x9 = u 14 i ∧ q9 = (d, w)) (y_S2 (q := (d, w)) (P := fun x9 q9 => x9 = u 14 i ∧ q9 = (d, w)) h hI hi ⟨rfl, rfl⟩)) rfl rfl rfl (Nat.le_of_ble_eq_true rfl) (fun x q2 h2 => ?_)
  obtain ⟨rfl, rfl⟩ := h2
  refine a_iload_n (pc := 180) (hN _ _) dL_areLinesRight_180 rfl ?_
  refine a_icmp_ne (pc := 181) (tgt := 207) (hN _ _) dL_areLinesRight_181 (by decide) (fun c => ?_) (fun c => ?_)
  · rw [if_neg c] at kk
    refine a_ldcT (pc := 207) (hN _ _) 0 (by decide) (idx := 215) rfl dL_areLinesRight_207 ?_
    exact g_js (y := []) (a2 := z.2.2.2.1 20) (qa2 := z.2.2.2.1 40) ht hC hR h hI hsl1 (List.Sublist.refl _) (strK 0 (by decide)) okT_nil (by simp; omega) (by omega) (by omega) (fun RS' a qa t' hs => AW.widen (k2 := k + 12) (n2 := n + 648) (by omega) (by omega) (kk _ _ _ _ hs))
  · rw [if_pos c] at kk
    refine l_newSB (pc := 184) ht (hN _ _) hR (by decide) (by omega) (by omega) dL_areLinesRight_184 dL_areLinesRight_187 dL_areLinesRight_188 rfl (Nat.le_of_ble_eq_true rfl) (fun p2 sl2 hsl2 => ?_)
    refine a_ldcT (pc := 191) (hN _ _) 5 (by decide) (idx := 219) rfl dL_areLinesRight_191 ?_
    refine a_sbAppS (pc := 193) (q := (d, [])) rfl ht (hN _ _) hR tw_1178 (strK 5 (by decide)) (okT_k 5 (by decide)) (Nat.le_trans (Nat.add_le_add_left (sLet_ok 5 (by decide)) _) (by simp)) ⟨(Nat.le_of_ble_eq_true rfl), (Nat.le_of_ble_eq_true rfl), by omega, by omega⟩ dL_areLinesRight_193 rfl (Nat.le_of_ble_eq_true rfl) ?_
    show AW f _ 196 _ _ (d, ([]) ++ [115]) _ _
    refine a_iload (pc := 196) (hN _ _) dL_areLinesRight_196 rfl ?_
    refine a_sbAppI (pc := 198) (q := (d, ([]) ++ [115])) rfl ht (hN _ _) hR tw_1106 (w := i) rfl (by omega) (by simp [ra.2]) ⟨(Nat.le_of_ble_eq_true rfl), (Nat.le_of_ble_eq_true rfl), by omega, by omega⟩ dL_areLinesRight_198 rfl (Nat.le_of_ble_eq_true rfl) ?_
    show AW f _ 201 _ _ (d, (([]) ++ [115]) ++ dgs i) _ _
    refine l_toStr (pc := 201) (t := (([]) ++ [115]) ++ dgs i) ht (hN _ _) hR tw_1229 ⟨(Nat.le_of_ble_eq_true rfl), (Nat.le_of_ble_eq_true rfl), by omega, by omega⟩ dL_areLinesRight_201 rfl (Nat.le_of_ble_eq_true rfl) (fun o2 qs2 b2 hb2' => ?_)
    refine AW.refocus (X := strC z o2 qs2 _ b2) (R0 := sl1 ++ RS) hsl2 ?_
    refine a_goto (pc := 204) (tgt := 209) (hN _ _) dL_areLinesRight_204 (by decide) ?_
    have ey : ([] ++ [115]) ++ dgs i = [115] ++ [48 + i] := by rw [r1]; rfl
    have hn2 := strN_ (z := z) (RS := sl1 ++ RS) (o := o2) (qs := qs2) hb2'
    exact g_js (y := ([] ++ [115]) ++ dgs i) ht hC hR h hI hsl1 (List.sublist_append_right _ _) hn2 (okT_app (okT_app okT_nil (okT_1 (by decide)) (Nat.le_of_ble_eq_true rfl)) (okT_d (by omega)) (by simp [ra.1])) (by simp [ra.1]; omega) (by omega) (by omega) (fun RS' a qa t' hs => AW.widen (k2 := k + 12) (n2 := n + 648) (by omega) (by omega) (kk _ _ _ _ (by rw [← ey]; exact hs)))
end LINES
