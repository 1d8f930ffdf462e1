/-! THE LAW: its code, run over both objects -/
theorem kl_0 : gk_law.lookup 0 = some (.new 9, 3) := by decide +kernel
theorem kl_3 : gk_law.lookup 3 = some (.dup, 1) := by decide +kernel
theorem kl_4 : gk_law.lookup 4 = some (.invokespecial 138, 3) := by decide +kernel
theorem kl_7 : gk_law.lookup 7 = some (.astore_n 1, 1) := by decide +kernel
theorem kl_8 : gk_law.lookup 8 = some (.new 9, 3) := by decide +kernel
theorem kl_11 : gk_law.lookup 11 = some (.dup, 1) := by decide +kernel
theorem kl_12 : gk_law.lookup 12 = some (.invokespecial 138, 3) := by decide +kernel
theorem kl_15 : gk_law.lookup 15 = some (.astore_n 2, 1) := by decide +kernel
theorem kl_16 : gk_law.lookup 16 = some (.iconst 0, 1) := by decide +kernel
theorem kl_17 : gk_law.lookup 17 = some (.istore_n 3, 1) := by decide +kernel
theorem kl_18 : gk_law.lookup 18 = some (.aload_n 1, 1) := by decide +kernel
theorem kl_19 : gk_law.lookup 19 = some (.iconst 0, 1) := by decide +kernel
theorem kl_20 : gk_law.lookup 20 = some (.bipush 40, 2) := by decide +kernel
theorem kl_22 : gk_law.lookup 22 = some (.invokestatic 139, 3) := by decide +kernel
theorem kl_25 : gk_law.lookup 25 = some (.bipush 40, 2) := by decide +kernel
theorem kl_27 : gk_law.lookup 27 = some (.if_icmp .ne 19, 3) := by decide +kernel
theorem kl_30 : gk_law.lookup 30 = some (.aload_n 2, 1) := by decide +kernel
theorem kl_31 : gk_law.lookup 31 = some (.iconst 0, 1) := by decide +kernel
theorem kl_32 : gk_law.lookup 32 = some (.bipush 80, 2) := by decide +kernel
theorem kl_34 : gk_law.lookup 34 = some (.invokestatic 139, 3) := by decide +kernel
theorem kl_37 : gk_law.lookup 37 = some (.bipush 80, 2) := by decide +kernel
theorem kl_39 : gk_law.lookup 39 = some (.if_icmp .ne 7, 3) := by decide +kernel
theorem kl_42 : gk_law.lookup 42 = some (.iconst 1, 1) := by decide +kernel
theorem kl_43 : gk_law.lookup 43 = some (.goto 4, 3) := by decide +kernel
theorem kl_46 : gk_law.lookup 46 = some (.iconst 0, 1) := by decide +kernel
theorem kl_47 : gk_law.lookup 47 = some (.istore 4, 2) := by decide +kernel
theorem kl_49 : gk_law.lookup 49 = some (.iconst 0, 1) := by decide +kernel
theorem kl_50 : gk_law.lookup 50 = some (.istore 5, 2) := by decide +kernel
theorem kl_52 : gk_law.lookup 52 = some (.iload 5, 2) := by decide +kernel
theorem kl_54 : gk_law.lookup 54 = some (.bipush 120, 2) := by decide +kernel
theorem kl_56 : gk_law.lookup 56 = some (.if_icmp .ge 719, 3) := by decide +kernel
theorem kl_59 : gk_law.lookup 59 = some (.iload 4, 2) := by decide +kernel
theorem kl_61 : gk_law.lookup 61 = some (.ifCond .eq 714, 3) := by decide +kernel
theorem kl_64 : gk_law.lookup 64 = some (.aload_n 0, 1) := by decide +kernel
theorem kl_65 : gk_law.lookup 65 = some (.iload 5, 2) := by decide +kernel
theorem kl_67 : gk_law.lookup 67 = some (.bipush 60, 2) := by decide +kernel
theorem kl_69 : gk_law.lookup 69 = some (.irem, 1) := by decide +kernel
theorem kl_70 : gk_law.lookup 70 = some (.invokestatic 142, 3) := by decide +kernel
theorem kl_73 : gk_law.lookup 73 = some (.iconst 1, 1) := by decide +kernel
theorem kl_74 : gk_law.lookup 74 = some (.iload 5, 2) := by decide +kernel
theorem kl_76 : gk_law.lookup 76 = some (.bipush 60, 2) := by decide +kernel
theorem kl_78 : gk_law.lookup 78 = some (.idiv, 1) := by decide +kernel
theorem kl_79 : gk_law.lookup 79 = some (.iadd, 1) := by decide +kernel
theorem kl_80 : gk_law.lookup 80 = some (.idiv, 1) := by decide +kernel
theorem kl_81 : gk_law.lookup 81 = some (.bipush 7, 2) := by decide +kernel
theorem kl_83 : gk_law.lookup 83 = some (.iload 5, 2) := by decide +kernel
theorem kl_85 : gk_law.lookup 85 = some (.bipush 60, 2) := by decide +kernel
theorem kl_87 : gk_law.lookup 87 = some (.idiv, 1) := by decide +kernel
theorem kl_88 : gk_law.lookup 88 = some (.imul, 1) := by decide +kernel
theorem kl_89 : gk_law.lookup 89 = some (.iadd, 1) := by decide +kernel
theorem kl_90 : gk_law.lookup 90 = some (.istore 6, 2) := by decide +kernel
theorem kl_92 : gk_law.lookup 92 = some (.iload 5, 2) := by decide +kernel
theorem kl_94 : gk_law.lookup 94 = some (.iconst 4, 1) := by decide +kernel
theorem kl_95 : gk_law.lookup 95 = some (.if_icmp .ge 7, 3) := by decide +kernel
theorem kl_98 : gk_law.lookup 98 = some (.iconst 0, 1) := by decide +kernel
theorem kl_99 : gk_law.lookup 99 = some (.goto 8, 3) := by decide +kernel
theorem kl_102 : gk_law.lookup 102 = some (.iload 6, 2) := by decide +kernel
theorem kl_104 : gk_law.lookup 104 = some (.bipush 34, 2) := by decide +kernel
theorem kl_106 : gk_law.lookup 106 = some (.irem, 1) := by decide +kernel
theorem kl_107 : gk_law.lookup 107 = some (.istore 7, 2) := by decide +kernel
theorem kl_109 : gk_law.lookup 109 = some (.iload 6, 2) := by decide +kernel
theorem kl_111 : gk_law.lookup 111 = some (.bipush 34, 2) := by decide +kernel
theorem kl_113 : gk_law.lookup 113 = some (.idiv, 1) := by decide +kernel
theorem kl_114 : gk_law.lookup 114 = some (.istore 8, 2) := by decide +kernel
theorem kl_116 : gk_law.lookup 116 = some (.iload_n 3, 1) := by decide +kernel
theorem kl_117 : gk_law.lookup 117 = some (.ifCond .ne 7, 3) := by decide +kernel
theorem kl_120 : gk_law.lookup 120 = some (.iconst 0, 1) := by decide +kernel
theorem kl_121 : gk_law.lookup 121 = some (.goto 7, 3) := by decide +kernel
theorem kl_124 : gk_law.lookup 124 = some (.iload 8, 2) := by decide +kernel
theorem kl_126 : gk_law.lookup 126 = some (.iload_n 3, 1) := by decide +kernel
theorem kl_127 : gk_law.lookup 127 = some (.irem, 1) := by decide +kernel
theorem kl_128 : gk_law.lookup 128 = some (.istore 9, 2) := by decide +kernel
theorem kl_130 : gk_law.lookup 130 = some (.iload_n 3, 1) := by decide +kernel
theorem kl_131 : gk_law.lookup 131 = some (.ifCond .ne 7, 3) := by decide +kernel
theorem kl_134 : gk_law.lookup 134 = some (.iconst 0, 1) := by decide +kernel
theorem kl_135 : gk_law.lookup 135 = some (.goto 10, 3) := by decide +kernel
theorem kl_138 : gk_law.lookup 138 = some (.iload 8, 2) := by decide +kernel
theorem kl_140 : gk_law.lookup 140 = some (.bipush 14, 2) := by decide +kernel
theorem kl_142 : gk_law.lookup 142 = some (.idiv, 1) := by decide +kernel
theorem kl_143 : gk_law.lookup 143 = some (.iload_n 3, 1) := by decide +kernel
theorem kl_144 : gk_law.lookup 144 = some (.irem, 1) := by decide +kernel
theorem kl_145 : gk_law.lookup 145 = some (.istore 10, 2) := by decide +kernel
theorem kl_147 : gk_law.lookup 147 = some (.iload 8, 2) := by decide +kernel
theorem kl_149 : gk_law.lookup 149 = some (.sipush 196, 3) := by decide +kernel
theorem kl_152 : gk_law.lookup 152 = some (.idiv, 1) := by decide +kernel
theorem kl_153 : gk_law.lookup 153 = some (.bipush 60, 2) := by decide +kernel
theorem kl_155 : gk_law.lookup 155 = some (.irem, 1) := by decide +kernel
theorem kl_156 : gk_law.lookup 156 = some (.istore 11, 2) := by decide +kernel
theorem kl_158 : gk_law.lookup 158 = some (.iload 11, 2) := by decide +kernel
theorem kl_160 : gk_law.lookup 160 = some (.iconst 1, 1) := by decide +kernel
theorem kl_161 : gk_law.lookup 161 = some (.iadd, 1) := by decide +kernel
theorem kl_162 : gk_law.lookup 162 = some (.iload 8, 2) := by decide +kernel
theorem kl_164 : gk_law.lookup 164 = some (.bipush 15, 2) := by decide +kernel
theorem kl_166 : gk_law.lookup 166 = some (.irem, 1) := by decide +kernel
theorem kl_167 : gk_law.lookup 167 = some (.iadd, 1) := by decide +kernel
theorem kl_168 : gk_law.lookup 168 = some (.istore 12, 2) := by decide +kernel
theorem kl_170 : gk_law.lookup 170 = some (.iload 7, 2) := by decide +kernel
theorem kl_172 : gk_law.lookup 172 = some (.iconst 2, 1) := by decide +kernel
theorem kl_173 : gk_law.lookup 173 = some (.if_icmp .ge 60, 3) := by decide +kernel
theorem kl_176 : gk_law.lookup 176 = some (.iload 8, 2) := by decide +kernel
theorem kl_178 : gk_law.lookup 178 = some (.aload_n 1, 1) := by decide +kernel
theorem kl_179 : gk_law.lookup 179 = some (.invokevirtual 108, 3) := by decide +kernel
theorem kl_182 : gk_law.lookup 182 = some (.iconst 1, 1) := by decide +kernel
theorem kl_183 : gk_law.lookup 183 = some (.iadd, 1) := by decide +kernel
theorem kl_184 : gk_law.lookup 184 = some (.irem, 1) := by decide +kernel
theorem kl_185 : gk_law.lookup 185 = some (.istore 13, 2) := by decide +kernel
theorem kl_187 : gk_law.lookup 187 = some (.aload_n 1, 1) := by decide +kernel
theorem kl_188 : gk_law.lookup 188 = some (.iconst 1, 1) := by decide +kernel
theorem kl_189 : gk_law.lookup 189 = some (.iload 13, 2) := by decide +kernel
theorem kl_191 : gk_law.lookup 191 = some (.invokestatic 139, 3) := by decide +kernel
theorem kl_194 : gk_law.lookup 194 = some (.istore 14, 2) := by decide +kernel
theorem kl_196 : gk_law.lookup 196 = some (.iload_n 3, 1) := by decide +kernel
theorem kl_197 : gk_law.lookup 197 = some (.iload 14, 2) := by decide +kernel
theorem kl_199 : gk_law.lookup 199 = some (.ifCond .lt 7, 3) := by decide +kernel
theorem kl_202 : gk_law.lookup 202 = some (.iconst 1, 1) := by decide +kernel
theorem kl_203 : gk_law.lookup 203 = some (.goto 4, 3) := by decide +kernel
theorem kl_206 : gk_law.lookup 206 = some (.iconst 0, 1) := by decide +kernel
theorem kl_207 : gk_law.lookup 207 = some (.iadd, 1) := by decide +kernel
theorem kl_208 : gk_law.lookup 208 = some (.istore_n 3, 1) := by decide +kernel
theorem kl_209 : gk_law.lookup 209 = some (.aload_n 2, 1) := by decide +kernel
theorem kl_210 : gk_law.lookup 210 = some (.iconst 1, 1) := by decide +kernel
theorem kl_211 : gk_law.lookup 211 = some (.iconst 2, 1) := by decide +kernel
theorem kl_212 : gk_law.lookup 212 = some (.iload 13, 2) := by decide +kernel
theorem kl_214 : gk_law.lookup 214 = some (.imul, 1) := by decide +kernel
theorem kl_215 : gk_law.lookup 215 = some (.invokestatic 139, 3) := by decide +kernel
theorem kl_218 : gk_law.lookup 218 = some (.iload 14, 2) := by decide +kernel
theorem kl_220 : gk_law.lookup 220 = some (.if_icmp .ne 7, 3) := by decide +kernel
theorem kl_223 : gk_law.lookup 223 = some (.iconst 1, 1) := by decide +kernel
theorem kl_224 : gk_law.lookup 224 = some (.goto 4, 3) := by decide +kernel
theorem kl_227 : gk_law.lookup 227 = some (.iconst 0, 1) := by decide +kernel
theorem kl_228 : gk_law.lookup 228 = some (.istore 4, 2) := by decide +kernel
theorem kl_230 : gk_law.lookup 230 = some (.goto 506, 3) := by decide +kernel
theorem kl_233 : gk_law.lookup 233 = some (.iload 7, 2) := by decide +kernel
theorem kl_235 : gk_law.lookup 235 = some (.iconst 4, 1) := by decide +kernel
theorem kl_236 : gk_law.lookup 236 = some (.if_icmp .ge 78, 3) := by decide +kernel
theorem kl_239 : gk_law.lookup 239 = some (.aload_n 1, 1) := by decide +kernel
theorem kl_240 : gk_law.lookup 240 = some (.invokevirtual 108, 3) := by decide +kernel
theorem kl_243 : gk_law.lookup 243 = some (.sipush 900, 3) := by decide +kernel
theorem kl_246 : gk_law.lookup 246 = some (.if_icmp .le 7, 3) := by decide +kernel
theorem kl_249 : gk_law.lookup 249 = some (.iconst 0, 1) := by decide +kernel
theorem kl_250 : gk_law.lookup 250 = some (.goto 10, 3) := by decide +kernel
theorem kl_253 : gk_law.lookup 253 = some (.iconst 1, 1) := by decide +kernel
theorem kl_254 : gk_law.lookup 254 = some (.iload 8, 2) := by decide +kernel
theorem kl_256 : gk_law.lookup 256 = some (.bipush 12, 2) := by decide +kernel
theorem kl_258 : gk_law.lookup 258 = some (.irem, 1) := by decide +kernel
theorem kl_259 : gk_law.lookup 259 = some (.iadd, 1) := by decide +kernel
theorem kl_260 : gk_law.lookup 260 = some (.istore 13, 2) := by decide +kernel
theorem kl_262 : gk_law.lookup 262 = some (.iload 13, 2) := by decide +kernel
theorem kl_264 : gk_law.lookup 264 = some (.ifCond .ne 10, 3) := by decide +kernel
theorem kl_267 : gk_law.lookup 267 = some (.aload_n 1, 1) := by decide +kernel
theorem kl_268 : gk_law.lookup 268 = some (.invokevirtual 108, 3) := by decide +kernel
theorem kl_271 : gk_law.lookup 271 = some (.goto 10, 3) := by decide +kernel
theorem kl_274 : gk_law.lookup 274 = some (.aload_n 1, 1) := by decide +kernel
theorem kl_275 : gk_law.lookup 275 = some (.iconst 0, 1) := by decide +kernel
theorem kl_276 : gk_law.lookup 276 = some (.iload 13, 2) := by decide +kernel
theorem kl_278 : gk_law.lookup 278 = some (.invokestatic 139, 3) := by decide +kernel
theorem kl_281 : gk_law.lookup 281 = some (.istore 14, 2) := by decide +kernel
theorem kl_283 : gk_law.lookup 283 = some (.iload 13, 2) := by decide +kernel
theorem kl_285 : gk_law.lookup 285 = some (.ifCond .eq 19, 3) := by decide +kernel
theorem kl_288 : gk_law.lookup 288 = some (.aload_n 2, 1) := by decide +kernel
theorem kl_289 : gk_law.lookup 289 = some (.iconst 0, 1) := by decide +kernel
theorem kl_290 : gk_law.lookup 290 = some (.iconst 2, 1) := by decide +kernel
theorem kl_291 : gk_law.lookup 291 = some (.iload 13, 2) := by decide +kernel
theorem kl_293 : gk_law.lookup 293 = some (.imul, 1) := by decide +kernel
theorem kl_294 : gk_law.lookup 294 = some (.invokestatic 139, 3) := by decide +kernel
theorem kl_297 : gk_law.lookup 297 = some (.iconst 2, 1) := by decide +kernel
theorem kl_298 : gk_law.lookup 298 = some (.iload 14, 2) := by decide +kernel
theorem kl_300 : gk_law.lookup 300 = some (.imul, 1) := by decide +kernel
theorem kl_301 : gk_law.lookup 301 = some (.if_icmp .ne 7, 3) := by decide +kernel
theorem kl_304 : gk_law.lookup 304 = some (.iconst 1, 1) := by decide +kernel
theorem kl_305 : gk_law.lookup 305 = some (.goto 4, 3) := by decide +kernel
theorem kl_308 : gk_law.lookup 308 = some (.iconst 0, 1) := by decide +kernel
theorem kl_309 : gk_law.lookup 309 = some (.istore 4, 2) := by decide +kernel
theorem kl_311 : gk_law.lookup 311 = some (.goto 425, 3) := by decide +kernel
theorem kl_314 : gk_law.lookup 314 = some (.iload 7, 2) := by decide +kernel
theorem kl_316 : gk_law.lookup 316 = some (.bipush 12, 2) := by decide +kernel
theorem kl_318 : gk_law.lookup 318 = some (.if_icmp .ge 56, 3) := by decide +kernel
theorem kl_321 : gk_law.lookup 321 = some (.aload_n 1, 1) := by decide +kernel
theorem kl_322 : gk_law.lookup 322 = some (.iconst 0, 1) := by decide +kernel
theorem kl_323 : gk_law.lookup 323 = some (.iload 9, 2) := by decide +kernel
theorem kl_325 : gk_law.lookup 325 = some (.iload 10, 2) := by decide +kernel
theorem kl_327 : gk_law.lookup 327 = some (.iconst 1, 1) := by decide +kernel
theorem kl_328 : gk_law.lookup 328 = some (.iload 8, 2) := by decide +kernel
theorem kl_330 : gk_law.lookup 330 = some (.sipush 196, 3) := by decide +kernel
theorem kl_333 : gk_law.lookup 333 = some (.idiv, 1) := by decide +kernel
theorem kl_334 : gk_law.lookup 334 = some (.bipush 9, 2) := by decide +kernel
theorem kl_336 : gk_law.lookup 336 = some (.irem, 1) := by decide +kernel
theorem kl_337 : gk_law.lookup 337 = some (.iadd, 1) := by decide +kernel
theorem kl_338 : gk_law.lookup 338 = some (.invokestatic 146, 3) := by decide +kernel
theorem kl_341 : gk_law.lookup 341 = some (.aload_n 2, 1) := by decide +kernel
theorem kl_342 : gk_law.lookup 342 = some (.iconst 0, 1) := by decide +kernel
theorem kl_343 : gk_law.lookup 343 = some (.iload 9, 2) := by decide +kernel
theorem kl_345 : gk_law.lookup 345 = some (.iload 10, 2) := by decide +kernel
theorem kl_347 : gk_law.lookup 347 = some (.iconst 1, 1) := by decide +kernel
theorem kl_348 : gk_law.lookup 348 = some (.iload 8, 2) := by decide +kernel
theorem kl_350 : gk_law.lookup 350 = some (.sipush 196, 3) := by decide +kernel
theorem kl_353 : gk_law.lookup 353 = some (.idiv, 1) := by decide +kernel
theorem kl_354 : gk_law.lookup 354 = some (.bipush 9, 2) := by decide +kernel
theorem kl_356 : gk_law.lookup 356 = some (.irem, 1) := by decide +kernel
theorem kl_357 : gk_law.lookup 357 = some (.iadd, 1) := by decide +kernel
theorem kl_358 : gk_law.lookup 358 = some (.invokestatic 146, 3) := by decide +kernel
theorem kl_361 : gk_law.lookup 361 = some (.if_icmp .ne 7, 3) := by decide +kernel
theorem kl_364 : gk_law.lookup 364 = some (.iconst 1, 1) := by decide +kernel
theorem kl_365 : gk_law.lookup 365 = some (.goto 4, 3) := by decide +kernel
theorem kl_368 : gk_law.lookup 368 = some (.iconst 0, 1) := by decide +kernel
theorem kl_369 : gk_law.lookup 369 = some (.istore 4, 2) := by decide +kernel
theorem kl_371 : gk_law.lookup 371 = some (.goto 365, 3) := by decide +kernel
theorem kl_374 : gk_law.lookup 374 = some (.iload 7, 2) := by decide +kernel
theorem kl_376 : gk_law.lookup 376 = some (.bipush 15, 2) := by decide +kernel
theorem kl_378 : gk_law.lookup 378 = some (.if_icmp .ge 56, 3) := by decide +kernel
theorem kl_381 : gk_law.lookup 381 = some (.aload_n 1, 1) := by decide +kernel
theorem kl_382 : gk_law.lookup 382 = some (.iconst 0, 1) := by decide +kernel
theorem kl_383 : gk_law.lookup 383 = some (.iload 8, 2) := by decide +kernel
theorem kl_385 : gk_law.lookup 385 = some (.bipush 12, 2) := by decide +kernel
theorem kl_387 : gk_law.lookup 387 = some (.irem, 1) := by decide +kernel
theorem kl_388 : gk_law.lookup 388 = some (.iconst 1, 1) := by decide +kernel
theorem kl_389 : gk_law.lookup 389 = some (.iload 8, 2) := by decide +kernel
theorem kl_391 : gk_law.lookup 391 = some (.bipush 12, 2) := by decide +kernel
theorem kl_393 : gk_law.lookup 393 = some (.idiv, 1) := by decide +kernel
theorem kl_394 : gk_law.lookup 394 = some (.bipush 9, 2) := by decide +kernel
theorem kl_396 : gk_law.lookup 396 = some (.irem, 1) := by decide +kernel
theorem kl_397 : gk_law.lookup 397 = some (.iadd, 1) := by decide +kernel
theorem kl_398 : gk_law.lookup 398 = some (.invokestatic 150, 3) := by decide +kernel
theorem kl_401 : gk_law.lookup 401 = some (.aload_n 2, 1) := by decide +kernel
theorem kl_402 : gk_law.lookup 402 = some (.iconst 0, 1) := by decide +kernel
theorem kl_403 : gk_law.lookup 403 = some (.iload 8, 2) := by decide +kernel
theorem kl_405 : gk_law.lookup 405 = some (.bipush 12, 2) := by decide +kernel
theorem kl_407 : gk_law.lookup 407 = some (.irem, 1) := by decide +kernel
theorem kl_408 : gk_law.lookup 408 = some (.iconst 1, 1) := by decide +kernel
theorem kl_409 : gk_law.lookup 409 = some (.iload 8, 2) := by decide +kernel
theorem kl_411 : gk_law.lookup 411 = some (.bipush 12, 2) := by decide +kernel
theorem kl_413 : gk_law.lookup 413 = some (.idiv, 1) := by decide +kernel
theorem kl_414 : gk_law.lookup 414 = some (.bipush 9, 2) := by decide +kernel
theorem kl_416 : gk_law.lookup 416 = some (.irem, 1) := by decide +kernel
theorem kl_417 : gk_law.lookup 417 = some (.iadd, 1) := by decide +kernel
theorem kl_418 : gk_law.lookup 418 = some (.invokestatic 150, 3) := by decide +kernel
theorem kl_421 : gk_law.lookup 421 = some (.if_icmp .ne 7, 3) := by decide +kernel
theorem kl_424 : gk_law.lookup 424 = some (.iconst 1, 1) := by decide +kernel
theorem kl_425 : gk_law.lookup 425 = some (.goto 4, 3) := by decide +kernel
theorem kl_428 : gk_law.lookup 428 = some (.iconst 0, 1) := by decide +kernel
theorem kl_429 : gk_law.lookup 429 = some (.istore 4, 2) := by decide +kernel
theorem kl_431 : gk_law.lookup 431 = some (.goto 305, 3) := by decide +kernel
theorem kl_434 : gk_law.lookup 434 = some (.iload 7, 2) := by decide +kernel
theorem kl_436 : gk_law.lookup 436 = some (.bipush 18, 2) := by decide +kernel
theorem kl_438 : gk_law.lookup 438 = some (.if_icmp .ge 50, 3) := by decide +kernel
theorem kl_441 : gk_law.lookup 441 = some (.aload_n 1, 1) := by decide +kernel
theorem kl_442 : gk_law.lookup 442 = some (.iconst 1, 1) := by decide +kernel
theorem kl_443 : gk_law.lookup 443 = some (.iload 8, 2) := by decide +kernel
theorem kl_445 : gk_law.lookup 445 = some (.bipush 8, 2) := by decide +kernel
theorem kl_447 : gk_law.lookup 447 = some (.irem, 1) := by decide +kernel
theorem kl_448 : gk_law.lookup 448 = some (.iload 8, 2) := by decide +kernel
theorem kl_450 : gk_law.lookup 450 = some (.bipush 8, 2) := by decide +kernel
theorem kl_452 : gk_law.lookup 452 = some (.idiv, 1) := by decide +kernel
theorem kl_453 : gk_law.lookup 453 = some (.iconst 2, 1) := by decide +kernel
theorem kl_454 : gk_law.lookup 454 = some (.irem, 1) := by decide +kernel
theorem kl_455 : gk_law.lookup 455 = some (.invokestatic 150, 3) := by decide +kernel
theorem kl_458 : gk_law.lookup 458 = some (.aload_n 2, 1) := by decide +kernel
theorem kl_459 : gk_law.lookup 459 = some (.iconst 1, 1) := by decide +kernel
theorem kl_460 : gk_law.lookup 460 = some (.iload 8, 2) := by decide +kernel
theorem kl_462 : gk_law.lookup 462 = some (.bipush 8, 2) := by decide +kernel
theorem kl_464 : gk_law.lookup 464 = some (.irem, 1) := by decide +kernel
theorem kl_465 : gk_law.lookup 465 = some (.iload 8, 2) := by decide +kernel
theorem kl_467 : gk_law.lookup 467 = some (.bipush 8, 2) := by decide +kernel
theorem kl_469 : gk_law.lookup 469 = some (.idiv, 1) := by decide +kernel
theorem kl_470 : gk_law.lookup 470 = some (.iconst 2, 1) := by decide +kernel
theorem kl_471 : gk_law.lookup 471 = some (.irem, 1) := by decide +kernel
theorem kl_472 : gk_law.lookup 472 = some (.invokestatic 150, 3) := by decide +kernel
theorem kl_475 : gk_law.lookup 475 = some (.if_icmp .ne 7, 3) := by decide +kernel
theorem kl_478 : gk_law.lookup 478 = some (.iconst 1, 1) := by decide +kernel
theorem kl_479 : gk_law.lookup 479 = some (.goto 4, 3) := by decide +kernel
theorem kl_482 : gk_law.lookup 482 = some (.iconst 0, 1) := by decide +kernel
theorem kl_483 : gk_law.lookup 483 = some (.istore 4, 2) := by decide +kernel
theorem kl_485 : gk_law.lookup 485 = some (.goto 251, 3) := by decide +kernel
theorem kl_488 : gk_law.lookup 488 = some (.iload 7, 2) := by decide +kernel
theorem kl_490 : gk_law.lookup 490 = some (.bipush 20, 2) := by decide +kernel
theorem kl_492 : gk_law.lookup 492 = some (.if_icmp .ge 40, 3) := by decide +kernel
theorem kl_495 : gk_law.lookup 495 = some (.iload 8, 2) := by decide +kernel
theorem kl_497 : gk_law.lookup 497 = some (.bipush 14, 2) := by decide +kernel
theorem kl_499 : gk_law.lookup 499 = some (.idiv, 1) := by decide +kernel
theorem kl_500 : gk_law.lookup 500 = some (.iconst 2, 1) := by decide +kernel
theorem kl_501 : gk_law.lookup 501 = some (.irem, 1) := by decide +kernel
theorem kl_502 : gk_law.lookup 502 = some (.ifCond .gt 20, 3) := by decide +kernel
theorem kl_505 : gk_law.lookup 505 = some (.aload_n 1, 1) := by decide +kernel
theorem kl_506 : gk_law.lookup 506 = some (.iconst 2, 1) := by decide +kernel
theorem kl_507 : gk_law.lookup 507 = some (.iload 9, 2) := by decide +kernel
theorem kl_509 : gk_law.lookup 509 = some (.invokestatic 139, 3) := by decide +kernel
theorem kl_512 : gk_law.lookup 512 = some (.aload_n 2, 1) := by decide +kernel
theorem kl_513 : gk_law.lookup 513 = some (.iconst 2, 1) := by decide +kernel
theorem kl_514 : gk_law.lookup 514 = some (.iload 9, 2) := by decide +kernel
theorem kl_516 : gk_law.lookup 516 = some (.invokestatic 139, 3) := by decide +kernel
theorem kl_519 : gk_law.lookup 519 = some (.if_icmp .ne 7, 3) := by decide +kernel
theorem kl_522 : gk_law.lookup 522 = some (.iconst 1, 1) := by decide +kernel
theorem kl_523 : gk_law.lookup 523 = some (.goto 4, 3) := by decide +kernel
theorem kl_526 : gk_law.lookup 526 = some (.iconst 0, 1) := by decide +kernel
theorem kl_527 : gk_law.lookup 527 = some (.istore 4, 2) := by decide +kernel
theorem kl_529 : gk_law.lookup 529 = some (.goto 207, 3) := by decide +kernel
theorem kl_532 : gk_law.lookup 532 = some (.iload 7, 2) := by decide +kernel
theorem kl_534 : gk_law.lookup 534 = some (.bipush 23, 2) := by decide +kernel
theorem kl_536 : gk_law.lookup 536 = some (.if_icmp .ge 52, 3) := by decide +kernel
theorem kl_539 : gk_law.lookup 539 = some (.aload_n 1, 1) := by decide +kernel
theorem kl_540 : gk_law.lookup 540 = some (.iconst 1, 1) := by decide +kernel
theorem kl_541 : gk_law.lookup 541 = some (.iload 9, 2) := by decide +kernel
theorem kl_543 : gk_law.lookup 543 = some (.iload 10, 2) := by decide +kernel
theorem kl_545 : gk_law.lookup 545 = some (.iload 8, 2) := by decide +kernel
theorem kl_547 : gk_law.lookup 547 = some (.sipush 196, 3) := by decide +kernel
theorem kl_550 : gk_law.lookup 550 = some (.idiv, 1) := by decide +kernel
theorem kl_551 : gk_law.lookup 551 = some (.bipush 10, 2) := by decide +kernel
theorem kl_553 : gk_law.lookup 553 = some (.irem, 1) := by decide +kernel
theorem kl_554 : gk_law.lookup 554 = some (.invokestatic 146, 3) := by decide +kernel
theorem kl_557 : gk_law.lookup 557 = some (.aload_n 2, 1) := by decide +kernel
theorem kl_558 : gk_law.lookup 558 = some (.iconst 1, 1) := by decide +kernel
theorem kl_559 : gk_law.lookup 559 = some (.iload 9, 2) := by decide +kernel
theorem kl_561 : gk_law.lookup 561 = some (.iload 10, 2) := by decide +kernel
theorem kl_563 : gk_law.lookup 563 = some (.iload 8, 2) := by decide +kernel
theorem kl_565 : gk_law.lookup 565 = some (.sipush 196, 3) := by decide +kernel
theorem kl_568 : gk_law.lookup 568 = some (.idiv, 1) := by decide +kernel
theorem kl_569 : gk_law.lookup 569 = some (.bipush 10, 2) := by decide +kernel
theorem kl_571 : gk_law.lookup 571 = some (.irem, 1) := by decide +kernel
theorem kl_572 : gk_law.lookup 572 = some (.invokestatic 146, 3) := by decide +kernel
theorem kl_575 : gk_law.lookup 575 = some (.if_icmp .ne 7, 3) := by decide +kernel
theorem kl_578 : gk_law.lookup 578 = some (.iconst 1, 1) := by decide +kernel
theorem kl_579 : gk_law.lookup 579 = some (.goto 4, 3) := by decide +kernel
theorem kl_582 : gk_law.lookup 582 = some (.iconst 0, 1) := by decide +kernel
theorem kl_583 : gk_law.lookup 583 = some (.istore 4, 2) := by decide +kernel
theorem kl_585 : gk_law.lookup 585 = some (.goto 151, 3) := by decide +kernel
theorem kl_588 : gk_law.lookup 588 = some (.iload 7, 2) := by decide +kernel
theorem kl_590 : gk_law.lookup 590 = some (.bipush 25, 2) := by decide +kernel
theorem kl_592 : gk_law.lookup 592 = some (.if_icmp .ge 34, 3) := by decide +kernel
theorem kl_595 : gk_law.lookup 595 = some (.aload_n 1, 1) := by decide +kernel
theorem kl_596 : gk_law.lookup 596 = some (.iconst 2, 1) := by decide +kernel
theorem kl_597 : gk_law.lookup 597 = some (.iload 9, 2) := by decide +kernel
theorem kl_599 : gk_law.lookup 599 = some (.iload 10, 2) := by decide +kernel
theorem kl_601 : gk_law.lookup 601 = some (.invokestatic 150, 3) := by decide +kernel
theorem kl_604 : gk_law.lookup 604 = some (.aload_n 2, 1) := by decide +kernel
theorem kl_605 : gk_law.lookup 605 = some (.iconst 2, 1) := by decide +kernel
theorem kl_606 : gk_law.lookup 606 = some (.iload 9, 2) := by decide +kernel
theorem kl_608 : gk_law.lookup 608 = some (.iload 10, 2) := by decide +kernel
theorem kl_610 : gk_law.lookup 610 = some (.invokestatic 150, 3) := by decide +kernel
theorem kl_613 : gk_law.lookup 613 = some (.if_icmp .ne 7, 3) := by decide +kernel
theorem kl_616 : gk_law.lookup 616 = some (.iconst 1, 1) := by decide +kernel
theorem kl_617 : gk_law.lookup 617 = some (.goto 4, 3) := by decide +kernel
theorem kl_620 : gk_law.lookup 620 = some (.iconst 0, 1) := by decide +kernel
theorem kl_621 : gk_law.lookup 621 = some (.istore 4, 2) := by decide +kernel
theorem kl_623 : gk_law.lookup 623 = some (.goto 113, 3) := by decide +kernel
theorem kl_626 : gk_law.lookup 626 = some (.iload 7, 2) := by decide +kernel
theorem kl_628 : gk_law.lookup 628 = some (.bipush 27, 2) := by decide +kernel
theorem kl_630 : gk_law.lookup 630 = some (.if_icmp .ge 30, 3) := by decide +kernel
theorem kl_633 : gk_law.lookup 633 = some (.aload_n 1, 1) := by decide +kernel
theorem kl_634 : gk_law.lookup 634 = some (.iconst 3, 1) := by decide +kernel
theorem kl_635 : gk_law.lookup 635 = some (.iload 9, 2) := by decide +kernel
theorem kl_637 : gk_law.lookup 637 = some (.invokestatic 139, 3) := by decide +kernel
theorem kl_640 : gk_law.lookup 640 = some (.aload_n 2, 1) := by decide +kernel
theorem kl_641 : gk_law.lookup 641 = some (.iconst 3, 1) := by decide +kernel
theorem kl_642 : gk_law.lookup 642 = some (.iload 9, 2) := by decide +kernel
theorem kl_644 : gk_law.lookup 644 = some (.invokestatic 139, 3) := by decide +kernel
theorem kl_647 : gk_law.lookup 647 = some (.if_icmp .ne 7, 3) := by decide +kernel
theorem kl_650 : gk_law.lookup 650 = some (.iconst 1, 1) := by decide +kernel
theorem kl_651 : gk_law.lookup 651 = some (.goto 4, 3) := by decide +kernel
theorem kl_654 : gk_law.lookup 654 = some (.iconst 0, 1) := by decide +kernel
theorem kl_655 : gk_law.lookup 655 = some (.istore 4, 2) := by decide +kernel
theorem kl_657 : gk_law.lookup 657 = some (.goto 79, 3) := by decide +kernel
theorem kl_660 : gk_law.lookup 660 = some (.iload 7, 2) := by decide +kernel
theorem kl_662 : gk_law.lookup 662 = some (.bipush 30, 2) := by decide +kernel
theorem kl_664 : gk_law.lookup 664 = some (.if_icmp .ge 40, 3) := by decide +kernel
theorem kl_667 : gk_law.lookup 667 = some (.aload_n 1, 1) := by decide +kernel
theorem kl_668 : gk_law.lookup 668 = some (.iload 9, 2) := by decide +kernel
theorem kl_670 : gk_law.lookup 670 = some (.iload 10, 2) := by decide +kernel
theorem kl_672 : gk_law.lookup 672 = some (.iload 11, 2) := by decide +kernel
theorem kl_674 : gk_law.lookup 674 = some (.iload 12, 2) := by decide +kernel
theorem kl_676 : gk_law.lookup 676 = some (.invokestatic 154, 3) := by decide +kernel
theorem kl_679 : gk_law.lookup 679 = some (.aload_n 2, 1) := by decide +kernel
theorem kl_680 : gk_law.lookup 680 = some (.iload 9, 2) := by decide +kernel
theorem kl_682 : gk_law.lookup 682 = some (.iload 10, 2) := by decide +kernel
theorem kl_684 : gk_law.lookup 684 = some (.iload 11, 2) := by decide +kernel
theorem kl_686 : gk_law.lookup 686 = some (.iload 12, 2) := by decide +kernel
theorem kl_688 : gk_law.lookup 688 = some (.invokestatic 154, 3) := by decide +kernel
theorem kl_691 : gk_law.lookup 691 = some (.if_icmp .ne 7, 3) := by decide +kernel
theorem kl_694 : gk_law.lookup 694 = some (.iconst 1, 1) := by decide +kernel
theorem kl_695 : gk_law.lookup 695 = some (.goto 4, 3) := by decide +kernel
theorem kl_698 : gk_law.lookup 698 = some (.iconst 0, 1) := by decide +kernel
theorem kl_699 : gk_law.lookup 699 = some (.istore 4, 2) := by decide +kernel
theorem kl_701 : gk_law.lookup 701 = some (.goto 35, 3) := by decide +kernel
theorem kl_704 : gk_law.lookup 704 = some (.aload_n 1, 1) := by decide +kernel
theorem kl_705 : gk_law.lookup 705 = some (.iconst 2, 1) := by decide +kernel
theorem kl_706 : gk_law.lookup 706 = some (.iload 9, 2) := by decide +kernel
theorem kl_708 : gk_law.lookup 708 = some (.iload 11, 2) := by decide +kernel
theorem kl_710 : gk_law.lookup 710 = some (.iload 12, 2) := by decide +kernel
theorem kl_712 : gk_law.lookup 712 = some (.invokestatic 146, 3) := by decide +kernel
theorem kl_715 : gk_law.lookup 715 = some (.aload_n 2, 1) := by decide +kernel
theorem kl_716 : gk_law.lookup 716 = some (.iconst 2, 1) := by decide +kernel
theorem kl_717 : gk_law.lookup 717 = some (.iload 9, 2) := by decide +kernel
theorem kl_719 : gk_law.lookup 719 = some (.iload 11, 2) := by decide +kernel
theorem kl_721 : gk_law.lookup 721 = some (.iload 12, 2) := by decide +kernel
theorem kl_723 : gk_law.lookup 723 = some (.invokestatic 146, 3) := by decide +kernel
theorem kl_726 : gk_law.lookup 726 = some (.if_icmp .ne 7, 3) := by decide +kernel
theorem kl_729 : gk_law.lookup 729 = some (.iconst 1, 1) := by decide +kernel
theorem kl_730 : gk_law.lookup 730 = some (.goto 4, 3) := by decide +kernel
theorem kl_733 : gk_law.lookup 733 = some (.iconst 0, 1) := by decide +kernel
theorem kl_734 : gk_law.lookup 734 = some (.istore 4, 2) := by decide +kernel
theorem kl_736 : gk_law.lookup 736 = some (.iload 4, 2) := by decide +kernel
theorem kl_738 : gk_law.lookup 738 = some (.ifCond .eq 28, 3) := by decide +kernel
theorem kl_741 : gk_law.lookup 741 = some (.iload 5, 2) := by decide +kernel
theorem kl_743 : gk_law.lookup 743 = some (.iconst 3, 1) := by decide +kernel
theorem kl_744 : gk_law.lookup 744 = some (.irem, 1) := by decide +kernel
theorem kl_745 : gk_law.lookup 745 = some (.iconst 2, 1) := by decide +kernel
theorem kl_746 : gk_law.lookup 746 = some (.if_icmp .lt 16, 3) := by decide +kernel
theorem kl_749 : gk_law.lookup 749 = some (.aload_n 1, 1) := by decide +kernel
theorem kl_750 : gk_law.lookup 750 = some (.aload_n 2, 1) := by decide +kernel
theorem kl_751 : gk_law.lookup 751 = some (.iload_n 3, 1) := by decide +kernel
theorem kl_752 : gk_law.lookup 752 = some (.iload 6, 2) := by decide +kernel
theorem kl_754 : gk_law.lookup 754 = some (.iconst 3, 1) := by decide +kernel
theorem kl_755 : gk_law.lookup 755 = some (.idiv, 1) := by decide +kernel
theorem kl_756 : gk_law.lookup 756 = some (.invokestatic 156, 3) := by decide +kernel
theorem kl_759 : gk_law.lookup 759 = some (.ifCond .eq 7, 3) := by decide +kernel
theorem kl_762 : gk_law.lookup 762 = some (.iconst 1, 1) := by decide +kernel
theorem kl_763 : gk_law.lookup 763 = some (.goto 4, 3) := by decide +kernel
theorem kl_766 : gk_law.lookup 766 = some (.iconst 0, 1) := by decide +kernel
theorem kl_767 : gk_law.lookup 767 = some (.istore 4, 2) := by decide +kernel
theorem kl_769 : gk_law.lookup 769 = some (.iinc 5 1, 3) := by decide +kernel
theorem kl_772 : gk_law.lookup 772 = some (.goto (-720), 3) := by decide +kernel
theorem kl_775 : gk_law.lookup 775 = some (.iload 4, 2) := by decide +kernel
theorem kl_777 : gk_law.lookup 777 = some (.ireturn, 1) := by decide +kernel
section LW1
variable {xs : List Int32} {c m k : Nat} {lo : gh_L} {σ : gb_S}
def cL : Nat → Nat → List Value → gh_H → Option (gh_O × gh_H) := fun N => gh_cw N 100
theorem hCfL (N μ : Nat) (as : List Value) (G : gh_H) (h : μ ≠ 136) : cL N μ as G = gh_cl true N 100 μ as G := if_neg h
theorem jIV_le {c c' : Nat} {σ : gb_S} (h : jIV c σ) (hc : c ≤ c') : jIV c' σ := by
  obtain ⟨d, rfl⟩ : ∃ d, c' = c + d := ⟨c' - c, by omega⟩
  clear hc
  induction d with
  | zero => exact h
  | succ d ih =>
    obtain ⟨n, nb, nd, P, ps, De, Cf, hi⟩ := ih
    exact ⟨n, nb, nd, P, ps, De, Cf, IV_mono hi⟩
theorem jJV_le {c c' : Nat} {σ : gb_S} (h : jJV c σ) (hc : c ≤ c') : jJV c' σ := ⟨jIV_le h.1 hc, h.2⟩
theorem jJV_9 (hJ : jJV c σ) : 0 ≤ σ 1 9 ∧ σ 1 9 ≤ 2000 := by
  obtain ⟨⟨n, nb, nd, P, ps, De, Cf, hi⟩, hD⟩ := hJ
  exact hi.2.2.1.2
theorem pj_128_2 {x : Int} (h0 : -2147483648 ≤ x ∧ x ≤ 2147483647) (hc : c ≤ 1000) (hJ : jJV c σ) : jPP c (fy_128 2 x) (fy_128 2 x) jRI σ := by
  obtain ⟨⟨n, nb, nd, P, ps, De, Cf, hi⟩, hD⟩ := hJ
  exact pp_128_2 h0 hc hi hD
theorem pj_128_3 {x : Int} (h0 : -2147483648 ≤ x ∧ x ≤ 2147483647) (hc : c ≤ 1000) (hJ : jJV c σ) : jPP c (fy_128 3 x) (fy_128 3 x) jRI σ := by
  obtain ⟨⟨n, nb, nd, P, ps, De, Cf, hi⟩, hD⟩ := hJ
  exact pp_128_3 h0 hc hi hD
theorem pj_129_0 {x : Int} {y : Int} (h0 : -2147483648 ≤ x ∧ x ≤ 2147483647) (h1 : -2147483648 ≤ y ∧ y ≤ 2147483647) (hc : c ≤ 1000) (hJ : jJV c σ) : jPP c (fy_129 0 x y) (fy_129 0 x y) jRI σ := by
  obtain ⟨⟨n, nb, nd, P, ps, De, Cf, hi⟩, hD⟩ := hJ
  exact pp_129_0 h0 h1 hc hi hD
theorem pj_129_2 {x : Int} {y : Int} (h0 : -2147483648 ≤ x ∧ x ≤ 2147483647) (h1 : -2147483648 ≤ y ∧ y ≤ 2147483647) (hc : c ≤ 1000) (hJ : jJV c σ) : jPP c (fy_129 2 x y) (fy_129 2 x y) jRI σ := by
  obtain ⟨⟨n, nb, nd, P, ps, De, Cf, hi⟩, hD⟩ := hJ
  exact pp_129_2 h0 h1 hc hi hD
theorem pj_130_0 {x : Int} {y : Int} {z : Int} (h0 : -2147483648 ≤ x ∧ x ≤ 2147483647) (h1 : -2147483648 ≤ y ∧ y ≤ 2147483647) (h2 : -2147483648 ≤ z ∧ z ≤ 2147483647) (hc : c ≤ 1000) (hJ : jJV c σ) : jPP c (fy_130 0 x y z) (fy_130 0 x y z) jRI σ := by
  obtain ⟨⟨n, nb, nd, P, ps, De, Cf, hi⟩, hD⟩ := hJ
  exact pp_130_0 h0 h1 h2 hc hi hD
theorem pj_130_1 {x : Int} {y : Int} {z : Int} (h0 : -2147483648 ≤ x ∧ x ≤ 2147483647) (h1 : -2147483648 ≤ y ∧ y ≤ 2147483647) (h2 : -2147483648 ≤ z ∧ z ≤ 2147483647) (hc : c ≤ 1000) (hJ : jJV c σ) : jPP c (fy_130 1 x y z) (fy_130 1 x y z) jRI σ := by
  obtain ⟨⟨n, nb, nd, P, ps, De, Cf, hi⟩, hD⟩ := hJ
  exact pp_130_1 h0 h1 h2 hc hi hD
theorem pj_130_2 {x : Int} {y : Int} {z : Int} (h0 : -2147483648 ≤ x ∧ x ≤ 2147483647) (h1 : -2147483648 ≤ y ∧ y ≤ 2147483647) (h2 : -2147483648 ≤ z ∧ z ≤ 2147483647) (hc : c ≤ 1000) (hJ : jJV c σ) : jPP c (fy_130 2 x y z) (fy_130 2 x y z) jRI σ := by
  obtain ⟨⟨n, nb, nd, P, ps, De, Cf, hi⟩, hD⟩ := hJ
  exact pp_130_2 h0 h1 h2 hc hi hD
theorem pj_131 {x : Int} {y : Int} {z : Int} {w : Int} (h0 : -2147483648 ≤ x ∧ x ≤ 2147483647) (h1 : -2147483648 ≤ y ∧ y ≤ 2147483647) (h2 : -2147483648 ≤ z ∧ z ≤ 2147483647) (h3 : -2147483648 ≤ w ∧ w ≤ 2147483647) (hc : c ≤ 1000) (hJ : jJV c σ) : jPP c (fy_131 x y z w) (fy_131 x y z w) jRI σ := by
  obtain ⟨⟨n, nb, nd, P, ps, De, Cf, hi⟩, hD⟩ := hJ
  exact pp_131 h0 h1 h2 h3 hc hi hD
theorem pj_129_1 {x : Int} {z : Int} (h0 : -2147483648 ≤ x ∧ x ≤ 2147483647) (h1 : z = 0 ∨ z = 1) (hc : c ≤ 1000) (hJ : jJV c σ) : jPP c (fy_129 1 x z) (fy_129 1 x z) jRI σ := by
  obtain ⟨⟨n, nb, nd, P, ps, De, Cf, hi⟩, hD⟩ := hJ
  exact pp_129_1 h0 h1 hc hi hD
theorem pj_128_1 {x : Int} (h0 : 0 ≤ x ∧ x ≤ σ 1 9) (h9 : σ 1 9 ≤ 1000) (hc : c ≤ 1000) (hJ : jJV c σ) : jPP c (fy_128 1 x) (fy_128 1 (2 * x)) jRI σ := by
  obtain ⟨⟨n, nb, nd, P, ps, De, Cf, hi⟩, hD⟩ := hJ
  exact pp_128_1 h0 h9 hc hi hD
/-- days pass for both, twice as many for the second -/
theorem pj_128_0 {d : Int} (h1 : 1 ≤ d ∧ d ≤ 50) (h2 : 2 * (σ 1 9 + d) ≤ 2000) (hJ : jJV c σ) : ∃ s t σ2, fy_128 0 d σ = some (.inl (σ 1 9 + d), s) ∧ fy_128 0 (2 * d) (dbl σ) = some (.inl (2 * (σ 1 9 + d)), t) ∧ (∀ a, a < 187 → σ2 a = s a ∧ dbl σ2 a = t a) ∧ jJV (c + 1) σ2 ∧ σ2 1 9 = σ 1 9 + d := by
  have h9 := jJV_9 hJ
  obtain ⟨⟨n, nb, nd, P, ps, De, Cf, hi⟩, hD⟩ := hJ
  obtain ⟨s, e1, e2, hD2, e3⟩ := jd_pass h1 ⟨h9.1, h2⟩ hD
  have hca : jCA c (fx_79 d) (fun E => E = 0 ∨ E = 1 ∨ E = 2) gR σ := by
    refine jCA_of (F := fx_79 d) (uc0 (x := d) (by omega) hi) (fun σ => by unfold fx_196; rfl) (fun r s k s1 h => kK1 h) (fun E s k s1 h => ?_) (fun τ ρ => jo_135 d ρ)
    (repeat' split at h) <;> first | (cases h; exact ⟨by omega, rfl⟩) | cases h
  obtain ⟨o, s', σ2, f1, -, f2, hI⟩ := hca
  rw [e1] at f1
  obtain ⟨rfl, rfl⟩ := Prod.mk.inj (Option.some.inj f1)
  refine ⟨s, dbl s, σ2, ?_, ?_, fun a ha => ⟨f2 a ha, dbl_lt f2 a ha⟩, ⟨hI, fun j => ?_⟩, by rw [f2 1 (by omega)]; exact e3⟩
  · unfold fy_128
    rw [gq_R (by omega) (by omega), if_pos rfl, e1]
    rfl
  · unfold fy_128
    rw [gq_R (by omega) (by omega), if_pos rfl, e2]
    rfl
  · rw [f2 3 (by omega), f2 4 (by omega)]
    exact hD2 j
/-- the loop's head, m rounds ahead -/
def K52 (xs : List Int32) (m k : Nat) : Prop := ∀ (p : Int) (lo : gh_L) (σ : gb_S), lo.lookup 0 = some (Value.ref 0) → lo.lookup 1 = some (Value.ref 1) → lo.lookup 2 = some (Value.ref 187) → lo.lookup 3 = some (vi p) → lo.lookup 4 = some (vi 1) → lo.lookup 5 = some (vi (k : Int)) → 0 ≤ p ∧ p ≤ (k : Int) → σ 1 9 ≤ 912 → jJV (1 + k + 16 * (k / 3)) σ → yq cL gk_law (20, xs.map Value.int) (fun _ _ => True) (42 * m) 52 lo [] σ (dbl σ)
/-- behind what was done this round -/
def K736 (xs : List Int32) (m k : Nat) : Prop := ∀ (p z : Int) (lo : gh_L) (σ : gb_S), lo.lookup 0 = some (Value.ref 0) → lo.lookup 1 = some (Value.ref 1) → lo.lookup 2 = some (Value.ref 187) → lo.lookup 3 = some (vi p) → lo.lookup 4 = some (vi 1) → lo.lookup 5 = some (vi (k : Int)) → lo.lookup 6 = some (vi z) → 0 ≤ p ∧ p ≤ (k : Int) + 1 → 0 ≤ z ∧ z ≤ 2147483000 → σ 1 9 ≤ 912 → jJV (1 + k + 16 * (k / 3) + 1) σ → yq cL gk_law (20, xs.map Value.int) (fun _ _ => True) (42 * m + 40) 736 lo [] σ (dbl σ)
theorem lw_736 (hk : k < 120) (h52 : K52 xs m (k + 1)) : K736 xs m k := by
  intro p z lo σ l0 l1 l2 l3 l4 l5 l6 hp hz h9 hJ
  by_cases h3 : ((k : Int) % 3) < 2
  · have h3 := h3
    refine yq_b (b := 42 * m) (by omega) ?_
    refine yq_il 738 4 kl_736 rfl l4 ?_
    refine yq_if0 766 741 kl_738 rfl rfl rfl (by unfold gb_R; omega) (fun h9 => absurd h9 (show ¬ ((1 : Int) = 0) by omega)) (fun _ => ?_)
    refine yq_il 743 5 kl_741 rfl l5 ?_
    refine yq_ci 3 744 kl_743 rfl ?_
    refine yq_rem 745 kl_744 rfl (by omega) (by omega) ?_
    refine yq_ci 2 746 kl_745 rfl ?_
    refine yq_if 762 749 kl_746 rfl rfl rfl (by unfold gb_R; omega) (by unfold gb_R; omega) (fun _ => ?_) (fun h9 => absurd (show (((k : Int) % 3) : Int) < 2 by omega) h9)
    refine yq_ci 1 763 kl_762 rfl ?_
    refine yq_go 767 kl_763 rfl rfl ?_
    refine yq_s 769 kl_767 rfl ?_
    refine yq_inc 772 kl_769 rfl (gl1 rfl rfl l5) ?_
    refine yq_go 52 kl_772 rfl rfl ?_
    exact h52 p _ σ (gl1 rfl rfl (gl1 rfl rfl l0)) (gl1 rfl rfl (gl1 rfl rfl l1)) (gl1 rfl rfl (gl1 rfl rfl l2)) (gl1 rfl rfl (gl1 rfl rfl l3)) (gl1 rfl rfl gs1) gs1 (by omega) h9 (jJV_le hJ (by omega))
  · have h3 := h3
    obtain ⟨N1, σ1, hsm, hJ1, h91⟩ := sm_call (q0 := (20, xs.map Value.int)) (p := p) (z := z / 3) (by omega) (by omega) (by omega) hJ
    refine yq_il 738 4 kl_736 rfl l4 ?_
    refine yq_if0 766 741 kl_738 rfl rfl rfl (by unfold gb_R; omega) (fun h9 => absurd h9 (show ¬ ((1 : Int) = 0) by omega)) (fun _ => ?_)
    refine yq_il 743 5 kl_741 rfl l5 ?_
    refine yq_ci 3 744 kl_743 rfl ?_
    refine yq_rem 745 kl_744 rfl (by omega) (by omega) ?_
    refine yq_ci 2 746 kl_745 rfl ?_
    refine yq_if 762 749 kl_746 rfl rfl rfl (by unfold gb_R; omega) (by unfold gb_R; omega) (fun h9 => absurd h9 (show ¬ ((((k : Int) % 3) : Int) < 2) by omega)) (fun _ => ?_)
    refine yq_al 750 1 kl_749 rfl l1 ?_
    refine yq_al 751 2 kl_750 rfl l2 ?_
    refine yq_il 752 3 kl_751 rfl l3 ?_
    refine yq_il 754 6 kl_752 rfl l6 ?_
    refine yq_ci 3 755 kl_754 rfl ?_
    refine yq_div 756 kl_755 rfl (by omega) (by omega) ?_
    refine yq_c (N1 := N1) 759 (42 * m) kl_756 (zs_ss rfl rfl rfl rfl rfl rfl rfl) (by show 40 + 42 * m = 42 * m + 40; omega) hsm rfl ?_
    refine yq_if0 766 762 kl_759 rfl rfl rfl (by unfold gb_R; omega) (fun h9 => absurd h9 (show ¬ ((1 : Int) = 0) by omega)) (fun _ => ?_)
    refine yq_ci 1 763 kl_762 rfl ?_
    refine yq_go 767 kl_763 rfl rfl ?_
    refine yq_s 769 kl_767 rfl ?_
    refine yq_inc 772 kl_769 rfl (gl1 rfl rfl l5) ?_
    refine yq_go 52 kl_772 rfl rfl ?_
    exact h52 p _ σ1 (gl1 rfl rfl (gl1 rfl rfl l0)) (gl1 rfl rfl (gl1 rfl rfl l1)) (gl1 rfl rfl (gl1 rfl rfl l2)) (gl1 rfl rfl (gl1 rfl rfl l3)) (gl1 rfl rfl gs1) gs1 (by omega) (by rw [h91]; exact h9) (jJV_le hJ1 (by omega))
theorem lw_239 (hk : k < 120) (h7 : K736 xs m k) {p z v pe ot fr to : Int} (hp : 0 ≤ p ∧ p ≤ (k : Int)) (hz : 0 ≤ z ∧ z ≤ 2147483000) (hv : 0 ≤ v ∧ v ≤ 1073741823) (hpe : 0 ≤ pe ∧ pe ≤ 1073741823) (hot : 0 ≤ ot ∧ ot ≤ 1073741823) (hfr : 0 ≤ fr ∧ fr < 60) (hto : 0 ≤ to ∧ to ≤ 100) (l0 : lo.lookup 0 = some (Value.ref 0)) (l1 : lo.lookup 1 = some (Value.ref 1)) (l2 : lo.lookup 2 = some (Value.ref 187)) (l3 : lo.lookup 3 = some (vi p)) (l5 : lo.lookup 5 = some (vi (k : Int))) (l6 : lo.lookup 6 = some (vi z)) (l8 : lo.lookup 8 = some (vi v)) (l9 : lo.lookup 9 = some (vi pe)) (l10 : lo.lookup 10 = some (vi ot)) (l11 : lo.lookup 11 = some (vi fr)) (l12 : lo.lookup 12 = some (vi to)) (h9 : σ 1 9 ≤ 912) (hJ : jJV (1 + k + 16 * (k / 3)) σ) : yq cL gk_law (20, xs.map Value.int) (fun _ _ => True) (42 * m + 42) 239 lo [] σ (dbl σ) := by
  have hn9 := jJV_9 hJ
  by_cases h0 : σ 1 9 ≤ 900
  · have h0 := h0
    obtain ⟨s1, t1, σ1, ea1, eb1, hW1, hJ1, h91⟩ := pj_128_0 (d := (1 + (v % 12))) (by omega) (by omega) hJ
    refine yq_al 240 1 kl_239 rfl l1 ?_
    refine yq_ca (x := σ 1 9) 243 (42 * m + 42) hCfL (by decide) kl_240 (gm_80) rfl (zs_v rfl rfl (at_a _ _ _) rfl) rfl rfl (by show 0 + (42 * m + 42) = 42 * m + 42; omega) rfl ?_
    refine yq_ci 900 246 kl_243 rfl ?_
    refine yq_if 253 249 kl_246 rfl rfl rfl (by unfold gb_R; omega) (by unfold gb_R; omega) (fun _ => ?_) (fun h9 => absurd (show (σ 1 9 : Int) ≤ 900 by omega) h9)
    refine yq_ci 1 254 kl_253 rfl ?_
    refine yq_il 256 8 kl_254 rfl l8 ?_
    refine yq_ci 12 258 kl_256 rfl ?_
    refine yq_rem 259 kl_258 rfl (by omega) (by omega) ?_
    refine yq_add 260 kl_259 rfl ?_
    refine yq_s 262 kl_260 rfl ?_
    refine yq_il 264 13 kl_262 rfl gs1 ?_
    refine yq_if0 274 267 kl_264 rfl rfl rfl (by unfold gb_R; omega) (fun _ => ?_) (fun h9 => absurd (show ¬ ((1 + (v % 12)) : Int) = 0 by omega) h9)
    refine yq_al 275 1 kl_274 rfl (gl1 rfl rfl l1) ?_
    refine yq_ci 0 276 kl_275 rfl ?_
    refine yq_il 278 13 kl_276 rfl gs1 ?_
    refine yq_ca (x := (σ 1 9 + (1 + (v % 12)))) 281 (42 * m + 41) hCfL (by decide) kl_278 (gm_128 _ _) rfl (zs_ss rfl rfl rfl rfl rfl rfl rfl) ea1 rfl (by show 1 + (42 * m + 41) = 42 * m + 42; omega) rfl ?_
    refine yq_s 283 kl_281 rfl ?_
    refine yq_il 285 13 kl_283 rfl (gl1 rfl rfl gs1) ?_
    refine yq_if0 304 288 kl_285 rfl rfl rfl (by unfold gb_R; omega) (fun h9 => absurd h9 (show ¬ (((1 + (v % 12)) : Int) = 0) by omega)) (fun _ => ?_)
    refine yq_al 289 2 kl_288 rfl (gl1 rfl rfl (gl1 rfl rfl l2)) ?_
    refine yq_ci 0 290 kl_289 rfl ?_
    refine yq_ci 2 291 kl_290 rfl ?_
    refine yq_il 293 13 kl_291 rfl (gl1 rfl rfl gs1) ?_
    refine yq_mul 294 kl_293 rfl ?_
    refine yq_cb (x := (2 * (σ 1 9 + (1 + (v % 12))))) 297 (42 * m + 40) hCfL (by decide) kl_294 (gm_128 _ _) rfl (zs_ss rfl rfl rfl rfl rfl rfl rfl) eb1 rfl (by show 1 + (42 * m + 40) = 42 * m + 41; omega) rfl ?_
    refine yq_W (fun a h => (hW1 a h).1) (fun a h => (hW1 a h).2) ?_
    refine yq_ci 2 298 kl_297 rfl ?_
    refine yq_il 300 14 kl_298 rfl gs1 ?_
    refine yq_mul 301 kl_300 rfl ?_
    refine yq_ne 304 kl_301 rfl rfl ?_
    refine yq_ci 1 305 kl_304 rfl ?_
    refine yq_go 309 kl_305 rfl rfl ?_
    refine yq_s 311 kl_309 rfl ?_
    refine yq_go 736 kl_311 rfl rfl ?_
    exact h7 p z _ σ1 (gl1 rfl rfl (gl1 rfl rfl (gl1 rfl rfl l0))) (gl1 rfl rfl (gl1 rfl rfl (gl1 rfl rfl l1))) (gl1 rfl rfl (gl1 rfl rfl (gl1 rfl rfl l2))) (gl1 rfl rfl (gl1 rfl rfl (gl1 rfl rfl l3))) gs1 (gl1 rfl rfl (gl1 rfl rfl (gl1 rfl rfl l5))) (gl1 rfl rfl (gl1 rfl rfl (gl1 rfl rfl l6))) (by omega) hz (by omega) hJ1
  · have h0 := h0
    refine yq_al 240 1 kl_239 rfl l1 ?_
    refine yq_ca (x := σ 1 9) 243 (42 * m + 42) hCfL (by decide) kl_240 (gm_80) rfl (zs_v rfl rfl (at_a _ _ _) rfl) rfl rfl (by show 0 + (42 * m + 42) = 42 * m + 42; omega) rfl ?_
    refine yq_ci 900 246 kl_243 rfl ?_
    refine yq_if 253 249 kl_246 rfl rfl rfl (by unfold gb_R; omega) (by unfold gb_R; omega) (fun h9 => absurd h9 (show ¬ ((σ 1 9 : Int) ≤ 900) by omega)) (fun _ => ?_)
    refine yq_ci 0 250 kl_249 rfl ?_
    refine yq_go 260 kl_250 rfl rfl ?_
    refine yq_s 262 kl_260 rfl ?_
    refine yq_il 264 13 kl_262 rfl gs1 ?_
    refine yq_if0 274 267 kl_264 rfl rfl rfl (by unfold gb_R; omega) (fun h9 => absurd h9 (show ¬ (¬ (0 : Int) = 0) by omega)) (fun _ => ?_)
    refine yq_al 268 1 kl_267 rfl (gl1 rfl rfl l1) ?_
    refine yq_ca (x := σ 1 9) 271 (42 * m + 42) hCfL (by decide) kl_268 (gm_80) rfl (zs_v rfl rfl (at_a _ _ _) rfl) rfl rfl (by show 0 + (42 * m + 42) = 42 * m + 42; omega) rfl ?_
    refine yq_go 281 kl_271 rfl rfl ?_
    refine yq_s 283 kl_281 rfl ?_
    refine yq_il 285 13 kl_283 rfl (gl1 rfl rfl gs1) ?_
    refine yq_if0 304 288 kl_285 rfl rfl rfl (by unfold gb_R; omega) (fun _ => ?_) (fun h9 => absurd (show (0 : Int) = 0 by omega) h9)
    refine yq_ci 1 305 kl_304 rfl ?_
    refine yq_go 309 kl_305 rfl rfl ?_
    refine yq_s 311 kl_309 rfl ?_
    refine yq_go 736 kl_311 rfl rfl ?_
    exact yq_b (by omega) (h7 p z _ σ (gl1 rfl rfl (gl1 rfl rfl (gl1 rfl rfl l0))) (gl1 rfl rfl (gl1 rfl rfl (gl1 rfl rfl l1))) (gl1 rfl rfl (gl1 rfl rfl (gl1 rfl rfl l2))) (gl1 rfl rfl (gl1 rfl rfl (gl1 rfl rfl l3))) gs1 (gl1 rfl rfl (gl1 rfl rfl (gl1 rfl rfl l5))) (gl1 rfl rfl (gl1 rfl rfl (gl1 rfl rfl l6))) (by omega) hz h9 (jJV_le hJ (by omega)))
theorem lw_176 (hk : k < 120) (h7 : K736 xs m k) {p z v pe ot fr to : Int} (hp : 0 ≤ p ∧ p ≤ (k : Int)) (hz : 0 ≤ z ∧ z ≤ 2147483000) (hv : 0 ≤ v ∧ v ≤ 1073741823) (hpe : 0 ≤ pe ∧ pe ≤ 1073741823) (hot : 0 ≤ ot ∧ ot ≤ 1073741823) (hfr : 0 ≤ fr ∧ fr < 60) (hto : 0 ≤ to ∧ to ≤ 100) (l0 : lo.lookup 0 = some (Value.ref 0)) (l1 : lo.lookup 1 = some (Value.ref 1)) (l2 : lo.lookup 2 = some (Value.ref 187)) (l3 : lo.lookup 3 = some (vi p)) (l5 : lo.lookup 5 = some (vi (k : Int))) (l6 : lo.lookup 6 = some (vi z)) (l8 : lo.lookup 8 = some (vi v)) (l9 : lo.lookup 9 = some (vi pe)) (l10 : lo.lookup 10 = some (vi ot)) (l11 : lo.lookup 11 = some (vi fr)) (l12 : lo.lookup 12 = some (vi to)) (h9 : σ 1 9 ≤ 912) (hJ : jJV (1 + k + 16 * (k / 3)) σ) : yq cL gk_law (20, xs.map Value.int) (fun _ _ => True) (42 * m + 42) 176 lo [] σ (dbl σ) := by
  have hn9 := jJV_9 hJ
  refine yq_il 178 8 kl_176 rfl l8 ?_
  refine yq_al 179 1 kl_178 rfl l1 ?_
  refine yq_ca (x := σ 1 9) 182 (42 * m + 42) hCfL (by decide) kl_179 (gm_80) rfl (zs_v rfl rfl (at_a _ _ _) rfl) rfl rfl (by show 0 + (42 * m + 42) = 42 * m + 42; omega) rfl ?_
  refine yq_ci 1 183 kl_182 rfl ?_
  refine yq_add 184 kl_183 rfl ?_
  refine yq_rem 185 kl_184 rfl (by omega) (by omega) ?_
  have hdy : 0 ≤ (v % (σ 1 9 + 1)) ∧ (v % (σ 1 9 + 1)) < (σ 1 9 + 1) := ⟨Int.emod_nonneg _ (by omega), Int.emod_lt_of_pos _ (by omega)⟩
  generalize hdy0 : (v % (σ 1 9 + 1)) = dy at hdy ⊢
  obtain ⟨v1, w1, s1, t1, σ1, ea1, eb1, hr1, hW1, hJ1, h91⟩ := pj_128_1 (x := dy) (by omega) (by omega) (by omega) hJ
  obtain ⟨rfl, hv1⟩ := hr1
  by_cases hb0 : v1 < 0
  · have hb0 := hb0
    refine yq_s 187 kl_185 rfl ?_
    refine yq_al 188 1 kl_187 rfl (gl1 rfl rfl l1) ?_
    refine yq_ci 1 189 kl_188 rfl ?_
    refine yq_il 191 13 kl_189 rfl gs1 ?_
    refine yq_ca (x := v1) 194 (42 * m + 41) hCfL (by decide) kl_191 (gm_128 _ _) rfl (zs_ss rfl rfl rfl rfl rfl rfl rfl) ea1 rfl (by show 1 + (42 * m + 41) = 42 * m + 42; omega) rfl ?_
    refine yq_s 196 kl_194 rfl ?_
    refine yq_il 197 3 kl_196 rfl (gl1 rfl rfl (gl1 rfl rfl l3)) ?_
    refine yq_il 199 14 kl_197 rfl gs1 ?_
    refine yq_if0 206 202 kl_199 rfl rfl rfl (by unfold gb_R; omega) (fun _ => ?_) (fun h9 => absurd (show (v1 : Int) < 0 by omega) h9)
    refine yq_ci 0 207 kl_206 rfl ?_
    refine yq_add 208 kl_207 rfl ?_
    refine yq_s 209 kl_208 rfl ?_
    refine yq_al 210 2 kl_209 rfl (gl1 rfl rfl (gl1 rfl rfl (gl1 rfl rfl l2))) ?_
    refine yq_ci 1 211 kl_210 rfl ?_
    refine yq_ci 2 212 kl_211 rfl ?_
    refine yq_il 214 13 kl_212 rfl (gl1 rfl rfl (gl1 rfl rfl gs1)) ?_
    refine yq_mul 215 kl_214 rfl ?_
    refine yq_cb (x := v1) 218 (42 * m + 40) hCfL (by decide) kl_215 (gm_128 _ _) rfl (zs_ss rfl rfl rfl rfl rfl rfl rfl) eb1 rfl (by show 1 + (42 * m + 40) = 42 * m + 41; omega) rfl ?_
    refine yq_W (fun a h => (hW1 a h).1) (fun a h => (hW1 a h).2) ?_
    refine yq_il 220 14 kl_218 rfl (gl1 rfl rfl gs1) ?_
    refine yq_ne 223 kl_220 rfl rfl ?_
    refine yq_ci 1 224 kl_223 rfl ?_
    refine yq_go 228 kl_224 rfl rfl ?_
    refine yq_s 230 kl_228 rfl ?_
    refine yq_go 736 kl_230 rfl rfl ?_
    exact h7 (p + 0) z _ σ1 (gl1 rfl rfl (gl1 rfl rfl (gl1 rfl rfl (gl1 rfl rfl l0)))) (gl1 rfl rfl (gl1 rfl rfl (gl1 rfl rfl (gl1 rfl rfl l1)))) (gl1 rfl rfl (gl1 rfl rfl (gl1 rfl rfl (gl1 rfl rfl l2)))) (gl1 rfl rfl gs1) gs1 (gl1 rfl rfl (gl1 rfl rfl (gl1 rfl rfl (gl1 rfl rfl l5)))) (gl1 rfl rfl (gl1 rfl rfl (gl1 rfl rfl (gl1 rfl rfl l6)))) (by omega) hz (by rw [h91]; exact h9) hJ1
  · have hb0 := hb0
    refine yq_s 187 kl_185 rfl ?_
    refine yq_al 188 1 kl_187 rfl (gl1 rfl rfl l1) ?_
    refine yq_ci 1 189 kl_188 rfl ?_
    refine yq_il 191 13 kl_189 rfl gs1 ?_
    refine yq_ca (x := v1) 194 (42 * m + 41) hCfL (by decide) kl_191 (gm_128 _ _) rfl (zs_ss rfl rfl rfl rfl rfl rfl rfl) ea1 rfl (by show 1 + (42 * m + 41) = 42 * m + 42; omega) rfl ?_
    refine yq_s 196 kl_194 rfl ?_
    refine yq_il 197 3 kl_196 rfl (gl1 rfl rfl (gl1 rfl rfl l3)) ?_
    refine yq_il 199 14 kl_197 rfl gs1 ?_
    refine yq_if0 206 202 kl_199 rfl rfl rfl (by unfold gb_R; omega) (fun h9 => absurd h9 (show ¬ ((v1 : Int) < 0) by omega)) (fun _ => ?_)
    refine yq_ci 1 203 kl_202 rfl ?_
    refine yq_go 207 kl_203 rfl rfl ?_
    refine yq_add 208 kl_207 rfl ?_
    refine yq_s 209 kl_208 rfl ?_
    refine yq_al 210 2 kl_209 rfl (gl1 rfl rfl (gl1 rfl rfl (gl1 rfl rfl l2))) ?_
    refine yq_ci 1 211 kl_210 rfl ?_
    refine yq_ci 2 212 kl_211 rfl ?_
    refine yq_il 214 13 kl_212 rfl (gl1 rfl rfl (gl1 rfl rfl gs1)) ?_
    refine yq_mul 215 kl_214 rfl ?_
    refine yq_cb (x := v1) 218 (42 * m + 40) hCfL (by decide) kl_215 (gm_128 _ _) rfl (zs_ss rfl rfl rfl rfl rfl rfl rfl) eb1 rfl (by show 1 + (42 * m + 40) = 42 * m + 41; omega) rfl ?_
    refine yq_W (fun a h => (hW1 a h).1) (fun a h => (hW1 a h).2) ?_
    refine yq_il 220 14 kl_218 rfl (gl1 rfl rfl gs1) ?_
    refine yq_ne 223 kl_220 rfl rfl ?_
    refine yq_ci 1 224 kl_223 rfl ?_
    refine yq_go 228 kl_224 rfl rfl ?_
    refine yq_s 230 kl_228 rfl ?_
    refine yq_go 736 kl_230 rfl rfl ?_
    exact h7 (p + 1) z _ σ1 (gl1 rfl rfl (gl1 rfl rfl (gl1 rfl rfl (gl1 rfl rfl l0)))) (gl1 rfl rfl (gl1 rfl rfl (gl1 rfl rfl (gl1 rfl rfl l1)))) (gl1 rfl rfl (gl1 rfl rfl (gl1 rfl rfl (gl1 rfl rfl l2)))) (gl1 rfl rfl gs1) gs1 (gl1 rfl rfl (gl1 rfl rfl (gl1 rfl rfl (gl1 rfl rfl l5)))) (gl1 rfl rfl (gl1 rfl rfl (gl1 rfl rfl (gl1 rfl rfl l6)))) (by omega) hz (by rw [h91]; exact h9) hJ1
theorem lw_321 (hk : k < 120) (h7 : K736 xs m k) {p z v pe ot fr to : Int} (hp : 0 ≤ p ∧ p ≤ (k : Int)) (hz : 0 ≤ z ∧ z ≤ 2147483000) (hv : 0 ≤ v ∧ v ≤ 1073741823) (hpe : 0 ≤ pe ∧ pe ≤ 1073741823) (hot : 0 ≤ ot ∧ ot ≤ 1073741823) (hfr : 0 ≤ fr ∧ fr < 60) (hto : 0 ≤ to ∧ to ≤ 100) (l0 : lo.lookup 0 = some (Value.ref 0)) (l1 : lo.lookup 1 = some (Value.ref 1)) (l2 : lo.lookup 2 = some (Value.ref 187)) (l3 : lo.lookup 3 = some (vi p)) (l5 : lo.lookup 5 = some (vi (k : Int))) (l6 : lo.lookup 6 = some (vi z)) (l8 : lo.lookup 8 = some (vi v)) (l9 : lo.lookup 9 = some (vi pe)) (l10 : lo.lookup 10 = some (vi ot)) (l11 : lo.lookup 11 = some (vi fr)) (l12 : lo.lookup 12 = some (vi to)) (h9 : σ 1 9 ≤ 912) (hJ : jJV (1 + k + 16 * (k / 3)) σ) : yq cL gk_law (20, xs.map Value.int) (fun _ _ => True) (42 * m + 42) 321 lo [] σ (dbl σ) := by
  obtain ⟨v1, w1, s1, t1, σ1, ea1, eb1, hr1, hW1, hJ1, h91⟩ := pj_130_0 (x := pe) (y := ot) (z := (1 + ((v / 196) % 9))) (by omega) (by omega) (by omega) (by omega) hJ
  obtain ⟨rfl, hv1⟩ := hr1
  refine yq_al 322 1 kl_321 rfl l1 ?_
  refine yq_ci 0 323 kl_322 rfl ?_
  refine yq_il 325 9 kl_323 rfl l9 ?_
  refine yq_il 327 10 kl_325 rfl l10 ?_
  refine yq_ci 1 328 kl_327 rfl ?_
  refine yq_il 330 8 kl_328 rfl l8 ?_
  refine yq_ci 196 333 kl_330 rfl ?_
  refine yq_div 334 kl_333 rfl (by omega) (by omega) ?_
  refine yq_ci 9 336 kl_334 rfl ?_
  refine yq_rem 337 kl_336 rfl (by omega) (by omega) ?_
  refine yq_add 338 kl_337 rfl ?_
  refine yq_ca (x := v1) 341 (42 * m + 41) hCfL (by decide) kl_338 (gm_130 _ _ _ _) rfl (zs_ss rfl rfl rfl rfl rfl rfl rfl) ea1 rfl (by show 1 + (42 * m + 41) = 42 * m + 42; omega) rfl ?_
  refine yq_al 342 2 kl_341 rfl l2 ?_
  refine yq_ci 0 343 kl_342 rfl ?_
  refine yq_il 345 9 kl_343 rfl l9 ?_
  refine yq_il 347 10 kl_345 rfl l10 ?_
  refine yq_ci 1 348 kl_347 rfl ?_
  refine yq_il 350 8 kl_348 rfl l8 ?_
  refine yq_ci 196 353 kl_350 rfl ?_
  refine yq_div 354 kl_353 rfl (by omega) (by omega) ?_
  refine yq_ci 9 356 kl_354 rfl ?_
  refine yq_rem 357 kl_356 rfl (by omega) (by omega) ?_
  refine yq_add 358 kl_357 rfl ?_
  refine yq_cb (x := v1) 361 (42 * m + 40) hCfL (by decide) kl_358 (gm_130 _ _ _ _) rfl (zs_ss rfl rfl rfl rfl rfl rfl rfl) eb1 rfl (by show 1 + (42 * m + 40) = 42 * m + 41; omega) rfl ?_
  refine yq_W (fun a h => (hW1 a h).1) (fun a h => (hW1 a h).2) ?_
  refine yq_ne 364 kl_361 rfl rfl ?_
  refine yq_ci 1 365 kl_364 rfl ?_
  refine yq_go 369 kl_365 rfl rfl ?_
  refine yq_s 371 kl_369 rfl ?_
  refine yq_go 736 kl_371 rfl rfl ?_
  exact h7 p z _ σ1 (gl1 rfl rfl l0) (gl1 rfl rfl l1) (gl1 rfl rfl l2) (gl1 rfl rfl l3) gs1 (gl1 rfl rfl l5) (gl1 rfl rfl l6) (by omega) hz (by rw [h91]; exact h9) hJ1
theorem lw_381 (hk : k < 120) (h7 : K736 xs m k) {p z v pe ot fr to : Int} (hp : 0 ≤ p ∧ p ≤ (k : Int)) (hz : 0 ≤ z ∧ z ≤ 2147483000) (hv : 0 ≤ v ∧ v ≤ 1073741823) (hpe : 0 ≤ pe ∧ pe ≤ 1073741823) (hot : 0 ≤ ot ∧ ot ≤ 1073741823) (hfr : 0 ≤ fr ∧ fr < 60) (hto : 0 ≤ to ∧ to ≤ 100) (l0 : lo.lookup 0 = some (Value.ref 0)) (l1 : lo.lookup 1 = some (Value.ref 1)) (l2 : lo.lookup 2 = some (Value.ref 187)) (l3 : lo.lookup 3 = some (vi p)) (l5 : lo.lookup 5 = some (vi (k : Int))) (l6 : lo.lookup 6 = some (vi z)) (l8 : lo.lookup 8 = some (vi v)) (l9 : lo.lookup 9 = some (vi pe)) (l10 : lo.lookup 10 = some (vi ot)) (l11 : lo.lookup 11 = some (vi fr)) (l12 : lo.lookup 12 = some (vi to)) (h9 : σ 1 9 ≤ 912) (hJ : jJV (1 + k + 16 * (k / 3)) σ) : yq cL gk_law (20, xs.map Value.int) (fun _ _ => True) (42 * m + 42) 381 lo [] σ (dbl σ) := by
  obtain ⟨v1, w1, s1, t1, σ1, ea1, eb1, hr1, hW1, hJ1, h91⟩ := pj_129_0 (x := (v % 12)) (y := (1 + ((v / 12) % 9))) (by omega) (by omega) (by omega) hJ
  obtain ⟨rfl, hv1⟩ := hr1
  refine yq_al 382 1 kl_381 rfl l1 ?_
  refine yq_ci 0 383 kl_382 rfl ?_
  refine yq_il 385 8 kl_383 rfl l8 ?_
  refine yq_ci 12 387 kl_385 rfl ?_
  refine yq_rem 388 kl_387 rfl (by omega) (by omega) ?_
  refine yq_ci 1 389 kl_388 rfl ?_
  refine yq_il 391 8 kl_389 rfl l8 ?_
  refine yq_ci 12 393 kl_391 rfl ?_
  refine yq_div 394 kl_393 rfl (by omega) (by omega) ?_
  refine yq_ci 9 396 kl_394 rfl ?_
  refine yq_rem 397 kl_396 rfl (by omega) (by omega) ?_
  refine yq_add 398 kl_397 rfl ?_
  refine yq_ca (x := v1) 401 (42 * m + 41) hCfL (by decide) kl_398 (gm_129 _ _ _) rfl (zs_ss rfl rfl rfl rfl rfl rfl rfl) ea1 rfl (by show 1 + (42 * m + 41) = 42 * m + 42; omega) rfl ?_
  refine yq_al 402 2 kl_401 rfl l2 ?_
  refine yq_ci 0 403 kl_402 rfl ?_
  refine yq_il 405 8 kl_403 rfl l8 ?_
  refine yq_ci 12 407 kl_405 rfl ?_
  refine yq_rem 408 kl_407 rfl (by omega) (by omega) ?_
  refine yq_ci 1 409 kl_408 rfl ?_
  refine yq_il 411 8 kl_409 rfl l8 ?_
  refine yq_ci 12 413 kl_411 rfl ?_
  refine yq_div 414 kl_413 rfl (by omega) (by omega) ?_
  refine yq_ci 9 416 kl_414 rfl ?_
  refine yq_rem 417 kl_416 rfl (by omega) (by omega) ?_
  refine yq_add 418 kl_417 rfl ?_
  refine yq_cb (x := v1) 421 (42 * m + 40) hCfL (by decide) kl_418 (gm_129 _ _ _) rfl (zs_ss rfl rfl rfl rfl rfl rfl rfl) eb1 rfl (by show 1 + (42 * m + 40) = 42 * m + 41; omega) rfl ?_
  refine yq_W (fun a h => (hW1 a h).1) (fun a h => (hW1 a h).2) ?_
  refine yq_ne 424 kl_421 rfl rfl ?_
  refine yq_ci 1 425 kl_424 rfl ?_
  refine yq_go 429 kl_425 rfl rfl ?_
  refine yq_s 431 kl_429 rfl ?_
  refine yq_go 736 kl_431 rfl rfl ?_
  exact h7 p z _ σ1 (gl1 rfl rfl l0) (gl1 rfl rfl l1) (gl1 rfl rfl l2) (gl1 rfl rfl l3) gs1 (gl1 rfl rfl l5) (gl1 rfl rfl l6) (by omega) hz (by rw [h91]; exact h9) hJ1
theorem lw_441 (hk : k < 120) (h7 : K736 xs m k) {p z v pe ot fr to : Int} (hp : 0 ≤ p ∧ p ≤ (k : Int)) (hz : 0 ≤ z ∧ z ≤ 2147483000) (hv : 0 ≤ v ∧ v ≤ 1073741823) (hpe : 0 ≤ pe ∧ pe ≤ 1073741823) (hot : 0 ≤ ot ∧ ot ≤ 1073741823) (hfr : 0 ≤ fr ∧ fr < 60) (hto : 0 ≤ to ∧ to ≤ 100) (l0 : lo.lookup 0 = some (Value.ref 0)) (l1 : lo.lookup 1 = some (Value.ref 1)) (l2 : lo.lookup 2 = some (Value.ref 187)) (l3 : lo.lookup 3 = some (vi p)) (l5 : lo.lookup 5 = some (vi (k : Int))) (l6 : lo.lookup 6 = some (vi z)) (l8 : lo.lookup 8 = some (vi v)) (l9 : lo.lookup 9 = some (vi pe)) (l10 : lo.lookup 10 = some (vi ot)) (l11 : lo.lookup 11 = some (vi fr)) (l12 : lo.lookup 12 = some (vi to)) (h9 : σ 1 9 ≤ 912) (hJ : jJV (1 + k + 16 * (k / 3)) σ) : yq cL gk_law (20, xs.map Value.int) (fun _ _ => True) (42 * m + 42) 441 lo [] σ (dbl σ) := by
  obtain ⟨v1, w1, s1, t1, σ1, ea1, eb1, hr1, hW1, hJ1, h91⟩ := pj_129_1 (x := (v % 8)) (z := ((v / 8) % 2)) (by omega) (by omega) (by omega) hJ
  obtain ⟨rfl, hv1⟩ := hr1
  refine yq_al 442 1 kl_441 rfl l1 ?_
  refine yq_ci 1 443 kl_442 rfl ?_
  refine yq_il 445 8 kl_443 rfl l8 ?_
  refine yq_ci 8 447 kl_445 rfl ?_
  refine yq_rem 448 kl_447 rfl (by omega) (by omega) ?_
  refine yq_il 450 8 kl_448 rfl l8 ?_
  refine yq_ci 8 452 kl_450 rfl ?_
  refine yq_div 453 kl_452 rfl (by omega) (by omega) ?_
  refine yq_ci 2 454 kl_453 rfl ?_
  refine yq_rem 455 kl_454 rfl (by omega) (by omega) ?_
  refine yq_ca (x := v1) 458 (42 * m + 41) hCfL (by decide) kl_455 (gm_129 _ _ _) rfl (zs_ss rfl rfl rfl rfl rfl rfl rfl) ea1 rfl (by show 1 + (42 * m + 41) = 42 * m + 42; omega) rfl ?_
  refine yq_al 459 2 kl_458 rfl l2 ?_
  refine yq_ci 1 460 kl_459 rfl ?_
  refine yq_il 462 8 kl_460 rfl l8 ?_
  refine yq_ci 8 464 kl_462 rfl ?_
  refine yq_rem 465 kl_464 rfl (by omega) (by omega) ?_
  refine yq_il 467 8 kl_465 rfl l8 ?_
  refine yq_ci 8 469 kl_467 rfl ?_
  refine yq_div 470 kl_469 rfl (by omega) (by omega) ?_
  refine yq_ci 2 471 kl_470 rfl ?_
  refine yq_rem 472 kl_471 rfl (by omega) (by omega) ?_
  refine yq_cb (x := v1) 475 (42 * m + 40) hCfL (by decide) kl_472 (gm_129 _ _ _) rfl (zs_ss rfl rfl rfl rfl rfl rfl rfl) eb1 rfl (by show 1 + (42 * m + 40) = 42 * m + 41; omega) rfl ?_
  refine yq_W (fun a h => (hW1 a h).1) (fun a h => (hW1 a h).2) ?_
  refine yq_ne 478 kl_475 rfl rfl ?_
  refine yq_ci 1 479 kl_478 rfl ?_
  refine yq_go 483 kl_479 rfl rfl ?_
  refine yq_s 485 kl_483 rfl ?_
  refine yq_go 736 kl_485 rfl rfl ?_
  exact h7 p z _ σ1 (gl1 rfl rfl l0) (gl1 rfl rfl l1) (gl1 rfl rfl l2) (gl1 rfl rfl l3) gs1 (gl1 rfl rfl l5) (gl1 rfl rfl l6) (by omega) hz (by rw [h91]; exact h9) hJ1
theorem lw_495 (hk : k < 120) (h7 : K736 xs m k) {p z v pe ot fr to : Int} (hp : 0 ≤ p ∧ p ≤ (k : Int)) (hz : 0 ≤ z ∧ z ≤ 2147483000) (hv : 0 ≤ v ∧ v ≤ 1073741823) (hpe : 0 ≤ pe ∧ pe ≤ 1073741823) (hot : 0 ≤ ot ∧ ot ≤ 1073741823) (hfr : 0 ≤ fr ∧ fr < 60) (hto : 0 ≤ to ∧ to ≤ 100) (l0 : lo.lookup 0 = some (Value.ref 0)) (l1 : lo.lookup 1 = some (Value.ref 1)) (l2 : lo.lookup 2 = some (Value.ref 187)) (l3 : lo.lookup 3 = some (vi p)) (l5 : lo.lookup 5 = some (vi (k : Int))) (l6 : lo.lookup 6 = some (vi z)) (l8 : lo.lookup 8 = some (vi v)) (l9 : lo.lookup 9 = some (vi pe)) (l10 : lo.lookup 10 = some (vi ot)) (l11 : lo.lookup 11 = some (vi fr)) (l12 : lo.lookup 12 = some (vi to)) (h9 : σ 1 9 ≤ 912) (hJ : jJV (1 + k + 16 * (k / 3)) σ) : yq cL gk_law (20, xs.map Value.int) (fun _ _ => True) (42 * m + 42) 495 lo [] σ (dbl σ) := by
  by_cases h0 : 0 < (v / 14) % 2
  · have h0 := h0
    refine yq_il 497 8 kl_495 rfl l8 ?_
    refine yq_ci 14 499 kl_497 rfl ?_
    refine yq_div 500 kl_499 rfl (by omega) (by omega) ?_
    refine yq_ci 2 501 kl_500 rfl ?_
    refine yq_rem 502 kl_501 rfl (by omega) (by omega) ?_
    refine yq_if0 522 505 kl_502 rfl rfl rfl (by unfold gb_R; omega) (fun _ => ?_) (fun h9 => absurd (show 0 < (((v / 14) % 2) : Int) by omega) h9)
    refine yq_ci 1 523 kl_522 rfl ?_
    refine yq_go 527 kl_523 rfl rfl ?_
    refine yq_s 529 kl_527 rfl ?_
    refine yq_go 736 kl_529 rfl rfl ?_
    exact yq_b (by omega) (h7 p z _ σ (gl1 rfl rfl l0) (gl1 rfl rfl l1) (gl1 rfl rfl l2) (gl1 rfl rfl l3) gs1 (gl1 rfl rfl l5) (gl1 rfl rfl l6) (by omega) hz h9 (jJV_le hJ (by omega)))
  · have h0 := h0
    obtain ⟨v1, w1, s1, t1, σ1, ea1, eb1, hr1, hW1, hJ1, h91⟩ := pj_128_2 (x := pe) (by omega) (by omega) hJ
    obtain ⟨rfl, hv1⟩ := hr1
    refine yq_il 497 8 kl_495 rfl l8 ?_
    refine yq_ci 14 499 kl_497 rfl ?_
    refine yq_div 500 kl_499 rfl (by omega) (by omega) ?_
    refine yq_ci 2 501 kl_500 rfl ?_
    refine yq_rem 502 kl_501 rfl (by omega) (by omega) ?_
    refine yq_if0 522 505 kl_502 rfl rfl rfl (by unfold gb_R; omega) (fun h9 => absurd h9 (show ¬ (0 < (((v / 14) % 2) : Int)) by omega)) (fun _ => ?_)
    refine yq_al 506 1 kl_505 rfl l1 ?_
    refine yq_ci 2 507 kl_506 rfl ?_
    refine yq_il 509 9 kl_507 rfl l9 ?_
    refine yq_ca (x := v1) 512 (42 * m + 41) hCfL (by decide) kl_509 (gm_128 _ _) rfl (zs_ss rfl rfl rfl rfl rfl rfl rfl) ea1 rfl (by show 1 + (42 * m + 41) = 42 * m + 42; omega) rfl ?_
    refine yq_al 513 2 kl_512 rfl l2 ?_
    refine yq_ci 2 514 kl_513 rfl ?_
    refine yq_il 516 9 kl_514 rfl l9 ?_
    refine yq_cb (x := v1) 519 (42 * m + 40) hCfL (by decide) kl_516 (gm_128 _ _) rfl (zs_ss rfl rfl rfl rfl rfl rfl rfl) eb1 rfl (by show 1 + (42 * m + 40) = 42 * m + 41; omega) rfl ?_
    refine yq_W (fun a h => (hW1 a h).1) (fun a h => (hW1 a h).2) ?_
    refine yq_ne 522 kl_519 rfl rfl ?_
    refine yq_ci 1 523 kl_522 rfl ?_
    refine yq_go 527 kl_523 rfl rfl ?_
    refine yq_s 529 kl_527 rfl ?_
    refine yq_go 736 kl_529 rfl rfl ?_
    exact h7 p z _ σ1 (gl1 rfl rfl l0) (gl1 rfl rfl l1) (gl1 rfl rfl l2) (gl1 rfl rfl l3) gs1 (gl1 rfl rfl l5) (gl1 rfl rfl l6) (by omega) hz (by rw [h91]; exact h9) hJ1
theorem lw_539 (hk : k < 120) (h7 : K736 xs m k) {p z v pe ot fr to : Int} (hp : 0 ≤ p ∧ p ≤ (k : Int)) (hz : 0 ≤ z ∧ z ≤ 2147483000) (hv : 0 ≤ v ∧ v ≤ 1073741823) (hpe : 0 ≤ pe ∧ pe ≤ 1073741823) (hot : 0 ≤ ot ∧ ot ≤ 1073741823) (hfr : 0 ≤ fr ∧ fr < 60) (hto : 0 ≤ to ∧ to ≤ 100) (l0 : lo.lookup 0 = some (Value.ref 0)) (l1 : lo.lookup 1 = some (Value.ref 1)) (l2 : lo.lookup 2 = some (Value.ref 187)) (l3 : lo.lookup 3 = some (vi p)) (l5 : lo.lookup 5 = some (vi (k : Int))) (l6 : lo.lookup 6 = some (vi z)) (l8 : lo.lookup 8 = some (vi v)) (l9 : lo.lookup 9 = some (vi pe)) (l10 : lo.lookup 10 = some (vi ot)) (l11 : lo.lookup 11 = some (vi fr)) (l12 : lo.lookup 12 = some (vi to)) (h9 : σ 1 9 ≤ 912) (hJ : jJV (1 + k + 16 * (k / 3)) σ) : yq cL gk_law (20, xs.map Value.int) (fun _ _ => True) (42 * m + 42) 539 lo [] σ (dbl σ) := by
  obtain ⟨v1, w1, s1, t1, σ1, ea1, eb1, hr1, hW1, hJ1, h91⟩ := pj_130_1 (x := pe) (y := ot) (z := ((v / 196) % 10)) (by omega) (by omega) (by omega) (by omega) hJ
  obtain ⟨rfl, hv1⟩ := hr1
  refine yq_al 540 1 kl_539 rfl l1 ?_
  refine yq_ci 1 541 kl_540 rfl ?_
  refine yq_il 543 9 kl_541 rfl l9 ?_
  refine yq_il 545 10 kl_543 rfl l10 ?_
  refine yq_il 547 8 kl_545 rfl l8 ?_
  refine yq_ci 196 550 kl_547 rfl ?_
  refine yq_div 551 kl_550 rfl (by omega) (by omega) ?_
  refine yq_ci 10 553 kl_551 rfl ?_
  refine yq_rem 554 kl_553 rfl (by omega) (by omega) ?_
  refine yq_ca (x := v1) 557 (42 * m + 41) hCfL (by decide) kl_554 (gm_130 _ _ _ _) rfl (zs_ss rfl rfl rfl rfl rfl rfl rfl) ea1 rfl (by show 1 + (42 * m + 41) = 42 * m + 42; omega) rfl ?_
  refine yq_al 558 2 kl_557 rfl l2 ?_
  refine yq_ci 1 559 kl_558 rfl ?_
  refine yq_il 561 9 kl_559 rfl l9 ?_
  refine yq_il 563 10 kl_561 rfl l10 ?_
  refine yq_il 565 8 kl_563 rfl l8 ?_
  refine yq_ci 196 568 kl_565 rfl ?_
  refine yq_div 569 kl_568 rfl (by omega) (by omega) ?_
  refine yq_ci 10 571 kl_569 rfl ?_
  refine yq_rem 572 kl_571 rfl (by omega) (by omega) ?_
  refine yq_cb (x := v1) 575 (42 * m + 40) hCfL (by decide) kl_572 (gm_130 _ _ _ _) rfl (zs_ss rfl rfl rfl rfl rfl rfl rfl) eb1 rfl (by show 1 + (42 * m + 40) = 42 * m + 41; omega) rfl ?_
  refine yq_W (fun a h => (hW1 a h).1) (fun a h => (hW1 a h).2) ?_
  refine yq_ne 578 kl_575 rfl rfl ?_
  refine yq_ci 1 579 kl_578 rfl ?_
  refine yq_go 583 kl_579 rfl rfl ?_
  refine yq_s 585 kl_583 rfl ?_
  refine yq_go 736 kl_585 rfl rfl ?_
  exact h7 p z _ σ1 (gl1 rfl rfl l0) (gl1 rfl rfl l1) (gl1 rfl rfl l2) (gl1 rfl rfl l3) gs1 (gl1 rfl rfl l5) (gl1 rfl rfl l6) (by omega) hz (by rw [h91]; exact h9) hJ1
theorem lw_595 (hk : k < 120) (h7 : K736 xs m k) {p z v pe ot fr to : Int} (hp : 0 ≤ p ∧ p ≤ (k : Int)) (hz : 0 ≤ z ∧ z ≤ 2147483000) (hv : 0 ≤ v ∧ v ≤ 1073741823) (hpe : 0 ≤ pe ∧ pe ≤ 1073741823) (hot : 0 ≤ ot ∧ ot ≤ 1073741823) (hfr : 0 ≤ fr ∧ fr < 60) (hto : 0 ≤ to ∧ to ≤ 100) (l0 : lo.lookup 0 = some (Value.ref 0)) (l1 : lo.lookup 1 = some (Value.ref 1)) (l2 : lo.lookup 2 = some (Value.ref 187)) (l3 : lo.lookup 3 = some (vi p)) (l5 : lo.lookup 5 = some (vi (k : Int))) (l6 : lo.lookup 6 = some (vi z)) (l8 : lo.lookup 8 = some (vi v)) (l9 : lo.lookup 9 = some (vi pe)) (l10 : lo.lookup 10 = some (vi ot)) (l11 : lo.lookup 11 = some (vi fr)) (l12 : lo.lookup 12 = some (vi to)) (h9 : σ 1 9 ≤ 912) (hJ : jJV (1 + k + 16 * (k / 3)) σ) : yq cL gk_law (20, xs.map Value.int) (fun _ _ => True) (42 * m + 42) 595 lo [] σ (dbl σ) := by
  obtain ⟨v1, w1, s1, t1, σ1, ea1, eb1, hr1, hW1, hJ1, h91⟩ := pj_129_2 (x := pe) (y := ot) (by omega) (by omega) (by omega) hJ
  obtain ⟨rfl, hv1⟩ := hr1
  refine yq_al 596 1 kl_595 rfl l1 ?_
  refine yq_ci 2 597 kl_596 rfl ?_
  refine yq_il 599 9 kl_597 rfl l9 ?_
  refine yq_il 601 10 kl_599 rfl l10 ?_
  refine yq_ca (x := v1) 604 (42 * m + 41) hCfL (by decide) kl_601 (gm_129 _ _ _) rfl (zs_ss rfl rfl rfl rfl rfl rfl rfl) ea1 rfl (by show 1 + (42 * m + 41) = 42 * m + 42; omega) rfl ?_
  refine yq_al 605 2 kl_604 rfl l2 ?_
  refine yq_ci 2 606 kl_605 rfl ?_
  refine yq_il 608 9 kl_606 rfl l9 ?_
  refine yq_il 610 10 kl_608 rfl l10 ?_
  refine yq_cb (x := v1) 613 (42 * m + 40) hCfL (by decide) kl_610 (gm_129 _ _ _) rfl (zs_ss rfl rfl rfl rfl rfl rfl rfl) eb1 rfl (by show 1 + (42 * m + 40) = 42 * m + 41; omega) rfl ?_
  refine yq_W (fun a h => (hW1 a h).1) (fun a h => (hW1 a h).2) ?_
  refine yq_ne 616 kl_613 rfl rfl ?_
  refine yq_ci 1 617 kl_616 rfl ?_
  refine yq_go 621 kl_617 rfl rfl ?_
  refine yq_s 623 kl_621 rfl ?_
  refine yq_go 736 kl_623 rfl rfl ?_
  exact h7 p z _ σ1 (gl1 rfl rfl l0) (gl1 rfl rfl l1) (gl1 rfl rfl l2) (gl1 rfl rfl l3) gs1 (gl1 rfl rfl l5) (gl1 rfl rfl l6) (by omega) hz (by rw [h91]; exact h9) hJ1
theorem lw_633 (hk : k < 120) (h7 : K736 xs m k) {p z v pe ot fr to : Int} (hp : 0 ≤ p ∧ p ≤ (k : Int)) (hz : 0 ≤ z ∧ z ≤ 2147483000) (hv : 0 ≤ v ∧ v ≤ 1073741823) (hpe : 0 ≤ pe ∧ pe ≤ 1073741823) (hot : 0 ≤ ot ∧ ot ≤ 1073741823) (hfr : 0 ≤ fr ∧ fr < 60) (hto : 0 ≤ to ∧ to ≤ 100) (l0 : lo.lookup 0 = some (Value.ref 0)) (l1 : lo.lookup 1 = some (Value.ref 1)) (l2 : lo.lookup 2 = some (Value.ref 187)) (l3 : lo.lookup 3 = some (vi p)) (l5 : lo.lookup 5 = some (vi (k : Int))) (l6 : lo.lookup 6 = some (vi z)) (l8 : lo.lookup 8 = some (vi v)) (l9 : lo.lookup 9 = some (vi pe)) (l10 : lo.lookup 10 = some (vi ot)) (l11 : lo.lookup 11 = some (vi fr)) (l12 : lo.lookup 12 = some (vi to)) (h9 : σ 1 9 ≤ 912) (hJ : jJV (1 + k + 16 * (k / 3)) σ) : yq cL gk_law (20, xs.map Value.int) (fun _ _ => True) (42 * m + 42) 633 lo [] σ (dbl σ) := by
  obtain ⟨v1, w1, s1, t1, σ1, ea1, eb1, hr1, hW1, hJ1, h91⟩ := pj_128_3 (x := pe) (by omega) (by omega) hJ
  obtain ⟨rfl, hv1⟩ := hr1
  refine yq_al 634 1 kl_633 rfl l1 ?_
  refine yq_ci 3 635 kl_634 rfl ?_
  refine yq_il 637 9 kl_635 rfl l9 ?_
  refine yq_ca (x := v1) 640 (42 * m + 41) hCfL (by decide) kl_637 (gm_128 _ _) rfl (zs_ss rfl rfl rfl rfl rfl rfl rfl) ea1 rfl (by show 1 + (42 * m + 41) = 42 * m + 42; omega) rfl ?_
  refine yq_al 641 2 kl_640 rfl l2 ?_
  refine yq_ci 3 642 kl_641 rfl ?_
  refine yq_il 644 9 kl_642 rfl l9 ?_
  refine yq_cb (x := v1) 647 (42 * m + 40) hCfL (by decide) kl_644 (gm_128 _ _) rfl (zs_ss rfl rfl rfl rfl rfl rfl rfl) eb1 rfl (by show 1 + (42 * m + 40) = 42 * m + 41; omega) rfl ?_
  refine yq_W (fun a h => (hW1 a h).1) (fun a h => (hW1 a h).2) ?_
  refine yq_ne 650 kl_647 rfl rfl ?_
  refine yq_ci 1 651 kl_650 rfl ?_
  refine yq_go 655 kl_651 rfl rfl ?_
  refine yq_s 657 kl_655 rfl ?_
  refine yq_go 736 kl_657 rfl rfl ?_
  exact h7 p z _ σ1 (gl1 rfl rfl l0) (gl1 rfl rfl l1) (gl1 rfl rfl l2) (gl1 rfl rfl l3) gs1 (gl1 rfl rfl l5) (gl1 rfl rfl l6) (by omega) hz (by rw [h91]; exact h9) hJ1
theorem lw_667 (hk : k < 120) (h7 : K736 xs m k) {p z v pe ot fr to : Int} (hp : 0 ≤ p ∧ p ≤ (k : Int)) (hz : 0 ≤ z ∧ z ≤ 2147483000) (hv : 0 ≤ v ∧ v ≤ 1073741823) (hpe : 0 ≤ pe ∧ pe ≤ 1073741823) (hot : 0 ≤ ot ∧ ot ≤ 1073741823) (hfr : 0 ≤ fr ∧ fr < 60) (hto : 0 ≤ to ∧ to ≤ 100) (l0 : lo.lookup 0 = some (Value.ref 0)) (l1 : lo.lookup 1 = some (Value.ref 1)) (l2 : lo.lookup 2 = some (Value.ref 187)) (l3 : lo.lookup 3 = some (vi p)) (l5 : lo.lookup 5 = some (vi (k : Int))) (l6 : lo.lookup 6 = some (vi z)) (l8 : lo.lookup 8 = some (vi v)) (l9 : lo.lookup 9 = some (vi pe)) (l10 : lo.lookup 10 = some (vi ot)) (l11 : lo.lookup 11 = some (vi fr)) (l12 : lo.lookup 12 = some (vi to)) (h9 : σ 1 9 ≤ 912) (hJ : jJV (1 + k + 16 * (k / 3)) σ) : yq cL gk_law (20, xs.map Value.int) (fun _ _ => True) (42 * m + 42) 667 lo [] σ (dbl σ) := by
  obtain ⟨v1, w1, s1, t1, σ1, ea1, eb1, hr1, hW1, hJ1, h91⟩ := pj_131 (x := pe) (y := ot) (z := fr) (w := to) (by omega) (by omega) (by omega) (by omega) (by omega) hJ
  obtain ⟨rfl, hv1⟩ := hr1
  refine yq_al 668 1 kl_667 rfl l1 ?_
  refine yq_il 670 9 kl_668 rfl l9 ?_
  refine yq_il 672 10 kl_670 rfl l10 ?_
  refine yq_il 674 11 kl_672 rfl l11 ?_
  refine yq_il 676 12 kl_674 rfl l12 ?_
  refine yq_ca (x := v1) 679 (42 * m + 41) hCfL (by decide) kl_676 (gm_131 _ _ _ _) rfl (zs_ss rfl rfl rfl rfl rfl rfl rfl) ea1 rfl (by show 1 + (42 * m + 41) = 42 * m + 42; omega) rfl ?_
  refine yq_al 680 2 kl_679 rfl l2 ?_
  refine yq_il 682 9 kl_680 rfl l9 ?_
  refine yq_il 684 10 kl_682 rfl l10 ?_
  refine yq_il 686 11 kl_684 rfl l11 ?_
  refine yq_il 688 12 kl_686 rfl l12 ?_
  refine yq_cb (x := v1) 691 (42 * m + 40) hCfL (by decide) kl_688 (gm_131 _ _ _ _) rfl (zs_ss rfl rfl rfl rfl rfl rfl rfl) eb1 rfl (by show 1 + (42 * m + 40) = 42 * m + 41; omega) rfl ?_
  refine yq_W (fun a h => (hW1 a h).1) (fun a h => (hW1 a h).2) ?_
  refine yq_ne 694 kl_691 rfl rfl ?_
  refine yq_ci 1 695 kl_694 rfl ?_
  refine yq_go 699 kl_695 rfl rfl ?_
  refine yq_s 701 kl_699 rfl ?_
  refine yq_go 736 kl_701 rfl rfl ?_
  exact h7 p z _ σ1 (gl1 rfl rfl l0) (gl1 rfl rfl l1) (gl1 rfl rfl l2) (gl1 rfl rfl l3) gs1 (gl1 rfl rfl l5) (gl1 rfl rfl l6) (by omega) hz (by rw [h91]; exact h9) hJ1
theorem lw_704 (hk : k < 120) (h7 : K736 xs m k) {p z v pe ot fr to : Int} (hp : 0 ≤ p ∧ p ≤ (k : Int)) (hz : 0 ≤ z ∧ z ≤ 2147483000) (hv : 0 ≤ v ∧ v ≤ 1073741823) (hpe : 0 ≤ pe ∧ pe ≤ 1073741823) (hot : 0 ≤ ot ∧ ot ≤ 1073741823) (hfr : 0 ≤ fr ∧ fr < 60) (hto : 0 ≤ to ∧ to ≤ 100) (l0 : lo.lookup 0 = some (Value.ref 0)) (l1 : lo.lookup 1 = some (Value.ref 1)) (l2 : lo.lookup 2 = some (Value.ref 187)) (l3 : lo.lookup 3 = some (vi p)) (l5 : lo.lookup 5 = some (vi (k : Int))) (l6 : lo.lookup 6 = some (vi z)) (l8 : lo.lookup 8 = some (vi v)) (l9 : lo.lookup 9 = some (vi pe)) (l10 : lo.lookup 10 = some (vi ot)) (l11 : lo.lookup 11 = some (vi fr)) (l12 : lo.lookup 12 = some (vi to)) (h9 : σ 1 9 ≤ 912) (hJ : jJV (1 + k + 16 * (k / 3)) σ) : yq cL gk_law (20, xs.map Value.int) (fun _ _ => True) (42 * m + 42) 704 lo [] σ (dbl σ) := by
  obtain ⟨v1, w1, s1, t1, σ1, ea1, eb1, hr1, hW1, hJ1, h91⟩ := pj_130_2 (x := pe) (y := fr) (z := to) (by omega) (by omega) (by omega) (by omega) hJ
  obtain ⟨rfl, hv1⟩ := hr1
  refine yq_al 705 1 kl_704 rfl l1 ?_
  refine yq_ci 2 706 kl_705 rfl ?_
  refine yq_il 708 9 kl_706 rfl l9 ?_
  refine yq_il 710 11 kl_708 rfl l11 ?_
  refine yq_il 712 12 kl_710 rfl l12 ?_
  refine yq_ca (x := v1) 715 (42 * m + 41) hCfL (by decide) kl_712 (gm_130 _ _ _ _) rfl (zs_ss rfl rfl rfl rfl rfl rfl rfl) ea1 rfl (by show 1 + (42 * m + 41) = 42 * m + 42; omega) rfl ?_
  refine yq_al 716 2 kl_715 rfl l2 ?_
  refine yq_ci 2 717 kl_716 rfl ?_
  refine yq_il 719 9 kl_717 rfl l9 ?_
  refine yq_il 721 11 kl_719 rfl l11 ?_
  refine yq_il 723 12 kl_721 rfl l12 ?_
  refine yq_cb (x := v1) 726 (42 * m + 40) hCfL (by decide) kl_723 (gm_130 _ _ _ _) rfl (zs_ss rfl rfl rfl rfl rfl rfl rfl) eb1 rfl (by show 1 + (42 * m + 40) = 42 * m + 41; omega) rfl ?_
  refine yq_W (fun a h => (hW1 a h).1) (fun a h => (hW1 a h).2) ?_
  refine yq_ne 729 kl_726 rfl rfl ?_
  refine yq_ci 1 730 kl_729 rfl ?_
  refine yq_go 734 kl_730 rfl rfl ?_
  refine yq_s 736 kl_734 rfl ?_
  exact h7 p z _ σ1 (gl1 rfl rfl l0) (gl1 rfl rfl l1) (gl1 rfl rfl l2) (gl1 rfl rfl l3) gs1 (gl1 rfl rfl l5) (gl1 rfl rfl l6) (by omega) hz (by rw [h91]; exact h9) hJ1
theorem lw_170 (hk : k < 120) (h7 : K736 xs m k) {kd p z v pe ot fr to : Int} (hkd : 0 ≤ kd ∧ kd < 34) (hp : 0 ≤ p ∧ p ≤ (k : Int)) (hz : 0 ≤ z ∧ z ≤ 2147483000) (hv : 0 ≤ v ∧ v ≤ 1073741823) (hpe : 0 ≤ pe ∧ pe ≤ 1073741823) (hot : 0 ≤ ot ∧ ot ≤ 1073741823) (hfr : 0 ≤ fr ∧ fr < 60) (hto : 0 ≤ to ∧ to ≤ 100) (l0 : lo.lookup 0 = some (Value.ref 0)) (l1 : lo.lookup 1 = some (Value.ref 1)) (l2 : lo.lookup 2 = some (Value.ref 187)) (l3 : lo.lookup 3 = some (vi p)) (l5 : lo.lookup 5 = some (vi (k : Int))) (l6 : lo.lookup 6 = some (vi z)) (l7 : lo.lookup 7 = some (vi kd)) (l8 : lo.lookup 8 = some (vi v)) (l9 : lo.lookup 9 = some (vi pe)) (l10 : lo.lookup 10 = some (vi ot)) (l11 : lo.lookup 11 = some (vi fr)) (l12 : lo.lookup 12 = some (vi to)) (h9 : σ 1 9 ≤ 912) (hJ : jJV (1 + k + 16 * (k / 3)) σ) : yq cL gk_law (20, xs.map Value.int) (fun _ _ => True) (42 * m + 42) 170 lo [] σ (dbl σ) := by
  by_cases h100 : kd < 2
  · have h100 := h100
    refine yq_il 172 7 kl_170 rfl l7 ?_
    refine yq_ci 2 173 kl_172 rfl ?_
    refine yq_if 233 176 kl_173 rfl rfl rfl (by unfold gb_R; omega) (by unfold gb_R; omega) (fun h9 => absurd h9 (show ¬ (2 ≤ (kd : Int)) by omega)) (fun _ => ?_)
    exact lw_176 hk h7 hp hz hv hpe hot hfr hto l0 l1 l2 l3 l5 l6 l8 l9 l10 l11 l12 h9 hJ
  · have h100 := h100
    by_cases h101 : kd < 4
    · have h101 := h101
      refine yq_il 172 7 kl_170 rfl l7 ?_
      refine yq_ci 2 173 kl_172 rfl ?_
      refine yq_if 233 176 kl_173 rfl rfl rfl (by unfold gb_R; omega) (by unfold gb_R; omega) (fun _ => ?_) (fun h9 => absurd (show 2 ≤ (kd : Int) by omega) h9)
      refine yq_il 235 7 kl_233 rfl l7 ?_
      refine yq_ci 4 236 kl_235 rfl ?_
      refine yq_if 314 239 kl_236 rfl rfl rfl (by unfold gb_R; omega) (by unfold gb_R; omega) (fun h9 => absurd h9 (show ¬ (4 ≤ (kd : Int)) by omega)) (fun _ => ?_)
      exact lw_239 hk h7 hp hz hv hpe hot hfr hto l0 l1 l2 l3 l5 l6 l8 l9 l10 l11 l12 h9 hJ
    · have h101 := h101
      by_cases h102 : kd < 12
      · have h102 := h102
        refine yq_il 172 7 kl_170 rfl l7 ?_
        refine yq_ci 2 173 kl_172 rfl ?_
        refine yq_if 233 176 kl_173 rfl rfl rfl (by unfold gb_R; omega) (by unfold gb_R; omega) (fun _ => ?_) (fun h9 => absurd (show 2 ≤ (kd : Int) by omega) h9)
        refine yq_il 235 7 kl_233 rfl l7 ?_
        refine yq_ci 4 236 kl_235 rfl ?_
        refine yq_if 314 239 kl_236 rfl rfl rfl (by unfold gb_R; omega) (by unfold gb_R; omega) (fun _ => ?_) (fun h9 => absurd (show 4 ≤ (kd : Int) by omega) h9)
        refine yq_il 316 7 kl_314 rfl l7 ?_
        refine yq_ci 12 318 kl_316 rfl ?_
        refine yq_if 374 321 kl_318 rfl rfl rfl (by unfold gb_R; omega) (by unfold gb_R; omega) (fun h9 => absurd h9 (show ¬ (12 ≤ (kd : Int)) by omega)) (fun _ => ?_)
        exact lw_321 hk h7 hp hz hv hpe hot hfr hto l0 l1 l2 l3 l5 l6 l8 l9 l10 l11 l12 h9 hJ
      · have h102 := h102
        by_cases h103 : kd < 15
        · have h103 := h103
          refine yq_il 172 7 kl_170 rfl l7 ?_
          refine yq_ci 2 173 kl_172 rfl ?_
          refine yq_if 233 176 kl_173 rfl rfl rfl (by unfold gb_R; omega) (by unfold gb_R; omega) (fun _ => ?_) (fun h9 => absurd (show 2 ≤ (kd : Int) by omega) h9)
          refine yq_il 235 7 kl_233 rfl l7 ?_
          refine yq_ci 4 236 kl_235 rfl ?_
          refine yq_if 314 239 kl_236 rfl rfl rfl (by unfold gb_R; omega) (by unfold gb_R; omega) (fun _ => ?_) (fun h9 => absurd (show 4 ≤ (kd : Int) by omega) h9)
          refine yq_il 316 7 kl_314 rfl l7 ?_
          refine yq_ci 12 318 kl_316 rfl ?_
          refine yq_if 374 321 kl_318 rfl rfl rfl (by unfold gb_R; omega) (by unfold gb_R; omega) (fun _ => ?_) (fun h9 => absurd (show 12 ≤ (kd : Int) by omega) h9)
          refine yq_il 376 7 kl_374 rfl l7 ?_
          refine yq_ci 15 378 kl_376 rfl ?_
          refine yq_if 434 381 kl_378 rfl rfl rfl (by unfold gb_R; omega) (by unfold gb_R; omega) (fun h9 => absurd h9 (show ¬ (15 ≤ (kd : Int)) by omega)) (fun _ => ?_)
          exact lw_381 hk h7 hp hz hv hpe hot hfr hto l0 l1 l2 l3 l5 l6 l8 l9 l10 l11 l12 h9 hJ
        · have h103 := h103
          by_cases h104 : kd < 18
          · have h104 := h104
            refine yq_il 172 7 kl_170 rfl l7 ?_
            refine yq_ci 2 173 kl_172 rfl ?_
            refine yq_if 233 176 kl_173 rfl rfl rfl (by unfold gb_R; omega) (by unfold gb_R; omega) (fun _ => ?_) (fun h9 => absurd (show 2 ≤ (kd : Int) by omega) h9)
            refine yq_il 235 7 kl_233 rfl l7 ?_
            refine yq_ci 4 236 kl_235 rfl ?_
            refine yq_if 314 239 kl_236 rfl rfl rfl (by unfold gb_R; omega) (by unfold gb_R; omega) (fun _ => ?_) (fun h9 => absurd (show 4 ≤ (kd : Int) by omega) h9)
            refine yq_il 316 7 kl_314 rfl l7 ?_
            refine yq_ci 12 318 kl_316 rfl ?_
            refine yq_if 374 321 kl_318 rfl rfl rfl (by unfold gb_R; omega) (by unfold gb_R; omega) (fun _ => ?_) (fun h9 => absurd (show 12 ≤ (kd : Int) by omega) h9)
            refine yq_il 376 7 kl_374 rfl l7 ?_
            refine yq_ci 15 378 kl_376 rfl ?_
            refine yq_if 434 381 kl_378 rfl rfl rfl (by unfold gb_R; omega) (by unfold gb_R; omega) (fun _ => ?_) (fun h9 => absurd (show 15 ≤ (kd : Int) by omega) h9)
            refine yq_il 436 7 kl_434 rfl l7 ?_
            refine yq_ci 18 438 kl_436 rfl ?_
            refine yq_if 488 441 kl_438 rfl rfl rfl (by unfold gb_R; omega) (by unfold gb_R; omega) (fun h9 => absurd h9 (show ¬ (18 ≤ (kd : Int)) by omega)) (fun _ => ?_)
            exact lw_441 hk h7 hp hz hv hpe hot hfr hto l0 l1 l2 l3 l5 l6 l8 l9 l10 l11 l12 h9 hJ
          · have h104 := h104
            by_cases h105 : kd < 20
            · have h105 := h105
              refine yq_il 172 7 kl_170 rfl l7 ?_
              refine yq_ci 2 173 kl_172 rfl ?_
              refine yq_if 233 176 kl_173 rfl rfl rfl (by unfold gb_R; omega) (by unfold gb_R; omega) (fun _ => ?_) (fun h9 => absurd (show 2 ≤ (kd : Int) by omega) h9)
              refine yq_il 235 7 kl_233 rfl l7 ?_
              refine yq_ci 4 236 kl_235 rfl ?_
              refine yq_if 314 239 kl_236 rfl rfl rfl (by unfold gb_R; omega) (by unfold gb_R; omega) (fun _ => ?_) (fun h9 => absurd (show 4 ≤ (kd : Int) by omega) h9)
              refine yq_il 316 7 kl_314 rfl l7 ?_
              refine yq_ci 12 318 kl_316 rfl ?_
              refine yq_if 374 321 kl_318 rfl rfl rfl (by unfold gb_R; omega) (by unfold gb_R; omega) (fun _ => ?_) (fun h9 => absurd (show 12 ≤ (kd : Int) by omega) h9)
              refine yq_il 376 7 kl_374 rfl l7 ?_
              refine yq_ci 15 378 kl_376 rfl ?_
              refine yq_if 434 381 kl_378 rfl rfl rfl (by unfold gb_R; omega) (by unfold gb_R; omega) (fun _ => ?_) (fun h9 => absurd (show 15 ≤ (kd : Int) by omega) h9)
              refine yq_il 436 7 kl_434 rfl l7 ?_
              refine yq_ci 18 438 kl_436 rfl ?_
              refine yq_if 488 441 kl_438 rfl rfl rfl (by unfold gb_R; omega) (by unfold gb_R; omega) (fun _ => ?_) (fun h9 => absurd (show 18 ≤ (kd : Int) by omega) h9)
              refine yq_il 490 7 kl_488 rfl l7 ?_
              refine yq_ci 20 492 kl_490 rfl ?_
              refine yq_if 532 495 kl_492 rfl rfl rfl (by unfold gb_R; omega) (by unfold gb_R; omega) (fun h9 => absurd h9 (show ¬ (20 ≤ (kd : Int)) by omega)) (fun _ => ?_)
              exact lw_495 hk h7 hp hz hv hpe hot hfr hto l0 l1 l2 l3 l5 l6 l8 l9 l10 l11 l12 h9 hJ
            · have h105 := h105
              by_cases h106 : kd < 23
              · have h106 := h106
                refine yq_il 172 7 kl_170 rfl l7 ?_
                refine yq_ci 2 173 kl_172 rfl ?_
                refine yq_if 233 176 kl_173 rfl rfl rfl (by unfold gb_R; omega) (by unfold gb_R; omega) (fun _ => ?_) (fun h9 => absurd (show 2 ≤ (kd : Int) by omega) h9)
                refine yq_il 235 7 kl_233 rfl l7 ?_
                refine yq_ci 4 236 kl_235 rfl ?_
                refine yq_if 314 239 kl_236 rfl rfl rfl (by unfold gb_R; omega) (by unfold gb_R; omega) (fun _ => ?_) (fun h9 => absurd (show 4 ≤ (kd : Int) by omega) h9)
                refine yq_il 316 7 kl_314 rfl l7 ?_
                refine yq_ci 12 318 kl_316 rfl ?_
                refine yq_if 374 321 kl_318 rfl rfl rfl (by unfold gb_R; omega) (by unfold gb_R; omega) (fun _ => ?_) (fun h9 => absurd (show 12 ≤ (kd : Int) by omega) h9)
                refine yq_il 376 7 kl_374 rfl l7 ?_
                refine yq_ci 15 378 kl_376 rfl ?_
                refine yq_if 434 381 kl_378 rfl rfl rfl (by unfold gb_R; omega) (by unfold gb_R; omega) (fun _ => ?_) (fun h9 => absurd (show 15 ≤ (kd : Int) by omega) h9)
                refine yq_il 436 7 kl_434 rfl l7 ?_
                refine yq_ci 18 438 kl_436 rfl ?_
                refine yq_if 488 441 kl_438 rfl rfl rfl (by unfold gb_R; omega) (by unfold gb_R; omega) (fun _ => ?_) (fun h9 => absurd (show 18 ≤ (kd : Int) by omega) h9)
                refine yq_il 490 7 kl_488 rfl l7 ?_
                refine yq_ci 20 492 kl_490 rfl ?_
                refine yq_if 532 495 kl_492 rfl rfl rfl (by unfold gb_R; omega) (by unfold gb_R; omega) (fun _ => ?_) (fun h9 => absurd (show 20 ≤ (kd : Int) by omega) h9)
                refine yq_il 534 7 kl_532 rfl l7 ?_
                refine yq_ci 23 536 kl_534 rfl ?_
                refine yq_if 588 539 kl_536 rfl rfl rfl (by unfold gb_R; omega) (by unfold gb_R; omega) (fun h9 => absurd h9 (show ¬ (23 ≤ (kd : Int)) by omega)) (fun _ => ?_)
                exact lw_539 hk h7 hp hz hv hpe hot hfr hto l0 l1 l2 l3 l5 l6 l8 l9 l10 l11 l12 h9 hJ
              · have h106 := h106
                by_cases h107 : kd < 25
                · have h107 := h107
                  refine yq_il 172 7 kl_170 rfl l7 ?_
                  refine yq_ci 2 173 kl_172 rfl ?_
                  refine yq_if 233 176 kl_173 rfl rfl rfl (by unfold gb_R; omega) (by unfold gb_R; omega) (fun _ => ?_) (fun h9 => absurd (show 2 ≤ (kd : Int) by omega) h9)
                  refine yq_il 235 7 kl_233 rfl l7 ?_
                  refine yq_ci 4 236 kl_235 rfl ?_
                  refine yq_if 314 239 kl_236 rfl rfl rfl (by unfold gb_R; omega) (by unfold gb_R; omega) (fun _ => ?_) (fun h9 => absurd (show 4 ≤ (kd : Int) by omega) h9)
                  refine yq_il 316 7 kl_314 rfl l7 ?_
                  refine yq_ci 12 318 kl_316 rfl ?_
                  refine yq_if 374 321 kl_318 rfl rfl rfl (by unfold gb_R; omega) (by unfold gb_R; omega) (fun _ => ?_) (fun h9 => absurd (show 12 ≤ (kd : Int) by omega) h9)
                  refine yq_il 376 7 kl_374 rfl l7 ?_
                  refine yq_ci 15 378 kl_376 rfl ?_
                  refine yq_if 434 381 kl_378 rfl rfl rfl (by unfold gb_R; omega) (by unfold gb_R; omega) (fun _ => ?_) (fun h9 => absurd (show 15 ≤ (kd : Int) by omega) h9)
                  refine yq_il 436 7 kl_434 rfl l7 ?_
                  refine yq_ci 18 438 kl_436 rfl ?_
                  refine yq_if 488 441 kl_438 rfl rfl rfl (by unfold gb_R; omega) (by unfold gb_R; omega) (fun _ => ?_) (fun h9 => absurd (show 18 ≤ (kd : Int) by omega) h9)
                  refine yq_il 490 7 kl_488 rfl l7 ?_
                  refine yq_ci 20 492 kl_490 rfl ?_
                  refine yq_if 532 495 kl_492 rfl rfl rfl (by unfold gb_R; omega) (by unfold gb_R; omega) (fun _ => ?_) (fun h9 => absurd (show 20 ≤ (kd : Int) by omega) h9)
                  refine yq_il 534 7 kl_532 rfl l7 ?_
                  refine yq_ci 23 536 kl_534 rfl ?_
                  refine yq_if 588 539 kl_536 rfl rfl rfl (by unfold gb_R; omega) (by unfold gb_R; omega) (fun _ => ?_) (fun h9 => absurd (show 23 ≤ (kd : Int) by omega) h9)
                  refine yq_il 590 7 kl_588 rfl l7 ?_
                  refine yq_ci 25 592 kl_590 rfl ?_
                  refine yq_if 626 595 kl_592 rfl rfl rfl (by unfold gb_R; omega) (by unfold gb_R; omega) (fun h9 => absurd h9 (show ¬ (25 ≤ (kd : Int)) by omega)) (fun _ => ?_)
                  exact lw_595 hk h7 hp hz hv hpe hot hfr hto l0 l1 l2 l3 l5 l6 l8 l9 l10 l11 l12 h9 hJ
                · have h107 := h107
                  by_cases h108 : kd < 27
                  · have h108 := h108
                    refine yq_il 172 7 kl_170 rfl l7 ?_
                    refine yq_ci 2 173 kl_172 rfl ?_
                    refine yq_if 233 176 kl_173 rfl rfl rfl (by unfold gb_R; omega) (by unfold gb_R; omega) (fun _ => ?_) (fun h9 => absurd (show 2 ≤ (kd : Int) by omega) h9)
                    refine yq_il 235 7 kl_233 rfl l7 ?_
                    refine yq_ci 4 236 kl_235 rfl ?_
                    refine yq_if 314 239 kl_236 rfl rfl rfl (by unfold gb_R; omega) (by unfold gb_R; omega) (fun _ => ?_) (fun h9 => absurd (show 4 ≤ (kd : Int) by omega) h9)
                    refine yq_il 316 7 kl_314 rfl l7 ?_
                    refine yq_ci 12 318 kl_316 rfl ?_
                    refine yq_if 374 321 kl_318 rfl rfl rfl (by unfold gb_R; omega) (by unfold gb_R; omega) (fun _ => ?_) (fun h9 => absurd (show 12 ≤ (kd : Int) by omega) h9)
                    refine yq_il 376 7 kl_374 rfl l7 ?_
                    refine yq_ci 15 378 kl_376 rfl ?_
                    refine yq_if 434 381 kl_378 rfl rfl rfl (by unfold gb_R; omega) (by unfold gb_R; omega) (fun _ => ?_) (fun h9 => absurd (show 15 ≤ (kd : Int) by omega) h9)
                    refine yq_il 436 7 kl_434 rfl l7 ?_
                    refine yq_ci 18 438 kl_436 rfl ?_
                    refine yq_if 488 441 kl_438 rfl rfl rfl (by unfold gb_R; omega) (by unfold gb_R; omega) (fun _ => ?_) (fun h9 => absurd (show 18 ≤ (kd : Int) by omega) h9)
                    refine yq_il 490 7 kl_488 rfl l7 ?_
                    refine yq_ci 20 492 kl_490 rfl ?_
                    refine yq_if 532 495 kl_492 rfl rfl rfl (by unfold gb_R; omega) (by unfold gb_R; omega) (fun _ => ?_) (fun h9 => absurd (show 20 ≤ (kd : Int) by omega) h9)
                    refine yq_il 534 7 kl_532 rfl l7 ?_
                    refine yq_ci 23 536 kl_534 rfl ?_
                    refine yq_if 588 539 kl_536 rfl rfl rfl (by unfold gb_R; omega) (by unfold gb_R; omega) (fun _ => ?_) (fun h9 => absurd (show 23 ≤ (kd : Int) by omega) h9)
                    refine yq_il 590 7 kl_588 rfl l7 ?_
                    refine yq_ci 25 592 kl_590 rfl ?_
                    refine yq_if 626 595 kl_592 rfl rfl rfl (by unfold gb_R; omega) (by unfold gb_R; omega) (fun _ => ?_) (fun h9 => absurd (show 25 ≤ (kd : Int) by omega) h9)
                    refine yq_il 628 7 kl_626 rfl l7 ?_
                    refine yq_ci 27 630 kl_628 rfl ?_
                    refine yq_if 660 633 kl_630 rfl rfl rfl (by unfold gb_R; omega) (by unfold gb_R; omega) (fun h9 => absurd h9 (show ¬ (27 ≤ (kd : Int)) by omega)) (fun _ => ?_)
                    exact lw_633 hk h7 hp hz hv hpe hot hfr hto l0 l1 l2 l3 l5 l6 l8 l9 l10 l11 l12 h9 hJ
                  · have h108 := h108
                    by_cases h109 : kd < 30
                    · have h109 := h109
                      refine yq_il 172 7 kl_170 rfl l7 ?_
                      refine yq_ci 2 173 kl_172 rfl ?_
                      refine yq_if 233 176 kl_173 rfl rfl rfl (by unfold gb_R; omega) (by unfold gb_R; omega) (fun _ => ?_) (fun h9 => absurd (show 2 ≤ (kd : Int) by omega) h9)
                      refine yq_il 235 7 kl_233 rfl l7 ?_
                      refine yq_ci 4 236 kl_235 rfl ?_
                      refine yq_if 314 239 kl_236 rfl rfl rfl (by unfold gb_R; omega) (by unfold gb_R; omega) (fun _ => ?_) (fun h9 => absurd (show 4 ≤ (kd : Int) by omega) h9)
                      refine yq_il 316 7 kl_314 rfl l7 ?_
                      refine yq_ci 12 318 kl_316 rfl ?_
                      refine yq_if 374 321 kl_318 rfl rfl rfl (by unfold gb_R; omega) (by unfold gb_R; omega) (fun _ => ?_) (fun h9 => absurd (show 12 ≤ (kd : Int) by omega) h9)
                      refine yq_il 376 7 kl_374 rfl l7 ?_
                      refine yq_ci 15 378 kl_376 rfl ?_
                      refine yq_if 434 381 kl_378 rfl rfl rfl (by unfold gb_R; omega) (by unfold gb_R; omega) (fun _ => ?_) (fun h9 => absurd (show 15 ≤ (kd : Int) by omega) h9)
                      refine yq_il 436 7 kl_434 rfl l7 ?_
                      refine yq_ci 18 438 kl_436 rfl ?_
                      refine yq_if 488 441 kl_438 rfl rfl rfl (by unfold gb_R; omega) (by unfold gb_R; omega) (fun _ => ?_) (fun h9 => absurd (show 18 ≤ (kd : Int) by omega) h9)
                      refine yq_il 490 7 kl_488 rfl l7 ?_
                      refine yq_ci 20 492 kl_490 rfl ?_
                      refine yq_if 532 495 kl_492 rfl rfl rfl (by unfold gb_R; omega) (by unfold gb_R; omega) (fun _ => ?_) (fun h9 => absurd (show 20 ≤ (kd : Int) by omega) h9)
                      refine yq_il 534 7 kl_532 rfl l7 ?_
                      refine yq_ci 23 536 kl_534 rfl ?_
                      refine yq_if 588 539 kl_536 rfl rfl rfl (by unfold gb_R; omega) (by unfold gb_R; omega) (fun _ => ?_) (fun h9 => absurd (show 23 ≤ (kd : Int) by omega) h9)
                      refine yq_il 590 7 kl_588 rfl l7 ?_
                      refine yq_ci 25 592 kl_590 rfl ?_
                      refine yq_if 626 595 kl_592 rfl rfl rfl (by unfold gb_R; omega) (by unfold gb_R; omega) (fun _ => ?_) (fun h9 => absurd (show 25 ≤ (kd : Int) by omega) h9)
                      refine yq_il 628 7 kl_626 rfl l7 ?_
                      refine yq_ci 27 630 kl_628 rfl ?_
                      refine yq_if 660 633 kl_630 rfl rfl rfl (by unfold gb_R; omega) (by unfold gb_R; omega) (fun _ => ?_) (fun h9 => absurd (show 27 ≤ (kd : Int) by omega) h9)
                      refine yq_il 662 7 kl_660 rfl l7 ?_
                      refine yq_ci 30 664 kl_662 rfl ?_
                      refine yq_if 704 667 kl_664 rfl rfl rfl (by unfold gb_R; omega) (by unfold gb_R; omega) (fun h9 => absurd h9 (show ¬ (30 ≤ (kd : Int)) by omega)) (fun _ => ?_)
                      exact lw_667 hk h7 hp hz hv hpe hot hfr hto l0 l1 l2 l3 l5 l6 l8 l9 l10 l11 l12 h9 hJ
                    · have h109 := h109
                      refine yq_il 172 7 kl_170 rfl l7 ?_
                      refine yq_ci 2 173 kl_172 rfl ?_
                      refine yq_if 233 176 kl_173 rfl rfl rfl (by unfold gb_R; omega) (by unfold gb_R; omega) (fun _ => ?_) (fun h9 => absurd (show 2 ≤ (kd : Int) by omega) h9)
                      refine yq_il 235 7 kl_233 rfl l7 ?_
                      refine yq_ci 4 236 kl_235 rfl ?_
                      refine yq_if 314 239 kl_236 rfl rfl rfl (by unfold gb_R; omega) (by unfold gb_R; omega) (fun _ => ?_) (fun h9 => absurd (show 4 ≤ (kd : Int) by omega) h9)
                      refine yq_il 316 7 kl_314 rfl l7 ?_
                      refine yq_ci 12 318 kl_316 rfl ?_
                      refine yq_if 374 321 kl_318 rfl rfl rfl (by unfold gb_R; omega) (by unfold gb_R; omega) (fun _ => ?_) (fun h9 => absurd (show 12 ≤ (kd : Int) by omega) h9)
                      refine yq_il 376 7 kl_374 rfl l7 ?_
                      refine yq_ci 15 378 kl_376 rfl ?_
                      refine yq_if 434 381 kl_378 rfl rfl rfl (by unfold gb_R; omega) (by unfold gb_R; omega) (fun _ => ?_) (fun h9 => absurd (show 15 ≤ (kd : Int) by omega) h9)
                      refine yq_il 436 7 kl_434 rfl l7 ?_
                      refine yq_ci 18 438 kl_436 rfl ?_
                      refine yq_if 488 441 kl_438 rfl rfl rfl (by unfold gb_R; omega) (by unfold gb_R; omega) (fun _ => ?_) (fun h9 => absurd (show 18 ≤ (kd : Int) by omega) h9)
                      refine yq_il 490 7 kl_488 rfl l7 ?_
                      refine yq_ci 20 492 kl_490 rfl ?_
                      refine yq_if 532 495 kl_492 rfl rfl rfl (by unfold gb_R; omega) (by unfold gb_R; omega) (fun _ => ?_) (fun h9 => absurd (show 20 ≤ (kd : Int) by omega) h9)
                      refine yq_il 534 7 kl_532 rfl l7 ?_
                      refine yq_ci 23 536 kl_534 rfl ?_
                      refine yq_if 588 539 kl_536 rfl rfl rfl (by unfold gb_R; omega) (by unfold gb_R; omega) (fun _ => ?_) (fun h9 => absurd (show 23 ≤ (kd : Int) by omega) h9)
                      refine yq_il 590 7 kl_588 rfl l7 ?_
                      refine yq_ci 25 592 kl_590 rfl ?_
                      refine yq_if 626 595 kl_592 rfl rfl rfl (by unfold gb_R; omega) (by unfold gb_R; omega) (fun _ => ?_) (fun h9 => absurd (show 25 ≤ (kd : Int) by omega) h9)
                      refine yq_il 628 7 kl_626 rfl l7 ?_
                      refine yq_ci 27 630 kl_628 rfl ?_
                      refine yq_if 660 633 kl_630 rfl rfl rfl (by unfold gb_R; omega) (by unfold gb_R; omega) (fun _ => ?_) (fun h9 => absurd (show 27 ≤ (kd : Int) by omega) h9)
                      refine yq_il 662 7 kl_660 rfl l7 ?_
                      refine yq_ci 30 664 kl_662 rfl ?_
                      refine yq_if 704 667 kl_664 rfl rfl rfl (by unfold gb_R; omega) (by unfold gb_R; omega) (fun _ => ?_) (fun h9 => absurd (show 30 ≤ (kd : Int) by omega) h9)
                      exact lw_704 hk h7 hp hz hv hpe hot hfr hto l0 l1 l2 l3 l5 l6 l8 l9 l10 l11 l12 h9 hJ
theorem lw_145 (hk : k < 120) (h7 : K736 xs m k) {kd p z v pe ot : Int} (hkd : 0 ≤ kd ∧ kd < 34) (hp : 0 ≤ p ∧ p ≤ (k : Int)) (hz : 0 ≤ z ∧ z ≤ 2147483000) (hv : 0 ≤ v ∧ v ≤ 1073741823) (hpe : 0 ≤ pe ∧ pe ≤ 1073741823) (hot : 0 ≤ ot ∧ ot ≤ 1073741823) (l0 : lo.lookup 0 = some (Value.ref 0)) (l1 : lo.lookup 1 = some (Value.ref 1)) (l2 : lo.lookup 2 = some (Value.ref 187)) (l3 : lo.lookup 3 = some (vi p)) (l5 : lo.lookup 5 = some (vi (k : Int))) (l6 : lo.lookup 6 = some (vi z)) (l7 : lo.lookup 7 = some (vi kd)) (l8 : lo.lookup 8 = some (vi v)) (l9 : lo.lookup 9 = some (vi pe)) (h9 : σ 1 9 ≤ 912) (hJ : jJV (1 + k + 16 * (k / 3)) σ) : yq cL gk_law (20, xs.map Value.int) (fun _ _ => True) (42 * m + 42) 145 lo [vi ot] σ (dbl σ) := by
  refine yq_s 147 kl_145 rfl ?_
  refine yq_il 149 8 kl_147 rfl (gl1 rfl rfl l8) ?_
  refine yq_ci 196 152 kl_149 rfl ?_
  refine yq_div 153 kl_152 rfl (by omega) (by omega) ?_
  refine yq_ci 60 155 kl_153 rfl ?_
  refine yq_rem 156 kl_155 rfl (by omega) (by omega) ?_
  have hfr : 0 ≤ ((v / 196) % 60) ∧ ((v / 196) % 60) < 60 := by omega
  generalize hfr0 : ((v / 196) % 60) = fr at hfr ⊢
  refine yq_s 158 kl_156 rfl ?_
  refine yq_il 160 11 kl_158 rfl gs1 ?_
  refine yq_ci 1 161 kl_160 rfl ?_
  refine yq_add 162 kl_161 rfl ?_
  refine yq_il 164 8 kl_162 rfl (gl1 rfl rfl (gl1 rfl rfl l8)) ?_
  refine yq_ci 15 166 kl_164 rfl ?_
  refine yq_rem 167 kl_166 rfl (by omega) (by omega) ?_
  refine yq_add 168 kl_167 rfl ?_
  refine yq_s 170 kl_168 rfl ?_
  exact lw_170 hk h7 hkd hp hz hv hpe hot hfr (by omega) (gl1 rfl rfl (gl1 rfl rfl (gl1 rfl rfl l0))) (gl1 rfl rfl (gl1 rfl rfl (gl1 rfl rfl l1))) (gl1 rfl rfl (gl1 rfl rfl (gl1 rfl rfl l2))) (gl1 rfl rfl (gl1 rfl rfl (gl1 rfl rfl l3))) (gl1 rfl rfl (gl1 rfl rfl (gl1 rfl rfl l5))) (gl1 rfl rfl (gl1 rfl rfl (gl1 rfl rfl l6))) (gl1 rfl rfl (gl1 rfl rfl (gl1 rfl rfl l7))) (gl1 rfl rfl (gl1 rfl rfl (gl1 rfl rfl l8))) (gl1 rfl rfl (gl1 rfl rfl (gl1 rfl rfl l9))) (gl1 rfl rfl (gl1 rfl rfl gs1)) (gl1 rfl rfl gs1) gs1 h9 hJ
theorem lw_128 (hk : k < 120) (h7 : K736 xs m k) {kd p z v pe : Int} (hkd : 0 ≤ kd ∧ kd < 34) (hp : 0 ≤ p ∧ p ≤ (k : Int)) (hz : 0 ≤ z ∧ z ≤ 2147483000) (hv : 0 ≤ v ∧ v ≤ 1073741823) (hpe : 0 ≤ pe ∧ pe ≤ 1073741823) (l0 : lo.lookup 0 = some (Value.ref 0)) (l1 : lo.lookup 1 = some (Value.ref 1)) (l2 : lo.lookup 2 = some (Value.ref 187)) (l3 : lo.lookup 3 = some (vi p)) (l5 : lo.lookup 5 = some (vi (k : Int))) (l6 : lo.lookup 6 = some (vi z)) (l7 : lo.lookup 7 = some (vi kd)) (l8 : lo.lookup 8 = some (vi v)) (h9 : σ 1 9 ≤ 912) (hJ : jJV (1 + k + 16 * (k / 3)) σ) : yq cL gk_law (20, xs.map Value.int) (fun _ _ => True) (42 * m + 42) 128 lo [vi pe] σ (dbl σ) := by
  by_cases h0 : p = 0
  · have h0 := h0
    refine yq_s 130 kl_128 rfl ?_
    refine yq_il 131 3 kl_130 rfl (gl1 rfl rfl l3) ?_
    refine yq_if0 138 134 kl_131 rfl rfl rfl (by unfold gb_R; omega) (fun h9 => absurd h9 (show ¬ (¬ (p : Int) = 0) by omega)) (fun _ => ?_)
    refine yq_ci 0 135 kl_134 rfl ?_
    refine yq_go 145 kl_135 rfl rfl ?_
    exact lw_145 hk h7 hkd hp hz hv hpe (by omega) (gl1 rfl rfl l0) (gl1 rfl rfl l1) (gl1 rfl rfl l2) (gl1 rfl rfl l3) (gl1 rfl rfl l5) (gl1 rfl rfl l6) (gl1 rfl rfl l7) (gl1 rfl rfl l8) gs1 h9 hJ
  · have h0 := h0
    refine yq_s 130 kl_128 rfl ?_
    refine yq_il 131 3 kl_130 rfl (gl1 rfl rfl l3) ?_
    refine yq_if0 138 134 kl_131 rfl rfl rfl (by unfold gb_R; omega) (fun _ => ?_) (fun h9 => absurd (show ¬ (p : Int) = 0 by omega) h9)
    refine yq_il 140 8 kl_138 rfl (gl1 rfl rfl l8) ?_
    refine yq_ci 14 142 kl_140 rfl ?_
    refine yq_div 143 kl_142 rfl (by omega) (by omega) ?_
    refine yq_il 144 3 kl_143 rfl (gl1 rfl rfl l3) ?_
    refine yq_rem 145 kl_144 rfl (by omega) (by omega) ?_
    have hot : 0 ≤ ((v / 14) % p) ∧ ((v / 14) % p) < p := ⟨Int.emod_nonneg _ (by omega), Int.emod_lt_of_pos _ (by omega)⟩
    generalize hot0 : ((v / 14) % p) = ot at hot ⊢
    exact lw_145 hk h7 hkd hp hz hv hpe (by omega) (gl1 rfl rfl l0) (gl1 rfl rfl l1) (gl1 rfl rfl l2) (gl1 rfl rfl l3) (gl1 rfl rfl l5) (gl1 rfl rfl l6) (gl1 rfl rfl l7) (gl1 rfl rfl l8) gs1 h9 hJ
theorem lw_107 (hk : k < 120) (h7 : K736 xs m k) {kd p z : Int} (hkd : 0 ≤ kd ∧ kd < 34) (hp : 0 ≤ p ∧ p ≤ (k : Int)) (hz : 0 ≤ z ∧ z ≤ 2147483000) (l0 : lo.lookup 0 = some (Value.ref 0)) (l1 : lo.lookup 1 = some (Value.ref 1)) (l2 : lo.lookup 2 = some (Value.ref 187)) (l3 : lo.lookup 3 = some (vi p)) (l5 : lo.lookup 5 = some (vi (k : Int))) (l6 : lo.lookup 6 = some (vi z)) (h9 : σ 1 9 ≤ 912) (hJ : jJV (1 + k + 16 * (k / 3)) σ) : yq cL gk_law (20, xs.map Value.int) (fun _ _ => True) (42 * m + 42) 107 lo [vi kd] σ (dbl σ) := by
  by_cases h0 : p = 0
  · have h0 := h0
    refine yq_s 109 kl_107 rfl ?_
    refine yq_il 111 6 kl_109 rfl (gl1 rfl rfl l6) ?_
    refine yq_ci 34 113 kl_111 rfl ?_
    refine yq_div 114 kl_113 rfl (by omega) (by omega) ?_
    have hv : 0 ≤ (z / 34) ∧ (z / 34) < 1073741824 := by omega
    generalize hv0 : (z / 34) = v at hv ⊢
    refine yq_s 116 kl_114 rfl ?_
    refine yq_il 117 3 kl_116 rfl (gl1 rfl rfl (gl1 rfl rfl l3)) ?_
    refine yq_if0 124 120 kl_117 rfl rfl rfl (by unfold gb_R; omega) (fun h9 => absurd h9 (show ¬ (¬ (p : Int) = 0) by omega)) (fun _ => ?_)
    refine yq_ci 0 121 kl_120 rfl ?_
    refine yq_go 128 kl_121 rfl rfl ?_
    exact lw_128 hk h7 hkd hp hz (by omega) (by omega) (gl1 rfl rfl (gl1 rfl rfl l0)) (gl1 rfl rfl (gl1 rfl rfl l1)) (gl1 rfl rfl (gl1 rfl rfl l2)) (gl1 rfl rfl (gl1 rfl rfl l3)) (gl1 rfl rfl (gl1 rfl rfl l5)) (gl1 rfl rfl (gl1 rfl rfl l6)) (gl1 rfl rfl gs1) gs1 h9 hJ
  · have h0 := h0
    refine yq_s 109 kl_107 rfl ?_
    refine yq_il 111 6 kl_109 rfl (gl1 rfl rfl l6) ?_
    refine yq_ci 34 113 kl_111 rfl ?_
    refine yq_div 114 kl_113 rfl (by omega) (by omega) ?_
    have hv : 0 ≤ (z / 34) ∧ (z / 34) < 1073741824 := by omega
    generalize hv0 : (z / 34) = v at hv ⊢
    refine yq_s 116 kl_114 rfl ?_
    refine yq_il 117 3 kl_116 rfl (gl1 rfl rfl (gl1 rfl rfl l3)) ?_
    refine yq_if0 124 120 kl_117 rfl rfl rfl (by unfold gb_R; omega) (fun _ => ?_) (fun h9 => absurd (show ¬ (p : Int) = 0 by omega) h9)
    refine yq_il 126 8 kl_124 rfl gs1 ?_
    refine yq_il 127 3 kl_126 rfl (gl1 rfl rfl (gl1 rfl rfl l3)) ?_
    refine yq_rem 128 kl_127 rfl (by omega) (by omega) ?_
    have hpe : 0 ≤ (v % p) ∧ (v % p) < p := ⟨Int.emod_nonneg _ (by omega), Int.emod_lt_of_pos _ (by omega)⟩
    generalize hpe0 : (v % p) = pe at hpe ⊢
    exact lw_128 hk h7 hkd hp hz (by omega) (by omega) (gl1 rfl rfl (gl1 rfl rfl l0)) (gl1 rfl rfl (gl1 rfl rfl l1)) (gl1 rfl rfl (gl1 rfl rfl l2)) (gl1 rfl rfl (gl1 rfl rfl l3)) (gl1 rfl rfl (gl1 rfl rfl l5)) (gl1 rfl rfl (gl1 rfl rfl l6)) (gl1 rfl rfl gs1) gs1 h9 hJ
theorem lw_92 (hk : k < 120) (h7 : K736 xs m k) {p z : Int} (hp : 0 ≤ p ∧ p ≤ (k : Int)) (hz : 0 ≤ z ∧ z ≤ 2147483000) (l0 : lo.lookup 0 = some (Value.ref 0)) (l1 : lo.lookup 1 = some (Value.ref 1)) (l2 : lo.lookup 2 = some (Value.ref 187)) (l3 : lo.lookup 3 = some (vi p)) (l5 : lo.lookup 5 = some (vi (k : Int))) (l6 : lo.lookup 6 = some (vi z)) (h9 : σ 1 9 ≤ 912) (hJ : jJV (1 + k + 16 * (k / 3)) σ) : yq cL gk_law (20, xs.map Value.int) (fun _ _ => True) (42 * m + 42) 92 lo [] σ (dbl σ) := by
  by_cases h0 : (k : Int) < 4
  · have h0 := h0
    refine yq_il 94 5 kl_92 rfl l5 ?_
    refine yq_ci 4 95 kl_94 rfl ?_
    refine yq_if 102 98 kl_95 rfl rfl rfl (by unfold gb_R; omega) (by unfold gb_R; omega) (fun h9 => absurd h9 (show ¬ (4 ≤ ((k : Int) : Int)) by omega)) (fun _ => ?_)
    refine yq_ci 0 99 kl_98 rfl ?_
    refine yq_go 107 kl_99 rfl rfl ?_
    exact lw_107 hk h7 (by omega) hp hz l0 l1 l2 l3 l5 l6 h9 hJ
  · have h0 := h0
    refine yq_il 94 5 kl_92 rfl l5 ?_
    refine yq_ci 4 95 kl_94 rfl ?_
    refine yq_if 102 98 kl_95 rfl rfl rfl (by unfold gb_R; omega) (by unfold gb_R; omega) (fun _ => ?_) (fun h9 => absurd (show 4 ≤ ((k : Int) : Int) by omega) h9)
    refine yq_il 104 6 kl_102 rfl l6 ?_
    refine yq_ci 34 106 kl_104 rfl ?_
    refine yq_rem 107 kl_106 rfl (by omega) (by omega) ?_
    have hkd : 0 ≤ (z % 34) ∧ (z % 34) < 34 := by omega
    generalize hkd0 : (z % 34) = kd at hkd ⊢
    exact lw_107 hk h7 hkd hp hz l0 l1 l2 l3 l5 l6 h9 hJ
/-- the loop -/
theorem lw_52 (hl : xs.length ≤ 260) : ∀ (m k : Nat), k + m = 120 → K52 xs m k := by
  intro m
  induction m with
  | zero =>
    intro k hm p lo σ l0 l1 l2 l3 l4 l5 hp h9 hJ
    refine yq_il 54 5 kl_52 rfl l5 ?_
    refine yq_ci 120 56 kl_54 rfl ?_
    refine yq_if 775 59 kl_56 rfl rfl rfl (by unfold gb_R; omega) (by unfold gb_R; omega) (fun _ => ?_) (fun h9 => absurd (show 120 ≤ ((k : Int) : Int) by omega) h9)
    refine yq_il 777 4 kl_775 rfl l4 ?_
    exact yq_ret kl_777 trivial
  | succ m ih =>
    intro k hm p lo σ l0 l1 l2 l3 l4 l5 hp h9 hJ
    refine yq_b (b := 42 * m + 42) (by omega) ?_
    have h7 := lw_736 (xs := xs) (m := m) (k := k) (by omega) (ih (k + 1) (by omega))
    refine yq_il 54 5 kl_52 rfl l5 ?_
    refine yq_ci 120 56 kl_54 rfl ?_
    refine yq_if 775 59 kl_56 rfl rfl rfl (by unfold gb_R; omega) (by unfold gb_R; omega) (fun h9 => absurd h9 (show ¬ (120 ≤ ((k : Int) : Int)) by omega)) (fun _ => ?_)
    refine yq_il 61 4 kl_59 rfl l4 ?_
    refine yq_if0 775 64 kl_61 rfl rfl rfl (by unfold gb_R; omega) (fun h9 => absurd h9 (show ¬ ((1 : Int) = 0) by omega)) (fun _ => ?_)
    refine yq_al 65 0 kl_64 rfl l0 ?_
    refine yq_il 67 5 kl_65 rfl l5 ?_
    refine yq_ci 60 69 kl_67 rfl ?_
    refine yq_rem 70 kl_69 rfl (by omega) (by omega) ?_
    obtain ⟨z0, hz0, hdr⟩ := dr_call xs hl (j := ((k : Int) % 60)) (by omega) (gb_tab 0 σ 1 gb_sh ++ gb_tab 186 (dbl σ) 1 gb_sh)
    refine yq_c (N1 := 40) 73 (42 * m + 42) kl_70 (zs_ss rfl rfl rfl rfl rfl rfl rfl) (by show 0 + (42 * m + 42) = 42 * m + 42; omega) (fun N hN => (hCfL N 127 _ _ (by decide)).trans (hdr N hN)) rfl ?_
    refine yq_ci 1 74 kl_73 rfl ?_
    refine yq_il 76 5 kl_74 rfl l5 ?_
    refine yq_ci 60 78 kl_76 rfl ?_
    refine yq_div 79 kl_78 rfl (by omega) (by omega) ?_
    refine yq_add 80 kl_79 rfl ?_
    refine yq_div 81 kl_80 rfl (by omega) (by omega) ?_
    have hzq : 0 ≤ (z0 / (1 + ((k : Int) / 60))) ∧ (z0 / (1 + ((k : Int) / 60))) < 1073741824 := ⟨Int.ediv_nonneg (by omega) (by omega), Int.lt_of_le_of_lt (Int.ediv_le_self _ (by omega)) (by omega)⟩
    generalize hzq0 : (z0 / (1 + ((k : Int) / 60))) = zq at hzq ⊢
    refine yq_ci 7 83 kl_81 rfl ?_
    refine yq_il 85 5 kl_83 rfl l5 ?_
    refine yq_ci 60 87 kl_85 rfl ?_
    refine yq_div 88 kl_87 rfl (by omega) (by omega) ?_
    refine yq_mul 89 kl_88 rfl ?_
    refine yq_add 90 kl_89 rfl ?_
    refine yq_s 92 kl_90 rfl ?_
    exact lw_92 (by omega) h7 hp (by omega) (gl1 rfl rfl l0) (gl1 rfl rfl l1) (gl1 rfl rfl l2) (gl1 rfl rfl l3) (gl1 rfl rfl l5) gs1 h9 hJ
/-- the law's body, from where both objects are made -/
theorem lw_16 (hl : xs.length ≤ 260) (lo : gh_L) (l0 : lo.lookup 0 = some (Value.ref 0)) (l1 : lo.lookup 1 = some (Value.ref 1)) (l2 : lo.lookup 2 = some (Value.ref 187)) : yq cL gk_law (20, xs.map Value.int) (fun _ _ => True) (5040 + 2) 16 lo [] gp_s0 (dbl gp_s0) := by
  have h9 : gp_s0 1 9 = 0 := it_0.2.2.2.2.2.2.2.1
  obtain ⟨s1, t1, σ1, ea1, eb1, hW1, hJ1, h91⟩ := pj_128_0 (σ := gp_s0) (d := 40) (by omega) (by omega) it_JV
  refine yq_ci 0 17 kl_16 rfl ?_
  refine yq_s 18 kl_17 rfl ?_
  refine yq_al 19 1 kl_18 rfl (gl1 rfl rfl l1) ?_
  refine yq_ci 0 20 kl_19 rfl ?_
  refine yq_ci 40 22 kl_20 rfl ?_
  refine yq_ca (x := (gp_s0 1 9 + 40)) 25 (5040 + 1) hCfL (by decide) kl_22 (gm_128 _ _) rfl (zs_ss rfl rfl rfl rfl rfl rfl rfl) ea1 rfl (by show 1 + (5040 + 1) = 5040 + 2; omega) rfl ?_
  refine yq_ci 40 27 kl_25 rfl ?_
  refine yq_if 46 30 kl_27 rfl rfl rfl (by unfold gb_R; omega) (by unfold gb_R; omega) (fun h9 => absurd h9 (show ¬ (¬ ((gp_s0 1 9 + 40) : Int) = 40) by omega)) (fun _ => ?_)
  refine yq_al 31 2 kl_30 rfl (gl1 rfl rfl l2) ?_
  refine yq_ci 0 32 kl_31 rfl ?_
  refine yq_ci 80 34 kl_32 rfl ?_
  refine yq_cb (x := (2 * (gp_s0 1 9 + 40))) 37 (5040 + 0) hCfL (by decide) kl_34 (gm_128 _ _) rfl (zs_ss rfl rfl rfl rfl rfl rfl rfl) eb1 rfl (by show 1 + (5040 + 0) = 5040 + 1; omega) rfl ?_
  refine yq_W (fun a h => (hW1 a h).1) (fun a h => (hW1 a h).2) ?_
  refine yq_ci 80 39 kl_37 rfl ?_
  refine yq_if 46 42 kl_39 rfl rfl rfl (by unfold gb_R; omega) (by unfold gb_R; omega) (fun h9 => absurd h9 (show ¬ (¬ ((2 * (gp_s0 1 9 + 40)) : Int) = 80) by omega)) (fun _ => ?_)
  refine yq_ci 1 43 kl_42 rfl ?_
  refine yq_go 47 kl_43 rfl rfl ?_
  refine yq_s 49 kl_47 rfl ?_
  refine yq_ci 0 50 kl_49 rfl ?_
  refine yq_s 52 kl_50 rfl ?_
  exact yq_b (b := 42 * 120) (by omega) (lw_52 hl 120 0 rfl 0 _ σ1 (gl1 rfl rfl (gl1 rfl rfl (gl1 rfl rfl l0))) (gl1 rfl rfl (gl1 rfl rfl (gl1 rfl rfl l1))) (gl1 rfl rfl (gl1 rfl rfl (gl1 rfl rfl l2))) (gl1 rfl rfl (gl1 rfl rfl gs1)) (gl1 rfl rfl gs1) gs1 (by omega) (by omega) hJ1)
theorem gs_all (xs : List Int32) (hl : xs.length ≤ 260) : gs_Goal xs := by
  obtain ⟨N0, σ', τ', h1, -⟩ := lw_16 hl gb_lo rfl rfl rfl
  have h2 := h1 N0 N0 (Nat.le_refl _) (Nat.le_refl _)
  rw [gH2_eq (σ' := gb_s0) (τ' := gb_s0) (fun a ha => (it_a a ha).symm) (fun a ha => (it_b a ha).symm)] at h2
  refine ⟨N0, 100, N0, 5042, gH2 (20, xs.map Value.int) σ' τ', by omega, h2, ?_, ?_⟩
  · show (gb_tab 0 σ' 1 gb_sh ++ gb_tab 186 τ' 1 gb_sh).length + 1 - 1 + 0 + 5042 ≤ 620120
    rw [List.length_append, gb_tab_len, gb_tab_len, gb_sh_len]
    omega
  · have e1 : gh_sz (gH2 (20, xs.map Value.int) σ' τ') - xs.length + 0 = gh_sz (gH2 (99, []) gb_s0 gb_s0) - 0 + 0 := by
      unfold gH2
      rw [gs_e2]
      have e2 : ∀ (β : Nat) (σ τ : gb_S) (cs : List (Nat × List Nat)) (i : Nat), (gb_tab β σ i cs).map (fun c => c.2.length) = (gb_tab β τ i cs).map (fun c => c.2.length) := by
        intro β σ τ cs
        induction cs with
        | nil => intro i; rfl
        | cons c cs ih =>
          intro i
          show (gb_row β σ i 0 c.2).length :: (gb_tab β σ (i + 1) cs).map (fun c => c.2.length) = (gb_row β τ i 0 c.2).length :: (gb_tab β τ (i + 1) cs).map (fun c => c.2.length)
          rw [ih, gb_row_len, gb_row_len]
      unfold gh_sz
      rw [List.map_cons, List.map_cons, List.map_append, List.map_append, e2 0 σ' gb_s0, e2 186 τ' gb_s0]
    rw [e1]
    have e4 : gh_sz (gH2 (99, []) gb_s0 gb_s0) ≤ 20000 := by decide +kernel
    generalize gh_sz (gH2 (99, []) gb_s0 gb_s0) = w at e4 ⊢
    omega
end LW1
