/-! THE LAW: its body; what is written is written into a builder -/
theorem dL_law_0 : decode cL_law 0 = .ok (.iconst 0, 1) := by decide +kernel
theorem dL_law_1 : decode cL_law 1 = .ok (.istore_n 1, 1) := by decide +kernel
theorem dL_law_2 : decode cL_law 2 = .ok (.iload_n 1, 1) := by decide +kernel
theorem dL_law_3 : decode cL_law 3 = .ok (.aload_n 0, 1) := by decide +kernel
theorem dL_law_4 : decode cL_law 4 = .ok (.arraylength, 1) := by decide +kernel
theorem dL_law_5 : decode cL_law 5 = .ok (.if_icmp .ge 572, 3) := by decide +kernel
theorem dL_law_8 : decode cL_law 8 = .ok (.iload_n 1, 1) := by decide +kernel
theorem dL_law_9 : decode cL_law 9 = .ok (.iconst 1, 1) := by decide +kernel
theorem dL_law_10 : decode cL_law 10 = .ok (.if_icmp .ge 567, 3) := by decide +kernel
theorem dL_law_13 : decode cL_law 13 = .ok (.iconst 1, 1) := by decide +kernel
theorem dL_law_14 : decode cL_law 14 = .ok (.newarray .int, 2) := by decide +kernel
theorem dL_law_16 : decode cL_law 16 = .ok (.dup, 1) := by decide +kernel
theorem dL_law_17 : decode cL_law 17 = .ok (.iconst 0, 1) := by decide +kernel
theorem dL_law_18 : decode cL_law 18 = .ok (.aload_n 0, 1) := by decide +kernel
theorem dL_law_19 : decode cL_law 19 = .ok (.iload_n 1, 1) := by decide +kernel
theorem dL_law_20 : decode cL_law 20 = .ok (.iaload, 1) := by decide +kernel
theorem dL_law_21 : decode cL_law 21 = .ok (.iastore, 1) := by decide +kernel
theorem dL_law_22 : decode cL_law 22 = .ok (.astore_n 2, 1) := by decide +kernel
theorem dL_law_23 : decode cL_law 23 = .ok (.new 8, 3) := by decide +kernel
theorem dL_law_26 : decode cL_law 26 = .ok (.dup, 1) := by decide +kernel
theorem dL_law_27 : decode cL_law 27 = .ok (.invokespecial 268, 3) := by decide +kernel
theorem dL_law_30 : decode cL_law 30 = .ok (.astore_n 3, 1) := by decide +kernel
theorem dL_law_31 : decode cL_law 31 = .ok (.new 269, 3) := by decide +kernel
theorem dL_law_34 : decode cL_law 34 = .ok (.dup, 1) := by decide +kernel
theorem dL_law_35 : decode cL_law 35 = .ok (.ldc_w 271, 3) := by decide +kernel
theorem dL_law_38 : decode cL_law 38 = .ok (.invokespecial 273, 3) := by decide +kernel
theorem dL_law_41 : decode cL_law 41 = .ok (.astore 4, 2) := by decide +kernel
theorem dL_law_43 : decode cL_law 43 = .ok (.iconst 1, 1) := by decide +kernel
theorem dL_law_44 : decode cL_law 44 = .ok (.aload_n 2, 1) := by decide +kernel
theorem dL_law_45 : decode cL_law 45 = .ok (.iconst 4, 1) := by decide +kernel
theorem dL_law_46 : decode cL_law 46 = .ok (.invokestatic 234, 3) := by decide +kernel
theorem dL_law_49 : decode cL_law 49 = .ok (.iadd, 1) := by decide +kernel
theorem dL_law_50 : decode cL_law 50 = .ok (.istore 5, 2) := by decide +kernel
theorem dL_law_52 : decode cL_law 52 = .ok (.iconst 0, 1) := by decide +kernel
theorem dL_law_53 : decode cL_law 53 = .ok (.istore 6, 2) := by decide +kernel
theorem dL_law_55 : decode cL_law 55 = .ok (.iload 6, 2) := by decide +kernel
theorem dL_law_57 : decode cL_law 57 = .ok (.iload 5, 2) := by decide +kernel
theorem dL_law_59 : decode cL_law 59 = .ok (.if_icmp .ge 47, 3) := by decide +kernel
theorem dL_law_62 : decode cL_law 62 = .ok (.aload 4, 2) := by decide +kernel
theorem dL_law_64 : decode cL_law 64 = .ok (.ldc_w 276, 3) := by decide +kernel
theorem dL_law_67 : decode cL_law 67 = .ok (.invokevirtual 278, 3) := by decide +kernel
theorem dL_law_70 : decode cL_law 70 = .ok (.bipush 97, 2) := by decide +kernel
theorem dL_law_72 : decode cL_law 72 = .ok (.iload 6, 2) := by decide +kernel
theorem dL_law_74 : decode cL_law 74 = .ok (.iadd, 1) := by decide +kernel
theorem dL_law_75 : decode cL_law 75 = .ok (.i2c, 1) := by decide +kernel
theorem dL_law_76 : decode cL_law 76 = .ok (.invokevirtual 281, 3) := by decide +kernel
theorem dL_law_79 : decode cL_law 79 = .ok (.bipush 32, 2) := by decide +kernel
theorem dL_law_81 : decode cL_law 81 = .ok (.invokevirtual 281, 3) := by decide +kernel
theorem dL_law_84 : decode cL_law 84 = .ok (.iconst 1, 1) := by decide +kernel
theorem dL_law_85 : decode cL_law 85 = .ok (.aload_n 2, 1) := by decide +kernel
theorem dL_law_86 : decode cL_law 86 = .ok (.iconst 4, 1) := by decide +kernel
theorem dL_law_87 : decode cL_law 87 = .ok (.invokestatic 234, 3) := by decide +kernel
theorem dL_law_90 : decode cL_law 90 = .ok (.iadd, 1) := by decide +kernel
theorem dL_law_91 : decode cL_law 91 = .ok (.invokevirtual 284, 3) := by decide +kernel
theorem dL_law_94 : decode cL_law 94 = .ok (.bipush 59, 2) := by decide +kernel
theorem dL_law_96 : decode cL_law 96 = .ok (.invokevirtual 281, 3) := by decide +kernel
theorem dL_law_99 : decode cL_law 99 = .ok (.pop, 1) := by decide +kernel
theorem dL_law_100 : decode cL_law 100 = .ok (.iinc 6 1, 3) := by decide +kernel
theorem dL_law_103 : decode cL_law 103 = .ok (.goto (-48), 3) := by decide +kernel
theorem dL_law_106 : decode cL_law 106 = .ok (.iconst 1, 1) := by decide +kernel
theorem dL_law_107 : decode cL_law 107 = .ok (.aload_n 2, 1) := by decide +kernel
theorem dL_law_108 : decode cL_law 108 = .ok (.bipush 6, 2) := by decide +kernel
theorem dL_law_110 : decode cL_law 110 = .ok (.invokestatic 234, 3) := by decide +kernel
theorem dL_law_113 : decode cL_law 113 = .ok (.iadd, 1) := by decide +kernel
theorem dL_law_114 : decode cL_law 114 = .ok (.istore 6, 2) := by decide +kernel
theorem dL_law_116 : decode cL_law 116 = .ok (.iconst 0, 1) := by decide +kernel
theorem dL_law_117 : decode cL_law 117 = .ok (.istore 7, 2) := by decide +kernel
theorem dL_law_119 : decode cL_law 119 = .ok (.iload 7, 2) := by decide +kernel
theorem dL_law_121 : decode cL_law 121 = .ok (.iload 6, 2) := by decide +kernel
theorem dL_law_123 : decode cL_law 123 = .ok (.if_icmp .ge 91, 3) := by decide +kernel
theorem dL_law_126 : decode cL_law 126 = .ok (.aload 4, 2) := by decide +kernel
theorem dL_law_128 : decode cL_law 128 = .ok (.ldc_w 287, 3) := by decide +kernel
theorem dL_law_131 : decode cL_law 131 = .ok (.invokevirtual 278, 3) := by decide +kernel
theorem dL_law_134 : decode cL_law 134 = .ok (.bipush 97, 2) := by decide +kernel
theorem dL_law_136 : decode cL_law 136 = .ok (.iload 7, 2) := by decide +kernel
theorem dL_law_138 : decode cL_law 138 = .ok (.iadd, 1) := by decide +kernel
theorem dL_law_139 : decode cL_law 139 = .ok (.i2c, 1) := by decide +kernel
theorem dL_law_140 : decode cL_law 140 = .ok (.invokevirtual 281, 3) := by decide +kernel
theorem dL_law_143 : decode cL_law 143 = .ok (.bipush 32, 2) := by decide +kernel
theorem dL_law_145 : decode cL_law 145 = .ok (.invokevirtual 281, 3) := by decide +kernel
theorem dL_law_148 : decode cL_law 148 = .ok (.aload_n 2, 1) := by decide +kernel
theorem dL_law_149 : decode cL_law 149 = .ok (.bipush 8, 2) := by decide +kernel
theorem dL_law_151 : decode cL_law 151 = .ok (.invokestatic 234, 3) := by decide +kernel
theorem dL_law_154 : decode cL_law 154 = .ok (.invokevirtual 284, 3) := by decide +kernel
theorem dL_law_157 : decode cL_law 157 = .ok (.pop, 1) := by decide +kernel
theorem dL_law_158 : decode cL_law 158 = .ok (.iconst 0, 1) := by decide +kernel
theorem dL_law_159 : decode cL_law 159 = .ok (.istore 8, 2) := by decide +kernel
theorem dL_law_161 : decode cL_law 161 = .ok (.iload 8, 2) := by decide +kernel
theorem dL_law_163 : decode cL_law 163 = .ok (.iload 5, 2) := by decide +kernel
theorem dL_law_165 : decode cL_law 165 = .ok (.if_icmp .ge 35, 3) := by decide +kernel
theorem dL_law_168 : decode cL_law 168 = .ok (.aload_n 2, 1) := by decide +kernel
theorem dL_law_169 : decode cL_law 169 = .ok (.iconst 2, 1) := by decide +kernel
theorem dL_law_170 : decode cL_law 170 = .ok (.invokestatic 234, 3) := by decide +kernel
theorem dL_law_173 : decode cL_law 173 = .ok (.ifCond .ne 21, 3) := by decide +kernel
theorem dL_law_176 : decode cL_law 176 = .ok (.aload 4, 2) := by decide +kernel
theorem dL_law_178 : decode cL_law 178 = .ok (.ldc_w 289, 3) := by decide +kernel
theorem dL_law_181 : decode cL_law 181 = .ok (.invokevirtual 278, 3) := by decide +kernel
theorem dL_law_184 : decode cL_law 184 = .ok (.bipush 97, 2) := by decide +kernel
theorem dL_law_186 : decode cL_law 186 = .ok (.iload 8, 2) := by decide +kernel
theorem dL_law_188 : decode cL_law 188 = .ok (.iadd, 1) := by decide +kernel
theorem dL_law_189 : decode cL_law 189 = .ok (.i2c, 1) := by decide +kernel
theorem dL_law_190 : decode cL_law 190 = .ok (.invokevirtual 281, 3) := by decide +kernel
theorem dL_law_193 : decode cL_law 193 = .ok (.pop, 1) := by decide +kernel
theorem dL_law_194 : decode cL_law 194 = .ok (.iinc 8 1, 3) := by decide +kernel
theorem dL_law_197 : decode cL_law 197 = .ok (.goto (-36), 3) := by decide +kernel
theorem dL_law_200 : decode cL_law 200 = .ok (.aload 4, 2) := by decide +kernel
theorem dL_law_202 : decode cL_law 202 = .ok (.bipush 59, 2) := by decide +kernel
theorem dL_law_204 : decode cL_law 204 = .ok (.invokevirtual 281, 3) := by decide +kernel
theorem dL_law_207 : decode cL_law 207 = .ok (.pop, 1) := by decide +kernel
theorem dL_law_208 : decode cL_law 208 = .ok (.iinc 7 1, 3) := by decide +kernel
theorem dL_law_211 : decode cL_law 211 = .ok (.goto (-92), 3) := by decide +kernel
theorem dL_law_214 : decode cL_law 214 = .ok (.iconst 1, 1) := by decide +kernel
theorem dL_law_215 : decode cL_law 215 = .ok (.aload_n 2, 1) := by decide +kernel
theorem dL_law_216 : decode cL_law 216 = .ok (.iconst 3, 1) := by decide +kernel
theorem dL_law_217 : decode cL_law 217 = .ok (.invokestatic 234, 3) := by decide +kernel
theorem dL_law_220 : decode cL_law 220 = .ok (.iadd, 1) := by decide +kernel
theorem dL_law_221 : decode cL_law 221 = .ok (.istore 7, 2) := by decide +kernel
theorem dL_law_223 : decode cL_law 223 = .ok (.iconst 0, 1) := by decide +kernel
theorem dL_law_224 : decode cL_law 224 = .ok (.istore 8, 2) := by decide +kernel
theorem dL_law_226 : decode cL_law 226 = .ok (.iload 8, 2) := by decide +kernel
theorem dL_law_228 : decode cL_law 228 = .ok (.iload 7, 2) := by decide +kernel
theorem dL_law_230 : decode cL_law 230 = .ok (.if_icmp .ge 110, 3) := by decide +kernel
theorem dL_law_233 : decode cL_law 233 = .ok (.aload 4, 2) := by decide +kernel
theorem dL_law_235 : decode cL_law 235 = .ok (.ldc_w 291, 3) := by decide +kernel
theorem dL_law_238 : decode cL_law 238 = .ok (.invokevirtual 278, 3) := by decide +kernel
theorem dL_law_241 : decode cL_law 241 = .ok (.bipush 97, 2) := by decide +kernel
theorem dL_law_243 : decode cL_law 243 = .ok (.iload 8, 2) := by decide +kernel
theorem dL_law_245 : decode cL_law 245 = .ok (.iadd, 1) := by decide +kernel
theorem dL_law_246 : decode cL_law 246 = .ok (.i2c, 1) := by decide +kernel
theorem dL_law_247 : decode cL_law 247 = .ok (.invokevirtual 281, 3) := by decide +kernel
theorem dL_law_250 : decode cL_law 250 = .ok (.bipush 32, 2) := by decide +kernel
theorem dL_law_252 : decode cL_law 252 = .ok (.invokevirtual 281, 3) := by decide +kernel
theorem dL_law_255 : decode cL_law 255 = .ok (.aload_n 2, 1) := by decide +kernel
theorem dL_law_256 : decode cL_law 256 = .ok (.bipush 24, 2) := by decide +kernel
theorem dL_law_258 : decode cL_law 258 = .ok (.invokestatic 234, 3) := by decide +kernel
theorem dL_law_261 : decode cL_law 261 = .ok (.invokevirtual 284, 3) := by decide +kernel
theorem dL_law_264 : decode cL_law 264 = .ok (.bipush 32, 2) := by decide +kernel
theorem dL_law_266 : decode cL_law 266 = .ok (.invokevirtual 281, 3) := by decide +kernel
theorem dL_law_269 : decode cL_law 269 = .ok (.aload_n 2, 1) := by decide +kernel
theorem dL_law_270 : decode cL_law 270 = .ok (.bipush 24, 2) := by decide +kernel
theorem dL_law_272 : decode cL_law 272 = .ok (.invokestatic 234, 3) := by decide +kernel
theorem dL_law_275 : decode cL_law 275 = .ok (.invokevirtual 284, 3) := by decide +kernel
theorem dL_law_278 : decode cL_law 278 = .ok (.bipush 32, 2) := by decide +kernel
theorem dL_law_280 : decode cL_law 280 = .ok (.invokevirtual 281, 3) := by decide +kernel
theorem dL_law_283 : decode cL_law 283 = .ok (.aload_n 2, 1) := by decide +kernel
theorem dL_law_284 : decode cL_law 284 = .ok (.bipush 12, 2) := by decide +kernel
theorem dL_law_286 : decode cL_law 286 = .ok (.invokestatic 234, 3) := by decide +kernel
theorem dL_law_289 : decode cL_law 289 = .ok (.invokevirtual 284, 3) := by decide +kernel
theorem dL_law_292 : decode cL_law 292 = .ok (.pop, 1) := by decide +kernel
theorem dL_law_293 : decode cL_law 293 = .ok (.iconst 0, 1) := by decide +kernel
theorem dL_law_294 : decode cL_law 294 = .ok (.istore 9, 2) := by decide +kernel
theorem dL_law_296 : decode cL_law 296 = .ok (.iload 9, 2) := by decide +kernel
theorem dL_law_298 : decode cL_law 298 = .ok (.iload 6, 2) := by decide +kernel
theorem dL_law_300 : decode cL_law 300 = .ok (.if_icmp .ge 26, 3) := by decide +kernel
theorem dL_law_303 : decode cL_law 303 = .ok (.aload 4, 2) := by decide +kernel
theorem dL_law_305 : decode cL_law 305 = .ok (.bipush 32, 2) := by decide +kernel
theorem dL_law_307 : decode cL_law 307 = .ok (.invokevirtual 281, 3) := by decide +kernel
theorem dL_law_310 : decode cL_law 310 = .ok (.aload_n 2, 1) := by decide +kernel
theorem dL_law_311 : decode cL_law 311 = .ok (.bipush 60, 2) := by decide +kernel
theorem dL_law_313 : decode cL_law 313 = .ok (.invokestatic 234, 3) := by decide +kernel
theorem dL_law_316 : decode cL_law 316 = .ok (.invokevirtual 284, 3) := by decide +kernel
theorem dL_law_319 : decode cL_law 319 = .ok (.pop, 1) := by decide +kernel
theorem dL_law_320 : decode cL_law 320 = .ok (.iinc 9 1, 3) := by decide +kernel
theorem dL_law_323 : decode cL_law 323 = .ok (.goto (-27), 3) := by decide +kernel
theorem dL_law_326 : decode cL_law 326 = .ok (.aload 4, 2) := by decide +kernel
theorem dL_law_328 : decode cL_law 328 = .ok (.bipush 59, 2) := by decide +kernel
theorem dL_law_330 : decode cL_law 330 = .ok (.invokevirtual 281, 3) := by decide +kernel
theorem dL_law_333 : decode cL_law 333 = .ok (.pop, 1) := by decide +kernel
theorem dL_law_334 : decode cL_law 334 = .ok (.iinc 8 1, 3) := by decide +kernel
theorem dL_law_337 : decode cL_law 337 = .ok (.goto (-111), 3) := by decide +kernel
theorem dL_law_340 : decode cL_law 340 = .ok (.aload_n 3, 1) := by decide +kernel
theorem dL_law_341 : decode cL_law 341 = .ok (.aload 4, 2) := by decide +kernel
theorem dL_law_343 : decode cL_law 343 = .ok (.invokevirtual 293, 3) := by decide +kernel
theorem dL_law_346 : decode cL_law 346 = .ok (.invokestatic 297, 3) := by decide +kernel
theorem dL_law_349 : decode cL_law 349 = .ok (.ifCond .eq 20, 3) := by decide +kernel
theorem dL_law_352 : decode cL_law 352 = .ok (.aload_n 3, 1) := by decide +kernel
theorem dL_law_353 : decode cL_law 353 = .ok (.invokevirtual 301, 3) := by decide +kernel
theorem dL_law_356 : decode cL_law 356 = .ok (.iload 6, 2) := by decide +kernel
theorem dL_law_358 : decode cL_law 358 = .ok (.if_icmp .ne 11, 3) := by decide +kernel
theorem dL_law_361 : decode cL_law 361 = .ok (.aload_n 3, 1) := by decide +kernel
theorem dL_law_362 : decode cL_law 362 = .ok (.invokevirtual 231, 3) := by decide +kernel
theorem dL_law_365 : decode cL_law 365 = .ok (.iconst (-1), 1) := by decide +kernel
theorem dL_law_366 : decode cL_law 366 = .ok (.if_icmp .eq 5, 3) := by decide +kernel
theorem dL_law_369 : decode cL_law 369 = .ok (.iconst 0, 1) := by decide +kernel
theorem dL_law_370 : decode cL_law 370 = .ok (.ireturn, 1) := by decide +kernel
theorem dL_law_371 : decode cL_law 371 = .ok (.iconst 0, 1) := by decide +kernel
theorem dL_law_372 : decode cL_law 372 = .ok (.istore 8, 2) := by decide +kernel
theorem dL_law_374 : decode cL_law 374 = .ok (.iload 8, 2) := by decide +kernel
theorem dL_law_376 : decode cL_law 376 = .ok (.iload 7, 2) := by decide +kernel
theorem dL_law_378 : decode cL_law 378 = .ok (.if_icmp .ge 53, 3) := by decide +kernel
theorem dL_law_381 : decode cL_law 381 = .ok (.aload_n 3, 1) := by decide +kernel
theorem dL_law_382 : decode cL_law 382 = .ok (.iload 8, 2) := by decide +kernel
theorem dL_law_384 : decode cL_law 384 = .ok (.invokestatic 175, 3) := by decide +kernel
theorem dL_law_387 : decode cL_law 387 = .ok (.aload_n 3, 1) := by decide +kernel
theorem dL_law_388 : decode cL_law 388 = .ok (.iload 8, 2) := by decide +kernel
theorem dL_law_390 : decode cL_law 390 = .ok (.aload_n 3, 1) := by decide +kernel
theorem dL_law_391 : decode cL_law 391 = .ok (.iload 8, 2) := by decide +kernel
theorem dL_law_393 : decode cL_law 393 = .ok (.invokestatic 194, 3) := by decide +kernel
theorem dL_law_396 : decode cL_law 396 = .ok (.invokestatic 192, 3) := by decide +kernel
theorem dL_law_399 : decode cL_law 399 = .ok (.if_icmp .ne 24, 3) := by decide +kernel
theorem dL_law_402 : decode cL_law 402 = .ok (.aload_n 3, 1) := by decide +kernel
theorem dL_law_403 : decode cL_law 403 = .ok (.iload 8, 2) := by decide +kernel
theorem dL_law_405 : decode cL_law 405 = .ok (.invokestatic 177, 3) := by decide +kernel
theorem dL_law_408 : decode cL_law 408 = .ok (.aload_n 3, 1) := by decide +kernel
theorem dL_law_409 : decode cL_law 409 = .ok (.iload 8, 2) := by decide +kernel
theorem dL_law_411 : decode cL_law 411 = .ok (.aload_n 3, 1) := by decide +kernel
theorem dL_law_412 : decode cL_law 412 = .ok (.iload 8, 2) := by decide +kernel
theorem dL_law_414 : decode cL_law 414 = .ok (.invokestatic 194, 3) := by decide +kernel
theorem dL_law_417 : decode cL_law 417 = .ok (.invokestatic 201, 3) := by decide +kernel
theorem dL_law_420 : decode cL_law 420 = .ok (.if_icmp .eq 5, 3) := by decide +kernel
theorem dL_law_423 : decode cL_law 423 = .ok (.iconst 0, 1) := by decide +kernel
theorem dL_law_424 : decode cL_law 424 = .ok (.ireturn, 1) := by decide +kernel
theorem dL_law_425 : decode cL_law 425 = .ok (.iinc 8 1, 3) := by decide +kernel
theorem dL_law_428 : decode cL_law 428 = .ok (.goto (-54), 3) := by decide +kernel
theorem dL_law_431 : decode cL_law 431 = .ok (.iconst 0, 1) := by decide +kernel
theorem dL_law_432 : decode cL_law 432 = .ok (.istore 8, 2) := by decide +kernel
theorem dL_law_434 : decode cL_law 434 = .ok (.iload 8, 2) := by decide +kernel
theorem dL_law_436 : decode cL_law 436 = .ok (.bipush 24, 2) := by decide +kernel
theorem dL_law_438 : decode cL_law 438 = .ok (.if_icmp .ge 36, 3) := by decide +kernel
theorem dL_law_441 : decode cL_law 441 = .ok (.aload_n 3, 1) := by decide +kernel
theorem dL_law_442 : decode cL_law 442 = .ok (.aload_n 2, 1) := by decide +kernel
theorem dL_law_443 : decode cL_law 443 = .ok (.invokestatic 304, 3) := by decide +kernel
theorem dL_law_446 : decode cL_law 446 = .ok (.ifCond .ne 5, 3) := by decide +kernel
theorem dL_law_449 : decode cL_law 449 = .ok (.iconst 0, 1) := by decide +kernel
theorem dL_law_450 : decode cL_law 450 = .ok (.ireturn, 1) := by decide +kernel
theorem dL_law_451 : decode cL_law 451 = .ok (.iload 8, 2) := by decide +kernel
theorem dL_law_453 : decode cL_law 453 = .ok (.bipush 6, 2) := by decide +kernel
theorem dL_law_455 : decode cL_law 455 = .ok (.irem, 1) := by decide +kernel
theorem dL_law_456 : decode cL_law 456 = .ok (.ifCond .ne 12, 3) := by decide +kernel
theorem dL_law_459 : decode cL_law 459 = .ok (.aload_n 3, 1) := by decide +kernel
theorem dL_law_460 : decode cL_law 460 = .ok (.invokestatic 308, 3) := by decide +kernel
theorem dL_law_463 : decode cL_law 463 = .ok (.ifCond .ne 5, 3) := by decide +kernel
theorem dL_law_466 : decode cL_law 466 = .ok (.iconst 0, 1) := by decide +kernel
theorem dL_law_467 : decode cL_law 467 = .ok (.ireturn, 1) := by decide +kernel
theorem dL_law_468 : decode cL_law 468 = .ok (.iinc 8 1, 3) := by decide +kernel
theorem dL_law_471 : decode cL_law 471 = .ok (.goto (-37), 3) := by decide +kernel
theorem dL_law_474 : decode cL_law 474 = .ok (.aload_n 3, 1) := by decide +kernel
theorem dL_law_475 : decode cL_law 475 = .ok (.invokestatic 308, 3) := by decide +kernel
theorem dL_law_478 : decode cL_law 478 = .ok (.ifCond .ne 5, 3) := by decide +kernel
theorem dL_law_481 : decode cL_law 481 = .ok (.iconst 0, 1) := by decide +kernel
theorem dL_law_482 : decode cL_law 482 = .ok (.ireturn, 1) := by decide +kernel
theorem dL_law_483 : decode cL_law 483 = .ok (.aload_n 3, 1) := by decide +kernel
theorem dL_law_484 : decode cL_law 484 = .ok (.invokevirtual 312, 3) := by decide +kernel
theorem dL_law_487 : decode cL_law 487 = .ok (.istore 8, 2) := by decide +kernel
theorem dL_law_489 : decode cL_law 489 = .ok (.aload_n 2, 1) := by decide +kernel
theorem dL_law_490 : decode cL_law 490 = .ok (.iload 7, 2) := by decide +kernel
theorem dL_law_492 : decode cL_law 492 = .ok (.invokestatic 234, 3) := by decide +kernel
theorem dL_law_495 : decode cL_law 495 = .ok (.istore 9, 2) := by decide +kernel
theorem dL_law_497 : decode cL_law 497 = .ok (.aload_n 3, 1) := by decide +kernel
theorem dL_law_498 : decode cL_law 498 = .ok (.iload 9, 2) := by decide +kernel
theorem dL_law_500 : decode cL_law 500 = .ok (.invokestatic 175, 3) := by decide +kernel
theorem dL_law_503 : decode cL_law 503 = .ok (.istore 10, 2) := by decide +kernel
theorem dL_law_505 : decode cL_law 505 = .ok (.aload_n 3, 1) := by decide +kernel
theorem dL_law_506 : decode cL_law 506 = .ok (.iload 9, 2) := by decide +kernel
theorem dL_law_508 : decode cL_law 508 = .ok (.invokestatic 149, 3) := by decide +kernel
theorem dL_law_511 : decode cL_law 511 = .ok (.istore 11, 2) := by decide +kernel
theorem dL_law_513 : decode cL_law 513 = .ok (.aload_n 3, 1) := by decide +kernel
theorem dL_law_514 : decode cL_law 514 = .ok (.iload 9, 2) := by decide +kernel
theorem dL_law_516 : decode cL_law 516 = .ok (.invokestatic 249, 3) := by decide +kernel
theorem dL_law_519 : decode cL_law 519 = .ok (.ifCond .eq 50, 3) := by decide +kernel
theorem dL_law_522 : decode cL_law 522 = .ok (.aload_n 3, 1) := by decide +kernel
theorem dL_law_523 : decode cL_law 523 = .ok (.invokestatic 315, 3) := by decide +kernel
theorem dL_law_526 : decode cL_law 526 = .ok (.bipush 8, 2) := by decide +kernel
theorem dL_law_528 : decode cL_law 528 = .ok (.iload 8, 2) := by decide +kernel
theorem dL_law_530 : decode cL_law 530 = .ok (.iconst 1, 1) := by decide +kernel
theorem dL_law_531 : decode cL_law 531 = .ok (.iadd, 1) := by decide +kernel
theorem dL_law_532 : decode cL_law 532 = .ok (.invokestatic 244, 3) := by decide +kernel
theorem dL_law_535 : decode cL_law 535 = .ok (.iconst 1, 1) := by decide +kernel
theorem dL_law_536 : decode cL_law 536 = .ok (.isub, 1) := by decide +kernel
theorem dL_law_537 : decode cL_law 537 = .ok (.if_icmp .ne 32, 3) := by decide +kernel
theorem dL_law_540 : decode cL_law 540 = .ok (.aload_n 3, 1) := by decide +kernel
theorem dL_law_541 : decode cL_law 541 = .ok (.iload 9, 2) := by decide +kernel
theorem dL_law_543 : decode cL_law 543 = .ok (.invokestatic 175, 3) := by decide +kernel
theorem dL_law_546 : decode cL_law 546 = .ok (.iload 10, 2) := by decide +kernel
theorem dL_law_548 : decode cL_law 548 = .ok (.if_icmp .ne 21, 3) := by decide +kernel
theorem dL_law_551 : decode cL_law 551 = .ok (.aload_n 3, 1) := by decide +kernel
theorem dL_law_552 : decode cL_law 552 = .ok (.iload 9, 2) := by decide +kernel
theorem dL_law_554 : decode cL_law 554 = .ok (.invokestatic 149, 3) := by decide +kernel
theorem dL_law_557 : decode cL_law 557 = .ok (.iload 11, 2) := by decide +kernel
theorem dL_law_559 : decode cL_law 559 = .ok (.if_icmp .ne 10, 3) := by decide +kernel
theorem dL_law_562 : decode cL_law 562 = .ok (.aload_n 3, 1) := by decide +kernel
theorem dL_law_563 : decode cL_law 563 = .ok (.invokestatic 308, 3) := by decide +kernel
theorem dL_law_566 : decode cL_law 566 = .ok (.ifCond .ne 5, 3) := by decide +kernel
theorem dL_law_569 : decode cL_law 569 = .ok (.iconst 0, 1) := by decide +kernel
theorem dL_law_570 : decode cL_law 570 = .ok (.ireturn, 1) := by decide +kernel
theorem dL_law_571 : decode cL_law 571 = .ok (.iinc 1 1, 3) := by decide +kernel
theorem dL_law_574 : decode cL_law 574 = .ok (.goto (-572), 3) := by decide +kernel
theorem dL_law_577 : decode cL_law 577 = .ok (.iconst 1, 1) := by decide +kernel
theorem dL_law_578 : decode cL_law 578 = .ok (.ireturn, 1) := by decide +kernel
def m_W (n : Nat) (xs : Nat → Int32) : am_M := (yL_law, code, 12, some .boolean, [], some (n, xs))
theorem sbC.fr {N : Nat} {Γ : am_G} {I I' : am_I} {b q : Nat} {t : List Nat} (h : sbC N Γ I b q t) (e : ∀ k, N ≤ k → I' k = I k) : sbC N Γ I' b q t := by
  obtain ⟨v, m, g1, g2, g3, ob, g4, a, g5, g6, g7, g8, g9, g10, g11, g12⟩ := h
  exact ⟨v, m, g1, g2, g3, ob, g4, a, g5, g6, g7, by rw [e b g1]; exact g8, by rw [e b g1]; exact g9, g10, fun j hj => by rw [e v g2]; exact g11 j hj, fun j hj => by rw [e v g2]; exact g12 j hj⟩
/-- the class's cells stand as they did, the builder b holds t -/
def txS (Γb : am_G) (Ib : am_I) (Lb : am_L) (Γ : am_G) (I : am_I) (L : am_L) (b : Nat) (t : List Nat) : Prop := kpN 450 Γb Γ Ib I Lb L ∧ 451 ≤ Γ.1 ∧ am_ar Γ 450 1 1 0 ∧ sbC 451 Γ I b t.length t
section LW
variable {n mc ms bc bs pc : Nat} {xs : Nat → Int32} {Γb Γ : am_G} {Ib I : am_I} {Lb L : am_L} {Q : am_Q} {b : Nat} {t : List Nat} {ls : List (Nat × Value)} {st : List Value}
theorem txS.bu (h : txS Γb Ib Lb Γ I L b t) : am_ob Γ b 10 := h.2.2.2.choose_spec.choose_spec.2.2.2.1
theorem txS.ap {Γ' : am_G} {I' : am_I} {L' : am_L} {t' : List Nat} (h : txS Γb Ib Lb Γ I L b t) (k : kpN 451 Γ Γ' I I' L L') (s : sbC 451 Γ' I' b t'.length t') : txS Γb Ib Lb Γ' I' L' b t' :=
  ⟨h.1.tr ⟨k.1, fun j hj => k.2 j (by omega)⟩, Nat.le_trans h.2.1 k.1, ⟨Nat.lt_of_lt_of_le h.2.2.1.1 k.1, (k.2 450 (by decide)).1.trans h.2.2.1.2⟩, s⟩
theorem txS.dr (h : txS Γb Ib Lb Γ I L b t) (x : Int32) : txS Γb Ib Lb Γ (am_u I 450 0 x) L b t :=
  ⟨h.1.tr ⟨Nat.le_refl _, fun j hj => ⟨rfl, rfl, am_u_ne (by omega), rfl⟩⟩, h.2.1, h.2.2.1, h.2.2.2.fr (fun k hk => am_u_ne (by omega))⟩
theorem lw_appC {c i : Nat} (hd : decode code pc = .ok (.invokevirtual i, 3)) (hi : i = 281) (X : txS Γb Ib Lb Γ I L b t) (ht : t.length < 600) (hc : c < 128) (hls : ∀ q ∈ ls, am_ok Γ q.2) (kk : ∀ Γ' I' L', Γ.1 ≤ Γ'.1 → txS Γb Ib Lb Γ' I' L' b (t ++ [c]) → am_W (m_W n xs) 290 mc ms true bc bs (pc + 3) ls [.ref b] Γ' I' L' Q) : am_W (m_W n xs) 290 mc ms true (bc + 1) (bs + 1300) pc ls [.int (nn c), .ref b] Γ I L Q := by
  subst hi
  refine aw_grB (ci := 10) (mc' := 1) (ms' := 1300) (as := [.int (nn c)]) (rst := []) k_J4_append_cf468 l_L_281 i_J4_append_cf468 s_J4_append_cf468 rfl rfl X.bu hd rfl (Nat.le_of_ble_eq_true rfl) (by omega) (by omega) (am_C.up (eB4_appendC (d := 0) X.2.2.2 X.2.1 ht hc) (by decide)) rfl hls oks_nil (fun _ _ _ _ z => nomatch z.1) ?_
  rintro w G J M ⟨e1, kp, h2⟩
  cases e1
  exact aw_bcs (by omega) (by omega) (kk _ _ _ kp.1 (X.ap kp h2))
theorem lw_appI {c i : Nat} (hd : decode code pc = .ok (.invokevirtual i, 3)) (hi : i = 284) (X : txS Γb Ib Lb Γ I L b t) (ht : t.length < 600) (hc : c < 100) (hls : ∀ q ∈ ls, am_ok Γ q.2) (kk : ∀ Γ' I' L', Γ.1 ≤ Γ'.1 → txS Γb Ib Lb Γ' I' L' b (t ++ dig c) → am_W (m_W n xs) 290 mc ms true bc bs (pc + 3) ls [.ref b] Γ' I' L' Q) : am_W (m_W n xs) 290 mc ms true (bc + 1) (bs + 1300) pc ls [.int (nn c), .ref b] Γ I L Q := by
  subst hi
  refine aw_grB (ci := 10) (mc' := 1) (ms' := 1300) (as := [.int (nn c)]) (rst := []) k_J4_append_bf812 l_L_284 i_J4_append_bf812 s_J4_append_bf812 rfl rfl X.bu hd rfl (Nat.le_of_ble_eq_true rfl) (by omega) (by omega) (am_C.up (eB4_appendI (d := 0) X.2.2.2 X.2.1 ht hc) (by decide)) rfl hls oks_nil (fun _ _ _ _ z => nomatch z.1) ?_
  rintro w G J M ⟨e1, kp, h2⟩
  cases e1
  exact aw_bcs (by omega) (by omega) (kk _ _ _ kp.1 (X.ap kp h2))
theorem lw_appS {j i : Nat} (hd : decode code pc = .ok (.invokevirtual i, 3)) (hi : i = 278) (X : txS Γb Ib Lb Γ I L b t) (ht : t.length < 600) (hj : j < am_sn) (hj2 : tlen j ≤ 40) (hls : ∀ q ∈ ls, am_ok Γ q.2) (kk : ∀ Γ' I' L', Γ.1 ≤ Γ'.1 → txS Γb Ib Lb Γ' I' L' b (t ++ tl j) → am_W (m_W n xs) 290 mc ms true bc bs (pc + 3) ls [.ref b] Γ' I' L' Q) : am_W (m_W n xs) 290 mc ms true (bc + 1) (bs + 1300) pc ls [.retAddr j, .ref b] Γ I L Q := by
  subst hi
  refine aw_grB (ci := 10) (mc' := 1) (ms' := 1300) (as := [.retAddr j]) (rst := []) k_J4_append_15ec4 l_L_278 i_J4_append_15ec4 s_J4_append_15ec4 rfl rfl X.bu hd rfl (Nat.le_of_ble_eq_true rfl) (by omega) (by omega) (am_C.up (eB4_appendS (d := 0) X.2.2.2 X.2.1 ht hj hj2) (by decide)) rfl hls oks_nil (fun _ _ _ _ z => nomatch z.1) ?_
  rintro w G J M ⟨e1, kp, h2⟩
  cases e1
  exact aw_bcs (by omega) (by omega) (kk _ _ _ kp.1 (X.ap kp h2))
theorem lw_draw {k i : Nat} {rst : List Value} (hd : decode code pc = .ok (.invokestatic i, 3)) (hi : i = 234) (a : am_ar Γ 450 1 1 0) (hk : 0 < k) (hk2 : k < 1000) (hs : am_sz rst ≤ 8) (kk : ∀ r x, r < k → am_W (m_W n xs) 290 mc ms true bc bs (pc + 3) ls (.int (nn r) :: rst) Γ (am_u I 450 0 x) L Q) : am_W (m_W n xs) 290 mc ms true bc bs pc ls (.int (nn k) :: .ref 450 :: rst) Γ I L Q := by
  subst hi
  obtain ⟨r, x, hr, E⟩ := eL_draw (d := 289) (I := I) (L := L) (k := k) a hk hk2
  exact aw_askS (as := [.ref 450, .int (nn k)]) (rst := rst) k_L_draw l_L_234 t_L_draw hd rfl hs (Nat.zero_le _) (Nat.zero_le _) E rfl rfl (kk r x hr)
/-- a letter of the alphabet -/
theorem chr97 : ∀ j, j < 20 → ((97 + nn j : Int32).toUInt32 % 65536).toInt32 = nn (97 + j) := by decide
end LW
