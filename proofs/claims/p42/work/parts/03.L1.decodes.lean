theorem dL_would_78 : decode cL_would 78 = .ok (.iconst 0, 1) := by decide +kernel
theorem dL_would_79 : decode cL_would 79 = .ok (.istore 8, 2) := by decide +kernel
theorem dL_would_81 : decode cL_would 81 = .ok (.aload_n 0, 1) := by decide +kernel
theorem dL_would_82 : decode cL_would 82 = .ok (.iload_n 2, 1) := by decide +kernel
theorem dL_would_83 : decode cL_would 83 = .ok (.iload 8, 2) := by decide +kernel
theorem dL_would_85 : decode cL_would 85 = .ok (.iload 6, 2) := by decide +kernel
theorem dL_would_87 : decode cL_would 87 = .ok (.iload 7, 2) := by decide +kernel
theorem dL_would_89 : decode cL_would 89 = .ok (.invokevirtual 79, 3) := by decide +kernel
theorem dL_would_92 : decode cL_would 92 = .ok (.istore 9, 2) := by decide +kernel
theorem dL_would_94 : decode cL_would 94 = .ok (.iload_n 1, 1) := by decide +kernel
theorem dL_would_95 : decode cL_would 95 = .ok (.iconst 5, 1) := by decide +kernel
theorem dL_would_96 : decode cL_would 96 = .ok (.ishr, 1) := by decide +kernel
theorem dL_would_97 : decode cL_would 97 = .ok (.bipush 10, 2) := by decide +kernel
theorem dL_would_99 : decode cL_would 99 = .ok (.invokestatic 70, 3) := by decide +kernel
theorem dL_would_102 : decode cL_would 102 = .ok (.iconst 1, 1) := by decide +kernel
theorem dL_would_103 : decode cL_would 103 = .ok (.isub, 1) := by decide +kernel
theorem dL_would_104 : decode cL_would 104 = .ok (.istore 10, 2) := by decide +kernel
theorem dL_would_106 : decode cL_would 106 = .ok (.aload_n 0, 1) := by decide +kernel
theorem dL_would_107 : decode cL_would 107 = .ok (.iload_n 2, 1) := by decide +kernel
theorem dL_would_108 : decode cL_would 108 = .ok (.iload 10, 2) := by decide +kernel
theorem dL_would_110 : decode cL_would 110 = .ok (.invokevirtual 76, 3) := by decide +kernel
theorem dL_would_113 : decode cL_would 113 = .ok (.istore 11, 2) := by decide +kernel
theorem dL_would_115 : decode cL_would 115 = .ok (.aload_n 0, 1) := by decide +kernel
theorem dL_would_116 : decode cL_would 116 = .ok (.iload_n 2, 1) := by decide +kernel
theorem dL_would_117 : decode cL_would 117 = .ok (.invokevirtual 83, 3) := by decide +kernel
theorem dL_would_120 : decode cL_would 120 = .ok (.istore 12, 2) := by decide +kernel
theorem dL_would_122 : decode cL_would 122 = .ok (.iload 6, 2) := by decide +kernel
theorem dL_would_124 : decode cL_would 124 = .ok (.ifCond .lt 14, 3) := by decide +kernel
theorem dL_would_127 : decode cL_would 127 = .ok (.iload 7, 2) := by decide +kernel
theorem dL_would_129 : decode cL_would 129 = .ok (.ifCond .lt 9, 3) := by decide +kernel
theorem dL_would_132 : decode cL_would 132 = .ok (.iload 7, 2) := by decide +kernel
theorem dL_would_134 : decode cL_would 134 = .ok (.iconst 2, 1) := by decide +kernel
theorem dL_would_135 : decode cL_would 135 = .ok (.if_icmp .le 7, 3) := by decide +kernel
theorem dL_would_138 : decode cL_would 138 = .ok (.iconst 1, 1) := by decide +kernel
theorem dL_would_139 : decode cL_would 139 = .ok (.goto 4, 3) := by decide +kernel
theorem dL_would_142 : decode cL_would 142 = .ok (.iconst 0, 1) := by decide +kernel
theorem dL_would_143 : decode cL_would 143 = .ok (.istore 13, 2) := by decide +kernel
theorem dL_would_145 : decode cL_would 145 = .ok (.iconst 0, 1) := by decide +kernel
theorem dL_would_146 : decode cL_would 146 = .ok (.istore 14, 2) := by decide +kernel
theorem dL_would_148 : decode cL_would 148 = .ok (.iconst 0, 1) := by decide +kernel
theorem dL_would_149 : decode cL_would 149 = .ok (.istore 15, 2) := by decide +kernel
theorem dL_would_151 : decode cL_would 151 = .ok (.iconst 0, 1) := by decide +kernel
theorem dL_would_152 : decode cL_would 152 = .ok (.istore 16, 2) := by decide +kernel
theorem dL_would_154 : decode cL_would 154 = .ok (.iload 16, 2) := by decide +kernel
theorem dL_would_156 : decode cL_would 156 = .ok (.aload_n 0, 1) := by decide +kernel
theorem dL_would_157 : decode cL_would 157 = .ok (.invokevirtual 29, 3) := by decide +kernel
theorem dL_would_160 : decode cL_would 160 = .ok (.if_icmp .ge 68, 3) := by decide +kernel
theorem dL_would_163 : decode cL_would 163 = .ok (.iload_n 3, 1) := by decide +kernel
theorem dL_would_164 : decode cL_would 164 = .ok (.ifCond .ne 64, 3) := by decide +kernel
theorem dL_would_167 : decode cL_would 167 = .ok (.aload_n 0, 1) := by decide +kernel
theorem dL_would_168 : decode cL_would 168 = .ok (.iload 16, 2) := by decide +kernel
theorem dL_would_170 : decode cL_would 170 = .ok (.invokevirtual 33, 3) := by decide +kernel
theorem dL_would_173 : decode cL_would 173 = .ok (.istore 17, 2) := by decide +kernel
theorem dL_would_175 : decode cL_would 175 = .ok (.iload 15, 2) := by decide +kernel
theorem dL_would_177 : decode cL_would 177 = .ok (.aload_n 0, 1) := by decide +kernel
theorem dL_would_178 : decode cL_would 178 = .ok (.iload 17, 2) := by decide +kernel
theorem dL_would_180 : decode cL_would 180 = .ok (.iload_n 2, 1) := by decide +kernel
theorem dL_would_181 : decode cL_would 181 = .ok (.invokevirtual 53, 3) := by decide +kernel
theorem dL_would_184 : decode cL_would 184 = .ok (.iadd, 1) := by decide +kernel
theorem dL_would_185 : decode cL_would 185 = .ok (.istore 15, 2) := by decide +kernel
theorem dL_would_187 : decode cL_would 187 = .ok (.iconst 0, 1) := by decide +kernel
theorem dL_would_188 : decode cL_would 188 = .ok (.istore 18, 2) := by decide +kernel
theorem dL_would_190 : decode cL_would 190 = .ok (.iload 18, 2) := by decide +kernel
theorem dL_would_192 : decode cL_would 192 = .ok (.aload_n 0, 1) := by decide +kernel
theorem dL_would_193 : decode cL_would 193 = .ok (.iload 17, 2) := by decide +kernel
theorem dL_would_195 : decode cL_would 195 = .ok (.iload_n 2, 1) := by decide +kernel
theorem dL_would_196 : decode cL_would 196 = .ok (.invokevirtual 53, 3) := by decide +kernel
theorem dL_would_199 : decode cL_would 199 = .ok (.if_icmp .ge 23, 3) := by decide +kernel
theorem dL_would_202 : decode cL_would 202 = .ok (.iload 14, 2) := by decide +kernel
theorem dL_would_204 : decode cL_would 204 = .ok (.aload_n 0, 1) := by decide +kernel
theorem dL_would_205 : decode cL_would 205 = .ok (.iload 17, 2) := by decide +kernel
theorem dL_would_207 : decode cL_would 207 = .ok (.iload_n 2, 1) := by decide +kernel
theorem dL_would_208 : decode cL_would 208 = .ok (.iload 18, 2) := by decide +kernel
theorem dL_would_210 : decode cL_would 210 = .ok (.invokevirtual 50, 3) := by decide +kernel
theorem dL_would_213 : decode cL_would 213 = .ok (.iadd, 1) := by decide +kernel
theorem dL_would_214 : decode cL_would 214 = .ok (.istore 14, 2) := by decide +kernel
theorem dL_would_216 : decode cL_would 216 = .ok (.iinc 18 1, 3) := by decide +kernel
theorem dL_would_219 : decode cL_would 219 = .ok (.goto (-29), 3) := by decide +kernel
theorem dL_would_222 : decode cL_would 222 = .ok (.iinc 16 1, 3) := by decide +kernel
theorem dL_would_225 : decode cL_would 225 = .ok (.goto (-71), 3) := by decide +kernel
theorem dL_would_228 : decode cL_would 228 = .ok (.iload_n 3, 1) := by decide +kernel
theorem dL_would_229 : decode cL_would 229 = .ok (.ifCond .eq 55, 3) := by decide +kernel
theorem dL_would_232 : decode cL_would 232 = .ok (.iload 4, 2) := by decide +kernel
theorem dL_would_234 : decode cL_would 234 = .ok (.ldc 60, 2) := by decide +kernel
theorem dL_would_236 : decode cL_would 236 = .ok (.if_icmp .ne 46, 3) := by decide +kernel
theorem dL_would_239 : decode cL_would 239 = .ok (.iload 5, 2) := by decide +kernel
theorem dL_would_241 : decode cL_would 241 = .ok (.ldc 60, 2) := by decide +kernel
theorem dL_would_243 : decode cL_would 243 = .ok (.if_icmp .ne 39, 3) := by decide +kernel
theorem dL_would_246 : decode cL_would 246 = .ok (.iload 9, 2) := by decide +kernel
theorem dL_would_248 : decode cL_would 248 = .ok (.ldc 60, 2) := by decide +kernel
theorem dL_would_250 : decode cL_would 250 = .ok (.if_icmp .ne 32, 3) := by decide +kernel
theorem dL_would_253 : decode cL_would 253 = .ok (.iload 11, 2) := by decide +kernel
theorem dL_would_255 : decode cL_would 255 = .ok (.ldc 60, 2) := by decide +kernel
theorem dL_would_257 : decode cL_would 257 = .ok (.if_icmp .ne 25, 3) := by decide +kernel
theorem dL_would_260 : decode cL_would 260 = .ok (.iload 12, 2) := by decide +kernel
theorem dL_would_262 : decode cL_would 262 = .ok (.ldc 60, 2) := by decide +kernel
theorem dL_would_264 : decode cL_would 264 = .ok (.if_icmp .ne 18, 3) := by decide +kernel
theorem dL_would_267 : decode cL_would 267 = .ok (.aload_n 0, 1) := by decide +kernel
theorem dL_would_268 : decode cL_would 268 = .ok (.iload_n 2, 1) := by decide +kernel
theorem dL_would_269 : decode cL_would 269 = .ok (.invokevirtual 86, 3) := by decide +kernel
theorem dL_would_272 : decode cL_would 272 = .ok (.ldc 90, 2) := by decide +kernel
theorem dL_would_274 : decode cL_would 274 = .ok (.fcmp .l, 1) := by decide +kernel
theorem dL_would_275 : decode cL_would 275 = .ok (.ifCond .ne 7, 3) := by decide +kernel
theorem dL_would_278 : decode cL_would 278 = .ok (.iconst 1, 1) := by decide +kernel
theorem dL_would_279 : decode cL_would 279 = .ok (.goto 4, 3) := by decide +kernel
theorem dL_would_282 : decode cL_would 282 = .ok (.iconst 0, 1) := by decide +kernel
theorem dL_would_283 : decode cL_would 283 = .ok (.ireturn, 1) := by decide +kernel
theorem dL_would_284 : decode cL_would 284 = .ok (.iload 4, 2) := by decide +kernel
theorem dL_would_286 : decode cL_would 286 = .ok (.iload 15, 2) := by decide +kernel
theorem dL_would_288 : decode cL_would 288 = .ok (.if_icmp .ne 82, 3) := by decide +kernel
theorem dL_would_291 : decode cL_would 291 = .ok (.iload 5, 2) := by decide +kernel
theorem dL_would_293 : decode cL_would 293 = .ok (.iload 14, 2) := by decide +kernel
theorem dL_would_295 : decode cL_would 295 = .ok (.if_icmp .ne 75, 3) := by decide +kernel
theorem dL_would_298 : decode cL_would 298 = .ok (.iload 10, 2) := by decide +kernel
theorem dL_would_300 : decode cL_would 300 = .ok (.bipush 8, 2) := by decide +kernel
theorem dL_would_302 : decode cL_would 302 = .ok (.if_icmp .ne 13, 3) := by decide +kernel
theorem dL_would_305 : decode cL_would 305 = .ok (.iload 11, 2) := by decide +kernel
theorem dL_would_307 : decode cL_would 307 = .ok (.ldc 60, 2) := by decide +kernel
theorem dL_would_309 : decode cL_would 309 = .ok (.if_icmp .ne 61, 3) := by decide +kernel
theorem dL_would_312 : decode cL_would 312 = .ok (.goto 15, 3) := by decide +kernel
theorem dL_would_315 : decode cL_would 315 = .ok (.iload 10, 2) := by decide +kernel
theorem dL_would_317 : decode cL_would 317 = .ok (.ifCond .ge 10, 3) := by decide +kernel
theorem dL_would_320 : decode cL_would 320 = .ok (.iload 11, 2) := by decide +kernel
theorem dL_would_322 : decode cL_would 322 = .ok (.iload 5, 2) := by decide +kernel
theorem dL_would_324 : decode cL_would 324 = .ok (.if_icmp .ne 46, 3) := by decide +kernel
theorem dL_would_327 : decode cL_would 327 = .ok (.iload 12, 2) := by decide +kernel
theorem dL_would_329 : decode cL_would 329 = .ok (.ifCond .lt 41, 3) := by decide +kernel
theorem dL_would_332 : decode cL_would 332 = .ok (.iconst 2, 1) := by decide +kernel
theorem dL_would_333 : decode cL_would 333 = .ok (.iload 12, 2) := by decide +kernel
theorem dL_would_335 : decode cL_would 335 = .ok (.imul, 1) := by decide +kernel
theorem dL_would_336 : decode cL_would 336 = .ok (.iload 4, 2) := by decide +kernel
theorem dL_would_338 : decode cL_would 338 = .ok (.if_icmp .gt 32, 3) := by decide +kernel
theorem dL_would_341 : decode cL_would 341 = .ok (.aload_n 0, 1) := by decide +kernel
theorem dL_would_342 : decode cL_would 342 = .ok (.iload_n 2, 1) := by decide +kernel
theorem dL_would_343 : decode cL_would 343 = .ok (.invokevirtual 86, 3) := by decide +kernel
theorem dL_would_346 : decode cL_would 346 = .ok (.iload 4, 2) := by decide +kernel
theorem dL_would_348 : decode cL_would 348 = .ok (.ifCond .ne 7, 3) := by decide +kernel
theorem dL_would_351 : decode cL_would 351 = .ok (.fconst 0, 1) := by decide +kernel
theorem dL_would_352 : decode cL_would 352 = .ok (.goto 10, 3) := by decide +kernel
theorem dL_would_355 : decode cL_would 355 = .ok (.iload 5, 2) := by decide +kernel
theorem dL_would_357 : decode cL_would 357 = .ok (.i2f, 1) := by decide +kernel
theorem dL_would_358 : decode cL_would 358 = .ok (.iload 4, 2) := by decide +kernel
theorem dL_would_360 : decode cL_would 360 = .ok (.i2f, 1) := by decide +kernel
theorem dL_would_361 : decode cL_would 361 = .ok (.fdiv, 1) := by decide +kernel
theorem dL_would_362 : decode cL_would 362 = .ok (.fcmp .l, 1) := by decide +kernel
theorem dL_would_363 : decode cL_would 363 = .ok (.ifCond .ne 7, 3) := by decide +kernel
theorem dL_would_366 : decode cL_would 366 = .ok (.iconst 1, 1) := by decide +kernel
theorem dL_would_367 : decode cL_would 367 = .ok (.goto 4, 3) := by decide +kernel
theorem dL_would_370 : decode cL_would 370 = .ok (.iconst 0, 1) := by decide +kernel
theorem dL_would_371 : decode cL_would 371 = .ok (.istore 16, 2) := by decide +kernel
theorem dL_would_373 : decode cL_would 373 = .ok (.iload 16, 2) := by decide +kernel
theorem dL_would_375 : decode cL_would 375 = .ok (.ifCond .eq 87, 3) := by decide +kernel
theorem dL_would_378 : decode cL_would 378 = .ok (.iload 13, 2) := by decide +kernel
theorem dL_would_380 : decode cL_would 380 = .ok (.ifCond .eq 13, 3) := by decide +kernel
theorem dL_would_383 : decode cL_would 383 = .ok (.iload 9, 2) := by decide +kernel
theorem dL_would_385 : decode cL_would 385 = .ok (.ldc 59, 2) := by decide +kernel
theorem dL_would_387 : decode cL_would 387 = .ok (.if_icmp .ne 75, 3) := by decide +kernel
theorem dL_would_390 : decode cL_would 390 = .ok (.goto 68, 3) := by decide +kernel
theorem dL_would_393 : decode cL_would 393 = .ok (.iload 6, 2) := by decide +kernel
theorem dL_would_395 : decode cL_would 395 = .ok (.iload 4, 2) := by decide +kernel
theorem dL_would_397 : decode cL_would 397 = .ok (.if_icmp .lt 13, 3) := by decide +kernel
theorem dL_would_400 : decode cL_would 400 = .ok (.iload 9, 2) := by decide +kernel
theorem dL_would_402 : decode cL_would 402 = .ok (.ldc 58, 2) := by decide +kernel
theorem dL_would_404 : decode cL_would 404 = .ok (.if_icmp .ne 58, 3) := by decide +kernel
theorem dL_would_407 : decode cL_would 407 = .ok (.goto 51, 3) := by decide +kernel
theorem dL_would_410 : decode cL_would 410 = .ok (.iload 7, 2) := by decide +kernel
theorem dL_would_412 : decode cL_would 412 = .ok (.ifCond .ne 13, 3) := by decide +kernel
theorem dL_would_415 : decode cL_would 415 = .ok (.iload 9, 2) := by decide +kernel
theorem dL_would_417 : decode cL_would 417 = .ok (.ldc 60, 2) := by decide +kernel
theorem dL_would_419 : decode cL_would 419 = .ok (.if_icmp .le 43, 3) := by decide +kernel
theorem dL_would_422 : decode cL_would 422 = .ok (.goto 36, 3) := by decide +kernel
theorem dL_would_425 : decode cL_would 425 = .ok (.iload 7, 2) := by decide +kernel
theorem dL_would_427 : decode cL_would 427 = .ok (.iconst 1, 1) := by decide +kernel
theorem dL_would_428 : decode cL_would 428 = .ok (.if_icmp .ne 18, 3) := by decide +kernel
theorem dL_would_431 : decode cL_would 431 = .ok (.iload 9, 2) := by decide +kernel
theorem dL_would_433 : decode cL_would 433 = .ok (.ifCond .lt 29, 3) := by decide +kernel
theorem dL_would_436 : decode cL_would 436 = .ok (.iload 9, 2) := by decide +kernel
theorem dL_would_438 : decode cL_would 438 = .ok (.bipush 100, 2) := by decide +kernel
theorem dL_would_440 : decode cL_would 440 = .ok (.if_icmp .ge 22, 3) := by decide +kernel
theorem dL_would_443 : decode cL_would 443 = .ok (.goto 15, 3) := by decide +kernel
theorem dL_would_446 : decode cL_would 446 = .ok (.iload 9, 2) := by decide +kernel
theorem dL_would_448 : decode cL_would 448 = .ok (.ifCond .lt 14, 3) := by decide +kernel
theorem dL_would_451 : decode cL_would 451 = .ok (.iload 9, 2) := by decide +kernel
theorem dL_would_453 : decode cL_would 453 = .ok (.bipush 20, 2) := by decide +kernel
theorem dL_would_455 : decode cL_would 455 = .ok (.if_icmp .ge 7, 3) := by decide +kernel
theorem dL_would_458 : decode cL_would 458 = .ok (.iconst 1, 1) := by decide +kernel
theorem dL_would_459 : decode cL_would 459 = .ok (.goto 4, 3) := by decide +kernel
theorem dL_would_462 : decode cL_would 462 = .ok (.iconst 0, 1) := by decide +kernel
theorem dL_would_463 : decode cL_would 463 = .ok (.istore 16, 2) := by decide +kernel
theorem dL_would_465 : decode cL_would 465 = .ok (.iload 16, 2) := by decide +kernel
theorem dL_would_467 : decode cL_would 467 = .ok (.ifCond .eq 169, 3) := by decide +kernel
theorem dL_would_470 : decode cL_would 470 = .ok (.iload 13, 2) := by decide +kernel
theorem dL_would_472 : decode cL_would 472 = .ok (.ifCond .ne 164, 3) := by decide +kernel
theorem dL_would_475 : decode cL_would 475 = .ok (.iload 6, 2) := by decide +kernel
theorem dL_would_477 : decode cL_would 477 = .ok (.ifCond .le 159, 3) := by decide +kernel
theorem dL_would_480 : decode cL_would 480 = .ok (.iload 6, 2) := by decide +kernel
theorem dL_would_482 : decode cL_would 482 = .ok (.iload 4, 2) := by decide +kernel
theorem dL_would_484 : decode cL_would 484 = .ok (.if_icmp .ge 152, 3) := by decide +kernel
theorem dL_would_487 : decode cL_would 487 = .ok (.aload_n 0, 1) := by decide +kernel
theorem dL_would_488 : decode cL_would 488 = .ok (.iload_n 2, 1) := by decide +kernel
theorem dL_would_489 : decode cL_would 489 = .ok (.iload 8, 2) := by decide +kernel
theorem dL_would_491 : decode cL_would 491 = .ok (.iload 6, 2) := by decide +kernel
theorem dL_would_493 : decode cL_would 493 = .ok (.iconst 0, 1) := by decide +kernel
theorem dL_would_494 : decode cL_would 494 = .ok (.invokevirtual 79, 3) := by decide +kernel
theorem dL_would_497 : decode cL_would 497 = .ok (.istore 17, 2) := by decide +kernel
theorem dL_would_499 : decode cL_would 499 = .ok (.aload_n 0, 1) := by decide +kernel
theorem dL_would_500 : decode cL_would 500 = .ok (.iload_n 2, 1) := by decide +kernel
theorem dL_would_501 : decode cL_would 501 = .ok (.iload 8, 2) := by decide +kernel
theorem dL_would_503 : decode cL_would 503 = .ok (.iload 6, 2) := by decide +kernel
theorem dL_would_505 : decode cL_would 505 = .ok (.iconst 1, 1) := by decide +kernel
theorem dL_would_506 : decode cL_would 506 = .ok (.isub, 1) := by decide +kernel
theorem dL_would_507 : decode cL_would 507 = .ok (.iconst 0, 1) := by decide +kernel
theorem dL_would_508 : decode cL_would 508 = .ok (.invokevirtual 79, 3) := by decide +kernel
theorem dL_would_511 : decode cL_would 511 = .ok (.istore 18, 2) := by decide +kernel
theorem dL_would_513 : decode cL_would 513 = .ok (.aload_n 0, 1) := by decide +kernel
theorem dL_would_514 : decode cL_would 514 = .ok (.iload_n 2, 1) := by decide +kernel
theorem dL_would_515 : decode cL_would 515 = .ok (.iload 8, 2) := by decide +kernel
theorem dL_would_517 : decode cL_would 517 = .ok (.iload 6, 2) := by decide +kernel
theorem dL_would_519 : decode cL_would 519 = .ok (.iconst 1, 1) := by decide +kernel
theorem dL_would_520 : decode cL_would 520 = .ok (.invokevirtual 79, 3) := by decide +kernel
theorem dL_would_523 : decode cL_would 523 = .ok (.istore 19, 2) := by decide +kernel
theorem dL_would_525 : decode cL_would 525 = .ok (.aload_n 0, 1) := by decide +kernel
theorem dL_would_526 : decode cL_would 526 = .ok (.iload_n 2, 1) := by decide +kernel
theorem dL_would_527 : decode cL_would 527 = .ok (.iload 8, 2) := by decide +kernel
theorem dL_would_529 : decode cL_would 529 = .ok (.iload 6, 2) := by decide +kernel
theorem dL_would_531 : decode cL_would 531 = .ok (.iconst 1, 1) := by decide +kernel
theorem dL_would_532 : decode cL_would 532 = .ok (.isub, 1) := by decide +kernel
theorem dL_would_533 : decode cL_would 533 = .ok (.iconst 1, 1) := by decide +kernel
theorem dL_would_534 : decode cL_would 534 = .ok (.invokevirtual 79, 3) := by decide +kernel
theorem dL_would_537 : decode cL_would 537 = .ok (.istore 20, 2) := by decide +kernel
theorem dL_would_539 : decode cL_would 539 = .ok (.iload 8, 2) := by decide +kernel
theorem dL_would_541 : decode cL_would 541 = .ok (.ifCond .eq 13, 3) := by decide +kernel
theorem dL_would_544 : decode cL_would 544 = .ok (.iload 18, 2) := by decide +kernel
theorem dL_would_546 : decode cL_would 546 = .ok (.iload 17, 2) := by decide +kernel
theorem dL_would_548 : decode cL_would 548 = .ok (.if_icmp .lt 85, 3) := by decide +kernel
theorem dL_would_551 : decode cL_would 551 = .ok (.goto 10, 3) := by decide +kernel
theorem dL_would_554 : decode cL_would 554 = .ok (.iload 18, 2) := by decide +kernel
theorem dL_would_556 : decode cL_would 556 = .ok (.iload 17, 2) := by decide +kernel
theorem dL_would_558 : decode cL_would 558 = .ok (.if_icmp .gt 75, 3) := by decide +kernel
theorem dL_would_561 : decode cL_would 561 = .ok (.iload 18, 2) := by decide +kernel
theorem dL_would_563 : decode cL_would 563 = .ok (.iload 17, 2) := by decide +kernel
theorem dL_would_565 : decode cL_would 565 = .ok (.if_icmp .ne 42, 3) := by decide +kernel
theorem dL_would_568 : decode cL_would 568 = .ok (.iload 20, 2) := by decide +kernel
theorem dL_would_570 : decode cL_would 570 = .ok (.iload 19, 2) := by decide +kernel
theorem dL_would_572 : decode cL_would 572 = .ok (.if_icmp .lt 35, 3) := by decide +kernel
theorem dL_would_575 : decode cL_would 575 = .ok (.iload 20, 2) := by decide +kernel
theorem dL_would_577 : decode cL_would 577 = .ok (.iload 19, 2) := by decide +kernel
theorem dL_would_579 : decode cL_would 579 = .ok (.if_icmp .ne 54, 3) := by decide +kernel
theorem dL_would_582 : decode cL_would 582 = .ok (.aload_n 0, 1) := by decide +kernel
theorem dL_would_583 : decode cL_would 583 = .ok (.iload_n 2, 1) := by decide +kernel
theorem dL_would_584 : decode cL_would 584 = .ok (.iload 8, 2) := by decide +kernel
theorem dL_would_586 : decode cL_would 586 = .ok (.iload 6, 2) := by decide +kernel
theorem dL_would_588 : decode cL_would 588 = .ok (.iconst 1, 1) := by decide +kernel
theorem dL_would_589 : decode cL_would 589 = .ok (.isub, 1) := by decide +kernel
theorem dL_would_590 : decode cL_would 590 = .ok (.iconst 2, 1) := by decide +kernel
theorem dL_would_591 : decode cL_would 591 = .ok (.invokevirtual 79, 3) := by decide +kernel
theorem dL_would_594 : decode cL_would 594 = .ok (.aload_n 0, 1) := by decide +kernel
theorem dL_would_595 : decode cL_would 595 = .ok (.iload_n 2, 1) := by decide +kernel
theorem dL_would_596 : decode cL_would 596 = .ok (.iload 8, 2) := by decide +kernel
theorem dL_would_598 : decode cL_would 598 = .ok (.iload 6, 2) := by decide +kernel
theorem dL_would_600 : decode cL_would 600 = .ok (.iconst 2, 1) := by decide +kernel
theorem dL_would_601 : decode cL_would 601 = .ok (.invokevirtual 79, 3) := by decide +kernel
theorem dL_would_604 : decode cL_would 604 = .ok (.if_icmp .ge 29, 3) := by decide +kernel
theorem dL_would_607 : decode cL_would 607 = .ok (.aload_n 0, 1) := by decide +kernel
theorem dL_would_608 : decode cL_would 608 = .ok (.iload 19, 2) := by decide +kernel
theorem dL_would_610 : decode cL_would 610 = .ok (.iload_n 2, 1) := by decide +kernel
theorem dL_would_611 : decode cL_would 611 = .ok (.aload_n 0, 1) := by decide +kernel
theorem dL_would_612 : decode cL_would 612 = .ok (.iload_n 2, 1) := by decide +kernel
theorem dL_would_613 : decode cL_would 613 = .ok (.iload 8, 2) := by decide +kernel
theorem dL_would_615 : decode cL_would 615 = .ok (.iload 6, 2) := by decide +kernel
theorem dL_would_617 : decode cL_would 617 = .ok (.iconst 2, 1) := by decide +kernel
theorem dL_would_618 : decode cL_would 618 = .ok (.invokevirtual 79, 3) := by decide +kernel
theorem dL_would_621 : decode cL_would 621 = .ok (.invokevirtual 50, 3) := by decide +kernel
theorem dL_would_624 : decode cL_would 624 = .ok (.iload 17, 2) := by decide +kernel
theorem dL_would_626 : decode cL_would 626 = .ok (.if_icmp .ne 7, 3) := by decide +kernel
theorem dL_would_629 : decode cL_would 629 = .ok (.iconst 1, 1) := by decide +kernel
theorem dL_would_630 : decode cL_would 630 = .ok (.goto 4, 3) := by decide +kernel
theorem dL_would_633 : decode cL_would 633 = .ok (.iconst 0, 1) := by decide +kernel
theorem dL_would_634 : decode cL_would 634 = .ok (.istore 16, 2) := by decide +kernel
theorem dL_would_636 : decode cL_would 636 = .ok (.iload 16, 2) := by decide +kernel
theorem dL_would_638 : decode cL_would 638 = .ok (.ireturn, 1) := by decide +kernel
theorem dL_digits_0 : decode cL_digits 0 = .ok (.iload_n 1, 1) := by decide +kernel
theorem dL_digits_1 : decode cL_digits 1 = .ok (.ifCond .ge 8, 3) := by decide +kernel
theorem dL_digits_4 : decode cL_digits 4 = .ok (.iload_n 1, 1) := by decide +kernel
theorem dL_digits_5 : decode cL_digits 5 = .ok (.ineg, 1) := by decide +kernel
theorem dL_digits_6 : decode cL_digits 6 = .ok (.goto 4, 3) := by decide +kernel
theorem dL_digits_9 : decode cL_digits 9 = .ok (.iload_n 1, 1) := by decide +kernel
theorem dL_digits_10 : decode cL_digits 10 = .ok (.istore_n 2, 1) := by decide +kernel
theorem dL_digits_11 : decode cL_digits 11 = .ok (.iload_n 1, 1) := by decide +kernel
theorem dL_digits_12 : decode cL_digits 12 = .ok (.ifCond .ge 12, 3) := by decide +kernel
theorem dL_digits_15 : decode cL_digits 15 = .ok (.aload_n 0, 1) := by decide +kernel
theorem dL_digits_16 : decode cL_digits 16 = .ok (.bipush 45, 2) := by decide +kernel
theorem dL_digits_18 : decode cL_digits 18 = .ok (.invokevirtual 91, 3) := by decide +kernel
theorem dL_digits_21 : decode cL_digits 21 = .ok (.ifCond .le 67, 3) := by decide +kernel
theorem dL_digits_24 : decode cL_digits 24 = .ok (.iload_n 2, 1) := by decide +kernel
theorem dL_digits_25 : decode cL_digits 25 = .ok (.bipush 100, 2) := by decide +kernel
theorem dL_digits_27 : decode cL_digits 27 = .ok (.if_icmp .lt 20, 3) := by decide +kernel
theorem dL_digits_30 : decode cL_digits 30 = .ok (.aload_n 0, 1) := by decide +kernel
theorem dL_digits_31 : decode cL_digits 31 = .ok (.bipush 48, 2) := by decide +kernel
theorem dL_digits_33 : decode cL_digits 33 = .ok (.iload_n 2, 1) := by decide +kernel
theorem dL_digits_34 : decode cL_digits 34 = .ok (.bipush 100, 2) := by decide +kernel
theorem dL_digits_36 : decode cL_digits 36 = .ok (.idiv, 1) := by decide +kernel
theorem dL_digits_37 : decode cL_digits 37 = .ok (.bipush 10, 2) := by decide +kernel
theorem dL_digits_39 : decode cL_digits 39 = .ok (.irem, 1) := by decide +kernel
theorem dL_digits_40 : decode cL_digits 40 = .ok (.iadd, 1) := by decide +kernel
theorem dL_digits_41 : decode cL_digits 41 = .ok (.invokevirtual 91, 3) := by decide +kernel
theorem dL_digits_44 : decode cL_digits 44 = .ok (.ifCond .le 44, 3) := by decide +kernel
theorem dL_digits_47 : decode cL_digits 47 = .ok (.iload_n 2, 1) := by decide +kernel
theorem dL_digits_48 : decode cL_digits 48 = .ok (.bipush 10, 2) := by decide +kernel
theorem dL_digits_50 : decode cL_digits 50 = .ok (.if_icmp .lt 20, 3) := by decide +kernel
theorem dL_digits_53 : decode cL_digits 53 = .ok (.aload_n 0, 1) := by decide +kernel
theorem dL_digits_54 : decode cL_digits 54 = .ok (.bipush 48, 2) := by decide +kernel
theorem dL_digits_56 : decode cL_digits 56 = .ok (.iload_n 2, 1) := by decide +kernel
theorem dL_digits_57 : decode cL_digits 57 = .ok (.bipush 10, 2) := by decide +kernel
theorem dL_digits_59 : decode cL_digits 59 = .ok (.idiv, 1) := by decide +kernel
theorem dL_digits_60 : decode cL_digits 60 = .ok (.bipush 10, 2) := by decide +kernel
theorem dL_digits_62 : decode cL_digits 62 = .ok (.irem, 1) := by decide +kernel
theorem dL_digits_63 : decode cL_digits 63 = .ok (.iadd, 1) := by decide +kernel
theorem dL_digits_64 : decode cL_digits 64 = .ok (.invokevirtual 91, 3) := by decide +kernel
theorem dL_digits_67 : decode cL_digits 67 = .ok (.ifCond .le 21, 3) := by decide +kernel
theorem dL_digits_70 : decode cL_digits 70 = .ok (.aload_n 0, 1) := by decide +kernel
theorem dL_digits_71 : decode cL_digits 71 = .ok (.bipush 48, 2) := by decide +kernel
theorem dL_digits_73 : decode cL_digits 73 = .ok (.iload_n 2, 1) := by decide +kernel
theorem dL_digits_74 : decode cL_digits 74 = .ok (.bipush 10, 2) := by decide +kernel
theorem dL_digits_76 : decode cL_digits 76 = .ok (.irem, 1) := by decide +kernel
theorem dL_digits_77 : decode cL_digits 77 = .ok (.iadd, 1) := by decide +kernel
theorem dL_digits_78 : decode cL_digits 78 = .ok (.invokevirtual 91, 3) := by decide +kernel
theorem dL_digits_81 : decode cL_digits 81 = .ok (.ifCond .le 7, 3) := by decide +kernel
theorem dL_digits_84 : decode cL_digits 84 = .ok (.iconst 1, 1) := by decide +kernel
theorem dL_digits_85 : decode cL_digits 85 = .ok (.goto 4, 3) := by decide +kernel
theorem dL_digits_88 : decode cL_digits 88 = .ok (.iconst 0, 1) := by decide +kernel
theorem dL_digits_89 : decode cL_digits 89 = .ok (.ireturn, 1) := by decide +kernel
theorem dL_types_0 : decode cL_types 0 = .ok (.iload_n 1, 1) := by decide +kernel
theorem dL_types_1 : decode cL_types 1 = .ok (.bipush 24, 2) := by decide +kernel
theorem dL_types_3 : decode cL_types 3 = .ok (.ishr, 1) := by decide +kernel
theorem dL_types_4 : decode cL_types 4 = .ok (.bipush 9, 2) := by decide +kernel
theorem dL_types_6 : decode cL_types 6 = .ok (.invokestatic 70, 3) := by decide +kernel
theorem dL_types_9 : decode cL_types 9 = .ok (.ifCond .ne 13, 3) := by decide +kernel
theorem dL_types_12 : decode cL_types 12 = .ok (.iconst 3, 1) := by decide +kernel
theorem dL_types_13 : decode cL_types 13 = .ok (.iload_n 1, 1) := by decide +kernel
theorem dL_types_14 : decode cL_types 14 = .ok (.iconst 3, 1) := by decide +kernel
theorem dL_types_15 : decode cL_types 15 = .ok (.invokestatic 70, 3) := by decide +kernel
theorem dL_types_18 : decode cL_types 18 = .ok (.iadd, 1) := by decide +kernel
theorem dL_types_19 : decode cL_types 19 = .ok (.goto 4, 3) := by decide +kernel
theorem dL_types_22 : decode cL_types 22 = .ok (.iconst 4, 1) := by decide +kernel
theorem dL_types_23 : decode cL_types 23 = .ok (.istore_n 2, 1) := by decide +kernel
theorem dL_types_24 : decode cL_types 24 = .ok (.aload_n 0, 1) := by decide +kernel
theorem dL_types_25 : decode cL_types 25 = .ok (.invokevirtual 94, 3) := by decide +kernel
theorem dL_types_28 : decode cL_types 28 = .ok (.ifCond .lt 7, 3) := by decide +kernel
theorem dL_types_31 : decode cL_types 31 = .ok (.iconst 1, 1) := by decide +kernel
theorem dL_types_32 : decode cL_types 32 = .ok (.goto 4, 3) := by decide +kernel
theorem dL_types_35 : decode cL_types 35 = .ok (.iconst 0, 1) := by decide +kernel
theorem dL_types_36 : decode cL_types 36 = .ok (.istore_n 3, 1) := by decide +kernel
theorem dL_types_37 : decode cL_types 37 = .ok (.iconst 0, 1) := by decide +kernel
theorem dL_types_38 : decode cL_types 38 = .ok (.istore 4, 2) := by decide +kernel
theorem dL_types_40 : decode cL_types 40 = .ok (.iload 4, 2) := by decide +kernel
theorem dL_types_42 : decode cL_types 42 = .ok (.iload_n 2, 1) := by decide +kernel
theorem dL_types_43 : decode cL_types 43 = .ok (.if_icmp .ge 172, 3) := by decide +kernel
theorem dL_types_46 : decode cL_types 46 = .ok (.iload_n 1, 1) := by decide +kernel
theorem dL_types_47 : decode cL_types 47 = .ok (.iconst 2, 1) := by decide +kernel
theorem dL_types_48 : decode cL_types 48 = .ok (.iload 4, 2) := by decide +kernel
theorem dL_types_50 : decode cL_types 50 = .ok (.imul, 1) := by decide +kernel
theorem dL_types_51 : decode cL_types 51 = .ok (.ishr, 1) := by decide +kernel
theorem dL_types_52 : decode cL_types 52 = .ok (.iload 4, 2) := by decide +kernel
theorem dL_types_54 : decode cL_types 54 = .ok (.ifCond .ne 20, 3) := by decide +kernel
theorem dL_types_57 : decode cL_types 57 = .ok (.iload_n 1, 1) := by decide +kernel
theorem dL_types_58 : decode cL_types 58 = .ok (.bipush 22, 2) := by decide +kernel
theorem dL_types_60 : decode cL_types 60 = .ok (.ishr, 1) := by decide +kernel
theorem dL_types_61 : decode cL_types 61 = .ok (.bipush 9, 2) := by decide +kernel
theorem dL_types_63 : decode cL_types 63 = .ok (.invokestatic 70, 3) := by decide +kernel
theorem dL_types_66 : decode cL_types 66 = .ok (.ifCond .ne 8, 3) := by decide +kernel
theorem dL_types_69 : decode cL_types 69 = .ok (.bipush 7, 2) := by decide +kernel
theorem dL_types_71 : decode cL_types 71 = .ok (.goto 4, 3) := by decide +kernel
theorem dL_types_74 : decode cL_types 74 = .ok (.iconst 3, 1) := by decide +kernel
theorem dL_types_75 : decode cL_types 75 = .ok (.invokestatic 70, 3) := by decide +kernel
theorem dL_types_78 : decode cL_types 78 = .ok (.istore 5, 2) := by decide +kernel
theorem dL_types_80 : decode cL_types 80 = .ok (.iload_n 3, 1) := by decide +kernel
theorem dL_types_81 : decode cL_types 81 = .ok (.ifCond .eq 21, 3) := by decide +kernel
theorem dL_types_84 : decode cL_types 84 = .ok (.iload 4, 2) := by decide +kernel
theorem dL_types_86 : decode cL_types 86 = .ok (.ifCond .eq 12, 3) := by decide +kernel
theorem dL_types_89 : decode cL_types 89 = .ok (.aload_n 0, 1) := by decide +kernel
theorem dL_types_90 : decode cL_types 90 = .ok (.bipush 94, 2) := by decide +kernel
theorem dL_types_92 : decode cL_types 92 = .ok (.invokevirtual 91, 3) := by decide +kernel
theorem dL_types_95 : decode cL_types 95 = .ok (.ifCond .le 7, 3) := by decide +kernel
theorem dL_types_98 : decode cL_types 98 = .ok (.iconst 1, 1) := by decide +kernel
theorem dL_types_99 : decode cL_types 99 = .ok (.goto 4, 3) := by decide +kernel
theorem dL_types_102 : decode cL_types 102 = .ok (.iconst 0, 1) := by decide +kernel
theorem dL_types_103 : decode cL_types 103 = .ok (.istore_n 3, 1) := by decide +kernel
theorem dL_types_104 : decode cL_types 104 = .ok (.iconst 0, 1) := by decide +kernel
theorem dL_types_105 : decode cL_types 105 = .ok (.istore 6, 2) := by decide +kernel
theorem dL_types_107 : decode cL_types 107 = .ok (.iload 6, 2) := by decide +kernel
theorem dL_types_109 : decode cL_types 109 = .ok (.iload 5, 2) := by decide +kernel
theorem dL_types_111 : decode cL_types 111 = .ok (.if_icmp .ge 98, 3) := by decide +kernel
theorem dL_types_114 : decode cL_types 114 = .ok (.iload_n 1, 1) := by decide +kernel
theorem dL_types_115 : decode cL_types 115 = .ok (.iload 4, 2) := by decide +kernel
theorem dL_types_117 : decode cL_types 117 = .ok (.iconst 2, 1) := by decide +kernel
theorem dL_types_118 : decode cL_types 118 = .ok (.iload 6, 2) := by decide +kernel
theorem dL_types_120 : decode cL_types 120 = .ok (.imul, 1) := by decide +kernel
theorem dL_types_121 : decode cL_types 121 = .ok (.iadd, 1) := by decide +kernel
theorem dL_types_122 : decode cL_types 122 = .ok (.ishr, 1) := by decide +kernel
theorem dL_types_123 : decode cL_types 123 = .ok (.istore 7, 2) := by decide +kernel
theorem dL_types_125 : decode cL_types 125 = .ok (.iload_n 3, 1) := by decide +kernel
theorem dL_types_126 : decode cL_types 126 = .ok (.ifCond .eq 75, 3) := by decide +kernel
theorem dL_types_129 : decode cL_types 129 = .ok (.iload 6, 2) := by decide +kernel
theorem dL_types_131 : decode cL_types 131 = .ok (.ifCond .eq 12, 3) := by decide +kernel
theorem dL_types_134 : decode cL_types 134 = .ok (.aload_n 0, 1) := by decide +kernel
theorem dL_types_135 : decode cL_types 135 = .ok (.bipush 93, 2) := by decide +kernel
theorem dL_types_137 : decode cL_types 137 = .ok (.invokevirtual 91, 3) := by decide +kernel
theorem dL_types_140 : decode cL_types 140 = .ok (.ifCond .le 61, 3) := by decide +kernel
theorem dL_types_143 : decode cL_types 143 = .ok (.aload_n 0, 1) := by decide +kernel
theorem dL_types_144 : decode cL_types 144 = .ok (.iload 7, 2) := by decide +kernel
theorem dL_types_146 : decode cL_types 146 = .ok (.bipush 9, 2) := by decide +kernel
theorem dL_types_148 : decode cL_types 148 = .ok (.invokestatic 70, 3) := by decide +kernel
theorem dL_types_151 : decode cL_types 151 = .ok (.iconst 4, 1) := by decide +kernel
theorem dL_types_152 : decode cL_types 152 = .ok (.isub, 1) := by decide +kernel
theorem dL_types_153 : decode cL_types 153 = .ok (.invokestatic 97, 3) := by decide +kernel
theorem dL_types_156 : decode cL_types 156 = .ok (.ifCond .eq 45, 3) := by decide +kernel
theorem dL_types_159 : decode cL_types 159 = .ok (.iload 7, 2) := by decide +kernel
theorem dL_types_161 : decode cL_types 161 = .ok (.iconst 3, 1) := by decide +kernel
theorem dL_types_162 : decode cL_types 162 = .ok (.ishr, 1) := by decide +kernel
theorem dL_types_163 : decode cL_types 163 = .ok (.iconst 3, 1) := by decide +kernel
theorem dL_types_164 : decode cL_types 164 = .ok (.invokestatic 70, 3) := by decide +kernel
theorem dL_types_167 : decode cL_types 167 = .ok (.ifCond .gt 30, 3) := by decide +kernel
theorem dL_types_170 : decode cL_types 170 = .ok (.aload_n 0, 1) := by decide +kernel
theorem dL_types_171 : decode cL_types 171 = .ok (.bipush 47, 2) := by decide +kernel
theorem dL_types_173 : decode cL_types 173 = .ok (.invokevirtual 91, 3) := by decide +kernel
theorem dL_types_176 : decode cL_types 176 = .ok (.ifCond .le 25, 3) := by decide +kernel
theorem dL_types_179 : decode cL_types 179 = .ok (.aload_n 0, 1) := by decide +kernel
theorem dL_types_180 : decode cL_types 180 = .ok (.iload 7, 2) := by decide +kernel
theorem dL_types_182 : decode cL_types 182 = .ok (.iconst 1, 1) := by decide +kernel
theorem dL_types_183 : decode cL_types 183 = .ok (.ishr, 1) := by decide +kernel
theorem dL_types_184 : decode cL_types 184 = .ok (.bipush 9, 2) := by decide +kernel
theorem dL_types_186 : decode cL_types 186 = .ok (.invokestatic 70, 3) := by decide +kernel
theorem dL_types_189 : decode cL_types 189 = .ok (.iconst 4, 1) := by decide +kernel
theorem dL_types_190 : decode cL_types 190 = .ok (.isub, 1) := by decide +kernel
theorem dL_types_191 : decode cL_types 191 = .ok (.invokestatic 97, 3) := by decide +kernel
theorem dL_types_194 : decode cL_types 194 = .ok (.ifCond .eq 7, 3) := by decide +kernel
theorem dL_types_197 : decode cL_types 197 = .ok (.iconst 1, 1) := by decide +kernel
theorem dL_types_198 : decode cL_types 198 = .ok (.goto 4, 3) := by decide +kernel
theorem dL_types_201 : decode cL_types 201 = .ok (.iconst 0, 1) := by decide +kernel
theorem dL_types_202 : decode cL_types 202 = .ok (.istore_n 3, 1) := by decide +kernel
theorem dL_types_203 : decode cL_types 203 = .ok (.iinc 6 1, 3) := by decide +kernel
theorem dL_types_206 : decode cL_types 206 = .ok (.goto (-99), 3) := by decide +kernel
theorem dL_types_209 : decode cL_types 209 = .ok (.iinc 4 1, 3) := by decide +kernel
theorem dL_types_212 : decode cL_types 212 = .ok (.goto (-172), 3) := by decide +kernel
theorem dL_types_215 : decode cL_types 215 = .ok (.iload_n 3, 1) := by decide +kernel
theorem dL_types_216 : decode cL_types 216 = .ok (.ifCond .eq 28, 3) := by decide +kernel
theorem dL_types_219 : decode cL_types 219 = .ok (.iload_n 1, 1) := by decide +kernel
theorem dL_types_220 : decode cL_types 220 = .ok (.bipush 26, 2) := by decide +kernel
theorem dL_types_222 : decode cL_types 222 = .ok (.ishr, 1) := by decide +kernel
theorem dL_types_223 : decode cL_types 223 = .ok (.bipush 6, 2) := by decide +kernel
theorem dL_types_225 : decode cL_types 225 = .ok (.invokestatic 70, 3) := by decide +kernel
theorem dL_types_228 : decode cL_types 228 = .ok (.ifCond .gt 12, 3) := by decide +kernel
theorem dL_types_231 : decode cL_types 231 = .ok (.aload_n 0, 1) := by decide +kernel
theorem dL_types_232 : decode cL_types 232 = .ok (.bipush 45, 2) := by decide +kernel
theorem dL_types_234 : decode cL_types 234 = .ok (.invokevirtual 91, 3) := by decide +kernel
theorem dL_types_237 : decode cL_types 237 = .ok (.ifCond .le 7, 3) := by decide +kernel
theorem dL_types_240 : decode cL_types 240 = .ok (.iconst 1, 1) := by decide +kernel
theorem dL_types_241 : decode cL_types 241 = .ok (.goto 4, 3) := by decide +kernel
theorem dL_types_244 : decode cL_types 244 = .ok (.iconst 0, 1) := by decide +kernel
theorem dL_types_245 : decode cL_types 245 = .ok (.ireturn, 1) := by decide +kernel
theorem dL_loads_0 : decode cL_loads 0 = .ok (.aload_n 0, 1) := by decide +kernel
theorem dL_loads_1 : decode cL_loads 1 = .ok (.invokestatic 101, 3) := by decide +kernel
theorem dL_loads_4 : decode cL_loads 4 = .ok (.lstore 4, 2) := by decide +kernel
theorem dL_loads_6 : decode cL_loads 6 = .ok (.aload_n 0, 1) := by decide +kernel
theorem dL_loads_7 : decode cL_loads 7 = .ok (.iload_n 3, 1) := by decide +kernel
theorem dL_loads_8 : decode cL_loads 8 = .ok (.invokestatic 105, 3) := by decide +kernel
theorem dL_loads_11 : decode cL_loads 11 = .ok (.istore 6, 2) := by decide +kernel
theorem dL_loads_13 : decode cL_loads 13 = .ok (.aload_n 0, 1) := by decide +kernel
theorem dL_loads_14 : decode cL_loads 14 = .ok (.invokevirtual 108, 3) := by decide +kernel
theorem dL_loads_17 : decode cL_loads 17 = .ok (.istore 7, 2) := by decide +kernel
theorem dL_loads_19 : decode cL_loads 19 = .ok (.iload_n 1, 1) := by decide +kernel
theorem dL_loads_20 : decode cL_loads 20 = .ok (.iconst 3, 1) := by decide +kernel
theorem dL_loads_21 : decode cL_loads 21 = .ok (.if_icmp .gt 13, 3) := by decide +kernel
theorem dL_loads_24 : decode cL_loads 24 = .ok (.aload_n 0, 1) := by decide +kernel
theorem dL_loads_25 : decode cL_loads 25 = .ok (.iload_n 2, 1) := by decide +kernel
theorem dL_loads_26 : decode cL_loads 26 = .ok (.invokevirtual 36, 3) := by decide +kernel
theorem dL_loads_29 : decode cL_loads 29 = .ok (.ldc 60, 2) := by decide +kernel
theorem dL_loads_31 : decode cL_loads 31 = .ok (.if_icmp .ne 7, 3) := by decide +kernel
theorem dL_loads_34 : decode cL_loads 34 = .ok (.iconst 1, 1) := by decide +kernel
theorem dL_loads_35 : decode cL_loads 35 = .ok (.goto 4, 3) := by decide +kernel
theorem dL_loads_38 : decode cL_loads 38 = .ok (.iconst 0, 1) := by decide +kernel
theorem dL_loads_39 : decode cL_loads 39 = .ok (.istore 8, 2) := by decide +kernel
theorem dL_loads_41 : decode cL_loads 41 = .ok (.iload 8, 2) := by decide +kernel
theorem dL_loads_43 : decode cL_loads 43 = .ok (.ifCond .ne 26, 3) := by decide +kernel
theorem dL_loads_46 : decode cL_loads 46 = .ok (.aload_n 0, 1) := by decide +kernel
theorem dL_loads_47 : decode cL_loads 47 = .ok (.iload_n 2, 1) := by decide +kernel
theorem dL_loads_48 : decode cL_loads 48 = .ok (.invokevirtual 36, 3) := by decide +kernel
theorem dL_loads_51 : decode cL_loads 51 = .ok (.ldc 58, 2) := by decide +kernel
theorem dL_loads_53 : decode cL_loads 53 = .ok (.if_icmp .eq 16, 3) := by decide +kernel
theorem dL_loads_56 : decode cL_loads 56 = .ok (.aload_n 0, 1) := by decide +kernel
theorem dL_loads_57 : decode cL_loads 57 = .ok (.iload_n 2, 1) := by decide +kernel
theorem dL_loads_58 : decode cL_loads 58 = .ok (.invokevirtual 36, 3) := by decide +kernel
theorem dL_loads_61 : decode cL_loads 61 = .ok (.iload_n 1, 1) := by decide +kernel
theorem dL_loads_62 : decode cL_loads 62 = .ok (.if_icmp .eq 7, 3) := by decide +kernel
theorem dL_loads_65 : decode cL_loads 65 = .ok (.iconst 1, 1) := by decide +kernel
theorem dL_loads_66 : decode cL_loads 66 = .ok (.goto 4, 3) := by decide +kernel
theorem dL_loads_69 : decode cL_loads 69 = .ok (.iconst 0, 1) := by decide +kernel
theorem dL_loads_70 : decode cL_loads 70 = .ok (.istore 9, 2) := by decide +kernel
theorem dL_loads_72 : decode cL_loads 72 = .ok (.aload_n 0, 1) := by decide +kernel
theorem dL_loads_73 : decode cL_loads 73 = .ok (.iload_n 1, 1) := by decide +kernel
theorem dL_loads_74 : decode cL_loads 74 = .ok (.iload_n 2, 1) := by decide +kernel
theorem dL_loads_75 : decode cL_loads 75 = .ok (.invokevirtual 111, 3) := by decide +kernel
theorem dL_loads_78 : decode cL_loads 78 = .ok (.istore 10, 2) := by decide +kernel
theorem dL_loads_80 : decode cL_loads 80 = .ok (.iload 8, 2) := by decide +kernel
theorem dL_loads_82 : decode cL_loads 82 = .ok (.ifCond .ne 8, 3) := by decide +kernel
theorem dL_loads_85 : decode cL_loads 85 = .ok (.iload 10, 2) := by decide +kernel
theorem dL_loads_87 : decode cL_loads 87 = .ok (.ifCond .ge 7, 3) := by decide +kernel
theorem dL_loads_90 : decode cL_loads 90 = .ok (.iconst 0, 1) := by decide +kernel
theorem dL_loads_91 : decode cL_loads 91 = .ok (.goto 8, 3) := by decide +kernel
theorem dL_loads_94 : decode cL_loads 94 = .ok (.aload_n 0, 1) := by decide +kernel
theorem dL_loads_95 : decode cL_loads 95 = .ok (.iload_n 2, 1) := by decide +kernel
theorem dL_loads_96 : decode cL_loads 96 = .ok (.invokevirtual 114, 3) := by decide +kernel
theorem dL_loads_99 : decode cL_loads 99 = .ok (.istore 11, 2) := by decide +kernel
theorem dL_loads_101 : decode cL_loads 101 = .ok (.aload_n 0, 1) := by decide +kernel
theorem dL_loads_102 : decode cL_loads 102 = .ok (.invokevirtual 94, 3) := by decide +kernel
theorem dL_loads_105 : decode cL_loads 105 = .ok (.istore 12, 2) := by decide +kernel
theorem dL_loads_107 : decode cL_loads 107 = .ok (.iload 6, 2) := by decide +kernel
theorem dL_loads_109 : decode cL_loads 109 = .ok (.ifCond .eq 26, 3) := by decide +kernel
theorem dL_loads_112 : decode cL_loads 112 = .ok (.iload 7, 2) := by decide +kernel
theorem dL_loads_114 : decode cL_loads 114 = .ok (.ldc 58, 2) := by decide +kernel
theorem dL_loads_116 : decode cL_loads 116 = .ok (.if_icmp .eq 15, 3) := by decide +kernel
theorem dL_loads_119 : decode cL_loads 119 = .ok (.iload 7, 2) := by decide +kernel
theorem dL_loads_121 : decode cL_loads 121 = .ok (.ifCond .lt 14, 3) := by decide +kernel
theorem dL_loads_124 : decode cL_loads 124 = .ok (.iload 7, 2) := by decide +kernel
theorem dL_loads_126 : decode cL_loads 126 = .ok (.iload 12, 2) := by decide +kernel
theorem dL_loads_128 : decode cL_loads 128 = .ok (.if_icmp .gt 7, 3) := by decide +kernel
theorem dL_loads_131 : decode cL_loads 131 = .ok (.iconst 1, 1) := by decide +kernel
theorem dL_loads_132 : decode cL_loads 132 = .ok (.goto 4, 3) := by decide +kernel
theorem dL_loads_135 : decode cL_loads 135 = .ok (.iconst 0, 1) := by decide +kernel
theorem dL_loads_136 : decode cL_loads 136 = .ok (.istore 13, 2) := by decide +kernel
theorem dL_loads_138 : decode cL_loads 138 = .ok (.iload 8, 2) := by decide +kernel
theorem dL_loads_140 : decode cL_loads 140 = .ok (.ifCond .ne 15, 3) := by decide +kernel
theorem dL_loads_143 : decode cL_loads 143 = .ok (.iload 7, 2) := by decide +kernel
theorem dL_loads_145 : decode cL_loads 145 = .ok (.ldc 58, 2) := by decide +kernel
theorem dL_loads_147 : decode cL_loads 147 = .ok (.if_icmp .ne 8, 3) := by decide +kernel
theorem dL_loads_150 : decode cL_loads 150 = .ok (.iload 9, 2) := by decide +kernel
theorem dL_loads_152 : decode cL_loads 152 = .ok (.ifCond .eq 53, 3) := by decide +kernel
theorem dL_loads_155 : decode cL_loads 155 = .ok (.iload 13, 2) := by decide +kernel
theorem dL_loads_157 : decode cL_loads 157 = .ok (.ifCond .eq 46, 3) := by decide +kernel
theorem dL_loads_160 : decode cL_loads 160 = .ok (.iload 10, 2) := by decide +kernel
theorem dL_loads_162 : decode cL_loads 162 = .ok (.iload 8, 2) := by decide +kernel
theorem dL_loads_164 : decode cL_loads 164 = .ok (.ifCond .eq 8, 3) := by decide +kernel
theorem dL_loads_167 : decode cL_loads 167 = .ok (.ldc 60, 2) := by decide +kernel
theorem dL_loads_169 : decode cL_loads 169 = .ok (.goto 17, 3) := by decide +kernel
theorem dL_loads_172 : decode cL_loads 172 = .ok (.iload 7, 2) := by decide +kernel
theorem dL_loads_174 : decode cL_loads 174 = .ok (.ldc 58, 2) := by decide +kernel
theorem dL_loads_176 : decode cL_loads 176 = .ok (.if_icmp .eq 8, 3) := by decide +kernel
theorem dL_loads_179 : decode cL_loads 179 = .ok (.ldc 117, 2) := by decide +kernel
theorem dL_loads_181 : decode cL_loads 181 = .ok (.goto 5, 3) := by decide +kernel
theorem dL_loads_184 : decode cL_loads 184 = .ok (.ldc 118, 2) := by decide +kernel
theorem dL_loads_186 : decode cL_loads 186 = .ok (.if_icmp .ne 17, 3) := by decide +kernel
theorem dL_loads_189 : decode cL_loads 189 = .ok (.aload_n 0, 1) := by decide +kernel
theorem dL_loads_190 : decode cL_loads 190 = .ok (.invokestatic 101, 3) := by decide +kernel
theorem dL_loads_193 : decode cL_loads 193 = .ok (.lload 4, 2) := by decide +kernel
theorem dL_loads_195 : decode cL_loads 195 = .ok (.lcmp, 1) := by decide +kernel
theorem dL_loads_196 : decode cL_loads 196 = .ok (.ifCond .ne 7, 3) := by decide +kernel
theorem dL_loads_199 : decode cL_loads 199 = .ok (.iconst 1, 1) := by decide +kernel
theorem dL_loads_200 : decode cL_loads 200 = .ok (.goto 4, 3) := by decide +kernel
theorem dL_loads_203 : decode cL_loads 203 = .ok (.iconst 0, 1) := by decide +kernel
theorem dL_loads_204 : decode cL_loads 204 = .ok (.ireturn, 1) := by decide +kernel
theorem dL_loads_205 : decode cL_loads 205 = .ok (.iconst 0, 1) := by decide +kernel
theorem dL_loads_206 : decode cL_loads 206 = .ok (.istore 14, 2) := by decide +kernel
theorem dL_loads_208 : decode cL_loads 208 = .ok (.iconst 0, 1) := by decide +kernel
theorem dL_loads_209 : decode cL_loads 209 = .ok (.istore 15, 2) := by decide +kernel
theorem dL_loads_211 : decode cL_loads 211 = .ok (.iload 15, 2) := by decide +kernel
theorem dL_loads_213 : decode cL_loads 213 = .ok (.iconst 4, 1) := by decide +kernel
theorem dL_loads_214 : decode cL_loads 214 = .ok (.if_icmp .ge 44, 3) := by decide +kernel
theorem dL_loads_217 : decode cL_loads 217 = .ok (.iconst 0, 1) := by decide +kernel
theorem dL_loads_218 : decode cL_loads 218 = .ok (.istore 16, 2) := by decide +kernel
theorem dL_loads_220 : decode cL_loads 220 = .ok (.iload 16, 2) := by decide +kernel
theorem dL_loads_222 : decode cL_loads 222 = .ok (.aload_n 0, 1) := by decide +kernel
theorem dL_loads_223 : decode cL_loads 223 = .ok (.iload_n 2, 1) := by decide +kernel
theorem dL_loads_224 : decode cL_loads 224 = .ok (.iload 15, 2) := by decide +kernel
theorem dL_loads_226 : decode cL_loads 226 = .ok (.invokevirtual 39, 3) := by decide +kernel
theorem dL_loads_229 : decode cL_loads 229 = .ok (.if_icmp .ge 23, 3) := by decide +kernel
theorem dL_loads_232 : decode cL_loads 232 = .ok (.iload 14, 2) := by decide +kernel
theorem dL_loads_234 : decode cL_loads 234 = .ok (.aload_n 0, 1) := by decide +kernel
theorem dL_loads_235 : decode cL_loads 235 = .ok (.iload_n 2, 1) := by decide +kernel
theorem dL_loads_236 : decode cL_loads 236 = .ok (.iload 15, 2) := by decide +kernel
theorem dL_loads_238 : decode cL_loads 238 = .ok (.iload 16, 2) := by decide +kernel
theorem dL_loads_240 : decode cL_loads 240 = .ok (.invokevirtual 42, 3) := by decide +kernel
theorem dL_loads_243 : decode cL_loads 243 = .ok (.iadd, 1) := by decide +kernel
theorem dL_loads_244 : decode cL_loads 244 = .ok (.istore 14, 2) := by decide +kernel
theorem dL_loads_246 : decode cL_loads 246 = .ok (.iinc 16 1, 3) := by decide +kernel
theorem dL_loads_249 : decode cL_loads 249 = .ok (.goto (-29), 3) := by decide +kernel
theorem dL_loads_252 : decode cL_loads 252 = .ok (.iinc 15 1, 3) := by decide +kernel
theorem dL_loads_255 : decode cL_loads 255 = .ok (.goto (-44), 3) := by decide +kernel
theorem dL_loads_258 : decode cL_loads 258 = .ok (.iload 13, 2) := by decide +kernel
theorem dL_loads_260 : decode cL_loads 260 = .ok (.ifCond .eq 21, 3) := by decide +kernel
theorem dL_loads_263 : decode cL_loads 263 = .ok (.iload 10, 2) := by decide +kernel
theorem dL_loads_265 : decode cL_loads 265 = .ok (.iload 14, 2) := by decide +kernel
theorem dL_loads_267 : decode cL_loads 267 = .ok (.if_icmp .ne 14, 3) := by decide +kernel
theorem dL_loads_270 : decode cL_loads 270 = .ok (.iload 11, 2) := by decide +kernel
theorem dL_loads_272 : decode cL_loads 272 = .ok (.iload 12, 2) := by decide +kernel
theorem dL_loads_274 : decode cL_loads 274 = .ok (.if_icmp .ne 7, 3) := by decide +kernel
theorem dL_loads_277 : decode cL_loads 277 = .ok (.iconst 1, 1) := by decide +kernel
theorem dL_loads_278 : decode cL_loads 278 = .ok (.goto 4, 3) := by decide +kernel
theorem dL_loads_281 : decode cL_loads 281 = .ok (.iconst 0, 1) := by decide +kernel
theorem dL_loads_282 : decode cL_loads 282 = .ok (.ireturn, 1) := by decide +kernel
theorem dL_edits_0 : decode cL_edits 0 = .ok (.iload 4, 2) := by decide +kernel
theorem dL_edits_2 : decode cL_edits 2 = .ok (.iload 4, 2) := by decide +kernel
theorem dL_edits_4 : decode cL_edits 4 = .ok (.bipush 16, 2) := by decide +kernel
theorem dL_edits_6 : decode cL_edits 6 = .ok (.ishr, 1) := by decide +kernel
theorem dL_edits_7 : decode cL_edits 7 = .ok (.bipush 7, 2) := by decide +kernel
theorem dL_edits_9 : decode cL_edits 9 = .ok (.invokestatic 70, 3) := by decide +kernel
theorem dL_edits_12 : decode cL_edits 12 = .ok (.ifCond .ne 7, 3) := by decide +kernel
theorem dL_edits_15 : decode cL_edits 15 = .ok (.iconst 5, 1) := by decide +kernel
theorem dL_edits_16 : decode cL_edits 16 = .ok (.goto 4, 3) := by decide +kernel
theorem dL_edits_19 : decode cL_edits 19 = .ok (.iconst 4, 1) := by decide +kernel
theorem dL_edits_20 : decode cL_edits 20 = .ok (.invokestatic 70, 3) := by decide +kernel
theorem dL_edits_23 : decode cL_edits 23 = .ok (.istore 5, 2) := by decide +kernel
theorem dL_edits_25 : decode cL_edits 25 = .ok (.iload_n 1, 1) := by decide +kernel
theorem dL_edits_26 : decode cL_edits 26 = .ok (.iconst 3, 1) := by decide +kernel
theorem dL_edits_27 : decode cL_edits 27 = .ok (.if_icmp .gt 19, 3) := by decide +kernel
theorem dL_edits_30 : decode cL_edits 30 = .ok (.aload_n 0, 1) := by decide +kernel
theorem dL_edits_31 : decode cL_edits 31 = .ok (.iload_n 2, 1) := by decide +kernel
theorem dL_edits_32 : decode cL_edits 32 = .ok (.invokevirtual 36, 3) := by decide +kernel
theorem dL_edits_35 : decode cL_edits 35 = .ok (.ldc 60, 2) := by decide +kernel
theorem dL_edits_37 : decode cL_edits 37 = .ok (.if_icmp .eq 9, 3) := by decide +kernel
theorem dL_edits_40 : decode cL_edits 40 = .ok (.iload 5, 2) := by decide +kernel
theorem dL_edits_42 : decode cL_edits 42 = .ok (.iconst 4, 1) := by decide +kernel
theorem dL_edits_43 : decode cL_edits 43 = .ok (.if_icmp .ne 7, 3) := by decide +kernel
theorem dL_edits_46 : decode cL_edits 46 = .ok (.iconst 1, 1) := by decide +kernel
theorem dL_edits_47 : decode cL_edits 47 = .ok (.goto 4, 3) := by decide +kernel
theorem dL_edits_50 : decode cL_edits 50 = .ok (.iconst 0, 1) := by decide +kernel
theorem dL_edits_51 : decode cL_edits 51 = .ok (.istore 6, 2) := by decide +kernel
theorem dL_edits_53 : decode cL_edits 53 = .ok (.iload 6, 2) := by decide +kernel
theorem dL_edits_55 : decode cL_edits 55 = .ok (.ifCond .eq 7, 3) := by decide +kernel
theorem dL_edits_58 : decode cL_edits 58 = .ok (.iconst 0, 1) := by decide +kernel
theorem dL_edits_59 : decode cL_edits 59 = .ok (.goto 10, 3) := by decide +kernel
theorem dL_edits_62 : decode cL_edits 62 = .ok (.aload_n 0, 1) := by decide +kernel
theorem dL_edits_63 : decode cL_edits 63 = .ok (.iload_n 2, 1) := by decide +kernel
theorem dL_edits_64 : decode cL_edits 64 = .ok (.iload 5, 2) := by decide +kernel
theorem dL_edits_66 : decode cL_edits 66 = .ok (.invokevirtual 39, 3) := by decide +kernel
theorem dL_edits_69 : decode cL_edits 69 = .ok (.istore 7, 2) := by decide +kernel
theorem dL_edits_71 : decode cL_edits 71 = .ok (.iload 4, 2) := by decide +kernel
theorem dL_edits_73 : decode cL_edits 73 = .ok (.iconst 3, 1) := by decide +kernel
theorem dL_edits_74 : decode cL_edits 74 = .ok (.ishr, 1) := by decide +kernel
theorem dL_edits_75 : decode cL_edits 75 = .ok (.iload 7, 2) := by decide +kernel
theorem dL_edits_77 : decode cL_edits 77 = .ok (.iconst 2, 1) := by decide +kernel
theorem dL_edits_78 : decode cL_edits 78 = .ok (.iadd, 1) := by decide +kernel
theorem dL_edits_79 : decode cL_edits 79 = .ok (.invokestatic 70, 3) := by decide +kernel
theorem dL_edits_82 : decode cL_edits 82 = .ok (.istore 8, 2) := by decide +kernel
theorem dL_edits_84 : decode cL_edits 84 = .ok (.iload 8, 2) := by decide +kernel
theorem dL_edits_86 : decode cL_edits 86 = .ok (.iload 7, 2) := by decide +kernel
theorem dL_edits_88 : decode cL_edits 88 = .ok (.if_icmp .ge 15, 3) := by decide +kernel
theorem dL_edits_91 : decode cL_edits 91 = .ok (.aload_n 0, 1) := by decide +kernel
theorem dL_edits_92 : decode cL_edits 92 = .ok (.iload_n 2, 1) := by decide +kernel
theorem dL_edits_93 : decode cL_edits 93 = .ok (.iload 5, 2) := by decide +kernel
theorem dL_edits_95 : decode cL_edits 95 = .ok (.iload 8, 2) := by decide +kernel
theorem dL_edits_97 : decode cL_edits 97 = .ok (.invokevirtual 42, 3) := by decide +kernel
theorem dL_edits_100 : decode cL_edits 100 = .ok (.goto 4, 3) := by decide +kernel
theorem dL_edits_103 : decode cL_edits 103 = .ok (.iconst 0, 1) := by decide +kernel
theorem dL_edits_104 : decode cL_edits 104 = .ok (.istore 9, 2) := by decide +kernel
theorem dL_edits_106 : decode cL_edits 106 = .ok (.iload 4, 2) := by decide +kernel
theorem dL_edits_108 : decode cL_edits 108 = .ok (.bipush 6, 2) := by decide +kernel
theorem dL_edits_110 : decode cL_edits 110 = .ok (.ishr, 1) := by decide +kernel
theorem dL_edits_111 : decode cL_edits 111 = .ok (.iload 9, 2) := by decide +kernel
theorem dL_edits_113 : decode cL_edits 113 = .ok (.iconst 3, 1) := by decide +kernel
theorem dL_edits_114 : decode cL_edits 114 = .ok (.iadd, 1) := by decide +kernel
theorem dL_edits_115 : decode cL_edits 115 = .ok (.invokestatic 70, 3) := by decide +kernel
theorem dL_edits_118 : decode cL_edits 118 = .ok (.iconst 1, 1) := by decide +kernel
theorem dL_edits_119 : decode cL_edits 119 = .ok (.isub, 1) := by decide +kernel
theorem dL_edits_120 : decode cL_edits 120 = .ok (.istore 10, 2) := by decide +kernel
theorem dL_edits_122 : decode cL_edits 122 = .ok (.iload 4, 2) := by decide +kernel
theorem dL_edits_124 : decode cL_edits 124 = .ok (.bipush 9, 2) := by decide +kernel
theorem dL_edits_126 : decode cL_edits 126 = .ok (.ishr, 1) := by decide +kernel
theorem dL_edits_127 : decode cL_edits 127 = .ok (.iload 4, 2) := by decide +kernel
theorem dL_edits_129 : decode cL_edits 129 = .ok (.bipush 17, 2) := by decide +kernel
theorem dL_edits_131 : decode cL_edits 131 = .ok (.ishr, 1) := by decide +kernel
theorem dL_edits_132 : decode cL_edits 132 = .ok (.iconst 5, 1) := by decide +kernel
theorem dL_edits_133 : decode cL_edits 133 = .ok (.invokestatic 70, 3) := by decide +kernel
theorem dL_edits_136 : decode cL_edits 136 = .ok (.ifCond .ne 9, 3) := by decide +kernel
theorem dL_edits_139 : decode cL_edits 139 = .ok (.sipush 2003, 3) := by decide +kernel
theorem dL_edits_142 : decode cL_edits 142 = .ok (.goto 5, 3) := by decide +kernel
theorem dL_edits_145 : decode cL_edits 145 = .ok (.bipush 9, 2) := by decide +kernel
theorem dL_edits_147 : decode cL_edits 147 = .ok (.invokestatic 70, 3) := by decide +kernel
theorem dL_edits_150 : decode cL_edits 150 = .ok (.iload 4, 2) := by decide +kernel
theorem dL_edits_152 : decode cL_edits 152 = .ok (.bipush 17, 2) := by decide +kernel
theorem dL_edits_154 : decode cL_edits 154 = .ok (.ishr, 1) := by decide +kernel
theorem dL_edits_155 : decode cL_edits 155 = .ok (.iconst 5, 1) := by decide +kernel
theorem dL_edits_156 : decode cL_edits 156 = .ok (.invokestatic 70, 3) := by decide +kernel
theorem dL_edits_159 : decode cL_edits 159 = .ok (.ifCond .ne 9, 3) := by decide +kernel
theorem dL_edits_162 : decode cL_edits 162 = .ok (.sipush 1001, 3) := by decide +kernel
theorem dL_edits_165 : decode cL_edits 165 = .ok (.goto 4, 3) := by decide +kernel
theorem dL_edits_168 : decode cL_edits 168 = .ok (.iconst 4, 1) := by decide +kernel
theorem dL_edits_169 : decode cL_edits 169 = .ok (.isub, 1) := by decide +kernel
theorem dL_edits_170 : decode cL_edits 170 = .ok (.istore 11, 2) := by decide +kernel
theorem dL_edits_172 : decode cL_edits 172 = .ok (.iload 11, 2) := by decide +kernel
theorem dL_edits_174 : decode cL_edits 174 = .ok (.sipush (-999), 3) := by decide +kernel
theorem dL_edits_177 : decode cL_edits 177 = .ok (.if_icmp .lt 11, 3) := by decide +kernel
theorem dL_edits_180 : decode cL_edits 180 = .ok (.iload 11, 2) := by decide +kernel
theorem dL_edits_182 : decode cL_edits 182 = .ok (.sipush 999, 3) := by decide +kernel
theorem dL_edits_185 : decode cL_edits 185 = .ok (.if_icmp .le 7, 3) := by decide +kernel
theorem dL_edits_188 : decode cL_edits 188 = .ok (.iconst 1, 1) := by decide +kernel
theorem dL_edits_189 : decode cL_edits 189 = .ok (.goto 4, 3) := by decide +kernel
theorem dL_edits_192 : decode cL_edits 192 = .ok (.iconst 0, 1) := by decide +kernel
theorem dL_edits_193 : decode cL_edits 193 = .ok (.istore 12, 2) := by decide +kernel
theorem dL_edits_195 : decode cL_edits 195 = .ok (.iload 6, 2) := by decide +kernel
