theorem dL_edits_197 : decode cL_edits 197 = .ok (.ifCond .ne 26, 3) := by decide +kernel
theorem dL_edits_200 : decode cL_edits 200 = .ok (.aload_n 0, 1) := by decide +kernel
theorem dL_edits_201 : decode cL_edits 201 = .ok (.iload_n 2, 1) := by decide +kernel
theorem dL_edits_202 : decode cL_edits 202 = .ok (.invokevirtual 36, 3) := by decide +kernel
theorem dL_edits_205 : decode cL_edits 205 = .ok (.ldc 58, 2) := by decide +kernel
theorem dL_edits_207 : decode cL_edits 207 = .ok (.if_icmp .eq 16, 3) := by decide +kernel
theorem dL_edits_210 : decode cL_edits 210 = .ok (.aload_n 0, 1) := by decide +kernel
theorem dL_edits_211 : decode cL_edits 211 = .ok (.iload_n 2, 1) := by decide +kernel
theorem dL_edits_212 : decode cL_edits 212 = .ok (.invokevirtual 36, 3) := by decide +kernel
theorem dL_edits_215 : decode cL_edits 215 = .ok (.iload_n 1, 1) := by decide +kernel
theorem dL_edits_216 : decode cL_edits 216 = .ok (.if_icmp .eq 7, 3) := by decide +kernel
theorem dL_edits_219 : decode cL_edits 219 = .ok (.iconst 1, 1) := by decide +kernel
theorem dL_edits_220 : decode cL_edits 220 = .ok (.goto 4, 3) := by decide +kernel
theorem dL_edits_223 : decode cL_edits 223 = .ok (.iconst 0, 1) := by decide +kernel
theorem dL_edits_224 : decode cL_edits 224 = .ok (.istore 13, 2) := by decide +kernel
theorem dL_edits_226 : decode cL_edits 226 = .ok (.iload 8, 2) := by decide +kernel
theorem dL_edits_228 : decode cL_edits 228 = .ok (.iload 7, 2) := by decide +kernel
theorem dL_edits_230 : decode cL_edits 230 = .ok (.if_icmp .ge 29, 3) := by decide +kernel
theorem dL_edits_233 : decode cL_edits 233 = .ok (.iload 10, 2) := by decide +kernel
theorem dL_edits_235 : decode cL_edits 235 = .ok (.ifCond .lt 24, 3) := by decide +kernel
theorem dL_edits_238 : decode cL_edits 238 = .ok (.iload 10, 2) := by decide +kernel
theorem dL_edits_240 : decode cL_edits 240 = .ok (.iload 9, 2) := by decide +kernel
theorem dL_edits_242 : decode cL_edits 242 = .ok (.if_icmp .ge 17, 3) := by decide +kernel
theorem dL_edits_245 : decode cL_edits 245 = .ok (.aload_n 0, 1) := by decide +kernel
theorem dL_edits_246 : decode cL_edits 246 = .ok (.iload_n 2, 1) := by decide +kernel
theorem dL_edits_247 : decode cL_edits 247 = .ok (.iload 5, 2) := by decide +kernel
theorem dL_edits_249 : decode cL_edits 249 = .ok (.iload 8, 2) := by decide +kernel
theorem dL_edits_251 : decode cL_edits 251 = .ok (.iload 10, 2) := by decide +kernel
theorem dL_edits_253 : decode cL_edits 253 = .ok (.invokevirtual 46, 3) := by decide +kernel
theorem dL_edits_256 : decode cL_edits 256 = .ok (.goto 5, 3) := by decide +kernel
theorem dL_edits_259 : decode cL_edits 259 = .ok (.ldc 60, 2) := by decide +kernel
theorem dL_edits_261 : decode cL_edits 261 = .ok (.istore 14, 2) := by decide +kernel
theorem dL_edits_263 : decode cL_edits 263 = .ok (.iload_n 3, 1) := by decide +kernel
theorem dL_edits_264 : decode cL_edits 264 = .ok (.ifCond .ne 237, 3) := by decide +kernel
theorem dL_edits_267 : decode cL_edits 267 = .ok (.iload 6, 2) := by decide +kernel
theorem dL_edits_269 : decode cL_edits 269 = .ok (.ifCond .ne 32, 3) := by decide +kernel
theorem dL_edits_272 : decode cL_edits 272 = .ok (.iload 10, 2) := by decide +kernel
theorem dL_edits_274 : decode cL_edits 274 = .ok (.ifCond .ge 13, 3) := by decide +kernel
theorem dL_edits_277 : decode cL_edits 277 = .ok (.iload 8, 2) := by decide +kernel
theorem dL_edits_279 : decode cL_edits 279 = .ok (.iload 7, 2) := by decide +kernel
theorem dL_edits_281 : decode cL_edits 281 = .ok (.if_icmp .le 24, 3) := by decide +kernel
theorem dL_edits_284 : decode cL_edits 284 = .ok (.goto 17, 3) := by decide +kernel
theorem dL_edits_287 : decode cL_edits 287 = .ok (.iload 8, 2) := by decide +kernel
theorem dL_edits_289 : decode cL_edits 289 = .ok (.iload 7, 2) := by decide +kernel
theorem dL_edits_291 : decode cL_edits 291 = .ok (.if_icmp .ge 10, 3) := by decide +kernel
theorem dL_edits_294 : decode cL_edits 294 = .ok (.iload 10, 2) := by decide +kernel
theorem dL_edits_296 : decode cL_edits 296 = .ok (.iload 9, 2) := by decide +kernel
theorem dL_edits_298 : decode cL_edits 298 = .ok (.if_icmp .le 7, 3) := by decide +kernel
theorem dL_edits_301 : decode cL_edits 301 = .ok (.iconst 1, 1) := by decide +kernel
theorem dL_edits_302 : decode cL_edits 302 = .ok (.goto 4, 3) := by decide +kernel
theorem dL_edits_305 : decode cL_edits 305 = .ok (.iconst 0, 1) := by decide +kernel
theorem dL_edits_306 : decode cL_edits 306 = .ok (.istore 15, 2) := by decide +kernel
theorem dL_edits_308 : decode cL_edits 308 = .ok (.iload 10, 2) := by decide +kernel
theorem dL_edits_310 : decode cL_edits 310 = .ok (.ifCond .ge 17, 3) := by decide +kernel
theorem dL_edits_313 : decode cL_edits 313 = .ok (.iload 7, 2) := by decide +kernel
theorem dL_edits_315 : decode cL_edits 315 = .ok (.iconst 5, 1) := by decide +kernel
theorem dL_edits_316 : decode cL_edits 316 = .ok (.if_icmp .ne 7, 3) := by decide +kernel
theorem dL_edits_319 : decode cL_edits 319 = .ok (.iconst 1, 1) := by decide +kernel
theorem dL_edits_320 : decode cL_edits 320 = .ok (.goto 18, 3) := by decide +kernel
theorem dL_edits_323 : decode cL_edits 323 = .ok (.iconst 0, 1) := by decide +kernel
theorem dL_edits_324 : decode cL_edits 324 = .ok (.goto 14, 3) := by decide +kernel
theorem dL_edits_327 : decode cL_edits 327 = .ok (.iload 9, 2) := by decide +kernel
theorem dL_edits_329 : decode cL_edits 329 = .ok (.iconst 4, 1) := by decide +kernel
theorem dL_edits_330 : decode cL_edits 330 = .ok (.if_icmp .ne 7, 3) := by decide +kernel
theorem dL_edits_333 : decode cL_edits 333 = .ok (.iconst 1, 1) := by decide +kernel
theorem dL_edits_334 : decode cL_edits 334 = .ok (.goto 4, 3) := by decide +kernel
theorem dL_edits_337 : decode cL_edits 337 = .ok (.iconst 0, 1) := by decide +kernel
theorem dL_edits_338 : decode cL_edits 338 = .ok (.istore 16, 2) := by decide +kernel
theorem dL_edits_340 : decode cL_edits 340 = .ok (.aload_n 0, 1) := by decide +kernel
theorem dL_edits_341 : decode cL_edits 341 = .ok (.iload_n 1, 1) := by decide +kernel
theorem dL_edits_342 : decode cL_edits 342 = .ok (.iload_n 2, 1) := by decide +kernel
theorem dL_edits_343 : decode cL_edits 343 = .ok (.iload 5, 2) := by decide +kernel
theorem dL_edits_345 : decode cL_edits 345 = .ok (.iload 8, 2) := by decide +kernel
theorem dL_edits_347 : decode cL_edits 347 = .ok (.iload 10, 2) := by decide +kernel
theorem dL_edits_349 : decode cL_edits 349 = .ok (.iload 11, 2) := by decide +kernel
theorem dL_edits_351 : decode cL_edits 351 = .ok (.invokevirtual 119, 3) := by decide +kernel
theorem dL_edits_354 : decode cL_edits 354 = .ok (.istore 17, 2) := by decide +kernel
theorem dL_edits_356 : decode cL_edits 356 = .ok (.iload 17, 2) := by decide +kernel
theorem dL_edits_358 : decode cL_edits 358 = .ok (.iload 15, 2) := by decide +kernel
theorem dL_edits_360 : decode cL_edits 360 = .ok (.ifCond .eq 8, 3) := by decide +kernel
theorem dL_edits_363 : decode cL_edits 363 = .ok (.ldc 60, 2) := by decide +kernel
theorem dL_edits_365 : decode cL_edits 365 = .ok (.goto 49, 3) := by decide +kernel
theorem dL_edits_368 : decode cL_edits 368 = .ok (.iload 12, 2) := by decide +kernel
theorem dL_edits_370 : decode cL_edits 370 = .ok (.ifCond .eq 8, 3) := by decide +kernel
theorem dL_edits_373 : decode cL_edits 373 = .ok (.ldc 59, 2) := by decide +kernel
theorem dL_edits_375 : decode cL_edits 375 = .ok (.goto 39, 3) := by decide +kernel
theorem dL_edits_378 : decode cL_edits 378 = .ok (.iload 13, 2) := by decide +kernel
theorem dL_edits_380 : decode cL_edits 380 = .ok (.ifCond .eq 8, 3) := by decide +kernel
theorem dL_edits_383 : decode cL_edits 383 = .ok (.ldc 118, 2) := by decide +kernel
theorem dL_edits_385 : decode cL_edits 385 = .ok (.goto 29, 3) := by decide +kernel
theorem dL_edits_388 : decode cL_edits 388 = .ok (.iload 16, 2) := by decide +kernel
theorem dL_edits_390 : decode cL_edits 390 = .ok (.ifCond .eq 8, 3) := by decide +kernel
theorem dL_edits_393 : decode cL_edits 393 = .ok (.ldc 123, 2) := by decide +kernel
theorem dL_edits_395 : decode cL_edits 395 = .ok (.goto 19, 3) := by decide +kernel
theorem dL_edits_398 : decode cL_edits 398 = .ok (.iload 10, 2) := by decide +kernel
theorem dL_edits_400 : decode cL_edits 400 = .ok (.ifCond .ge 10, 3) := by decide +kernel
theorem dL_edits_403 : decode cL_edits 403 = .ok (.iload 7, 2) := by decide +kernel
theorem dL_edits_405 : decode cL_edits 405 = .ok (.iconst 1, 1) := by decide +kernel
theorem dL_edits_406 : decode cL_edits 406 = .ok (.iadd, 1) := by decide +kernel
theorem dL_edits_407 : decode cL_edits 407 = .ok (.goto 7, 3) := by decide +kernel
theorem dL_edits_410 : decode cL_edits 410 = .ok (.iload 9, 2) := by decide +kernel
theorem dL_edits_412 : decode cL_edits 412 = .ok (.iconst 1, 1) := by decide +kernel
theorem dL_edits_413 : decode cL_edits 413 = .ok (.iadd, 1) := by decide +kernel
theorem dL_edits_414 : decode cL_edits 414 = .ok (.if_icmp .ne 85, 3) := by decide +kernel
theorem dL_edits_417 : decode cL_edits 417 = .ok (.iload 17, 2) := by decide +kernel
theorem dL_edits_419 : decode cL_edits 419 = .ok (.ifCond .lt 76, 3) := by decide +kernel
theorem dL_edits_422 : decode cL_edits 422 = .ok (.aload_n 0, 1) := by decide +kernel
theorem dL_edits_423 : decode cL_edits 423 = .ok (.iload_n 2, 1) := by decide +kernel
theorem dL_edits_424 : decode cL_edits 424 = .ok (.iload 5, 2) := by decide +kernel
theorem dL_edits_426 : decode cL_edits 426 = .ok (.iload 8, 2) := by decide +kernel
theorem dL_edits_428 : decode cL_edits 428 = .ok (.iload 10, 2) := by decide +kernel
theorem dL_edits_430 : decode cL_edits 430 = .ok (.ifCond .ge 7, 3) := by decide +kernel
theorem dL_edits_433 : decode cL_edits 433 = .ok (.iconst 0, 1) := by decide +kernel
theorem dL_edits_434 : decode cL_edits 434 = .ok (.goto 5, 3) := by decide +kernel
theorem dL_edits_437 : decode cL_edits 437 = .ok (.iload 10, 2) := by decide +kernel
theorem dL_edits_439 : decode cL_edits 439 = .ok (.invokevirtual 46, 3) := by decide +kernel
theorem dL_edits_442 : decode cL_edits 442 = .ok (.iload 11, 2) := by decide +kernel
theorem dL_edits_444 : decode cL_edits 444 = .ok (.if_icmp .ne 55, 3) := by decide +kernel
theorem dL_edits_447 : decode cL_edits 447 = .ok (.aload_n 0, 1) := by decide +kernel
theorem dL_edits_448 : decode cL_edits 448 = .ok (.iload_n 2, 1) := by decide +kernel
theorem dL_edits_449 : decode cL_edits 449 = .ok (.iload 5, 2) := by decide +kernel
theorem dL_edits_451 : decode cL_edits 451 = .ok (.invokevirtual 39, 3) := by decide +kernel
theorem dL_edits_454 : decode cL_edits 454 = .ok (.iload 7, 2) := by decide +kernel
theorem dL_edits_456 : decode cL_edits 456 = .ok (.iload 10, 2) := by decide +kernel
theorem dL_edits_458 : decode cL_edits 458 = .ok (.ifCond .ge 7, 3) := by decide +kernel
theorem dL_edits_461 : decode cL_edits 461 = .ok (.iconst 1, 1) := by decide +kernel
theorem dL_edits_462 : decode cL_edits 462 = .ok (.goto 4, 3) := by decide +kernel
theorem dL_edits_465 : decode cL_edits 465 = .ok (.iconst 0, 1) := by decide +kernel
theorem dL_edits_466 : decode cL_edits 466 = .ok (.iadd, 1) := by decide +kernel
theorem dL_edits_467 : decode cL_edits 467 = .ok (.if_icmp .ne 32, 3) := by decide +kernel
theorem dL_edits_470 : decode cL_edits 470 = .ok (.aload_n 0, 1) := by decide +kernel
theorem dL_edits_471 : decode cL_edits 471 = .ok (.iload_n 2, 1) := by decide +kernel
theorem dL_edits_472 : decode cL_edits 472 = .ok (.iload 5, 2) := by decide +kernel
theorem dL_edits_474 : decode cL_edits 474 = .ok (.iload 8, 2) := by decide +kernel
theorem dL_edits_476 : decode cL_edits 476 = .ok (.invokevirtual 42, 3) := by decide +kernel
theorem dL_edits_479 : decode cL_edits 479 = .ok (.iload 10, 2) := by decide +kernel
theorem dL_edits_481 : decode cL_edits 481 = .ok (.ifCond .ge 7, 3) := by decide +kernel
theorem dL_edits_484 : decode cL_edits 484 = .ok (.iconst 1, 1) := by decide +kernel
theorem dL_edits_485 : decode cL_edits 485 = .ok (.goto 7, 3) := by decide +kernel
theorem dL_edits_488 : decode cL_edits 488 = .ok (.iload 9, 2) := by decide +kernel
theorem dL_edits_490 : decode cL_edits 490 = .ok (.iconst 1, 1) := by decide +kernel
theorem dL_edits_491 : decode cL_edits 491 = .ok (.iadd, 1) := by decide +kernel
theorem dL_edits_492 : decode cL_edits 492 = .ok (.if_icmp .ne 7, 3) := by decide +kernel
theorem dL_edits_495 : decode cL_edits 495 = .ok (.iconst 1, 1) := by decide +kernel
theorem dL_edits_496 : decode cL_edits 496 = .ok (.goto 4, 3) := by decide +kernel
theorem dL_edits_499 : decode cL_edits 499 = .ok (.iconst 0, 1) := by decide +kernel
theorem dL_edits_500 : decode cL_edits 500 = .ok (.ireturn, 1) := by decide +kernel
theorem dL_edits_501 : decode cL_edits 501 = .ok (.iload_n 3, 1) := by decide +kernel
theorem dL_edits_502 : decode cL_edits 502 = .ok (.iconst 1, 1) := by decide +kernel
theorem dL_edits_503 : decode cL_edits 503 = .ok (.if_icmp .ne 102, 3) := by decide +kernel
theorem dL_edits_506 : decode cL_edits 506 = .ok (.aload_n 0, 1) := by decide +kernel
theorem dL_edits_507 : decode cL_edits 507 = .ok (.iload_n 1, 1) := by decide +kernel
theorem dL_edits_508 : decode cL_edits 508 = .ok (.iload_n 2, 1) := by decide +kernel
theorem dL_edits_509 : decode cL_edits 509 = .ok (.iload 5, 2) := by decide +kernel
theorem dL_edits_511 : decode cL_edits 511 = .ok (.iload 8, 2) := by decide +kernel
theorem dL_edits_513 : decode cL_edits 513 = .ok (.iload 10, 2) := by decide +kernel
theorem dL_edits_515 : decode cL_edits 515 = .ok (.iload 11, 2) := by decide +kernel
theorem dL_edits_517 : decode cL_edits 517 = .ok (.invokevirtual 124, 3) := by decide +kernel
theorem dL_edits_520 : decode cL_edits 520 = .ok (.istore 15, 2) := by decide +kernel
theorem dL_edits_522 : decode cL_edits 522 = .ok (.iload 15, 2) := by decide +kernel
theorem dL_edits_524 : decode cL_edits 524 = .ok (.iload 14, 2) := by decide +kernel
theorem dL_edits_526 : decode cL_edits 526 = .ok (.ldc 60, 2) := by decide +kernel
theorem dL_edits_528 : decode cL_edits 528 = .ok (.if_icmp .ne 8, 3) := by decide +kernel
theorem dL_edits_531 : decode cL_edits 531 = .ok (.ldc 60, 2) := by decide +kernel
theorem dL_edits_533 : decode cL_edits 533 = .ok (.goto 25, 3) := by decide +kernel
theorem dL_edits_536 : decode cL_edits 536 = .ok (.iload 12, 2) := by decide +kernel
theorem dL_edits_538 : decode cL_edits 538 = .ok (.ifCond .eq 8, 3) := by decide +kernel
theorem dL_edits_541 : decode cL_edits 541 = .ok (.ldc 59, 2) := by decide +kernel
theorem dL_edits_543 : decode cL_edits 543 = .ok (.goto 15, 3) := by decide +kernel
theorem dL_edits_546 : decode cL_edits 546 = .ok (.iload 13, 2) := by decide +kernel
theorem dL_edits_548 : decode cL_edits 548 = .ok (.ifCond .eq 8, 3) := by decide +kernel
theorem dL_edits_551 : decode cL_edits 551 = .ok (.ldc 118, 2) := by decide +kernel
theorem dL_edits_553 : decode cL_edits 553 = .ok (.goto 5, 3) := by decide +kernel
theorem dL_edits_556 : decode cL_edits 556 = .ok (.iload 14, 2) := by decide +kernel
theorem dL_edits_558 : decode cL_edits 558 = .ok (.if_icmp .ne 45, 3) := by decide +kernel
theorem dL_edits_561 : decode cL_edits 561 = .ok (.iload 14, 2) := by decide +kernel
theorem dL_edits_563 : decode cL_edits 563 = .ok (.ldc 60, 2) := by decide +kernel
theorem dL_edits_565 : decode cL_edits 565 = .ok (.if_icmp .eq 34, 3) := by decide +kernel
theorem dL_edits_568 : decode cL_edits 568 = .ok (.aload_n 0, 1) := by decide +kernel
theorem dL_edits_569 : decode cL_edits 569 = .ok (.iload_n 2, 1) := by decide +kernel
theorem dL_edits_570 : decode cL_edits 570 = .ok (.iload 5, 2) := by decide +kernel
theorem dL_edits_572 : decode cL_edits 572 = .ok (.iload 8, 2) := by decide +kernel
theorem dL_edits_574 : decode cL_edits 574 = .ok (.iload 10, 2) := by decide +kernel
theorem dL_edits_576 : decode cL_edits 576 = .ok (.invokevirtual 46, 3) := by decide +kernel
theorem dL_edits_579 : decode cL_edits 579 = .ok (.iload 12, 2) := by decide +kernel
theorem dL_edits_581 : decode cL_edits 581 = .ok (.ifCond .ne 8, 3) := by decide +kernel
theorem dL_edits_584 : decode cL_edits 584 = .ok (.iload 13, 2) := by decide +kernel
theorem dL_edits_586 : decode cL_edits 586 = .ok (.ifCond .eq 8, 3) := by decide +kernel
theorem dL_edits_589 : decode cL_edits 589 = .ok (.iload 14, 2) := by decide +kernel
theorem dL_edits_591 : decode cL_edits 591 = .ok (.goto 5, 3) := by decide +kernel
theorem dL_edits_594 : decode cL_edits 594 = .ok (.iload 11, 2) := by decide +kernel
theorem dL_edits_596 : decode cL_edits 596 = .ok (.if_icmp .ne 7, 3) := by decide +kernel
theorem dL_edits_599 : decode cL_edits 599 = .ok (.iconst 1, 1) := by decide +kernel
theorem dL_edits_600 : decode cL_edits 600 = .ok (.goto 4, 3) := by decide +kernel
theorem dL_edits_603 : decode cL_edits 603 = .ok (.iconst 0, 1) := by decide +kernel
theorem dL_edits_604 : decode cL_edits 604 = .ok (.ireturn, 1) := by decide +kernel
theorem dL_edits_605 : decode cL_edits 605 = .ok (.iload 6, 2) := by decide +kernel
theorem dL_edits_607 : decode cL_edits 607 = .ok (.ifCond .ne 22, 3) := by decide +kernel
theorem dL_edits_610 : decode cL_edits 610 = .ok (.iload 8, 2) := by decide +kernel
theorem dL_edits_612 : decode cL_edits 612 = .ok (.iload 7, 2) := by decide +kernel
theorem dL_edits_614 : decode cL_edits 614 = .ok (.if_icmp .ge 15, 3) := by decide +kernel
theorem dL_edits_617 : decode cL_edits 617 = .ok (.iload 10, 2) := by decide +kernel
theorem dL_edits_619 : decode cL_edits 619 = .ok (.ifCond .lt 14, 3) := by decide +kernel
theorem dL_edits_622 : decode cL_edits 622 = .ok (.iload 14, 2) := by decide +kernel
theorem dL_edits_624 : decode cL_edits 624 = .ok (.ldc 60, 2) := by decide +kernel
theorem dL_edits_626 : decode cL_edits 626 = .ok (.if_icmp .ne 7, 3) := by decide +kernel
theorem dL_edits_629 : decode cL_edits 629 = .ok (.iconst 1, 1) := by decide +kernel
theorem dL_edits_630 : decode cL_edits 630 = .ok (.goto 4, 3) := by decide +kernel
theorem dL_edits_633 : decode cL_edits 633 = .ok (.iconst 0, 1) := by decide +kernel
theorem dL_edits_634 : decode cL_edits 634 = .ok (.istore 15, 2) := by decide +kernel
theorem dL_edits_636 : decode cL_edits 636 = .ok (.iload 10, 2) := by decide +kernel
theorem dL_edits_638 : decode cL_edits 638 = .ok (.ifCond .lt 9, 3) := by decide +kernel
theorem dL_edits_641 : decode cL_edits 641 = .ok (.iload 9, 2) := by decide +kernel
theorem dL_edits_643 : decode cL_edits 643 = .ok (.iconst 1, 1) := by decide +kernel
theorem dL_edits_644 : decode cL_edits 644 = .ok (.if_icmp .ne 7, 3) := by decide +kernel
theorem dL_edits_647 : decode cL_edits 647 = .ok (.iconst 1, 1) := by decide +kernel
theorem dL_edits_648 : decode cL_edits 648 = .ok (.goto 4, 3) := by decide +kernel
theorem dL_edits_651 : decode cL_edits 651 = .ok (.iconst 0, 1) := by decide +kernel
theorem dL_edits_652 : decode cL_edits 652 = .ok (.istore 16, 2) := by decide +kernel
theorem dL_edits_654 : decode cL_edits 654 = .ok (.aload_n 0, 1) := by decide +kernel
theorem dL_edits_655 : decode cL_edits 655 = .ok (.iload_n 1, 1) := by decide +kernel
theorem dL_edits_656 : decode cL_edits 656 = .ok (.iload_n 2, 1) := by decide +kernel
theorem dL_edits_657 : decode cL_edits 657 = .ok (.iload 5, 2) := by decide +kernel
theorem dL_edits_659 : decode cL_edits 659 = .ok (.iload 8, 2) := by decide +kernel
theorem dL_edits_661 : decode cL_edits 661 = .ok (.iload 10, 2) := by decide +kernel
theorem dL_edits_663 : decode cL_edits 663 = .ok (.invokevirtual 127, 3) := by decide +kernel
theorem dL_edits_666 : decode cL_edits 666 = .ok (.istore 17, 2) := by decide +kernel
theorem dL_edits_668 : decode cL_edits 668 = .ok (.iload 17, 2) := by decide +kernel
theorem dL_edits_670 : decode cL_edits 670 = .ok (.iload 15, 2) := by decide +kernel
theorem dL_edits_672 : decode cL_edits 672 = .ok (.ifCond .eq 8, 3) := by decide +kernel
theorem dL_edits_675 : decode cL_edits 675 = .ok (.ldc 60, 2) := by decide +kernel
theorem dL_edits_677 : decode cL_edits 677 = .ok (.goto 26, 3) := by decide +kernel
theorem dL_edits_680 : decode cL_edits 680 = .ok (.iload 13, 2) := by decide +kernel
theorem dL_edits_682 : decode cL_edits 682 = .ok (.ifCond .eq 8, 3) := by decide +kernel
theorem dL_edits_685 : decode cL_edits 685 = .ok (.ldc 118, 2) := by decide +kernel
theorem dL_edits_687 : decode cL_edits 687 = .ok (.goto 16, 3) := by decide +kernel
theorem dL_edits_690 : decode cL_edits 690 = .ok (.iload 7, 2) := by decide +kernel
theorem dL_edits_692 : decode cL_edits 692 = .ok (.iload 16, 2) := by decide +kernel
theorem dL_edits_694 : decode cL_edits 694 = .ok (.ifCond .eq 7, 3) := by decide +kernel
theorem dL_edits_697 : decode cL_edits 697 = .ok (.iconst 1, 1) := by decide +kernel
theorem dL_edits_698 : decode cL_edits 698 = .ok (.goto 4, 3) := by decide +kernel
theorem dL_edits_701 : decode cL_edits 701 = .ok (.iconst 0, 1) := by decide +kernel
theorem dL_edits_702 : decode cL_edits 702 = .ok (.isub, 1) := by decide +kernel
theorem dL_edits_703 : decode cL_edits 703 = .ok (.if_icmp .ne 45, 3) := by decide +kernel
theorem dL_edits_706 : decode cL_edits 706 = .ok (.iload 17, 2) := by decide +kernel
theorem dL_edits_708 : decode cL_edits 708 = .ok (.ifCond .lt 36, 3) := by decide +kernel
theorem dL_edits_711 : decode cL_edits 711 = .ok (.aload_n 0, 1) := by decide +kernel
theorem dL_edits_712 : decode cL_edits 712 = .ok (.iload_n 2, 1) := by decide +kernel
theorem dL_edits_713 : decode cL_edits 713 = .ok (.iload 5, 2) := by decide +kernel
theorem dL_edits_715 : decode cL_edits 715 = .ok (.invokevirtual 39, 3) := by decide +kernel
theorem dL_edits_718 : decode cL_edits 718 = .ok (.iload 17, 2) := by decide +kernel
theorem dL_edits_720 : decode cL_edits 720 = .ok (.if_icmp .ne 28, 3) := by decide +kernel
theorem dL_edits_723 : decode cL_edits 723 = .ok (.iload 16, 2) := by decide +kernel
theorem dL_edits_725 : decode cL_edits 725 = .ok (.ifCond .ne 19, 3) := by decide +kernel
theorem dL_edits_728 : decode cL_edits 728 = .ok (.aload_n 0, 1) := by decide +kernel
theorem dL_edits_729 : decode cL_edits 729 = .ok (.iload_n 2, 1) := by decide +kernel
theorem dL_edits_730 : decode cL_edits 730 = .ok (.iload 5, 2) := by decide +kernel
theorem dL_edits_732 : decode cL_edits 732 = .ok (.iload 8, 2) := by decide +kernel
theorem dL_edits_734 : decode cL_edits 734 = .ok (.invokevirtual 42, 3) := by decide +kernel
theorem dL_edits_737 : decode cL_edits 737 = .ok (.iload 9, 2) := by decide +kernel
theorem dL_edits_739 : decode cL_edits 739 = .ok (.iconst 1, 1) := by decide +kernel
theorem dL_edits_740 : decode cL_edits 740 = .ok (.isub, 1) := by decide +kernel
theorem dL_edits_741 : decode cL_edits 741 = .ok (.if_icmp .ne 7, 3) := by decide +kernel
theorem dL_edits_744 : decode cL_edits 744 = .ok (.iconst 1, 1) := by decide +kernel
theorem dL_edits_745 : decode cL_edits 745 = .ok (.goto 4, 3) := by decide +kernel
theorem dL_edits_748 : decode cL_edits 748 = .ok (.iconst 0, 1) := by decide +kernel
theorem dL_edits_749 : decode cL_edits 749 = .ok (.ireturn, 1) := by decide +kernel
theorem dL_acts_0 : decode cL_acts 0 = .ok (.iload_n 1, 1) := by decide +kernel
theorem dL_acts_1 : decode cL_acts 1 = .ok (.bipush 32, 2) := by decide +kernel
theorem dL_acts_3 : decode cL_acts 3 = .ok (.invokestatic 70, 3) := by decide +kernel
theorem dL_acts_6 : decode cL_acts 6 = .ok (.istore_n 3, 1) := by decide +kernel
theorem dL_acts_7 : decode cL_acts 7 = .ok (.aload_n 0, 1) := by decide +kernel
theorem dL_acts_8 : decode cL_acts 8 = .ok (.invokevirtual 29, 3) := by decide +kernel
theorem dL_acts_11 : decode cL_acts 11 = .ok (.istore 4, 2) := by decide +kernel
theorem dL_acts_13 : decode cL_acts 13 = .ok (.iload_n 2, 1) := by decide +kernel
theorem dL_acts_14 : decode cL_acts 14 = .ok (.iload 4, 2) := by decide +kernel
theorem dL_acts_16 : decode cL_acts 16 = .ok (.iconst 1, 1) := by decide +kernel
theorem dL_acts_17 : decode cL_acts 17 = .ok (.iadd, 1) := by decide +kernel
theorem dL_acts_18 : decode cL_acts 18 = .ok (.invokestatic 70, 3) := by decide +kernel
theorem dL_acts_21 : decode cL_acts 21 = .ok (.istore 5, 2) := by decide +kernel
theorem dL_acts_23 : decode cL_acts 23 = .ok (.iload 5, 2) := by decide +kernel
theorem dL_acts_25 : decode cL_acts 25 = .ok (.iload 4, 2) := by decide +kernel
theorem dL_acts_27 : decode cL_acts 27 = .ok (.if_icmp .ge 12, 3) := by decide +kernel
theorem dL_acts_30 : decode cL_acts 30 = .ok (.aload_n 0, 1) := by decide +kernel
theorem dL_acts_31 : decode cL_acts 31 = .ok (.iload 5, 2) := by decide +kernel
theorem dL_acts_33 : decode cL_acts 33 = .ok (.invokevirtual 33, 3) := by decide +kernel
theorem dL_acts_36 : decode cL_acts 36 = .ok (.goto 14, 3) := by decide +kernel
theorem dL_acts_39 : decode cL_acts 39 = .ok (.iload_n 2, 1) := by decide +kernel
theorem dL_acts_40 : decode cL_acts 40 = .ok (.bipush 9, 2) := by decide +kernel
theorem dL_acts_42 : decode cL_acts 42 = .ok (.ishr, 1) := by decide +kernel
theorem dL_acts_43 : decode cL_acts 43 = .ok (.bipush 103, 2) := by decide +kernel
theorem dL_acts_45 : decode cL_acts 45 = .ok (.invokestatic 70, 3) := by decide +kernel
theorem dL_acts_48 : decode cL_acts 48 = .ok (.iconst 1, 1) := by decide +kernel
theorem dL_acts_49 : decode cL_acts 49 = .ok (.isub, 1) := by decide +kernel
theorem dL_acts_50 : decode cL_acts 50 = .ok (.istore 6, 2) := by decide +kernel
theorem dL_acts_52 : decode cL_acts 52 = .ok (.iload 6, 2) := by decide +kernel
theorem dL_acts_54 : decode cL_acts 54 = .ok (.ifCond .lt 18, 3) := by decide +kernel
theorem dL_acts_57 : decode cL_acts 57 = .ok (.aload_n 0, 1) := by decide +kernel
theorem dL_acts_58 : decode cL_acts 58 = .ok (.iload 6, 2) := by decide +kernel
theorem dL_acts_60 : decode cL_acts 60 = .ok (.invokevirtual 36, 3) := by decide +kernel
theorem dL_acts_63 : decode cL_acts 63 = .ok (.ldc 60, 2) := by decide +kernel
theorem dL_acts_65 : decode cL_acts 65 = .ok (.if_icmp .eq 7, 3) := by decide +kernel
theorem dL_acts_68 : decode cL_acts 68 = .ok (.iconst 1, 1) := by decide +kernel
theorem dL_acts_69 : decode cL_acts 69 = .ok (.goto 4, 3) := by decide +kernel
theorem dL_acts_72 : decode cL_acts 72 = .ok (.iconst 0, 1) := by decide +kernel
theorem dL_acts_73 : decode cL_acts 73 = .ok (.istore 7, 2) := by decide +kernel
theorem dL_acts_75 : decode cL_acts 75 = .ok (.iload_n 2, 1) := by decide +kernel
theorem dL_acts_76 : decode cL_acts 76 = .ok (.iconst 4, 1) := by decide +kernel
theorem dL_acts_77 : decode cL_acts 77 = .ok (.ishr, 1) := by decide +kernel
theorem dL_acts_78 : decode cL_acts 78 = .ok (.iload_n 2, 1) := by decide +kernel
theorem dL_acts_79 : decode cL_acts 79 = .ok (.bipush 18, 2) := by decide +kernel
theorem dL_acts_81 : decode cL_acts 81 = .ok (.ishr, 1) := by decide +kernel
theorem dL_acts_82 : decode cL_acts 82 = .ok (.bipush 7, 2) := by decide +kernel
theorem dL_acts_84 : decode cL_acts 84 = .ok (.invokestatic 70, 3) := by decide +kernel
theorem dL_acts_87 : decode cL_acts 87 = .ok (.ifCond .ne 7, 3) := by decide +kernel
theorem dL_acts_90 : decode cL_acts 90 = .ok (.iconst 5, 1) := by decide +kernel
theorem dL_acts_91 : decode cL_acts 91 = .ok (.goto 4, 3) := by decide +kernel
theorem dL_acts_94 : decode cL_acts 94 = .ok (.iconst 2, 1) := by decide +kernel
theorem dL_acts_95 : decode cL_acts 95 = .ok (.invokestatic 70, 3) := by decide +kernel
theorem dL_acts_98 : decode cL_acts 98 = .ok (.istore 8, 2) := by decide +kernel
theorem dL_acts_100 : decode cL_acts 100 = .ok (.iload_n 2, 1) := by decide +kernel
theorem dL_acts_101 : decode cL_acts 101 = .ok (.iconst 2, 1) := by decide +kernel
theorem dL_acts_102 : decode cL_acts 102 = .ok (.ishr, 1) := by decide +kernel
theorem dL_acts_103 : decode cL_acts 103 = .ok (.istore_n 2, 1) := by decide +kernel
theorem dL_acts_104 : decode cL_acts 104 = .ok (.iload_n 3, 1) := by decide +kernel
theorem dL_acts_105 : decode cL_acts 105 = .ok (.iconst 3, 1) := by decide +kernel
theorem dL_acts_106 : decode cL_acts 106 = .ok (.if_icmp .lt 9, 3) := by decide +kernel
theorem dL_acts_109 : decode cL_acts 109 = .ok (.iload 4, 2) := by decide +kernel
theorem dL_acts_111 : decode cL_acts 111 = .ok (.iconst 2, 1) := by decide +kernel
theorem dL_acts_112 : decode cL_acts 112 = .ok (.if_icmp .ge 145, 3) := by decide +kernel
theorem dL_acts_115 : decode cL_acts 115 = .ok (.iload_n 2, 1) := by decide +kernel
theorem dL_acts_116 : decode cL_acts 116 = .ok (.iconst 5, 1) := by decide +kernel
theorem dL_acts_117 : decode cL_acts 117 = .ok (.ishr, 1) := by decide +kernel
theorem dL_acts_118 : decode cL_acts 118 = .ok (.bipush 102, 2) := by decide +kernel
theorem dL_acts_120 : decode cL_acts 120 = .ok (.invokestatic 70, 3) := by decide +kernel
theorem dL_acts_123 : decode cL_acts 123 = .ok (.iconst 1, 1) := by decide +kernel
theorem dL_acts_124 : decode cL_acts 124 = .ok (.isub, 1) := by decide +kernel
theorem dL_acts_125 : decode cL_acts 125 = .ok (.istore 9, 2) := by decide +kernel
theorem dL_acts_127 : decode cL_acts 127 = .ok (.iload 9, 2) := by decide +kernel
theorem dL_acts_129 : decode cL_acts 129 = .ok (.ifCond .lt 10, 3) := by decide +kernel
theorem dL_acts_132 : decode cL_acts 132 = .ok (.iload 9, 2) := by decide +kernel
theorem dL_acts_134 : decode cL_acts 134 = .ok (.bipush 99, 2) := by decide +kernel
theorem dL_acts_136 : decode cL_acts 136 = .ok (.if_icmp .le 7, 3) := by decide +kernel
theorem dL_acts_139 : decode cL_acts 139 = .ok (.iconst 1, 1) := by decide +kernel
theorem dL_acts_140 : decode cL_acts 140 = .ok (.goto 4, 3) := by decide +kernel
theorem dL_acts_143 : decode cL_acts 143 = .ok (.iconst 0, 1) := by decide +kernel
theorem dL_acts_144 : decode cL_acts 144 = .ok (.istore 10, 2) := by decide +kernel
theorem dL_acts_146 : decode cL_acts 146 = .ok (.iload 10, 2) := by decide +kernel
theorem dL_acts_148 : decode cL_acts 148 = .ok (.ifCond .ne 18, 3) := by decide +kernel
theorem dL_acts_151 : decode cL_acts 151 = .ok (.aload_n 0, 1) := by decide +kernel
theorem dL_acts_152 : decode cL_acts 152 = .ok (.iload 9, 2) := by decide +kernel
theorem dL_acts_154 : decode cL_acts 154 = .ok (.invokevirtual 36, 3) := by decide +kernel
theorem dL_acts_157 : decode cL_acts 157 = .ok (.ldc 60, 2) := by decide +kernel
theorem dL_acts_159 : decode cL_acts 159 = .ok (.if_icmp .eq 7, 3) := by decide +kernel
theorem dL_acts_162 : decode cL_acts 162 = .ok (.iconst 1, 1) := by decide +kernel
theorem dL_acts_163 : decode cL_acts 163 = .ok (.goto 4, 3) := by decide +kernel
theorem dL_acts_166 : decode cL_acts 166 = .ok (.iconst 0, 1) := by decide +kernel
theorem dL_acts_167 : decode cL_acts 167 = .ok (.istore 11, 2) := by decide +kernel
theorem dL_acts_169 : decode cL_acts 169 = .ok (.aload_n 0, 1) := by decide +kernel
theorem dL_acts_170 : decode cL_acts 170 = .ok (.iload 9, 2) := by decide +kernel
theorem dL_acts_172 : decode cL_acts 172 = .ok (.invokevirtual 131, 3) := by decide +kernel
theorem dL_acts_175 : decode cL_acts 175 = .ok (.iload 10, 2) := by decide +kernel
theorem dL_acts_177 : decode cL_acts 177 = .ok (.ifCond .eq 8, 3) := by decide +kernel
theorem dL_acts_180 : decode cL_acts 180 = .ok (.ldc 59, 2) := by decide +kernel
theorem dL_acts_182 : decode cL_acts 182 = .ok (.goto 29, 3) := by decide +kernel
theorem dL_acts_185 : decode cL_acts 185 = .ok (.iload 11, 2) := by decide +kernel
theorem dL_acts_187 : decode cL_acts 187 = .ok (.ifCond .eq 8, 3) := by decide +kernel
theorem dL_acts_190 : decode cL_acts 190 = .ok (.ldc 134, 2) := by decide +kernel
theorem dL_acts_192 : decode cL_acts 192 = .ok (.goto 19, 3) := by decide +kernel
theorem dL_acts_195 : decode cL_acts 195 = .ok (.iload 4, 2) := by decide +kernel
theorem dL_acts_197 : decode cL_acts 197 = .ok (.bipush 10, 2) := by decide +kernel
theorem dL_acts_199 : decode cL_acts 199 = .ok (.if_icmp .ne 8, 3) := by decide +kernel
theorem dL_acts_202 : decode cL_acts 202 = .ok (.ldc 123, 2) := by decide +kernel
theorem dL_acts_204 : decode cL_acts 204 = .ok (.goto 7, 3) := by decide +kernel
theorem dL_acts_207 : decode cL_acts 207 = .ok (.iload 4, 2) := by decide +kernel
theorem dL_acts_209 : decode cL_acts 209 = .ok (.iconst 1, 1) := by decide +kernel
theorem dL_acts_210 : decode cL_acts 210 = .ok (.iadd, 1) := by decide +kernel
theorem dL_acts_211 : decode cL_acts 211 = .ok (.if_icmp .ne 44, 3) := by decide +kernel
theorem dL_acts_214 : decode cL_acts 214 = .ok (.iload 10, 2) := by decide +kernel
theorem dL_acts_216 : decode cL_acts 216 = .ok (.ifCond .ne 35, 3) := by decide +kernel
theorem dL_acts_219 : decode cL_acts 219 = .ok (.iload 11, 2) := by decide +kernel
theorem dL_acts_221 : decode cL_acts 221 = .ok (.ifCond .ne 30, 3) := by decide +kernel
theorem dL_acts_224 : decode cL_acts 224 = .ok (.iload 4, 2) := by decide +kernel
theorem dL_acts_226 : decode cL_acts 226 = .ok (.bipush 10, 2) := by decide +kernel
theorem dL_acts_228 : decode cL_acts 228 = .ok (.if_icmp .eq 23, 3) := by decide +kernel
theorem dL_acts_231 : decode cL_acts 231 = .ok (.aload_n 0, 1) := by decide +kernel
theorem dL_acts_232 : decode cL_acts 232 = .ok (.iload 9, 2) := by decide +kernel
theorem dL_acts_234 : decode cL_acts 234 = .ok (.invokevirtual 36, 3) := by decide +kernel
theorem dL_acts_237 : decode cL_acts 237 = .ok (.ldc 58, 2) := by decide +kernel
theorem dL_acts_239 : decode cL_acts 239 = .ok (.if_icmp .ne 16, 3) := by decide +kernel
theorem dL_acts_242 : decode cL_acts 242 = .ok (.aload_n 0, 1) := by decide +kernel
theorem dL_acts_243 : decode cL_acts 243 = .ok (.iload 9, 2) := by decide +kernel
theorem dL_acts_245 : decode cL_acts 245 = .ok (.invokevirtual 64, 3) := by decide +kernel
theorem dL_acts_248 : decode cL_acts 248 = .ok (.ifCond .ne 7, 3) := by decide +kernel
theorem dL_acts_251 : decode cL_acts 251 = .ok (.iconst 1, 1) := by decide +kernel
theorem dL_acts_252 : decode cL_acts 252 = .ok (.goto 4, 3) := by decide +kernel
theorem dL_acts_255 : decode cL_acts 255 = .ok (.iconst 0, 1) := by decide +kernel
theorem dL_acts_256 : decode cL_acts 256 = .ok (.ireturn, 1) := by decide +kernel
theorem dL_acts_257 : decode cL_acts 257 = .ok (.iload 7, 2) := by decide +kernel
theorem dL_acts_259 : decode cL_acts 259 = .ok (.ifCond .eq 29, 3) := by decide +kernel
theorem dL_acts_262 : decode cL_acts 262 = .ok (.aload_n 0, 1) := by decide +kernel
theorem dL_acts_263 : decode cL_acts 263 = .ok (.iload 6, 2) := by decide +kernel
theorem dL_acts_265 : decode cL_acts 265 = .ok (.invokevirtual 36, 3) := by decide +kernel
theorem dL_acts_268 : decode cL_acts 268 = .ok (.ldc 58, 2) := by decide +kernel
theorem dL_acts_270 : decode cL_acts 270 = .ok (.if_icmp .eq 18, 3) := by decide +kernel
theorem dL_acts_273 : decode cL_acts 273 = .ok (.aload_n 0, 1) := by decide +kernel
theorem dL_acts_274 : decode cL_acts 274 = .ok (.iload 6, 2) := by decide +kernel
theorem dL_acts_276 : decode cL_acts 276 = .ok (.invokevirtual 36, 3) := by decide +kernel
theorem dL_acts_279 : decode cL_acts 279 = .ok (.iload 8, 2) := by decide +kernel
theorem dL_acts_281 : decode cL_acts 281 = .ok (.if_icmp .eq 7, 3) := by decide +kernel
theorem dL_acts_284 : decode cL_acts 284 = .ok (.iconst 1, 1) := by decide +kernel
theorem dL_acts_285 : decode cL_acts 285 = .ok (.goto 4, 3) := by decide +kernel
theorem dL_acts_288 : decode cL_acts 288 = .ok (.iconst 0, 1) := by decide +kernel
theorem dL_acts_289 : decode cL_acts 289 = .ok (.istore 9, 2) := by decide +kernel
theorem dL_acts_291 : decode cL_acts 291 = .ok (.iload_n 3, 1) := by decide +kernel
theorem dL_acts_292 : decode cL_acts 292 = .ok (.bipush 16, 2) := by decide +kernel
theorem dL_acts_294 : decode cL_acts 294 = .ok (.if_icmp .ge 34, 3) := by decide +kernel
theorem dL_acts_297 : decode cL_acts 297 = .ok (.aload_n 0, 1) := by decide +kernel
theorem dL_acts_298 : decode cL_acts 298 = .ok (.iload 8, 2) := by decide +kernel
theorem dL_acts_300 : decode cL_acts 300 = .ok (.iload 6, 2) := by decide +kernel
theorem dL_acts_302 : decode cL_acts 302 = .ok (.iload_n 3, 1) := by decide +kernel
theorem dL_acts_303 : decode cL_acts 303 = .ok (.bipush 10, 2) := by decide +kernel
theorem dL_acts_305 : decode cL_acts 305 = .ok (.if_icmp .ge 7, 3) := by decide +kernel
theorem dL_acts_308 : decode cL_acts 308 = .ok (.iconst 0, 1) := by decide +kernel
theorem dL_acts_309 : decode cL_acts 309 = .ok (.goto 14, 3) := by decide +kernel
theorem dL_acts_312 : decode cL_acts 312 = .ok (.iload_n 3, 1) := by decide +kernel
theorem dL_acts_313 : decode cL_acts 313 = .ok (.bipush 12, 2) := by decide +kernel
theorem dL_acts_315 : decode cL_acts 315 = .ok (.if_icmp .ge 7, 3) := by decide +kernel
theorem dL_acts_318 : decode cL_acts 318 = .ok (.iconst 1, 1) := by decide +kernel
theorem dL_acts_319 : decode cL_acts 319 = .ok (.goto 4, 3) := by decide +kernel
theorem dL_acts_322 : decode cL_acts 322 = .ok (.iconst 2, 1) := by decide +kernel
theorem dL_acts_323 : decode cL_acts 323 = .ok (.iload_n 2, 1) := by decide +kernel
theorem dL_acts_324 : decode cL_acts 324 = .ok (.invokestatic 135, 3) := by decide +kernel
theorem dL_acts_327 : decode cL_acts 327 = .ok (.ireturn, 1) := by decide +kernel
theorem dL_acts_328 : decode cL_acts 328 = .ok (.iload_n 3, 1) := by decide +kernel
theorem dL_acts_329 : decode cL_acts 329 = .ok (.bipush 19, 2) := by decide +kernel
theorem dL_acts_331 : decode cL_acts 331 = .ok (.if_icmp .ge 13, 3) := by decide +kernel
theorem dL_acts_334 : decode cL_acts 334 = .ok (.aload_n 0, 1) := by decide +kernel
theorem dL_acts_335 : decode cL_acts 335 = .ok (.iload 8, 2) := by decide +kernel
theorem dL_acts_337 : decode cL_acts 337 = .ok (.iload 6, 2) := by decide +kernel
theorem dL_acts_339 : decode cL_acts 339 = .ok (.iload_n 2, 1) := by decide +kernel
theorem dL_acts_340 : decode cL_acts 340 = .ok (.invokestatic 139, 3) := by decide +kernel
theorem dL_acts_343 : decode cL_acts 343 = .ok (.ireturn, 1) := by decide +kernel
theorem dL_acts_344 : decode cL_acts 344 = .ok (.iload_n 3, 1) := by decide +kernel
theorem dL_acts_345 : decode cL_acts 345 = .ok (.bipush 19, 2) := by decide +kernel
theorem dL_acts_347 : decode cL_acts 347 = .ok (.if_icmp .ne 74, 3) := by decide +kernel
theorem dL_acts_350 : decode cL_acts 350 = .ok (.aload_n 0, 1) := by decide +kernel
theorem dL_acts_351 : decode cL_acts 351 = .ok (.iload 8, 2) := by decide +kernel
theorem dL_acts_353 : decode cL_acts 353 = .ok (.iload 6, 2) := by decide +kernel
theorem dL_acts_355 : decode cL_acts 355 = .ok (.invokevirtual 143, 3) := by decide +kernel
theorem dL_acts_358 : decode cL_acts 358 = .ok (.istore 10, 2) := by decide +kernel
theorem dL_acts_360 : decode cL_acts 360 = .ok (.iload 10, 2) := by decide +kernel
theorem dL_acts_362 : decode cL_acts 362 = .ok (.iload 8, 2) := by decide +kernel
theorem dL_acts_364 : decode cL_acts 364 = .ok (.iconst 3, 1) := by decide +kernel
theorem dL_acts_365 : decode cL_acts 365 = .ok (.if_icmp .gt 8, 3) := by decide +kernel
theorem dL_acts_368 : decode cL_acts 368 = .ok (.iload 7, 2) := by decide +kernel
theorem dL_acts_370 : decode cL_acts 370 = .ok (.ifCond .ne 8, 3) := by decide +kernel
theorem dL_acts_373 : decode cL_acts 373 = .ok (.ldc 60, 2) := by decide +kernel
theorem dL_acts_375 : decode cL_acts 375 = .ok (.goto 15, 3) := by decide +kernel
theorem dL_acts_378 : decode cL_acts 378 = .ok (.iload 9, 2) := by decide +kernel
theorem dL_acts_380 : decode cL_acts 380 = .ok (.ifCond .eq 8, 3) := by decide +kernel
theorem dL_acts_383 : decode cL_acts 383 = .ok (.ldc 118, 2) := by decide +kernel
theorem dL_acts_385 : decode cL_acts 385 = .ok (.goto 5, 3) := by decide +kernel
theorem dL_acts_388 : decode cL_acts 388 = .ok (.iload 10, 2) := by decide +kernel
theorem dL_acts_390 : decode cL_acts 390 = .ok (.if_icmp .ne 29, 3) := by decide +kernel
theorem dL_acts_393 : decode cL_acts 393 = .ok (.iload 10, 2) := by decide +kernel
theorem dL_acts_395 : decode cL_acts 395 = .ok (.ifCond .lt 20, 3) := by decide +kernel
theorem dL_acts_398 : decode cL_acts 398 = .ok (.iload 10, 2) := by decide +kernel
theorem dL_acts_400 : decode cL_acts 400 = .ok (.iconst 1, 1) := by decide +kernel
theorem dL_acts_401 : decode cL_acts 401 = .ok (.if_icmp .lt 18, 3) := by decide +kernel
theorem dL_acts_404 : decode cL_acts 404 = .ok (.aload_n 0, 1) := by decide +kernel
theorem dL_acts_405 : decode cL_acts 405 = .ok (.iload 6, 2) := by decide +kernel
theorem dL_acts_407 : decode cL_acts 407 = .ok (.invokevirtual 36, 3) := by decide +kernel
theorem dL_acts_410 : decode cL_acts 410 = .ok (.iload 8, 2) := by decide +kernel
theorem dL_acts_412 : decode cL_acts 412 = .ok (.if_icmp .ne 7, 3) := by decide +kernel
theorem dL_acts_415 : decode cL_acts 415 = .ok (.iconst 1, 1) := by decide +kernel
theorem dL_acts_416 : decode cL_acts 416 = .ok (.goto 4, 3) := by decide +kernel
theorem dL_acts_419 : decode cL_acts 419 = .ok (.iconst 0, 1) := by decide +kernel
theorem dL_acts_420 : decode cL_acts 420 = .ok (.ireturn, 1) := by decide +kernel
theorem dL_acts_421 : decode cL_acts 421 = .ok (.iload_n 3, 1) := by decide +kernel
theorem dL_acts_422 : decode cL_acts 422 = .ok (.bipush 20, 2) := by decide +kernel
theorem dL_acts_424 : decode cL_acts 424 = .ok (.if_icmp .ne 132, 3) := by decide +kernel
theorem dL_acts_427 : decode cL_acts 427 = .ok (.iload 7, 2) := by decide +kernel
theorem dL_acts_429 : decode cL_acts 429 = .ok (.ifCond .eq 18, 3) := by decide +kernel
theorem dL_acts_432 : decode cL_acts 432 = .ok (.aload_n 0, 1) := by decide +kernel
theorem dL_acts_433 : decode cL_acts 433 = .ok (.iload 6, 2) := by decide +kernel
theorem dL_acts_435 : decode cL_acts 435 = .ok (.invokevirtual 36, 3) := by decide +kernel
theorem dL_acts_438 : decode cL_acts 438 = .ok (.ldc 58, 2) := by decide +kernel
theorem dL_acts_440 : decode cL_acts 440 = .ok (.if_icmp .ne 7, 3) := by decide +kernel
theorem dL_acts_443 : decode cL_acts 443 = .ok (.iconst 1, 1) := by decide +kernel
theorem dL_acts_444 : decode cL_acts 444 = .ok (.goto 4, 3) := by decide +kernel
theorem dL_acts_447 : decode cL_acts 447 = .ok (.iconst 0, 1) := by decide +kernel
theorem dL_acts_448 : decode cL_acts 448 = .ok (.istore 10, 2) := by decide +kernel
theorem dL_acts_450 : decode cL_acts 450 = .ok (.aload_n 0, 1) := by decide +kernel
theorem dL_acts_451 : decode cL_acts 451 = .ok (.iload 8, 2) := by decide +kernel
theorem dL_acts_453 : decode cL_acts 453 = .ok (.iload 6, 2) := by decide +kernel
theorem dL_acts_455 : decode cL_acts 455 = .ok (.invokevirtual 146, 3) := by decide +kernel
theorem dL_acts_458 : decode cL_acts 458 = .ok (.istore 11, 2) := by decide +kernel
theorem dL_acts_460 : decode cL_acts 460 = .ok (.iload 8, 2) := by decide +kernel
theorem dL_acts_462 : decode cL_acts 462 = .ok (.iconst 3, 1) := by decide +kernel
theorem dL_acts_463 : decode cL_acts 463 = .ok (.if_icmp .gt 8, 3) := by decide +kernel
theorem dL_acts_466 : decode cL_acts 466 = .ok (.iload 7, 2) := by decide +kernel
theorem dL_acts_468 : decode cL_acts 468 = .ok (.ifCond .ne 13, 3) := by decide +kernel
theorem dL_acts_471 : decode cL_acts 471 = .ok (.iload 11, 2) := by decide +kernel
theorem dL_acts_473 : decode cL_acts 473 = .ok (.ldc 60, 2) := by decide +kernel
theorem dL_acts_475 : decode cL_acts 475 = .ok (.if_icmp .ne 79, 3) := by decide +kernel
theorem dL_acts_478 : decode cL_acts 478 = .ok (.goto 45, 3) := by decide +kernel
theorem dL_acts_481 : decode cL_acts 481 = .ok (.iload 9, 2) := by decide +kernel
theorem dL_acts_483 : decode cL_acts 483 = .ok (.ifCond .eq 13, 3) := by decide +kernel
theorem dL_acts_486 : decode cL_acts 486 = .ok (.iload 11, 2) := by decide +kernel
theorem dL_acts_488 : decode cL_acts 488 = .ok (.ldc 118, 2) := by decide +kernel
theorem dL_acts_490 : decode cL_acts 490 = .ok (.if_icmp .ne 64, 3) := by decide +kernel
theorem dL_acts_493 : decode cL_acts 493 = .ok (.goto 30, 3) := by decide +kernel
theorem dL_acts_496 : decode cL_acts 496 = .ok (.iload 10, 2) := by decide +kernel
theorem dL_acts_498 : decode cL_acts 498 = .ok (.ifCond .eq 13, 3) := by decide +kernel
theorem dL_acts_501 : decode cL_acts 501 = .ok (.iload 11, 2) := by decide +kernel
theorem dL_acts_503 : decode cL_acts 503 = .ok (.ldc 134, 2) := by decide +kernel
theorem dL_acts_505 : decode cL_acts 505 = .ok (.if_icmp .ne 49, 3) := by decide +kernel
theorem dL_acts_508 : decode cL_acts 508 = .ok (.goto 15, 3) := by decide +kernel
theorem dL_acts_511 : decode cL_acts 511 = .ok (.iload 11, 2) := by decide +kernel
theorem dL_acts_513 : decode cL_acts 513 = .ok (.ifCond .lt 41, 3) := by decide +kernel
theorem dL_acts_516 : decode cL_acts 516 = .ok (.iload 11, 2) := by decide +kernel
theorem dL_acts_518 : decode cL_acts 518 = .ok (.iload 4, 2) := by decide +kernel
theorem dL_acts_520 : decode cL_acts 520 = .ok (.if_icmp .ge 34, 3) := by decide +kernel
theorem dL_acts_523 : decode cL_acts 523 = .ok (.iload 7, 2) := by decide +kernel
theorem dL_acts_525 : decode cL_acts 525 = .ok (.ifCond .eq 25, 3) := by decide +kernel
theorem dL_acts_528 : decode cL_acts 528 = .ok (.iload 9, 2) := by decide +kernel
theorem dL_acts_530 : decode cL_acts 530 = .ok (.ifCond .ne 20, 3) := by decide +kernel
theorem dL_acts_533 : decode cL_acts 533 = .ok (.iload 8, 2) := by decide +kernel
theorem dL_acts_535 : decode cL_acts 535 = .ok (.iconst 3, 1) := by decide +kernel
theorem dL_acts_536 : decode cL_acts 536 = .ok (.if_icmp .gt 14, 3) := by decide +kernel
theorem dL_acts_539 : decode cL_acts 539 = .ok (.aload_n 0, 1) := by decide +kernel
theorem dL_acts_540 : decode cL_acts 540 = .ok (.iload 6, 2) := by decide +kernel
theorem dL_acts_542 : decode cL_acts 542 = .ok (.invokevirtual 36, 3) := by decide +kernel
theorem dL_acts_545 : decode cL_acts 545 = .ok (.ldc 58, 2) := by decide +kernel
theorem dL_acts_547 : decode cL_acts 547 = .ok (.if_icmp .ne 7, 3) := by decide +kernel
theorem dL_acts_550 : decode cL_acts 550 = .ok (.iconst 1, 1) := by decide +kernel
theorem dL_acts_551 : decode cL_acts 551 = .ok (.goto 4, 3) := by decide +kernel
theorem dL_acts_554 : decode cL_acts 554 = .ok (.iconst 0, 1) := by decide +kernel
theorem dL_acts_555 : decode cL_acts 555 = .ok (.ireturn, 1) := by decide +kernel
theorem dL_acts_556 : decode cL_acts 556 = .ok (.iload_n 3, 1) := by decide +kernel
theorem dL_acts_557 : decode cL_acts 557 = .ok (.bipush 21, 2) := by decide +kernel
theorem dL_acts_559 : decode cL_acts 559 = .ok (.if_icmp .ne 58, 3) := by decide +kernel
theorem dL_acts_562 : decode cL_acts 562 = .ok (.iload_n 2, 1) := by decide +kernel
theorem dL_acts_563 : decode cL_acts 563 = .ok (.iconst 3, 1) := by decide +kernel
theorem dL_acts_564 : decode cL_acts 564 = .ok (.invokestatic 70, 3) := by decide +kernel
theorem dL_acts_567 : decode cL_acts 567 = .ok (.ifCond .gt 44, 3) := by decide +kernel
theorem dL_acts_570 : decode cL_acts 570 = .ok (.aload_n 0, 1) := by decide +kernel
theorem dL_acts_571 : decode cL_acts 571 = .ok (.iload 8, 2) := by decide +kernel
theorem dL_acts_573 : decode cL_acts 573 = .ok (.iload 6, 2) := by decide +kernel
theorem dL_acts_575 : decode cL_acts 575 = .ok (.invokevirtual 149, 3) := by decide +kernel
theorem dL_acts_578 : decode cL_acts 578 = .ok (.iload 8, 2) := by decide +kernel
theorem dL_acts_580 : decode cL_acts 580 = .ok (.iconst 3, 1) := by decide +kernel
theorem dL_acts_581 : decode cL_acts 581 = .ok (.if_icmp .gt 8, 3) := by decide +kernel
theorem dL_acts_584 : decode cL_acts 584 = .ok (.iload 7, 2) := by decide +kernel
theorem dL_acts_586 : decode cL_acts 586 = .ok (.ifCond .ne 8, 3) := by decide +kernel
theorem dL_acts_589 : decode cL_acts 589 = .ok (.ldc 60, 2) := by decide +kernel
theorem dL_acts_591 : decode cL_acts 591 = .ok (.goto 17, 3) := by decide +kernel
theorem dL_acts_594 : decode cL_acts 594 = .ok (.iload 9, 2) := by decide +kernel
theorem dL_acts_596 : decode cL_acts 596 = .ok (.ifCond .eq 8, 3) := by decide +kernel
theorem dL_acts_599 : decode cL_acts 599 = .ok (.ldc 118, 2) := by decide +kernel
theorem dL_acts_601 : decode cL_acts 601 = .ok (.goto 7, 3) := by decide +kernel
theorem dL_acts_604 : decode cL_acts 604 = .ok (.iload 4, 2) := by decide +kernel
theorem dL_acts_606 : decode cL_acts 606 = .ok (.iconst 1, 1) := by decide +kernel
theorem dL_acts_607 : decode cL_acts 607 = .ok (.isub, 1) := by decide +kernel
theorem dL_acts_608 : decode cL_acts 608 = .ok (.if_icmp .ne 7, 3) := by decide +kernel
theorem dL_acts_611 : decode cL_acts 611 = .ok (.iconst 1, 1) := by decide +kernel
theorem dL_acts_612 : decode cL_acts 612 = .ok (.goto 4, 3) := by decide +kernel
theorem dL_acts_615 : decode cL_acts 615 = .ok (.iconst 0, 1) := by decide +kernel
theorem dL_acts_616 : decode cL_acts 616 = .ok (.ireturn, 1) := by decide +kernel
theorem dL_acts_617 : decode cL_acts 617 = .ok (.iload_n 3, 1) := by decide +kernel
theorem dL_acts_618 : decode cL_acts 618 = .ok (.bipush 22, 2) := by decide +kernel
theorem dL_acts_620 : decode cL_acts 620 = .ok (.if_icmp .ne 125, 3) := by decide +kernel
theorem dL_acts_623 : decode cL_acts 623 = .ok (.iload_n 2, 1) := by decide +kernel
theorem dL_acts_624 : decode cL_acts 624 = .ok (.iconst 3, 1) := by decide +kernel
theorem dL_acts_625 : decode cL_acts 625 = .ok (.ishr, 1) := by decide +kernel
theorem dL_acts_626 : decode cL_acts 626 = .ok (.bipush 7, 2) := by decide +kernel
theorem dL_acts_628 : decode cL_acts 628 = .ok (.invokestatic 70, 3) := by decide +kernel
theorem dL_acts_631 : decode cL_acts 631 = .ok (.iconst 1, 1) := by decide +kernel
theorem dL_acts_632 : decode cL_acts 632 = .ok (.isub, 1) := by decide +kernel
theorem dL_acts_633 : decode cL_acts 633 = .ok (.istore 10, 2) := by decide +kernel
theorem dL_acts_635 : decode cL_acts 635 = .ok (.iload 7, 2) := by decide +kernel
theorem dL_acts_637 : decode cL_acts 637 = .ok (.ifCond .eq 12, 3) := by decide +kernel
theorem dL_acts_640 : decode cL_acts 640 = .ok (.aload_n 0, 1) := by decide +kernel
theorem dL_acts_641 : decode cL_acts 641 = .ok (.iload 6, 2) := by decide +kernel
theorem dL_acts_643 : decode cL_acts 643 = .ok (.invokevirtual 64, 3) := by decide +kernel
theorem dL_acts_646 : decode cL_acts 646 = .ok (.goto 4, 3) := by decide +kernel
theorem dL_acts_649 : decode cL_acts 649 = .ok (.iconst 0, 1) := by decide +kernel
theorem dL_acts_650 : decode cL_acts 650 = .ok (.istore 11, 2) := by decide +kernel
theorem dL_acts_652 : decode cL_acts 652 = .ok (.aload_n 0, 1) := by decide +kernel
theorem dL_acts_653 : decode cL_acts 653 = .ok (.iload 8, 2) := by decide +kernel
theorem dL_acts_655 : decode cL_acts 655 = .ok (.iload 6, 2) := by decide +kernel
theorem dL_acts_657 : decode cL_acts 657 = .ok (.iload 10, 2) := by decide +kernel
theorem dL_acts_659 : decode cL_acts 659 = .ok (.invokevirtual 152, 3) := by decide +kernel
theorem dL_acts_662 : decode cL_acts 662 = .ok (.istore 12, 2) := by decide +kernel
theorem dL_acts_664 : decode cL_acts 664 = .ok (.iload 12, 2) := by decide +kernel
theorem dL_acts_666 : decode cL_acts 666 = .ok (.iload 8, 2) := by decide +kernel
theorem dL_acts_668 : decode cL_acts 668 = .ok (.iconst 3, 1) := by decide +kernel
theorem dL_acts_669 : decode cL_acts 669 = .ok (.if_icmp .gt 20, 3) := by decide +kernel
theorem dL_acts_672 : decode cL_acts 672 = .ok (.iload 7, 2) := by decide +kernel
theorem dL_acts_674 : decode cL_acts 674 = .ok (.ifCond .eq 15, 3) := by decide +kernel
theorem dL_acts_677 : decode cL_acts 677 = .ok (.iload 10, 2) := by decide +kernel
theorem dL_acts_679 : decode cL_acts 679 = .ok (.ifCond .lt 10, 3) := by decide +kernel
theorem dL_acts_682 : decode cL_acts 682 = .ok (.iload 10, 2) := by decide +kernel
theorem dL_acts_684 : decode cL_acts 684 = .ok (.iload 11, 2) := by decide +kernel
theorem dL_acts_686 : decode cL_acts 686 = .ok (.if_icmp .lt 8, 3) := by decide +kernel
theorem dL_acts_689 : decode cL_acts 689 = .ok (.ldc 60, 2) := by decide +kernel
theorem dL_acts_691 : decode cL_acts 691 = .ok (.goto 15, 3) := by decide +kernel
theorem dL_acts_694 : decode cL_acts 694 = .ok (.iload 9, 2) := by decide +kernel
theorem dL_acts_696 : decode cL_acts 696 = .ok (.ifCond .eq 8, 3) := by decide +kernel
theorem dL_acts_699 : decode cL_acts 699 = .ok (.ldc 118, 2) := by decide +kernel
theorem dL_acts_701 : decode cL_acts 701 = .ok (.goto 5, 3) := by decide +kernel
theorem dL_acts_704 : decode cL_acts 704 = .ok (.iload 12, 2) := by decide +kernel
theorem dL_acts_706 : decode cL_acts 706 = .ok (.if_icmp .ne 37, 3) := by decide +kernel
theorem dL_acts_709 : decode cL_acts 709 = .ok (.iload 12, 2) := by decide +kernel
theorem dL_acts_711 : decode cL_acts 711 = .ok (.ifCond .lt 28, 3) := by decide +kernel
theorem dL_acts_714 : decode cL_acts 714 = .ok (.iload 12, 2) := by decide +kernel
theorem dL_acts_716 : decode cL_acts 716 = .ok (.iconst 1, 1) := by decide +kernel
theorem dL_acts_717 : decode cL_acts 717 = .ok (.if_icmp .lt 26, 3) := by decide +kernel
theorem dL_acts_720 : decode cL_acts 720 = .ok (.iload 12, 2) := by decide +kernel
theorem dL_acts_722 : decode cL_acts 722 = .ok (.iconst 4, 1) := by decide +kernel
theorem dL_acts_723 : decode cL_acts 723 = .ok (.if_icmp .gt 20, 3) := by decide +kernel
theorem dL_acts_726 : decode cL_acts 726 = .ok (.aload_n 0, 1) := by decide +kernel
theorem dL_acts_727 : decode cL_acts 727 = .ok (.iload 6, 2) := by decide +kernel
theorem dL_acts_729 : decode cL_acts 729 = .ok (.invokevirtual 64, 3) := by decide +kernel
theorem dL_acts_732 : decode cL_acts 732 = .ok (.iload 11, 2) := by decide +kernel
theorem dL_acts_734 : decode cL_acts 734 = .ok (.iconst 1, 1) := by decide +kernel
theorem dL_acts_735 : decode cL_acts 735 = .ok (.isub, 1) := by decide +kernel
theorem dL_acts_736 : decode cL_acts 736 = .ok (.if_icmp .ne 7, 3) := by decide +kernel
theorem dL_acts_739 : decode cL_acts 739 = .ok (.iconst 1, 1) := by decide +kernel
theorem dL_acts_740 : decode cL_acts 740 = .ok (.goto 4, 3) := by decide +kernel
theorem dL_acts_743 : decode cL_acts 743 = .ok (.iconst 0, 1) := by decide +kernel
theorem dL_acts_744 : decode cL_acts 744 = .ok (.ireturn, 1) := by decide +kernel
theorem dL_acts_745 : decode cL_acts 745 = .ok (.iload_n 3, 1) := by decide +kernel
theorem dL_acts_746 : decode cL_acts 746 = .ok (.bipush 23, 2) := by decide +kernel
theorem dL_acts_748 : decode cL_acts 748 = .ok (.if_icmp .ne 111, 3) := by decide +kernel
theorem dL_acts_751 : decode cL_acts 751 = .ok (.iload_n 2, 1) := by decide +kernel
theorem dL_acts_752 : decode cL_acts 752 = .ok (.iconst 5, 1) := by decide +kernel
theorem dL_acts_753 : decode cL_acts 753 = .ok (.invokestatic 70, 3) := by decide +kernel
theorem dL_acts_756 : decode cL_acts 756 = .ok (.istore 10, 2) := by decide +kernel
theorem dL_acts_758 : decode cL_acts 758 = .ok (.iload_n 2, 1) := by decide +kernel
theorem dL_acts_759 : decode cL_acts 759 = .ok (.iconst 3, 1) := by decide +kernel
theorem dL_acts_760 : decode cL_acts 760 = .ok (.ishr, 1) := by decide +kernel
theorem dL_acts_761 : decode cL_acts 761 = .ok (.iconst 2, 1) := by decide +kernel
theorem dL_acts_762 : decode cL_acts 762 = .ok (.invokestatic 70, 3) := by decide +kernel
theorem dL_acts_765 : decode cL_acts 765 = .ok (.ifCond .ne 7, 3) := by decide +kernel
theorem dL_acts_768 : decode cL_acts 768 = .ok (.iconst 1, 1) := by decide +kernel
theorem dL_acts_769 : decode cL_acts 769 = .ok (.goto 4, 3) := by decide +kernel
theorem dL_acts_772 : decode cL_acts 772 = .ok (.iconst 0, 1) := by decide +kernel
theorem dL_acts_773 : decode cL_acts 773 = .ok (.istore 11, 2) := by decide +kernel
theorem dL_acts_775 : decode cL_acts 775 = .ok (.aload_n 0, 1) := by decide +kernel
theorem dL_acts_776 : decode cL_acts 776 = .ok (.iload 10, 2) := by decide +kernel
theorem dL_acts_778 : decode cL_acts 778 = .ok (.iload 11, 2) := by decide +kernel
theorem dL_acts_780 : decode cL_acts 780 = .ok (.invokevirtual 155, 3) := by decide +kernel
theorem dL_acts_783 : decode cL_acts 783 = .ok (.istore 12, 2) := by decide +kernel
theorem dL_acts_785 : decode cL_acts 785 = .ok (.iload 10, 2) := by decide +kernel
theorem dL_acts_787 : decode cL_acts 787 = .ok (.iconst 4, 1) := by decide +kernel
theorem dL_acts_788 : decode cL_acts 788 = .ok (.if_icmp .ne 18, 3) := by decide +kernel
theorem dL_acts_791 : decode cL_acts 791 = .ok (.iload 12, 2) := by decide +kernel
theorem dL_acts_793 : decode cL_acts 793 = .ok (.ldc 60, 2) := by decide +kernel
theorem dL_acts_795 : decode cL_acts 795 = .ok (.if_icmp .ne 7, 3) := by decide +kernel
theorem dL_acts_798 : decode cL_acts 798 = .ok (.iconst 1, 1) := by decide +kernel
theorem dL_acts_799 : decode cL_acts 799 = .ok (.goto 59, 3) := by decide +kernel
theorem dL_acts_802 : decode cL_acts 802 = .ok (.iconst 0, 1) := by decide +kernel
theorem dL_acts_803 : decode cL_acts 803 = .ok (.goto 55, 3) := by decide +kernel
theorem dL_acts_806 : decode cL_acts 806 = .ok (.aload_n 0, 1) := by decide +kernel
theorem dL_acts_807 : decode cL_acts 807 = .ok (.iload 10, 2) := by decide +kernel
theorem dL_acts_809 : decode cL_acts 809 = .ok (.invokevirtual 19, 3) := by decide +kernel
theorem dL_acts_812 : decode cL_acts 812 = .ok (.iload 11, 2) := by decide +kernel
theorem dL_acts_814 : decode cL_acts 814 = .ok (.ifCond .eq 7, 3) := by decide +kernel
theorem dL_acts_817 : decode cL_acts 817 = .ok (.iconst 1, 1) := by decide +kernel
theorem dL_acts_818 : decode cL_acts 818 = .ok (.goto 4, 3) := by decide +kernel
theorem dL_acts_821 : decode cL_acts 821 = .ok (.iconst 0, 1) := by decide +kernel
theorem dL_acts_822 : decode cL_acts 822 = .ok (.if_icmp .ne 35, 3) := by decide +kernel
theorem dL_acts_825 : decode cL_acts 825 = .ok (.iload 12, 2) := by decide +kernel
theorem dL_acts_827 : decode cL_acts 827 = .ok (.aload_n 0, 1) := by decide +kernel
theorem dL_acts_828 : decode cL_acts 828 = .ok (.iconst 0, 1) := by decide +kernel
theorem dL_acts_829 : decode cL_acts 829 = .ok (.invokevirtual 19, 3) := by decide +kernel
theorem dL_acts_832 : decode cL_acts 832 = .ok (.aload_n 0, 1) := by decide +kernel
theorem dL_acts_833 : decode cL_acts 833 = .ok (.iconst 1, 1) := by decide +kernel
theorem dL_acts_834 : decode cL_acts 834 = .ok (.invokevirtual 19, 3) := by decide +kernel
theorem dL_acts_837 : decode cL_acts 837 = .ok (.iadd, 1) := by decide +kernel
theorem dL_acts_838 : decode cL_acts 838 = .ok (.aload_n 0, 1) := by decide +kernel
theorem dL_acts_839 : decode cL_acts 839 = .ok (.iconst 2, 1) := by decide +kernel
theorem dL_acts_840 : decode cL_acts 840 = .ok (.invokevirtual 19, 3) := by decide +kernel
theorem dL_acts_843 : decode cL_acts 843 = .ok (.iadd, 1) := by decide +kernel
theorem dL_acts_844 : decode cL_acts 844 = .ok (.aload_n 0, 1) := by decide +kernel
theorem dL_acts_845 : decode cL_acts 845 = .ok (.iconst 3, 1) := by decide +kernel
theorem dL_acts_846 : decode cL_acts 846 = .ok (.invokevirtual 19, 3) := by decide +kernel
theorem dL_acts_849 : decode cL_acts 849 = .ok (.iadd, 1) := by decide +kernel
theorem dL_acts_850 : decode cL_acts 850 = .ok (.if_icmp .ne 7, 3) := by decide +kernel
theorem dL_acts_853 : decode cL_acts 853 = .ok (.iconst 1, 1) := by decide +kernel
theorem dL_acts_854 : decode cL_acts 854 = .ok (.goto 4, 3) := by decide +kernel
theorem dL_acts_857 : decode cL_acts 857 = .ok (.iconst 0, 1) := by decide +kernel
theorem dL_acts_858 : decode cL_acts 858 = .ok (.ireturn, 1) := by decide +kernel
theorem dL_acts_859 : decode cL_acts 859 = .ok (.iload_n 3, 1) := by decide +kernel
theorem dL_acts_860 : decode cL_acts 860 = .ok (.bipush 26, 2) := by decide +kernel
theorem dL_acts_862 : decode cL_acts 862 = .ok (.if_icmp .ge 210, 3) := by decide +kernel
theorem dL_acts_865 : decode cL_acts 865 = .ok (.iload_n 2, 1) := by decide +kernel
theorem dL_acts_866 : decode cL_acts 866 = .ok (.bipush 7, 2) := by decide +kernel
