theorem d_law_215 : decode code 215 = .ok (.iaload, 1) := by decide +kernel
theorem d_law_216 : decode code 216 = .ok (.invokevirtual 64, 3) := by decide +kernel
theorem d_law_219 : decode code 219 = .ok (.istore 6, 2) := by decide +kernel
theorem d_law_221 : decode code 221 = .ok (.aload_n 2, 1) := by decide +kernel
theorem d_law_222 : decode code 222 = .ok (.invokevirtual 58, 3) := by decide +kernel
theorem d_law_225 : decode code 225 = .ok (.iload 5, 2) := by decide +kernel
theorem d_law_227 : decode code 227 = .ok (.if_icmp .eq 5, 3) := by decide +kernel
theorem d_law_232 : decode code 232 = .ok (.iload 5, 2) := by decide +kernel
theorem d_law_234 : decode code 234 = .ok (.ifCond .ne 15, 3) := by decide +kernel
theorem d_law_237 : decode code 237 = .ok (.aload_n 3, 1) := by decide +kernel
theorem d_law_238 : decode code 238 = .ok (.iconst 0, 1) := by decide +kernel
theorem d_law_239 : decode code 239 = .ok (.laload, 1) := by decide +kernel
theorem d_law_240 : decode code 240 = .ok (.iload 6, 2) := by decide +kernel
theorem d_law_242 : decode code 242 = .ok (.i2l, 1) := by decide +kernel
theorem d_law_243 : decode code 243 = .ok (.lcmp, 1) := by decide +kernel
theorem d_law_244 : decode code 244 = .ok (.ifCond .eq 5, 3) := by decide +kernel
theorem d_law_249 : decode code 249 = .ok (.goto 370, 3) := by decide +kernel
theorem d_law_252 : decode code 252 = .ok (.aload_n 1, 1) := by decide +kernel
theorem d_law_253 : decode code 253 = .ok (.aload_n 3, 1) := by decide +kernel
theorem d_law_254 : decode code 254 = .ok (.invokestatic 65, 3) := by decide +kernel
theorem d_law_257 : decode code 257 = .ok (.istore 5, 2) := by decide +kernel
theorem d_law_259 : decode code 259 = .ok (.aload_n 2, 1) := by decide +kernel
theorem d_law_260 : decode code 260 = .ok (.invokevirtual 68, 3) := by decide +kernel
theorem d_law_263 : decode code 263 = .ok (.istore 6, 2) := by decide +kernel
theorem d_law_265 : decode code 265 = .ok (.aload_n 2, 1) := by decide +kernel
theorem d_law_266 : decode code 266 = .ok (.invokevirtual 58, 3) := by decide +kernel
theorem d_law_269 : decode code 269 = .ok (.iload 5, 2) := by decide +kernel
theorem d_law_271 : decode code 271 = .ok (.if_icmp .eq 5, 3) := by decide +kernel
theorem d_law_276 : decode code 276 = .ok (.iload 5, 2) := by decide +kernel
theorem d_law_278 : decode code 278 = .ok (.ifCond .ne 15, 3) := by decide +kernel
theorem d_law_281 : decode code 281 = .ok (.aload_n 3, 1) := by decide +kernel
theorem d_law_282 : decode code 282 = .ok (.iconst 0, 1) := by decide +kernel
theorem d_law_283 : decode code 283 = .ok (.laload, 1) := by decide +kernel
theorem d_law_284 : decode code 284 = .ok (.iload 6, 2) := by decide +kernel
theorem d_law_286 : decode code 286 = .ok (.i2l, 1) := by decide +kernel
theorem d_law_287 : decode code 287 = .ok (.lcmp, 1) := by decide +kernel
theorem d_law_288 : decode code 288 = .ok (.ifCond .eq 5, 3) := by decide +kernel
theorem d_law_293 : decode code 293 = .ok (.goto 326, 3) := by decide +kernel
theorem d_law_296 : decode code 296 = .ok (.aload_n 1, 1) := by decide +kernel
theorem d_law_297 : decode code 297 = .ok (.invokevirtual 69, 3) := by decide +kernel
theorem d_law_300 : decode code 300 = .ok (.aload_n 2, 1) := by decide +kernel
theorem d_law_301 : decode code 301 = .ok (.invokevirtual 72, 3) := by decide +kernel
theorem d_law_304 : decode code 304 = .ok (.if_icmp .eq 315, 3) := by decide +kernel
theorem d_law_309 : decode code 309 = .ok (.aload_n 1, 1) := by decide +kernel
theorem d_law_310 : decode code 310 = .ok (.aload_n 0, 1) := by decide +kernel
theorem d_law_311 : decode code 311 = .ok (.iload 4, 2) := by decide +kernel
theorem d_law_313 : decode code 313 = .ok (.iconst 1, 1) := by decide +kernel
theorem d_law_314 : decode code 314 = .ok (.iadd, 1) := by decide +kernel
theorem d_law_315 : decode code 315 = .ok (.iaload, 1) := by decide +kernel
theorem d_law_316 : decode code 316 = .ok (.i2l, 1) := by decide +kernel
theorem d_law_317 : decode code 317 = .ok (.bipush 32, 2) := by decide +kernel
theorem d_law_319 : decode code 319 = .ok (.lshl, 1) := by decide +kernel
theorem d_law_320 : decode code 320 = .ok (.aload_n 0, 1) := by decide +kernel
theorem d_law_321 : decode code 321 = .ok (.iload 4, 2) := by decide +kernel
theorem d_law_323 : decode code 323 = .ok (.iconst 2, 1) := by decide +kernel
theorem d_law_324 : decode code 324 = .ok (.iadd, 1) := by decide +kernel
theorem d_law_325 : decode code 325 = .ok (.iaload, 1) := by decide +kernel
theorem d_law_326 : decode code 326 = .ok (.i2l, 1) := by decide +kernel
theorem d_law_327 : decode code 327 = .ok (.ldc2_w 73, 3) := by decide +kernel
theorem d_law_330 : decode code 330 = .ok (.land, 1) := by decide +kernel
theorem d_law_331 : decode code 331 = .ok (.lor, 1) := by decide +kernel
theorem d_law_332 : decode code 332 = .ok (.aload_n 3, 1) := by decide +kernel
theorem d_law_333 : decode code 333 = .ok (.invokestatic 75, 3) := by decide +kernel
theorem d_law_336 : decode code 336 = .ok (.istore 5, 2) := by decide +kernel
theorem d_law_338 : decode code 338 = .ok (.aload_n 2, 1) := by decide +kernel
theorem d_law_339 : decode code 339 = .ok (.aload_n 0, 1) := by decide +kernel
theorem d_law_340 : decode code 340 = .ok (.iload 4, 2) := by decide +kernel
theorem d_law_342 : decode code 342 = .ok (.iconst 1, 1) := by decide +kernel
theorem d_law_343 : decode code 343 = .ok (.iadd, 1) := by decide +kernel
theorem d_law_344 : decode code 344 = .ok (.iaload, 1) := by decide +kernel
theorem d_law_345 : decode code 345 = .ok (.i2l, 1) := by decide +kernel
theorem d_law_346 : decode code 346 = .ok (.bipush 32, 2) := by decide +kernel
theorem d_law_348 : decode code 348 = .ok (.lshl, 1) := by decide +kernel
theorem d_law_349 : decode code 349 = .ok (.aload_n 0, 1) := by decide +kernel
theorem d_law_350 : decode code 350 = .ok (.iload 4, 2) := by decide +kernel
theorem d_law_352 : decode code 352 = .ok (.iconst 2, 1) := by decide +kernel
theorem d_law_353 : decode code 353 = .ok (.iadd, 1) := by decide +kernel
theorem d_law_354 : decode code 354 = .ok (.iaload, 1) := by decide +kernel
theorem d_law_355 : decode code 355 = .ok (.i2l, 1) := by decide +kernel
theorem d_law_356 : decode code 356 = .ok (.ldc2_w 73, 3) := by decide +kernel
theorem d_law_359 : decode code 359 = .ok (.land, 1) := by decide +kernel
theorem d_law_360 : decode code 360 = .ok (.lor, 1) := by decide +kernel
theorem d_law_361 : decode code 361 = .ok (.invokevirtual 78, 3) := by decide +kernel
theorem d_law_364 : decode code 364 = .ok (.istore 6, 2) := by decide +kernel
theorem d_law_366 : decode code 366 = .ok (.aload_n 2, 1) := by decide +kernel
theorem d_law_367 : decode code 367 = .ok (.invokevirtual 58, 3) := by decide +kernel
theorem d_law_370 : decode code 370 = .ok (.iload 5, 2) := by decide +kernel
theorem d_law_372 : decode code 372 = .ok (.if_icmp .eq 5, 3) := by decide +kernel
theorem d_law_377 : decode code 377 = .ok (.iload 5, 2) := by decide +kernel
theorem d_law_379 : decode code 379 = .ok (.ifCond .ne 15, 3) := by decide +kernel
theorem d_law_382 : decode code 382 = .ok (.aload_n 3, 1) := by decide +kernel
theorem d_law_383 : decode code 383 = .ok (.iconst 0, 1) := by decide +kernel
theorem d_law_384 : decode code 384 = .ok (.laload, 1) := by decide +kernel
theorem d_law_385 : decode code 385 = .ok (.iload 6, 2) := by decide +kernel
theorem d_law_387 : decode code 387 = .ok (.i2l, 1) := by decide +kernel
theorem d_law_388 : decode code 388 = .ok (.lcmp, 1) := by decide +kernel
theorem d_law_389 : decode code 389 = .ok (.ifCond .eq 5, 3) := by decide +kernel
theorem d_law_394 : decode code 394 = .ok (.goto 225, 3) := by decide +kernel
theorem d_law_397 : decode code 397 = .ok (.aload_n 1, 1) := by decide +kernel
theorem d_law_398 : decode code 398 = .ok (.aload_n 0, 1) := by decide +kernel
theorem d_law_399 : decode code 399 = .ok (.iload 4, 2) := by decide +kernel
theorem d_law_401 : decode code 401 = .ok (.iconst 1, 1) := by decide +kernel
theorem d_law_402 : decode code 402 = .ok (.iadd, 1) := by decide +kernel
theorem d_law_403 : decode code 403 = .ok (.iaload, 1) := by decide +kernel
theorem d_law_404 : decode code 404 = .ok (.aload_n 3, 1) := by decide +kernel
theorem d_law_405 : decode code 405 = .ok (.invokestatic 79, 3) := by decide +kernel
theorem d_law_408 : decode code 408 = .ok (.istore 5, 2) := by decide +kernel
theorem d_law_410 : decode code 410 = .ok (.aload_n 2, 1) := by decide +kernel
theorem d_law_411 : decode code 411 = .ok (.aload_n 0, 1) := by decide +kernel
theorem d_law_412 : decode code 412 = .ok (.iload 4, 2) := by decide +kernel
theorem d_law_414 : decode code 414 = .ok (.iconst 1, 1) := by decide +kernel
theorem d_law_415 : decode code 415 = .ok (.iadd, 1) := by decide +kernel
theorem d_law_416 : decode code 416 = .ok (.iaload, 1) := by decide +kernel
theorem d_law_417 : decode code 417 = .ok (.invokevirtual 81, 3) := by decide +kernel
theorem d_law_420 : decode code 420 = .ok (.lstore 6, 2) := by decide +kernel
theorem d_law_422 : decode code 422 = .ok (.aload_n 2, 1) := by decide +kernel
theorem d_law_423 : decode code 423 = .ok (.invokevirtual 58, 3) := by decide +kernel
theorem d_law_426 : decode code 426 = .ok (.iload 5, 2) := by decide +kernel
theorem d_law_428 : decode code 428 = .ok (.if_icmp .eq 5, 3) := by decide +kernel
theorem d_law_433 : decode code 433 = .ok (.iload 5, 2) := by decide +kernel
theorem d_law_435 : decode code 435 = .ok (.ifCond .ne 14, 3) := by decide +kernel
theorem d_law_438 : decode code 438 = .ok (.aload_n 3, 1) := by decide +kernel
theorem d_law_439 : decode code 439 = .ok (.iconst 0, 1) := by decide +kernel
theorem d_law_440 : decode code 440 = .ok (.laload, 1) := by decide +kernel
theorem d_law_441 : decode code 441 = .ok (.lload 6, 2) := by decide +kernel
theorem d_law_443 : decode code 443 = .ok (.lcmp, 1) := by decide +kernel
theorem d_law_444 : decode code 444 = .ok (.ifCond .eq 5, 3) := by decide +kernel
theorem d_law_449 : decode code 449 = .ok (.goto 170, 3) := by decide +kernel
theorem d_law_452 : decode code 452 = .ok (.aload_n 1, 1) := by decide +kernel
theorem d_law_453 : decode code 453 = .ok (.aload_n 0, 1) := by decide +kernel
theorem d_law_454 : decode code 454 = .ok (.iload 4, 2) := by decide +kernel
theorem d_law_456 : decode code 456 = .ok (.iconst 1, 1) := by decide +kernel
theorem d_law_457 : decode code 457 = .ok (.iadd, 1) := by decide +kernel
theorem d_law_458 : decode code 458 = .ok (.iaload, 1) := by decide +kernel
theorem d_law_459 : decode code 459 = .ok (.aload_n 3, 1) := by decide +kernel
theorem d_law_460 : decode code 460 = .ok (.invokestatic 82, 3) := by decide +kernel
theorem d_law_463 : decode code 463 = .ok (.istore 5, 2) := by decide +kernel
theorem d_law_465 : decode code 465 = .ok (.aload_n 2, 1) := by decide +kernel
theorem d_law_466 : decode code 466 = .ok (.aload_n 0, 1) := by decide +kernel
theorem d_law_467 : decode code 467 = .ok (.iload 4, 2) := by decide +kernel
theorem d_law_469 : decode code 469 = .ok (.iconst 1, 1) := by decide +kernel
theorem d_law_470 : decode code 470 = .ok (.iadd, 1) := by decide +kernel
theorem d_law_471 : decode code 471 = .ok (.iaload, 1) := by decide +kernel
theorem d_law_472 : decode code 472 = .ok (.invokevirtual 84, 3) := by decide +kernel
theorem d_law_475 : decode code 475 = .ok (.lstore 6, 2) := by decide +kernel
theorem d_law_477 : decode code 477 = .ok (.aload_n 2, 1) := by decide +kernel
theorem d_law_478 : decode code 478 = .ok (.invokevirtual 58, 3) := by decide +kernel
theorem d_law_481 : decode code 481 = .ok (.iload 5, 2) := by decide +kernel
theorem d_law_483 : decode code 483 = .ok (.if_icmp .eq 5, 3) := by decide +kernel
theorem d_law_488 : decode code 488 = .ok (.iload 5, 2) := by decide +kernel
theorem d_law_490 : decode code 490 = .ok (.ifCond .ne 14, 3) := by decide +kernel
theorem d_law_493 : decode code 493 = .ok (.aload_n 3, 1) := by decide +kernel
theorem d_law_494 : decode code 494 = .ok (.iconst 0, 1) := by decide +kernel
theorem d_law_495 : decode code 495 = .ok (.laload, 1) := by decide +kernel
theorem d_law_496 : decode code 496 = .ok (.lload 6, 2) := by decide +kernel
theorem d_law_498 : decode code 498 = .ok (.lcmp, 1) := by decide +kernel
theorem d_law_499 : decode code 499 = .ok (.ifCond .eq 5, 3) := by decide +kernel
theorem d_law_504 : decode code 504 = .ok (.goto 115, 3) := by decide +kernel
theorem d_law_507 : decode code 507 = .ok (.aload_n 1, 1) := by decide +kernel
theorem d_law_508 : decode code 508 = .ok (.aload_n 0, 1) := by decide +kernel
theorem d_law_509 : decode code 509 = .ok (.iload 4, 2) := by decide +kernel
theorem d_law_511 : decode code 511 = .ok (.iconst 1, 1) := by decide +kernel
theorem d_law_512 : decode code 512 = .ok (.iadd, 1) := by decide +kernel
theorem d_law_513 : decode code 513 = .ok (.iaload, 1) := by decide +kernel
theorem d_law_514 : decode code 514 = .ok (.aload_n 3, 1) := by decide +kernel
theorem d_law_515 : decode code 515 = .ok (.invokestatic 85, 3) := by decide +kernel
theorem d_law_518 : decode code 518 = .ok (.istore 5, 2) := by decide +kernel
theorem d_law_520 : decode code 520 = .ok (.aload_n 2, 1) := by decide +kernel
theorem d_law_521 : decode code 521 = .ok (.aload_n 0, 1) := by decide +kernel
theorem d_law_522 : decode code 522 = .ok (.iload 4, 2) := by decide +kernel
theorem d_law_524 : decode code 524 = .ok (.iconst 1, 1) := by decide +kernel
theorem d_law_525 : decode code 525 = .ok (.iadd, 1) := by decide +kernel
theorem d_law_526 : decode code 526 = .ok (.iaload, 1) := by decide +kernel
theorem d_law_527 : decode code 527 = .ok (.invokevirtual 87, 3) := by decide +kernel
theorem d_law_530 : decode code 530 = .ok (.istore 6, 2) := by decide +kernel
theorem d_law_532 : decode code 532 = .ok (.aload_n 2, 1) := by decide +kernel
theorem d_law_533 : decode code 533 = .ok (.invokevirtual 58, 3) := by decide +kernel
theorem d_law_536 : decode code 536 = .ok (.iload 5, 2) := by decide +kernel
theorem d_law_538 : decode code 538 = .ok (.if_icmp .eq 5, 3) := by decide +kernel
theorem d_law_543 : decode code 543 = .ok (.iload 5, 2) := by decide +kernel
theorem d_law_545 : decode code 545 = .ok (.ifCond .ne 15, 3) := by decide +kernel
theorem d_law_548 : decode code 548 = .ok (.aload_n 3, 1) := by decide +kernel
theorem d_law_549 : decode code 549 = .ok (.iconst 0, 1) := by decide +kernel
theorem d_law_550 : decode code 550 = .ok (.laload, 1) := by decide +kernel
theorem d_law_551 : decode code 551 = .ok (.iload 6, 2) := by decide +kernel
theorem d_law_553 : decode code 553 = .ok (.i2l, 1) := by decide +kernel
theorem d_law_554 : decode code 554 = .ok (.lcmp, 1) := by decide +kernel
theorem d_law_555 : decode code 555 = .ok (.ifCond .eq 5, 3) := by decide +kernel
theorem d_law_560 : decode code 560 = .ok (.goto 59, 3) := by decide +kernel
theorem d_law_563 : decode code 563 = .ok (.aload_n 1, 1) := by decide +kernel
theorem d_law_564 : decode code 564 = .ok (.aload_n 0, 1) := by decide +kernel
theorem d_law_565 : decode code 565 = .ok (.iload 4, 2) := by decide +kernel
theorem d_law_567 : decode code 567 = .ok (.iconst 1, 1) := by decide +kernel
theorem d_law_568 : decode code 568 = .ok (.iadd, 1) := by decide +kernel
theorem d_law_569 : decode code 569 = .ok (.iaload, 1) := by decide +kernel
theorem d_law_570 : decode code 570 = .ok (.aload_n 3, 1) := by decide +kernel
theorem d_law_571 : decode code 571 = .ok (.invokestatic 88, 3) := by decide +kernel
theorem d_law_574 : decode code 574 = .ok (.istore 5, 2) := by decide +kernel
theorem d_law_576 : decode code 576 = .ok (.aload_n 2, 1) := by decide +kernel
theorem d_law_577 : decode code 577 = .ok (.aload_n 0, 1) := by decide +kernel
theorem d_law_578 : decode code 578 = .ok (.iload 4, 2) := by decide +kernel
theorem d_law_580 : decode code 580 = .ok (.iconst 1, 1) := by decide +kernel
theorem d_law_581 : decode code 581 = .ok (.iadd, 1) := by decide +kernel
theorem d_law_582 : decode code 582 = .ok (.iaload, 1) := by decide +kernel
theorem d_law_583 : decode code 583 = .ok (.invokevirtual 90, 3) := by decide +kernel
theorem d_law_586 : decode code 586 = .ok (.istore 6, 2) := by decide +kernel
theorem d_law_588 : decode code 588 = .ok (.aload_n 2, 1) := by decide +kernel
theorem d_law_589 : decode code 589 = .ok (.invokevirtual 58, 3) := by decide +kernel
theorem d_law_592 : decode code 592 = .ok (.iload 5, 2) := by decide +kernel
theorem d_law_594 : decode code 594 = .ok (.if_icmp .eq 5, 3) := by decide +kernel
theorem d_law_599 : decode code 599 = .ok (.iload 5, 2) := by decide +kernel
theorem d_law_601 : decode code 601 = .ok (.ifCond .ne 15, 3) := by decide +kernel
theorem d_law_604 : decode code 604 = .ok (.aload_n 3, 1) := by decide +kernel
theorem d_law_605 : decode code 605 = .ok (.iconst 0, 1) := by decide +kernel
theorem d_law_606 : decode code 606 = .ok (.laload, 1) := by decide +kernel
theorem d_law_607 : decode code 607 = .ok (.iload 6, 2) := by decide +kernel
theorem d_law_609 : decode code 609 = .ok (.i2l, 1) := by decide +kernel
theorem d_law_610 : decode code 610 = .ok (.lcmp, 1) := by decide +kernel
theorem d_law_611 : decode code 611 = .ok (.ifCond .eq 5, 3) := by decide +kernel
theorem d_law_616 : decode code 616 = .ok (.goto 3, 3) := by decide +kernel
theorem d_law_619 : decode code 619 = .ok (.iinc 4 6, 3) := by decide +kernel
theorem d_law_622 : decode code 622 = .ok (.goto (-599), 3) := by decide +kernel
theorem d_law_625 : decode code 625 = .ok (.iconst 1, 1) := by decide +kernel
theorem d_law_626 : decode code 626 = .ok (.ireturn, 1) := by decide +kernel
theorem m_0 : Cond.initialized R_La ∈ lw_good := lw_in (List.mem_append_right _ (List.mem_of_getElem? (i := 0) (by decide +kernel))) (by decide +kernel)
theorem m_464 : Cond.methodLink R_La 52 y_La_feed ∈ lw_good := lw_in (List.mem_append_right _ (List.mem_of_getElem? (i := 464) (by decide +kernel))) (by decide +kernel)
theorem m_465 : Cond.static y_La_feed ∈ lw_good := lw_in (List.mem_append_right _ (List.mem_of_getElem? (i := 465) (by decide +kernel))) (by decide +kernel)
theorem m_466 : Cond.codeWith y_La_feed b_La_feed 8 (some .int) [(0, 16, 19, 13)] ∈ lw_good := lw_in (List.mem_append_right _ (List.mem_of_getElem? (i := 466) (by decide +kernel))) (by decide +kernel)
theorem m_1391 : Cond.methodLink R_La 57 y_Mo_feed ∈ lw_good := lw_in (List.mem_append_right _ (List.mem_of_getElem? (i := 1391) (by decide +kernel))) (by decide +kernel)
theorem m_1392 : Cond.instanceMethod y_Mo_feed ∈ lw_good := lw_in (List.mem_append_right _ (List.mem_of_getElem? (i := 1392) (by decide +kernel))) (by decide +kernel)
theorem m_1393 : Cond.selects R_Mo y_Mo_feed y_Mo_feed ∈ lw_good := lw_in (List.mem_append_right _ (List.mem_of_getElem? (i := 1393) (by decide +kernel))) (by decide +kernel)
theorem m_1394 : Cond.code y_Mo_feed b_Mo_feed 6 (some .int) ∈ lw_good := lw_in (List.mem_append_right _ (List.mem_of_getElem? (i := 1394) (by decide +kernel))) (by decide +kernel)
theorem m_1387 : Cond.methodLink R_La 58 y_Mo_thrown ∈ lw_good := lw_in (List.mem_append_right _ (List.mem_of_getElem? (i := 1387) (by decide +kernel))) (by decide +kernel)
theorem m_1388 : Cond.instanceMethod y_Mo_thrown ∈ lw_good := lw_in (List.mem_append_right _ (List.mem_of_getElem? (i := 1388) (by decide +kernel))) (by decide +kernel)
theorem m_1389 : Cond.selects R_Mo y_Mo_thrown y_Mo_thrown ∈ lw_good := lw_in (List.mem_append_right _ (List.mem_of_getElem? (i := 1389) (by decide +kernel))) (by decide +kernel)
theorem m_1390 : Cond.code y_Mo_thrown b_Mo_thrown 1 (some .int) ∈ lw_good := lw_in (List.mem_append_right _ (List.mem_of_getElem? (i := 1390) (by decide +kernel))) (by decide +kernel)
theorem m_546 : Cond.methodLink R_La 61 y_La_end ∈ lw_good := lw_in (List.mem_append_right _ (List.mem_of_getElem? (i := 546) (by decide +kernel))) (by decide +kernel)
theorem m_547 : Cond.static y_La_end ∈ lw_good := lw_in (List.mem_append_right _ (List.mem_of_getElem? (i := 547) (by decide +kernel))) (by decide +kernel)
theorem m_548 : Cond.codeWith y_La_end b_La_end 4 (some .int) [(0, 9, 12, 19)] ∈ lw_good := lw_in (List.mem_append_right _ (List.mem_of_getElem? (i := 548) (by decide +kernel))) (by decide +kernel)
theorem m_1403 : Cond.methodLink R_La 64 y_Mo_end ∈ lw_good := lw_in (List.mem_append_right _ (List.mem_of_getElem? (i := 1403) (by decide +kernel))) (by decide +kernel)
theorem m_1404 : Cond.instanceMethod y_Mo_end ∈ lw_good := lw_in (List.mem_append_right _ (List.mem_of_getElem? (i := 1404) (by decide +kernel))) (by decide +kernel)
theorem m_1405 : Cond.selects R_Mo y_Mo_end y_Mo_end ∈ lw_good := lw_in (List.mem_append_right _ (List.mem_of_getElem? (i := 1405) (by decide +kernel))) (by decide +kernel)
theorem m_1406 : Cond.code y_Mo_end b_Mo_end 2 (some .int) ∈ lw_good := lw_in (List.mem_append_right _ (List.mem_of_getElem? (i := 1406) (by decide +kernel))) (by decide +kernel)
theorem m_452 : Cond.methodLink R_La 69 y_WR_find ∈ lw_good := lw_in (List.mem_append_right _ (List.mem_of_getElem? (i := 452) (by decide +kernel))) (by decide +kernel)
theorem m_453 : Cond.instanceMethod y_WR_find ∈ lw_good := lw_in (List.mem_append_right _ (List.mem_of_getElem? (i := 453) (by decide +kernel))) (by decide +kernel)
theorem m_454 : Cond.selects R_WR y_WR_find y_WR_find ∈ lw_good := lw_in (List.mem_append_right _ (List.mem_of_getElem? (i := 454) (by decide +kernel))) (by decide +kernel)
theorem m_455 : Cond.code y_WR_find b_WR_find 2 (some .int) ∈ lw_good := lw_in (List.mem_append_right _ (List.mem_of_getElem? (i := 455) (by decide +kernel))) (by decide +kernel)
theorem m_1536 : Cond.methodLink R_La 72 y_Mo_find ∈ lw_good := lw_in (List.mem_append_right _ (List.mem_of_getElem? (i := 1536) (by decide +kernel))) (by decide +kernel)
theorem m_1537 : Cond.instanceMethod y_Mo_find ∈ lw_good := lw_in (List.mem_append_right _ (List.mem_of_getElem? (i := 1537) (by decide +kernel))) (by decide +kernel)
theorem m_1538 : Cond.selects R_Mo y_Mo_find y_Mo_find ∈ lw_good := lw_in (List.mem_append_right _ (List.mem_of_getElem? (i := 1538) (by decide +kernel))) (by decide +kernel)
theorem m_1539 : Cond.code y_Mo_find b_Mo_find 3 (some .int) ∈ lw_good := lw_in (List.mem_append_right _ (List.mem_of_getElem? (i := 1539) (by decide +kernel))) (by decide +kernel)
theorem m_1637 : Cond.constantLong R_La 73 4294967295 ∈ lw_good := lw_in (List.mem_append_right _ (List.mem_of_getElem? (i := 1637) (by decide +kernel))) (by decide +kernel)
theorem m_903 : Cond.methodLink R_La 75 y_La_argument ∈ lw_good := lw_in (List.mem_append_right _ (List.mem_of_getElem? (i := 903) (by decide +kernel))) (by decide +kernel)
theorem m_904 : Cond.static y_La_argument ∈ lw_good := lw_in (List.mem_append_right _ (List.mem_of_getElem? (i := 904) (by decide +kernel))) (by decide +kernel)
theorem m_905 : Cond.codeWith y_La_argument b_La_argument 5 (some .int) [(0, 9, 12, 13)] ∈ lw_good := lw_in (List.mem_append_right _ (List.mem_of_getElem? (i := 905) (by decide +kernel))) (by decide +kernel)
theorem m_1540 : Cond.methodLink R_La 78 y_Mo_argument ∈ lw_good := lw_in (List.mem_append_right _ (List.mem_of_getElem? (i := 1540) (by decide +kernel))) (by decide +kernel)
theorem m_1541 : Cond.instanceMethod y_Mo_argument ∈ lw_good := lw_in (List.mem_append_right _ (List.mem_of_getElem? (i := 1541) (by decide +kernel))) (by decide +kernel)
theorem m_1542 : Cond.selects R_Mo y_Mo_argument y_Mo_argument ∈ lw_good := lw_in (List.mem_append_right _ (List.mem_of_getElem? (i := 1542) (by decide +kernel))) (by decide +kernel)
theorem m_1543 : Cond.code y_Mo_argument b_Mo_argument 3 (some .int) ∈ lw_good := lw_in (List.mem_append_right _ (List.mem_of_getElem? (i := 1543) (by decide +kernel))) (by decide +kernel)
theorem m_1101 : Cond.methodLink R_La 82 y_La_global ∈ lw_good := lw_in (List.mem_append_right _ (List.mem_of_getElem? (i := 1101) (by decide +kernel))) (by decide +kernel)
theorem m_1102 : Cond.static y_La_global ∈ lw_good := lw_in (List.mem_append_right _ (List.mem_of_getElem? (i := 1102) (by decide +kernel))) (by decide +kernel)
theorem m_1103 : Cond.codeWith y_La_global b_La_global 4 (some .int) [(0, 8, 11, 19), (0, 8, 14, 35)] ∈ lw_good := lw_in (List.mem_append_right _ (List.mem_of_getElem? (i := 1103) (by decide +kernel))) (by decide +kernel)
theorem m_1624 : Cond.methodLink R_La 84 y_Mo_global ∈ lw_good := lw_in (List.mem_append_right _ (List.mem_of_getElem? (i := 1624) (by decide +kernel))) (by decide +kernel)
theorem m_1625 : Cond.instanceMethod y_Mo_global ∈ lw_good := lw_in (List.mem_append_right _ (List.mem_of_getElem? (i := 1625) (by decide +kernel))) (by decide +kernel)
theorem m_1626 : Cond.selects R_Mo y_Mo_global y_Mo_global ∈ lw_good := lw_in (List.mem_append_right _ (List.mem_of_getElem? (i := 1626) (by decide +kernel))) (by decide +kernel)
theorem m_1627 : Cond.code y_Mo_global b_Mo_global 2 (some .long) ∈ lw_good := lw_in (List.mem_append_right _ (List.mem_of_getElem? (i := 1627) (by decide +kernel))) (by decide +kernel)
theorem m_1108 : Cond.methodLink R_La 85 y_La_memory ∈ lw_good := lw_in (List.mem_append_right _ (List.mem_of_getElem? (i := 1108) (by decide +kernel))) (by decide +kernel)
theorem m_1109 : Cond.static y_La_memory ∈ lw_good := lw_in (List.mem_append_right _ (List.mem_of_getElem? (i := 1109) (by decide +kernel))) (by decide +kernel)
theorem m_1110 : Cond.codeWith y_La_memory b_La_memory 4 (some .int) [(0, 9, 12, 19), (0, 9, 15, 35)] ∈ lw_good := lw_in (List.mem_append_right _ (List.mem_of_getElem? (i := 1110) (by decide +kernel))) (by decide +kernel)
theorem m_1628 : Cond.methodLink R_La 87 y_Mo_memory ∈ lw_good := lw_in (List.mem_append_right _ (List.mem_of_getElem? (i := 1628) (by decide +kernel))) (by decide +kernel)
theorem m_1629 : Cond.instanceMethod y_Mo_memory ∈ lw_good := lw_in (List.mem_append_right _ (List.mem_of_getElem? (i := 1629) (by decide +kernel))) (by decide +kernel)
theorem m_1630 : Cond.selects R_Mo y_Mo_memory y_Mo_memory ∈ lw_good := lw_in (List.mem_append_right _ (List.mem_of_getElem? (i := 1630) (by decide +kernel))) (by decide +kernel)
theorem m_1631 : Cond.code y_Mo_memory b_Mo_memory 2 (some .int) ∈ lw_good := lw_in (List.mem_append_right _ (List.mem_of_getElem? (i := 1631) (by decide +kernel))) (by decide +kernel)
theorem m_1116 : Cond.methodLink R_La 88 y_La_count ∈ lw_good := lw_in (List.mem_append_right _ (List.mem_of_getElem? (i := 1116) (by decide +kernel))) (by decide +kernel)
theorem m_1117 : Cond.static y_La_count ∈ lw_good := lw_in (List.mem_append_right _ (List.mem_of_getElem? (i := 1117) (by decide +kernel))) (by decide +kernel)
theorem m_1118 : Cond.codeWith y_La_count b_La_count 4 (some .int) [(0, 9, 12, 19)] ∈ lw_good := lw_in (List.mem_append_right _ (List.mem_of_getElem? (i := 1118) (by decide +kernel))) (by decide +kernel)
theorem m_1633 : Cond.methodLink R_La 90 y_Mo_count1 ∈ lw_good := lw_in (List.mem_append_right _ (List.mem_of_getElem? (i := 1633) (by decide +kernel))) (by decide +kernel)
theorem m_1634 : Cond.instanceMethod y_Mo_count1 ∈ lw_good := lw_in (List.mem_append_right _ (List.mem_of_getElem? (i := 1634) (by decide +kernel))) (by decide +kernel)
theorem m_1635 : Cond.selects R_Mo y_Mo_count1 y_Mo_count1 ∈ lw_good := lw_in (List.mem_append_right _ (List.mem_of_getElem? (i := 1635) (by decide +kernel))) (by decide +kernel)
theorem m_1636 : Cond.code y_Mo_count1 b_Mo_count1 2 (some .int) ∈ lw_good := lw_in (List.mem_append_right _ (List.mem_of_getElem? (i := 1636) (by decide +kernel))) (by decide +kernel)
theorem m_911 : Cond.methodLink R_La 79 y_La_call ∈ lw_good := lw_in (List.mem_append_right _ (List.mem_of_getElem? (i := 911) (by decide +kernel))) (by decide +kernel)
theorem m_912 : Cond.static y_La_call ∈ lw_good := lw_in (List.mem_append_right _ (List.mem_of_getElem? (i := 912) (by decide +kernel))) (by decide +kernel)
theorem m_913 : Cond.codeWith y_La_call b_La_call 4 (some .int) [(0, 8, 11, 19), (0, 8, 14, 35), (0, 8, 17, 37)] ∈ lw_good := lw_in (List.mem_append_right _ (List.mem_of_getElem? (i := 913) (by decide +kernel))) (by decide +kernel)
theorem m_1544 : Cond.methodLink R_La 81 y_Mo_call ∈ lw_good := lw_in (List.mem_append_right _ (List.mem_of_getElem? (i := 1544) (by decide +kernel))) (by decide +kernel)
theorem m_1545 : Cond.instanceMethod y_Mo_call ∈ lw_good := lw_in (List.mem_append_right _ (List.mem_of_getElem? (i := 1545) (by decide +kernel))) (by decide +kernel)
theorem m_1546 : Cond.selects R_Mo y_Mo_call y_Mo_call ∈ lw_good := lw_in (List.mem_append_right _ (List.mem_of_getElem? (i := 1546) (by decide +kernel))) (by decide +kernel)
theorem m_1547 : Cond.codeWith y_Mo_call b_Mo_call 5 (some .long) [(172, 177, 180, 8)] ∈ lw_good := lw_in (List.mem_append_right _ (List.mem_of_getElem? (i := 1547) (by decide +kernel))) (by decide +kernel)
theorem m_570 : Cond.methodLink R_La 65 y_La_module ∈ lw_good := lw_in (List.mem_append_right _ (List.mem_of_getElem? (i := 570) (by decide +kernel))) (by decide +kernel)
theorem m_571 : Cond.static y_La_module ∈ lw_good := lw_in (List.mem_append_right _ (List.mem_of_getElem? (i := 571) (by decide +kernel))) (by decide +kernel)
theorem m_572 : Cond.codeWith y_La_module b_La_module 3 (some .int) [(0, 8, 11, 25)] ∈ lw_good := lw_in (List.mem_append_right _ (List.mem_of_getElem? (i := 572) (by decide +kernel))) (by decide +kernel)
theorem m_28 : Cond.classLink R_La 8 R_WR ∈ lw_good := lw_in (List.mem_append_right _ (List.mem_of_getElem? (i := 28) (by decide +kernel))) (by decide +kernel)
theorem m_29 : Cond.instantiable R_WR 11 ∈ lw_good := lw_in (List.mem_append_right _ (List.mem_of_getElem? (i := 29) (by decide +kernel))) (by decide +kernel)
theorem m_32 : Cond.code y_WR_init b_WR_init 1 none ∈ lw_good := lw_in (List.mem_append_right _ (List.mem_of_getElem? (i := 32) (by decide +kernel))) (by decide +kernel)
theorem m_30 : Cond.methodLink R_La 48 y_WR_init ∈ lw_good := lw_in (List.mem_append_right _ (List.mem_of_getElem? (i := 30) (by decide +kernel))) (by decide +kernel)
theorem m_31 : Cond.instanceMethod y_WR_init ∈ lw_good := lw_in (List.mem_append_right _ (List.mem_of_getElem? (i := 31) (by decide +kernel))) (by decide +kernel)
theorem m_1124 : Cond.classLink R_La 49 R_Mo ∈ lw_good := lw_in (List.mem_append_right _ (List.mem_of_getElem? (i := 1124) (by decide +kernel))) (by decide +kernel)
theorem m_1125 : Cond.instantiable R_Mo 38 ∈ lw_good := lw_in (List.mem_append_right _ (List.mem_of_getElem? (i := 1125) (by decide +kernel))) (by decide +kernel)
theorem m_1128 : Cond.code y_Mo_init b_Mo_init 1 none ∈ lw_good := lw_in (List.mem_append_right _ (List.mem_of_getElem? (i := 1128) (by decide +kernel))) (by decide +kernel)
theorem m_1126 : Cond.methodLink R_La 51 y_Mo_init ∈ lw_good := lw_in (List.mem_append_right _ (List.mem_of_getElem? (i := 1126) (by decide +kernel))) (by decide +kernel)
theorem m_1127 : Cond.instanceMethod y_Mo_init ∈ lw_good := lw_in (List.mem_append_right _ (List.mem_of_getElem? (i := 1127) (by decide +kernel))) (by decide +kernel)
