theorem d_Mo_validStep_358 : decode b_Mo_validStep 358 = .ok (.invokevirtual 234, 3) := by decide +kernel
theorem d_Mo_validStep_361 : decode b_Mo_validStep 361 = .ok (.aload_n 0, 1) := by decide +kernel
theorem d_Mo_validStep_362 : decode b_Mo_validStep 362 = .ok (.invokevirtual 243, 3) := by decide +kernel
theorem d_Mo_validStep_365 : decode b_Mo_validStep 365 = .ok (.goto 359, 3) := by decide +kernel
theorem d_Mo_validStep_368 : decode b_Mo_validStep 368 = .ok (.aload_n 0, 1) := by decide +kernel
theorem d_Mo_validStep_369 : decode b_Mo_validStep 369 = .ok (.invokevirtual 103, 3) := by decide +kernel
theorem d_Mo_validStep_372 : decode b_Mo_validStep 372 = .ok (.istore 5, 2) := by decide +kernel
theorem d_Mo_validStep_374 : decode b_Mo_validStep 374 = .ok (.aload_n 0, 1) := by decide +kernel
theorem d_Mo_validStep_375 : decode b_Mo_validStep 375 = .ok (.iload 5, 2) := by decide +kernel
theorem d_Mo_validStep_377 : decode b_Mo_validStep 377 = .ok (.aload_n 0, 1) := by decide +kernel
theorem d_Mo_validStep_378 : decode b_Mo_validStep 378 = .ok (.getfield 27, 3) := by decide +kernel
theorem d_Mo_validStep_381 : decode b_Mo_validStep 381 = .ok (.getfield 57, 3) := by decide +kernel
theorem d_Mo_validStep_384 : decode b_Mo_validStep 384 = .ok (.if_icmp .ge 7, 3) := by decide +kernel
theorem d_Mo_validStep_387 : decode b_Mo_validStep 387 = .ok (.iconst 1, 1) := by decide +kernel
theorem d_Mo_validStep_388 : decode b_Mo_validStep 388 = .ok (.goto 4, 3) := by decide +kernel
theorem d_Mo_validStep_391 : decode b_Mo_validStep 391 = .ok (.iconst 0, 1) := by decide +kernel
theorem d_Mo_validStep_392 : decode b_Mo_validStep 392 = .ok (.invokevirtual 186, 3) := by decide +kernel
theorem d_Mo_validStep_395 : decode b_Mo_validStep 395 = .ok (.aload_n 0, 1) := by decide +kernel
theorem d_Mo_validStep_396 : decode b_Mo_validStep 396 = .ok (.getfield 27, 3) := by decide +kernel
theorem d_Mo_validStep_399 : decode b_Mo_validStep 399 = .ok (.getfield 82, 3) := by decide +kernel
theorem d_Mo_validStep_402 : decode b_Mo_validStep 402 = .ok (.aload_n 0, 1) := by decide +kernel
theorem d_Mo_validStep_403 : decode b_Mo_validStep 403 = .ok (.iload 5, 2) := by decide +kernel
theorem d_Mo_validStep_405 : decode b_Mo_validStep 405 = .ok (.invokevirtual 196, 3) := by decide +kernel
theorem d_Mo_validStep_408 : decode b_Mo_validStep 408 = .ok (.iaload, 1) := by decide +kernel
theorem d_Mo_validStep_409 : decode b_Mo_validStep 409 = .ok (.iconst 1, 1) := by decide +kernel
theorem d_Mo_validStep_410 : decode b_Mo_validStep 410 = .ok (.isub, 1) := by decide +kernel
theorem d_Mo_validStep_411 : decode b_Mo_validStep 411 = .ok (.istore 6, 2) := by decide +kernel
theorem d_Mo_validStep_413 : decode b_Mo_validStep 413 = .ok (.iload 6, 2) := by decide +kernel
theorem d_Mo_validStep_415 : decode b_Mo_validStep 415 = .ok (.ifCond .lt 31, 3) := by decide +kernel
theorem d_Mo_validStep_418 : decode b_Mo_validStep 418 = .ok (.aload_n 0, 1) := by decide +kernel
theorem d_Mo_validStep_419 : decode b_Mo_validStep 419 = .ok (.aload_n 0, 1) := by decide +kernel
theorem d_Mo_validStep_420 : decode b_Mo_validStep 420 = .ok (.getfield 27, 3) := by decide +kernel
theorem d_Mo_validStep_423 : decode b_Mo_validStep 423 = .ok (.getfield 87, 3) := by decide +kernel
theorem d_Mo_validStep_426 : decode b_Mo_validStep 426 = .ok (.aload_n 0, 1) := by decide +kernel
theorem d_Mo_validStep_427 : decode b_Mo_validStep 427 = .ok (.iload 5, 2) := by decide +kernel
theorem d_Mo_validStep_429 : decode b_Mo_validStep 429 = .ok (.invokevirtual 196, 3) := by decide +kernel
theorem d_Mo_validStep_432 : decode b_Mo_validStep 432 = .ok (.aaload, 1) := by decide +kernel
theorem d_Mo_validStep_433 : decode b_Mo_validStep 433 = .ok (.iload 6, 2) := by decide +kernel
theorem d_Mo_validStep_435 : decode b_Mo_validStep 435 = .ok (.iaload, 1) := by decide +kernel
theorem d_Mo_validStep_436 : decode b_Mo_validStep 436 = .ok (.invokevirtual 215, 3) := by decide +kernel
theorem d_Mo_validStep_439 : decode b_Mo_validStep 439 = .ok (.pop, 1) := by decide +kernel
theorem d_Mo_validStep_440 : decode b_Mo_validStep 440 = .ok (.iinc 6 (-1), 3) := by decide +kernel
theorem d_Mo_validStep_443 : decode b_Mo_validStep 443 = .ok (.goto (-30), 3) := by decide +kernel
theorem d_Mo_validStep_446 : decode b_Mo_validStep 446 = .ok (.aload_n 0, 1) := by decide +kernel
theorem d_Mo_validStep_447 : decode b_Mo_validStep 447 = .ok (.aload_n 0, 1) := by decide +kernel
theorem d_Mo_validStep_448 : decode b_Mo_validStep 448 = .ok (.getfield 27, 3) := by decide +kernel
theorem d_Mo_validStep_451 : decode b_Mo_validStep 451 = .ok (.getfield 94, 3) := by decide +kernel
theorem d_Mo_validStep_454 : decode b_Mo_validStep 454 = .ok (.aload_n 0, 1) := by decide +kernel
theorem d_Mo_validStep_455 : decode b_Mo_validStep 455 = .ok (.iload 5, 2) := by decide +kernel
theorem d_Mo_validStep_457 : decode b_Mo_validStep 457 = .ok (.invokevirtual 196, 3) := by decide +kernel
theorem d_Mo_validStep_460 : decode b_Mo_validStep 460 = .ok (.iaload, 1) := by decide +kernel
theorem d_Mo_validStep_461 : decode b_Mo_validStep 461 = .ok (.invokevirtual 237, 3) := by decide +kernel
theorem d_Mo_validStep_464 : decode b_Mo_validStep 464 = .ok (.goto 260, 3) := by decide +kernel
theorem d_Mo_validStep_467 : decode b_Mo_validStep 467 = .ok (.aload_n 0, 1) := by decide +kernel
theorem d_Mo_validStep_468 : decode b_Mo_validStep 468 = .ok (.iconst 0, 1) := by decide +kernel
theorem d_Mo_validStep_469 : decode b_Mo_validStep 469 = .ok (.invokevirtual 215, 3) := by decide +kernel
theorem d_Mo_validStep_472 : decode b_Mo_validStep 472 = .ok (.pop, 1) := by decide +kernel
theorem d_Mo_validStep_473 : decode b_Mo_validStep 473 = .ok (.goto 251, 3) := by decide +kernel
theorem d_Mo_validStep_476 : decode b_Mo_validStep 476 = .ok (.aload_n 0, 1) := by decide +kernel
theorem d_Mo_validStep_477 : decode b_Mo_validStep 477 = .ok (.bipush 127, 2) := by decide +kernel
theorem d_Mo_validStep_479 : decode b_Mo_validStep 479 = .ok (.invokevirtual 215, 3) := by decide +kernel
theorem d_Mo_validStep_482 : decode b_Mo_validStep 482 = .ok (.pop, 1) := by decide +kernel
theorem d_Mo_validStep_483 : decode b_Mo_validStep 483 = .ok (.aload_n 0, 1) := by decide +kernel
theorem d_Mo_validStep_484 : decode b_Mo_validStep 484 = .ok (.iconst 0, 1) := by decide +kernel
theorem d_Mo_validStep_485 : decode b_Mo_validStep 485 = .ok (.invokevirtual 215, 3) := by decide +kernel
theorem d_Mo_validStep_488 : decode b_Mo_validStep 488 = .ok (.istore 6, 2) := by decide +kernel
theorem d_Mo_validStep_490 : decode b_Mo_validStep 490 = .ok (.aload_n 0, 1) := by decide +kernel
theorem d_Mo_validStep_491 : decode b_Mo_validStep 491 = .ok (.iconst 0, 1) := by decide +kernel
theorem d_Mo_validStep_492 : decode b_Mo_validStep 492 = .ok (.invokevirtual 215, 3) := by decide +kernel
theorem d_Mo_validStep_495 : decode b_Mo_validStep 495 = .ok (.istore 7, 2) := by decide +kernel
theorem d_Mo_validStep_497 : decode b_Mo_validStep 497 = .ok (.aload_n 0, 1) := by decide +kernel
theorem d_Mo_validStep_498 : decode b_Mo_validStep 498 = .ok (.iload 6, 2) := by decide +kernel
theorem d_Mo_validStep_500 : decode b_Mo_validStep 500 = .ok (.iload 7, 2) := by decide +kernel
theorem d_Mo_validStep_502 : decode b_Mo_validStep 502 = .ok (.if_icmp .eq 15, 3) := by decide +kernel
theorem d_Mo_validStep_505 : decode b_Mo_validStep 505 = .ok (.iload 6, 2) := by decide +kernel
theorem d_Mo_validStep_507 : decode b_Mo_validStep 507 = .ok (.iconst (-1), 1) := by decide +kernel
theorem d_Mo_validStep_508 : decode b_Mo_validStep 508 = .ok (.if_icmp .eq 9, 3) := by decide +kernel
theorem d_Mo_validStep_511 : decode b_Mo_validStep 511 = .ok (.iload 7, 2) := by decide +kernel
theorem d_Mo_validStep_513 : decode b_Mo_validStep 513 = .ok (.iconst (-1), 1) := by decide +kernel
theorem d_Mo_validStep_514 : decode b_Mo_validStep 514 = .ok (.if_icmp .ne 7, 3) := by decide +kernel
theorem d_Mo_validStep_517 : decode b_Mo_validStep 517 = .ok (.iconst 1, 1) := by decide +kernel
theorem d_Mo_validStep_518 : decode b_Mo_validStep 518 = .ok (.goto 4, 3) := by decide +kernel
theorem d_Mo_validStep_521 : decode b_Mo_validStep 521 = .ok (.iconst 0, 1) := by decide +kernel
theorem d_Mo_validStep_522 : decode b_Mo_validStep 522 = .ok (.invokevirtual 186, 3) := by decide +kernel
theorem d_Mo_validStep_525 : decode b_Mo_validStep 525 = .ok (.aload_n 0, 1) := by decide +kernel
theorem d_Mo_validStep_526 : decode b_Mo_validStep 526 = .ok (.getfield 200, 3) := by decide +kernel
theorem d_Mo_validStep_529 : decode b_Mo_validStep 529 = .ok (.aload_n 0, 1) := by decide +kernel
theorem d_Mo_validStep_530 : decode b_Mo_validStep 530 = .ok (.getfield 203, 3) := by decide +kernel
theorem d_Mo_validStep_533 : decode b_Mo_validStep 533 = .ok (.iload 6, 2) := by decide +kernel
theorem d_Mo_validStep_535 : decode b_Mo_validStep 535 = .ok (.iconst (-1), 1) := by decide +kernel
theorem d_Mo_validStep_536 : decode b_Mo_validStep 536 = .ok (.if_icmp .ne 8, 3) := by decide +kernel
theorem d_Mo_validStep_539 : decode b_Mo_validStep 539 = .ok (.iload 7, 2) := by decide +kernel
theorem d_Mo_validStep_541 : decode b_Mo_validStep 541 = .ok (.goto 5, 3) := by decide +kernel
theorem d_Mo_validStep_544 : decode b_Mo_validStep 544 = .ok (.iload 6, 2) := by decide +kernel
theorem d_Mo_validStep_546 : decode b_Mo_validStep 546 = .ok (.iastore, 1) := by decide +kernel
theorem d_Mo_validStep_547 : decode b_Mo_validStep 547 = .ok (.aload_n 0, 1) := by decide +kernel
theorem d_Mo_validStep_548 : decode b_Mo_validStep 548 = .ok (.dup, 1) := by decide +kernel
theorem d_Mo_validStep_549 : decode b_Mo_validStep 549 = .ok (.getfield 203, 3) := by decide +kernel
theorem d_Mo_validStep_552 : decode b_Mo_validStep 552 = .ok (.iconst 1, 1) := by decide +kernel
theorem d_Mo_validStep_553 : decode b_Mo_validStep 553 = .ok (.iadd, 1) := by decide +kernel
theorem d_Mo_validStep_554 : decode b_Mo_validStep 554 = .ok (.putfield 203, 3) := by decide +kernel
theorem d_Mo_validStep_557 : decode b_Mo_validStep 557 = .ok (.goto 167, 3) := by decide +kernel
theorem d_Mo_validStep_560 : decode b_Mo_validStep 560 = .ok (.aload_n 0, 1) := by decide +kernel
theorem d_Mo_validStep_561 : decode b_Mo_validStep 561 = .ok (.aload_n 0, 1) := by decide +kernel
theorem d_Mo_validStep_562 : decode b_Mo_validStep 562 = .ok (.aload_n 0, 1) := by decide +kernel
theorem d_Mo_validStep_563 : decode b_Mo_validStep 563 = .ok (.getfield 227, 3) := by decide +kernel
theorem d_Mo_validStep_566 : decode b_Mo_validStep 566 = .ok (.aload_n 0, 1) := by decide +kernel
theorem d_Mo_validStep_567 : decode b_Mo_validStep 567 = .ok (.invokevirtual 103, 3) := by decide +kernel
theorem d_Mo_validStep_570 : decode b_Mo_validStep 570 = .ok (.i2l, 1) := by decide +kernel
theorem d_Mo_validStep_571 : decode b_Mo_validStep 571 = .ok (.invokevirtual 253, 3) := by decide +kernel
