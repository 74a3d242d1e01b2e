theorem d_Mo_sectionOf_273 : decode b_Mo_sectionOf 273 = .ok (.iconst 1, 1) := by decide +kernel
theorem d_Mo_sectionOf_274 : decode b_Mo_sectionOf 274 = .ok (.goto 4, 3) := by decide +kernel
theorem d_Mo_sectionOf_277 : decode b_Mo_sectionOf 277 = .ok (.iconst 0, 1) := by decide +kernel
theorem d_Mo_sectionOf_278 : decode b_Mo_sectionOf 278 = .ok (.invokevirtual 23, 3) := by decide +kernel
theorem d_Mo_sectionOf_281 : decode b_Mo_sectionOf 281 = .ok (.aload_n 0, 1) := by decide +kernel
theorem d_Mo_sectionOf_282 : decode b_Mo_sectionOf 282 = .ok (.getfield 27, 3) := by decide +kernel
theorem d_Mo_sectionOf_285 : decode b_Mo_sectionOf 285 = .ok (.iload_n 2, 1) := by decide +kernel
theorem d_Mo_sectionOf_286 : decode b_Mo_sectionOf 286 = .ok (.iconst 1, 1) := by decide +kernel
theorem d_Mo_sectionOf_287 : decode b_Mo_sectionOf 287 = .ok (.if_icmp .ne 7, 3) := by decide +kernel
theorem d_Mo_sectionOf_290 : decode b_Mo_sectionOf 290 = .ok (.iconst 1, 1) := by decide +kernel
theorem d_Mo_sectionOf_291 : decode b_Mo_sectionOf 291 = .ok (.goto 4, 3) := by decide +kernel
theorem d_Mo_sectionOf_294 : decode b_Mo_sectionOf 294 = .ok (.iconst 0, 1) := by decide +kernel
theorem d_Mo_sectionOf_295 : decode b_Mo_sectionOf 295 = .ok (.putfield 106, 3) := by decide +kernel
theorem d_Mo_sectionOf_298 : decode b_Mo_sectionOf 298 = .ok (.aload_n 0, 1) := by decide +kernel
theorem d_Mo_sectionOf_299 : decode b_Mo_sectionOf 299 = .ok (.getfield 27, 3) := by decide +kernel
theorem d_Mo_sectionOf_302 : decode b_Mo_sectionOf 302 = .ok (.aload_n 0, 1) := by decide +kernel
theorem d_Mo_sectionOf_303 : decode b_Mo_sectionOf 303 = .ok (.invokevirtual 41, 3) := by decide +kernel
theorem d_Mo_sectionOf_306 : decode b_Mo_sectionOf 306 = .ok (.putfield 110, 3) := by decide +kernel
theorem d_Mo_sectionOf_309 : decode b_Mo_sectionOf 309 = .ok (.aload_n 0, 1) := by decide +kernel
theorem d_Mo_sectionOf_310 : decode b_Mo_sectionOf 310 = .ok (.getfield 27, 3) := by decide +kernel
theorem d_Mo_sectionOf_313 : decode b_Mo_sectionOf 313 = .ok (.aload_n 0, 1) := by decide +kernel
theorem d_Mo_sectionOf_314 : decode b_Mo_sectionOf 314 = .ok (.getfield 27, 3) := by decide +kernel
theorem d_Mo_sectionOf_317 : decode b_Mo_sectionOf 317 = .ok (.getfield 106, 3) := by decide +kernel
theorem d_Mo_sectionOf_320 : decode b_Mo_sectionOf 320 = .ok (.ifCond .eq 10, 3) := by decide +kernel
theorem d_Mo_sectionOf_323 : decode b_Mo_sectionOf 323 = .ok (.aload_n 0, 1) := by decide +kernel
theorem d_Mo_sectionOf_324 : decode b_Mo_sectionOf 324 = .ok (.invokevirtual 41, 3) := by decide +kernel
theorem d_Mo_sectionOf_327 : decode b_Mo_sectionOf 327 = .ok (.goto 6, 3) := by decide +kernel
theorem d_Mo_sectionOf_330 : decode b_Mo_sectionOf 330 = .ok (.ldc2_w 114, 3) := by decide +kernel
theorem d_Mo_sectionOf_333 : decode b_Mo_sectionOf 333 = .ok (.putfield 116, 3) := by decide +kernel
theorem d_Mo_sectionOf_336 : decode b_Mo_sectionOf 336 = .ok (.goto 278, 3) := by decide +kernel
theorem d_Mo_sectionOf_339 : decode b_Mo_sectionOf 339 = .ok (.aload_n 0, 1) := by decide +kernel
theorem d_Mo_sectionOf_340 : decode b_Mo_sectionOf 340 = .ok (.getfield 27, 3) := by decide +kernel
theorem d_Mo_sectionOf_343 : decode b_Mo_sectionOf 343 = .ok (.aload_n 0, 1) := by decide +kernel
theorem d_Mo_sectionOf_344 : decode b_Mo_sectionOf 344 = .ok (.ldc2_w 80, 3) := by decide +kernel
theorem d_Mo_sectionOf_347 : decode b_Mo_sectionOf 347 = .ok (.invokevirtual 47, 3) := by decide +kernel
theorem d_Mo_sectionOf_350 : decode b_Mo_sectionOf 350 = .ok (.putfield 66, 3) := by decide +kernel
theorem d_Mo_sectionOf_353 : decode b_Mo_sectionOf 353 = .ok (.iconst 0, 1) := by decide +kernel
theorem d_Mo_sectionOf_354 : decode b_Mo_sectionOf 354 = .ok (.istore_n 3, 1) := by decide +kernel
theorem d_Mo_sectionOf_355 : decode b_Mo_sectionOf 355 = .ok (.iload_n 3, 1) := by decide +kernel
theorem d_Mo_sectionOf_356 : decode b_Mo_sectionOf 356 = .ok (.aload_n 0, 1) := by decide +kernel
theorem d_Mo_sectionOf_357 : decode b_Mo_sectionOf 357 = .ok (.getfield 27, 3) := by decide +kernel
theorem d_Mo_sectionOf_360 : decode b_Mo_sectionOf 360 = .ok (.getfield 66, 3) := by decide +kernel
theorem d_Mo_sectionOf_363 : decode b_Mo_sectionOf 363 = .ok (.if_icmp .ge 14, 3) := by decide +kernel
theorem d_Mo_sectionOf_366 : decode b_Mo_sectionOf 366 = .ok (.aload_n 0, 1) := by decide +kernel
theorem d_Mo_sectionOf_367 : decode b_Mo_sectionOf 367 = .ok (.iload_n 3, 1) := by decide +kernel
theorem d_Mo_sectionOf_368 : decode b_Mo_sectionOf 368 = .ok (.invokevirtual 119, 3) := by decide +kernel
theorem d_Mo_sectionOf_371 : decode b_Mo_sectionOf 371 = .ok (.iinc 3 1, 3) := by decide +kernel
theorem d_Mo_sectionOf_374 : decode b_Mo_sectionOf 374 = .ok (.goto (-19), 3) := by decide +kernel
theorem d_Mo_sectionOf_377 : decode b_Mo_sectionOf 377 = .ok (.goto 237, 3) := by decide +kernel
theorem d_Mo_sectionOf_380 : decode b_Mo_sectionOf 380 = .ok (.aload_n 0, 1) := by decide +kernel
theorem d_Mo_sectionOf_381 : decode b_Mo_sectionOf 381 = .ok (.getfield 27, 3) := by decide +kernel
theorem d_Mo_sectionOf_384 : decode b_Mo_sectionOf 384 = .ok (.aload_n 0, 1) := by decide +kernel
theorem d_Mo_sectionOf_385 : decode b_Mo_sectionOf 385 = .ok (.ldc2_w 122, 3) := by decide +kernel
theorem d_Mo_sectionOf_388 : decode b_Mo_sectionOf 388 = .ok (.invokevirtual 47, 3) := by decide +kernel
theorem d_Mo_sectionOf_391 : decode b_Mo_sectionOf 391 = .ok (.putfield 69, 3) := by decide +kernel
theorem d_Mo_sectionOf_394 : decode b_Mo_sectionOf 394 = .ok (.iconst 0, 1) := by decide +kernel
theorem d_Mo_sectionOf_395 : decode b_Mo_sectionOf 395 = .ok (.istore_n 3, 1) := by decide +kernel
theorem d_Mo_sectionOf_396 : decode b_Mo_sectionOf 396 = .ok (.iload_n 3, 1) := by decide +kernel
theorem d_Mo_sectionOf_397 : decode b_Mo_sectionOf 397 = .ok (.aload_n 0, 1) := by decide +kernel
theorem d_Mo_sectionOf_398 : decode b_Mo_sectionOf 398 = .ok (.getfield 27, 3) := by decide +kernel
theorem d_Mo_sectionOf_401 : decode b_Mo_sectionOf 401 = .ok (.getfield 69, 3) := by decide +kernel
theorem d_Mo_sectionOf_404 : decode b_Mo_sectionOf 404 = .ok (.if_icmp .ge 160, 3) := by decide +kernel
theorem d_Mo_sectionOf_407 : decode b_Mo_sectionOf 407 = .ok (.aload_n 0, 1) := by decide +kernel
theorem d_Mo_sectionOf_408 : decode b_Mo_sectionOf 408 = .ok (.getfield 27, 3) := by decide +kernel
theorem d_Mo_sectionOf_411 : decode b_Mo_sectionOf 411 = .ok (.getfield 124, 3) := by decide +kernel
theorem d_Mo_sectionOf_414 : decode b_Mo_sectionOf 414 = .ok (.iload_n 3, 1) := by decide +kernel
theorem d_Mo_sectionOf_415 : decode b_Mo_sectionOf 415 = .ok (.aload_n 0, 1) := by decide +kernel
theorem d_Mo_sectionOf_416 : decode b_Mo_sectionOf 416 = .ok (.ldc2_w 97, 3) := by decide +kernel
theorem d_Mo_sectionOf_419 : decode b_Mo_sectionOf 419 = .ok (.invokevirtual 47, 3) := by decide +kernel
theorem d_Mo_sectionOf_422 : decode b_Mo_sectionOf 422 = .ok (.iastore, 1) := by decide +kernel
theorem d_Mo_sectionOf_423 : decode b_Mo_sectionOf 423 = .ok (.aload_n 0, 1) := by decide +kernel
theorem d_Mo_sectionOf_424 : decode b_Mo_sectionOf 424 = .ok (.getfield 27, 3) := by decide +kernel
theorem d_Mo_sectionOf_427 : decode b_Mo_sectionOf 427 = .ok (.getfield 127, 3) := by decide +kernel
theorem d_Mo_sectionOf_430 : decode b_Mo_sectionOf 430 = .ok (.iload_n 3, 1) := by decide +kernel
theorem d_Mo_sectionOf_431 : decode b_Mo_sectionOf 431 = .ok (.aload_n 0, 1) := by decide +kernel
theorem d_Mo_sectionOf_432 : decode b_Mo_sectionOf 432 = .ok (.getfield 17, 3) := by decide +kernel
theorem d_Mo_sectionOf_435 : decode b_Mo_sectionOf 435 = .ok (.iastore, 1) := by decide +kernel
theorem d_Mo_sectionOf_436 : decode b_Mo_sectionOf 436 = .ok (.aload_n 0, 1) := by decide +kernel
theorem d_Mo_sectionOf_437 : decode b_Mo_sectionOf 437 = .ok (.aload_n 0, 1) := by decide +kernel
theorem d_Mo_sectionOf_438 : decode b_Mo_sectionOf 438 = .ok (.getfield 27, 3) := by decide +kernel
theorem d_Mo_sectionOf_441 : decode b_Mo_sectionOf 441 = .ok (.getfield 124, 3) := by decide +kernel
theorem d_Mo_sectionOf_444 : decode b_Mo_sectionOf 444 = .ok (.iload_n 3, 1) := by decide +kernel
theorem d_Mo_sectionOf_445 : decode b_Mo_sectionOf 445 = .ok (.iaload, 1) := by decide +kernel
theorem d_Mo_sectionOf_446 : decode b_Mo_sectionOf 446 = .ok (.aload_n 0, 1) := by decide +kernel
theorem d_Mo_sectionOf_447 : decode b_Mo_sectionOf 447 = .ok (.getfield 20, 3) := by decide +kernel
theorem d_Mo_sectionOf_450 : decode b_Mo_sectionOf 450 = .ok (.aload_n 0, 1) := by decide +kernel
theorem d_Mo_sectionOf_451 : decode b_Mo_sectionOf 451 = .ok (.getfield 17, 3) := by decide +kernel
theorem d_Mo_sectionOf_454 : decode b_Mo_sectionOf 454 = .ok (.isub, 1) := by decide +kernel
theorem d_Mo_sectionOf_455 : decode b_Mo_sectionOf 455 = .ok (.if_icmp .gt 7, 3) := by decide +kernel
theorem d_Mo_sectionOf_458 : decode b_Mo_sectionOf 458 = .ok (.iconst 1, 1) := by decide +kernel
theorem d_Mo_sectionOf_459 : decode b_Mo_sectionOf 459 = .ok (.goto 4, 3) := by decide +kernel
theorem d_Mo_sectionOf_462 : decode b_Mo_sectionOf 462 = .ok (.iconst 0, 1) := by decide +kernel
theorem d_Mo_sectionOf_463 : decode b_Mo_sectionOf 463 = .ok (.invokevirtual 23, 3) := by decide +kernel
theorem d_Mo_sectionOf_466 : decode b_Mo_sectionOf 466 = .ok (.aload_n 0, 1) := by decide +kernel
theorem d_Mo_sectionOf_467 : decode b_Mo_sectionOf 467 = .ok (.dup, 1) := by decide +kernel
theorem d_Mo_sectionOf_468 : decode b_Mo_sectionOf 468 = .ok (.getfield 17, 3) := by decide +kernel
theorem d_Mo_sectionOf_471 : decode b_Mo_sectionOf 471 = .ok (.aload_n 0, 1) := by decide +kernel
theorem d_Mo_sectionOf_472 : decode b_Mo_sectionOf 472 = .ok (.getfield 27, 3) := by decide +kernel
theorem d_Mo_sectionOf_475 : decode b_Mo_sectionOf 475 = .ok (.getfield 124, 3) := by decide +kernel
theorem d_Mo_sectionOf_478 : decode b_Mo_sectionOf 478 = .ok (.iload_n 3, 1) := by decide +kernel
theorem d_Mo_sectionOf_479 : decode b_Mo_sectionOf 479 = .ok (.iaload, 1) := by decide +kernel
theorem d_Mo_sectionOf_480 : decode b_Mo_sectionOf 480 = .ok (.iadd, 1) := by decide +kernel
theorem d_Mo_sectionOf_481 : decode b_Mo_sectionOf 481 = .ok (.putfield 17, 3) := by decide +kernel
theorem d_Mo_sectionOf_484 : decode b_Mo_sectionOf 484 = .ok (.aload_n 0, 1) := by decide +kernel
theorem d_Mo_sectionOf_485 : decode b_Mo_sectionOf 485 = .ok (.getfield 27, 3) := by decide +kernel
theorem d_Mo_sectionOf_488 : decode b_Mo_sectionOf 488 = .ok (.getfield 130, 3) := by decide +kernel
theorem d_Mo_sectionOf_491 : decode b_Mo_sectionOf 491 = .ok (.iload_n 3, 1) := by decide +kernel
theorem d_Mo_sectionOf_492 : decode b_Mo_sectionOf 492 = .ok (.aload_n 0, 1) := by decide +kernel
theorem d_Mo_sectionOf_493 : decode b_Mo_sectionOf 493 = .ok (.invokevirtual 37, 3) := by decide +kernel
theorem d_Mo_sectionOf_496 : decode b_Mo_sectionOf 496 = .ok (.iastore, 1) := by decide +kernel
