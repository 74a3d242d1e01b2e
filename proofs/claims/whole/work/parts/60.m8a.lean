abbrev b_Mo_step : ByteArray := prog_14_method_38_code
def y_Mo_step : MethodName := ⟨R_Mo, "step", "(II)Z"⟩
abbrev b_Mo_run : ByteArray := prog_14_method_37_code
def y_Mo_run : MethodName := ⟨R_Mo, "run", "(I)V"⟩
theorem d_Mo_step_0 : decode b_Mo_step 0 = .ok (.iload_n 1, 1) := by decide +kernel
theorem d_Mo_step_1 : decode b_Mo_step 1 = .ok (.tableswitch 654 0 66 #[283, 289, 291, 291, 308, 654, 654, 654, 654, 654, 654, 654, 392, 401, 431, 436, 441, 654, 654, 654, 654, 654, 654, 654, 654, 654, 459, 471, 654, 654, 654, 654, 513, 540, 567, 601, 616, 654, 654, 654, 654, 654, 654, 654, 654, 654, 654, 654, 654, 654, 654, 654, 654, 654, 654, 654, 654, 654, 654, 654, 654, 654, 654, 654, 654, 631, 631], 283) := by decide +kernel
theorem d_Mo_step_284 : decode b_Mo_step 284 = .ok (.aload_n 0, 1) := by decide +kernel
theorem d_Mo_step_285 : decode b_Mo_step 285 = .ok (.iconst 3, 1) := by decide +kernel
theorem d_Mo_step_286 : decode b_Mo_step 286 = .ok (.invokevirtual 13, 3) := by decide +kernel
theorem d_Mo_step_289 : decode b_Mo_step 289 = .ok (.athrow, 1) := by decide +kernel
theorem d_Mo_step_290 : decode b_Mo_step 290 = .ok (.iconst 1, 1) := by decide +kernel
theorem d_Mo_step_291 : decode b_Mo_step 291 = .ok (.ireturn, 1) := by decide +kernel
theorem d_Mo_step_292 : decode b_Mo_step 292 = .ok (.aload_n 0, 1) := by decide +kernel
theorem d_Mo_step_293 : decode b_Mo_step 293 = .ok (.dup, 1) := by decide +kernel
theorem d_Mo_step_294 : decode b_Mo_step 294 = .ok (.getfield 17, 3) := by decide +kernel
theorem d_Mo_step_297 : decode b_Mo_step 297 = .ok (.iconst 1, 1) := by decide +kernel
theorem d_Mo_step_298 : decode b_Mo_step 298 = .ok (.iadd, 1) := by decide +kernel
theorem d_Mo_step_299 : decode b_Mo_step 299 = .ok (.putfield 17, 3) := by decide +kernel
theorem d_Mo_step_302 : decode b_Mo_step 302 = .ok (.aload_n 0, 1) := by decide +kernel
theorem d_Mo_step_303 : decode b_Mo_step 303 = .ok (.iload_n 2, 1) := by decide +kernel
theorem d_Mo_step_304 : decode b_Mo_step 304 = .ok (.invokevirtual 323, 3) := by decide +kernel
theorem d_Mo_step_307 : decode b_Mo_step 307 = .ok (.iconst 1, 1) := by decide +kernel
theorem d_Mo_step_308 : decode b_Mo_step 308 = .ok (.ireturn, 1) := by decide +kernel
theorem d_Mo_step_309 : decode b_Mo_step 309 = .ok (.aload_n 0, 1) := by decide +kernel
theorem d_Mo_step_310 : decode b_Mo_step 310 = .ok (.dup, 1) := by decide +kernel
theorem d_Mo_step_311 : decode b_Mo_step 311 = .ok (.getfield 17, 3) := by decide +kernel
theorem d_Mo_step_314 : decode b_Mo_step 314 = .ok (.iconst 1, 1) := by decide +kernel
theorem d_Mo_step_315 : decode b_Mo_step 315 = .ok (.iadd, 1) := by decide +kernel
theorem d_Mo_step_316 : decode b_Mo_step 316 = .ok (.putfield 17, 3) := by decide +kernel
theorem d_Mo_step_319 : decode b_Mo_step 319 = .ok (.aload_n 0, 1) := by decide +kernel
theorem d_Mo_step_320 : decode b_Mo_step 320 = .ok (.invokevirtual 301, 3) := by decide +kernel
theorem d_Mo_step_323 : decode b_Mo_step 323 = .ok (.lconst 0, 1) := by decide +kernel
theorem d_Mo_step_324 : decode b_Mo_step 324 = .ok (.lcmp, 1) := by decide +kernel
theorem d_Mo_step_325 : decode b_Mo_step 325 = .ok (.ifCond .eq 7, 3) := by decide +kernel
theorem d_Mo_step_328 : decode b_Mo_step 328 = .ok (.iconst 1, 1) := by decide +kernel
theorem d_Mo_step_329 : decode b_Mo_step 329 = .ok (.goto 4, 3) := by decide +kernel
theorem d_Mo_step_332 : decode b_Mo_step 332 = .ok (.iconst 0, 1) := by decide +kernel
theorem d_Mo_step_333 : decode b_Mo_step 333 = .ok (.istore_n 3, 1) := by decide +kernel
theorem d_Mo_step_334 : decode b_Mo_step 334 = .ok (.iload_n 3, 1) := by decide +kernel
theorem d_Mo_step_335 : decode b_Mo_step 335 = .ok (.ifCond .ne 32, 3) := by decide +kernel
theorem d_Mo_step_338 : decode b_Mo_step 338 = .ok (.aload_n 0, 1) := by decide +kernel
theorem d_Mo_step_339 : decode b_Mo_step 339 = .ok (.getfield 27, 3) := by decide +kernel
theorem d_Mo_step_342 : decode b_Mo_step 342 = .ok (.getfield 173, 3) := by decide +kernel
theorem d_Mo_step_345 : decode b_Mo_step 345 = .ok (.iload_n 2, 1) := by decide +kernel
theorem d_Mo_step_346 : decode b_Mo_step 346 = .ok (.iaload, 1) := by decide +kernel
theorem d_Mo_step_347 : decode b_Mo_step 347 = .ok (.ifCond .ge 20, 3) := by decide +kernel
theorem d_Mo_step_350 : decode b_Mo_step 350 = .ok (.aload_n 0, 1) := by decide +kernel
theorem d_Mo_step_351 : decode b_Mo_step 351 = .ok (.aload_n 0, 1) := by decide +kernel
theorem d_Mo_step_352 : decode b_Mo_step 352 = .ok (.getfield 27, 3) := by decide +kernel
theorem d_Mo_step_355 : decode b_Mo_step 355 = .ok (.getfield 176, 3) := by decide +kernel
theorem d_Mo_step_358 : decode b_Mo_step 358 = .ok (.iload_n 2, 1) := by decide +kernel
theorem d_Mo_step_359 : decode b_Mo_step 359 = .ok (.iaload, 1) := by decide +kernel
theorem d_Mo_step_360 : decode b_Mo_step 360 = .ok (.iconst 1, 1) := by decide +kernel
theorem d_Mo_step_361 : decode b_Mo_step 361 = .ok (.iadd, 1) := by decide +kernel
theorem d_Mo_step_362 : decode b_Mo_step 362 = .ok (.putfield 17, 3) := by decide +kernel
theorem d_Mo_step_365 : decode b_Mo_step 365 = .ok (.iconst 1, 1) := by decide +kernel
theorem d_Mo_step_366 : decode b_Mo_step 366 = .ok (.ireturn, 1) := by decide +kernel
theorem d_Mo_step_367 : decode b_Mo_step 367 = .ok (.aload_n 0, 1) := by decide +kernel
theorem d_Mo_step_368 : decode b_Mo_step 368 = .ok (.iload_n 2, 1) := by decide +kernel
theorem d_Mo_step_369 : decode b_Mo_step 369 = .ok (.invokevirtual 323, 3) := by decide +kernel
theorem d_Mo_step_372 : decode b_Mo_step 372 = .ok (.iload_n 3, 1) := by decide +kernel
theorem d_Mo_step_373 : decode b_Mo_step 373 = .ok (.ifCond .ne 18, 3) := by decide +kernel
theorem d_Mo_step_376 : decode b_Mo_step 376 = .ok (.aload_n 0, 1) := by decide +kernel
theorem d_Mo_step_377 : decode b_Mo_step 377 = .ok (.aload_n 0, 1) := by decide +kernel
theorem d_Mo_step_378 : decode b_Mo_step 378 = .ok (.getfield 27, 3) := by decide +kernel
theorem d_Mo_step_381 : decode b_Mo_step 381 = .ok (.getfield 173, 3) := by decide +kernel
theorem d_Mo_step_384 : decode b_Mo_step 384 = .ok (.iload_n 2, 1) := by decide +kernel
theorem d_Mo_step_385 : decode b_Mo_step 385 = .ok (.iaload, 1) := by decide +kernel
theorem d_Mo_step_386 : decode b_Mo_step 386 = .ok (.iconst 1, 1) := by decide +kernel
theorem d_Mo_step_387 : decode b_Mo_step 387 = .ok (.iadd, 1) := by decide +kernel
theorem d_Mo_step_388 : decode b_Mo_step 388 = .ok (.putfield 17, 3) := by decide +kernel
theorem d_Mo_step_391 : decode b_Mo_step 391 = .ok (.iconst 1, 1) := by decide +kernel
theorem d_Mo_step_392 : decode b_Mo_step 392 = .ok (.ireturn, 1) := by decide +kernel
theorem d_Mo_step_393 : decode b_Mo_step 393 = .ok (.aload_n 0, 1) := by decide +kernel
theorem d_Mo_step_394 : decode b_Mo_step 394 = .ok (.aload_n 0, 1) := by decide +kernel
theorem d_Mo_step_395 : decode b_Mo_step 395 = .ok (.invokevirtual 103, 3) := by decide +kernel
theorem d_Mo_step_398 : decode b_Mo_step 398 = .ok (.invokevirtual 326, 3) := by decide +kernel
theorem d_Mo_step_401 : decode b_Mo_step 401 = .ok (.ireturn, 1) := by decide +kernel
theorem d_Mo_step_402 : decode b_Mo_step 402 = .ok (.aload_n 0, 1) := by decide +kernel
theorem d_Mo_step_403 : decode b_Mo_step 403 = .ok (.invokevirtual 103, 3) := by decide +kernel
theorem d_Mo_step_406 : decode b_Mo_step 406 = .ok (.istore 4, 2) := by decide +kernel
theorem d_Mo_step_408 : decode b_Mo_step 408 = .ok (.aload_n 0, 1) := by decide +kernel
theorem d_Mo_step_409 : decode b_Mo_step 409 = .ok (.invokevirtual 301, 3) := by decide +kernel
theorem d_Mo_step_412 : decode b_Mo_step 412 = .ok (.lconst 0, 1) := by decide +kernel
theorem d_Mo_step_413 : decode b_Mo_step 413 = .ok (.lcmp, 1) := by decide +kernel
theorem d_Mo_step_414 : decode b_Mo_step 414 = .ok (.ifCond .eq 12, 3) := by decide +kernel
theorem d_Mo_step_417 : decode b_Mo_step 417 = .ok (.aload_n 0, 1) := by decide +kernel
theorem d_Mo_step_418 : decode b_Mo_step 418 = .ok (.iload 4, 2) := by decide +kernel
theorem d_Mo_step_420 : decode b_Mo_step 420 = .ok (.invokevirtual 326, 3) := by decide +kernel
theorem d_Mo_step_423 : decode b_Mo_step 423 = .ok (.ifCond .eq 7, 3) := by decide +kernel
theorem d_Mo_step_426 : decode b_Mo_step 426 = .ok (.iconst 1, 1) := by decide +kernel
theorem d_Mo_step_427 : decode b_Mo_step 427 = .ok (.goto 4, 3) := by decide +kernel
theorem d_Mo_step_430 : decode b_Mo_step 430 = .ok (.iconst 0, 1) := by decide +kernel
theorem d_Mo_step_431 : decode b_Mo_step 431 = .ok (.ireturn, 1) := by decide +kernel
theorem d_Mo_step_432 : decode b_Mo_step 432 = .ok (.aload_n 0, 1) := by decide +kernel
theorem d_Mo_step_433 : decode b_Mo_step 433 = .ok (.invokevirtual 330, 3) := by decide +kernel
theorem d_Mo_step_436 : decode b_Mo_step 436 = .ok (.ireturn, 1) := by decide +kernel
theorem d_Mo_step_437 : decode b_Mo_step 437 = .ok (.aload_n 0, 1) := by decide +kernel
theorem d_Mo_step_438 : decode b_Mo_step 438 = .ok (.invokevirtual 304, 3) := by decide +kernel
theorem d_Mo_step_441 : decode b_Mo_step 441 = .ok (.ireturn, 1) := by decide +kernel
theorem d_Mo_step_442 : decode b_Mo_step 442 = .ok (.aload_n 0, 1) := by decide +kernel
theorem d_Mo_step_443 : decode b_Mo_step 443 = .ok (.invokevirtual 103, 3) := by decide +kernel
theorem d_Mo_step_446 : decode b_Mo_step 446 = .ok (.istore 5, 2) := by decide +kernel
theorem d_Mo_step_448 : decode b_Mo_step 448 = .ok (.aload_n 0, 1) := by decide +kernel
theorem d_Mo_step_449 : decode b_Mo_step 449 = .ok (.iload 5, 2) := by decide +kernel
theorem d_Mo_step_451 : decode b_Mo_step 451 = .ok (.aload_n 0, 1) := by decide +kernel
theorem d_Mo_step_452 : decode b_Mo_step 452 = .ok (.getfield 17, 3) := by decide +kernel
theorem d_Mo_step_455 : decode b_Mo_step 455 = .ok (.invokevirtual 314, 3) := by decide +kernel
theorem d_Mo_step_458 : decode b_Mo_step 458 = .ok (.iconst 1, 1) := by decide +kernel
theorem d_Mo_step_459 : decode b_Mo_step 459 = .ok (.ireturn, 1) := by decide +kernel
theorem d_Mo_step_460 : decode b_Mo_step 460 = .ok (.aload_n 0, 1) := by decide +kernel
theorem d_Mo_step_461 : decode b_Mo_step 461 = .ok (.dup, 1) := by decide +kernel
theorem d_Mo_step_462 : decode b_Mo_step 462 = .ok (.getfield 263, 3) := by decide +kernel
theorem d_Mo_step_465 : decode b_Mo_step 465 = .ok (.iconst 1, 1) := by decide +kernel
