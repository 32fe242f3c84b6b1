theorem dX10_passes_310 : decode cX10_passes 310 = .ok (.pop, 1) := by decide +kernel
theorem dX10_passes_311 : decode cX10_passes 311 = .ok (.iinc 3 1, 3) := by decide +kernel
theorem dX10_passes_314 : decode cX10_passes 314 = .ok (.goto (-144), 3) := by decide +kernel
theorem dX10_passes_317 : decode cX10_passes 317 = .ok (.iconst 0, 1) := by decide +kernel
theorem dX10_passes_318 : decode cX10_passes 318 = .ok (.istore_n 3, 1) := by decide +kernel
theorem dX10_passes_319 : decode cX10_passes 319 = .ok (.iload_n 3, 1) := by decide +kernel
theorem dX10_passes_320 : decode cX10_passes 320 = .ok (.aload_n 0, 1) := by decide +kernel
theorem dX10_passes_321 : decode cX10_passes 321 = .ok (.getfield 52, 3) := by decide +kernel
theorem dX10_passes_324 : decode cX10_passes 324 = .ok (.if_icmp .ge 144, 3) := by decide +kernel
theorem dX10_passes_327 : decode cX10_passes 327 = .ok (.aload_n 0, 1) := by decide +kernel
theorem dX10_passes_328 : decode cX10_passes 328 = .ok (.getfield 18, 3) := by decide +kernel
theorem dX10_passes_331 : decode cX10_passes 331 = .ok (.iload_n 3, 1) := by decide +kernel
theorem dX10_passes_332 : decode cX10_passes 332 = .ok (.aaload, 1) := by decide +kernel
theorem dX10_passes_333 : decode cX10_passes 333 = .ok (.iconst 2, 1) := by decide +kernel
theorem dX10_passes_334 : decode cX10_passes 334 = .ok (.iaload, 1) := by decide +kernel
theorem dX10_passes_335 : decode cX10_passes 335 = .ok (.iconst 1, 1) := by decide +kernel
theorem dX10_passes_336 : decode cX10_passes 336 = .ok (.if_icmp .ne 6, 3) := by decide +kernel
theorem dX10_passes_339 : decode cX10_passes 339 = .ok (.goto 123, 3) := by decide +kernel
theorem dX10_passes_342 : decode cX10_passes 342 = .ok (.aload_n 0, 1) := by decide +kernel
theorem dX10_passes_343 : decode cX10_passes 343 = .ok (.getfield 18, 3) := by decide +kernel
theorem dX10_passes_346 : decode cX10_passes 346 = .ok (.iload_n 3, 1) := by decide +kernel
theorem dX10_passes_347 : decode cX10_passes 347 = .ok (.aaload, 1) := by decide +kernel
theorem dX10_passes_348 : decode cX10_passes 348 = .ok (.iconst 1, 1) := by decide +kernel
theorem dX10_passes_349 : decode cX10_passes 349 = .ok (.sipush 9999, 3) := by decide +kernel
theorem dX10_passes_352 : decode cX10_passes 352 = .ok (.aload_n 0, 1) := by decide +kernel
theorem dX10_passes_353 : decode cX10_passes 353 = .ok (.getfield 18, 3) := by decide +kernel
theorem dX10_passes_356 : decode cX10_passes 356 = .ok (.iload_n 3, 1) := by decide +kernel
theorem dX10_passes_357 : decode cX10_passes 357 = .ok (.aaload, 1) := by decide +kernel
theorem dX10_passes_358 : decode cX10_passes 358 = .ok (.iconst 1, 1) := by decide +kernel
theorem dX10_passes_359 : decode cX10_passes 359 = .ok (.iaload, 1) := by decide +kernel
theorem dX10_passes_360 : decode cX10_passes 360 = .ok (.iconst 1, 1) := by decide +kernel
theorem dX10_passes_361 : decode cX10_passes 361 = .ok (.iadd, 1) := by decide +kernel
theorem dX10_passes_362 : decode cX10_passes 362 = .ok (.invokestatic 103, 3) := by decide +kernel
theorem dX10_passes_365 : decode cX10_passes 365 = .ok (.iastore, 1) := by decide +kernel
theorem dX10_passes_366 : decode cX10_passes 366 = .ok (.aload_n 0, 1) := by decide +kernel
theorem dX10_passes_367 : decode cX10_passes 367 = .ok (.getfield 18, 3) := by decide +kernel
theorem dX10_passes_370 : decode cX10_passes 370 = .ok (.iload_n 3, 1) := by decide +kernel
theorem dX10_passes_371 : decode cX10_passes 371 = .ok (.aaload, 1) := by decide +kernel
theorem dX10_passes_372 : decode cX10_passes 372 = .ok (.iconst 1, 1) := by decide +kernel
theorem dX10_passes_373 : decode cX10_passes 373 = .ok (.iaload, 1) := by decide +kernel
theorem dX10_passes_374 : decode cX10_passes 374 = .ok (.aload_n 0, 1) := by decide +kernel
theorem dX10_passes_375 : decode cX10_passes 375 = .ok (.iconst 0, 1) := by decide +kernel
theorem dX10_passes_376 : decode cX10_passes 376 = .ok (.iload_n 3, 1) := by decide +kernel
theorem dX10_passes_377 : decode cX10_passes 377 = .ok (.iconst 0, 1) := by decide +kernel
theorem dX10_passes_378 : decode cX10_passes 378 = .ok (.invokevirtual 89, 3) := by decide +kernel
theorem dX10_passes_381 : decode cX10_passes 381 = .ok (.if_icmp .ge 6, 3) := by decide +kernel
theorem dX10_passes_384 : decode cX10_passes 384 = .ok (.goto 78, 3) := by decide +kernel
theorem dX10_passes_387 : decode cX10_passes 387 = .ok (.aload_n 0, 1) := by decide +kernel
theorem dX10_passes_388 : decode cX10_passes 388 = .ok (.getfield 18, 3) := by decide +kernel
theorem dX10_passes_391 : decode cX10_passes 391 = .ok (.iload_n 3, 1) := by decide +kernel
theorem dX10_passes_392 : decode cX10_passes 392 = .ok (.aaload, 1) := by decide +kernel
theorem dX10_passes_393 : decode cX10_passes 393 = .ok (.iconst 2, 1) := by decide +kernel
theorem dX10_passes_394 : decode cX10_passes 394 = .ok (.iconst 1, 1) := by decide +kernel
theorem dX10_passes_395 : decode cX10_passes 395 = .ok (.iastore, 1) := by decide +kernel
theorem dX10_passes_396 : decode cX10_passes 396 = .ok (.iconst 0, 1) := by decide +kernel
theorem dX10_passes_397 : decode cX10_passes 397 = .ok (.istore 4, 2) := by decide +kernel
theorem dX10_passes_399 : decode cX10_passes 399 = .ok (.iload 4, 2) := by decide +kernel
theorem dX10_passes_401 : decode cX10_passes 401 = .ok (.aload_n 0, 1) := by decide +kernel
theorem dX10_passes_402 : decode cX10_passes 402 = .ok (.getfield 55, 3) := by decide +kernel
theorem dX10_passes_405 : decode cX10_passes 405 = .ok (.if_icmp .ge 26, 3) := by decide +kernel
theorem dX10_passes_408 : decode cX10_passes 408 = .ok (.aload_n 0, 1) := by decide +kernel
theorem dX10_passes_409 : decode cX10_passes 409 = .ok (.getfield 22, 3) := by decide +kernel
theorem dX10_passes_412 : decode cX10_passes 412 = .ok (.iload 4, 2) := by decide +kernel
theorem dX10_passes_414 : decode cX10_passes 414 = .ok (.aaload, 1) := by decide +kernel
theorem dX10_passes_415 : decode cX10_passes 415 = .ok (.iconst 1, 1) := by decide +kernel
theorem dX10_passes_416 : decode cX10_passes 416 = .ok (.dup2, 1) := by decide +kernel
theorem dX10_passes_417 : decode cX10_passes 417 = .ok (.iaload, 1) := by decide +kernel
theorem dX10_passes_418 : decode cX10_passes 418 = .ok (.iconst 1, 1) := by decide +kernel
theorem dX10_passes_419 : decode cX10_passes 419 = .ok (.iload_n 3, 1) := by decide +kernel
theorem dX10_passes_420 : decode cX10_passes 420 = .ok (.ishl, 1) := by decide +kernel
theorem dX10_passes_421 : decode cX10_passes 421 = .ok (.iconst (-1), 1) := by decide +kernel
theorem dX10_passes_422 : decode cX10_passes 422 = .ok (.ixor, 1) := by decide +kernel
theorem dX10_passes_423 : decode cX10_passes 423 = .ok (.iand, 1) := by decide +kernel
theorem dX10_passes_424 : decode cX10_passes 424 = .ok (.iastore, 1) := by decide +kernel
theorem dX10_passes_425 : decode cX10_passes 425 = .ok (.iinc 4 1, 3) := by decide +kernel
theorem dX10_passes_428 : decode cX10_passes 428 = .ok (.goto (-29), 3) := by decide +kernel
theorem dX10_passes_431 : decode cX10_passes 431 = .ok (.aload_n 0, 1) := by decide +kernel
theorem dX10_passes_432 : decode cX10_passes 432 = .ok (.iconst 2, 1) := by decide +kernel
theorem dX10_passes_433 : decode cX10_passes 433 = .ok (.iconst (-1), 1) := by decide +kernel
theorem dX10_passes_434 : decode cX10_passes 434 = .ok (.iload_n 3, 1) := by decide +kernel
theorem dX10_passes_435 : decode cX10_passes 435 = .ok (.iload_n 1, 1) := by decide +kernel
theorem dX10_passes_436 : decode cX10_passes 436 = .ok (.invokevirtual 92, 3) := by decide +kernel
theorem dX10_passes_439 : decode cX10_passes 439 = .ok (.iinc 2 1, 3) := by decide +kernel
theorem dX10_passes_442 : decode cX10_passes 442 = .ok (.aload_n 0, 1) := by decide +kernel
theorem dX10_passes_443 : decode cX10_passes 443 = .ok (.getfield 7, 3) := by decide +kernel
theorem dX10_passes_446 : decode cX10_passes 446 = .ok (.ifCond .ge 16, 3) := by decide +kernel
theorem dX10_passes_449 : decode cX10_passes 449 = .ok (.aload_n 0, 1) := by decide +kernel
theorem dX10_passes_450 : decode cX10_passes 450 = .ok (.iload_n 3, 1) := by decide +kernel
theorem dX10_passes_451 : decode cX10_passes 451 = .ok (.putfield 7, 3) := by decide +kernel
theorem dX10_passes_454 : decode cX10_passes 454 = .ok (.aload_n 0, 1) := by decide +kernel
theorem dX10_passes_455 : decode cX10_passes 455 = .ok (.aload_n 0, 1) := by decide +kernel
theorem dX10_passes_456 : decode cX10_passes 456 = .ok (.getfield 46, 3) := by decide +kernel
theorem dX10_passes_459 : decode cX10_passes 459 = .ok (.putfield 13, 3) := by decide +kernel
theorem dX10_passes_462 : decode cX10_passes 462 = .ok (.iinc 3 1, 3) := by decide +kernel
theorem dX10_passes_465 : decode cX10_passes 465 = .ok (.goto (-146), 3) := by decide +kernel
theorem dX10_passes_468 : decode cX10_passes 468 = .ok (.iconst 0, 1) := by decide +kernel
theorem dX10_passes_469 : decode cX10_passes 469 = .ok (.istore_n 3, 1) := by decide +kernel
theorem dX10_passes_470 : decode cX10_passes 470 = .ok (.iload_n 3, 1) := by decide +kernel
theorem dX10_passes_471 : decode cX10_passes 471 = .ok (.aload_n 0, 1) := by decide +kernel
theorem dX10_passes_472 : decode cX10_passes 472 = .ok (.getfield 55, 3) := by decide +kernel
theorem dX10_passes_475 : decode cX10_passes 475 = .ok (.if_icmp .ge 32, 3) := by decide +kernel
theorem dX10_passes_478 : decode cX10_passes 478 = .ok (.aload_n 0, 1) := by decide +kernel
theorem dX10_passes_479 : decode cX10_passes 479 = .ok (.getfield 22, 3) := by decide +kernel
theorem dX10_passes_482 : decode cX10_passes 482 = .ok (.iload_n 3, 1) := by decide +kernel
theorem dX10_passes_483 : decode cX10_passes 483 = .ok (.aaload, 1) := by decide +kernel
theorem dX10_passes_484 : decode cX10_passes 484 = .ok (.iconst 2, 1) := by decide +kernel
theorem dX10_passes_485 : decode cX10_passes 485 = .ok (.bipush 99, 2) := by decide +kernel
theorem dX10_passes_487 : decode cX10_passes 487 = .ok (.aload_n 0, 1) := by decide +kernel
theorem dX10_passes_488 : decode cX10_passes 488 = .ok (.getfield 22, 3) := by decide +kernel
theorem dX10_passes_491 : decode cX10_passes 491 = .ok (.iload_n 3, 1) := by decide +kernel
theorem dX10_passes_492 : decode cX10_passes 492 = .ok (.aaload, 1) := by decide +kernel
theorem dX10_passes_493 : decode cX10_passes 493 = .ok (.iconst 2, 1) := by decide +kernel
theorem dX10_passes_494 : decode cX10_passes 494 = .ok (.iaload, 1) := by decide +kernel
theorem dX10_passes_495 : decode cX10_passes 495 = .ok (.iconst 5, 1) := by decide +kernel
theorem dX10_passes_496 : decode cX10_passes 496 = .ok (.iadd, 1) := by decide +kernel
theorem dX10_passes_497 : decode cX10_passes 497 = .ok (.invokestatic 103, 3) := by decide +kernel
theorem dX10_passes_500 : decode cX10_passes 500 = .ok (.iastore, 1) := by decide +kernel
theorem dX10_passes_501 : decode cX10_passes 501 = .ok (.iinc 3 1, 3) := by decide +kernel
theorem dX10_passes_504 : decode cX10_passes 504 = .ok (.goto (-34), 3) := by decide +kernel
theorem dX10_passes_507 : decode cX10_passes 507 = .ok (.aload_n 0, 1) := by decide +kernel
theorem dX10_passes_508 : decode cX10_passes 508 = .ok (.dup, 1) := by decide +kernel
theorem dX10_passes_509 : decode cX10_passes 509 = .ok (.getfield 46, 3) := by decide +kernel
theorem dX10_passes_512 : decode cX10_passes 512 = .ok (.iconst 1, 1) := by decide +kernel
theorem dX10_passes_513 : decode cX10_passes 513 = .ok (.iadd, 1) := by decide +kernel
theorem dX10_passes_514 : decode cX10_passes 514 = .ok (.putfield 46, 3) := by decide +kernel
theorem dX10_passes_517 : decode cX10_passes 517 = .ok (.iload_n 2, 1) := by decide +kernel
theorem dX10_passes_518 : decode cX10_passes 518 = .ok (.ireturn, 1) := by decide +kernel
theorem dX10_set_0 : decode cX10_set 0 = .ok (.iconst 0, 1) := by decide +kernel
theorem dX10_set_1 : decode cX10_set 1 = .ok (.istore_n 1, 1) := by decide +kernel
theorem dX10_set_2 : decode cX10_set 2 = .ok (.aload_n 0, 1) := by decide +kernel
theorem dX10_set_3 : decode cX10_set 3 = .ok (.astore_n 2, 1) := by decide +kernel
theorem dX10_set_4 : decode cX10_set 4 = .ok (.aload_n 2, 1) := by decide +kernel
theorem dX10_set_5 : decode cX10_set 5 = .ok (.arraylength, 1) := by decide +kernel
theorem dX10_set_6 : decode cX10_set 6 = .ok (.istore_n 3, 1) := by decide +kernel
theorem dX10_set_7 : decode cX10_set 7 = .ok (.iconst 0, 1) := by decide +kernel
theorem dX10_set_8 : decode cX10_set 8 = .ok (.istore 4, 2) := by decide +kernel
theorem dX10_set_10 : decode cX10_set 10 = .ok (.iload 4, 2) := by decide +kernel
theorem dX10_set_12 : decode cX10_set 12 = .ok (.iload_n 3, 1) := by decide +kernel
theorem dX10_set_13 : decode cX10_set 13 = .ok (.if_icmp .ge 22, 3) := by decide +kernel
theorem dX10_set_16 : decode cX10_set 16 = .ok (.aload_n 2, 1) := by decide +kernel
theorem dX10_set_17 : decode cX10_set 17 = .ok (.iload 4, 2) := by decide +kernel
theorem dX10_set_19 : decode cX10_set 19 = .ok (.iaload, 1) := by decide +kernel
theorem dX10_set_20 : decode cX10_set 20 = .ok (.istore 5, 2) := by decide +kernel
theorem dX10_set_22 : decode cX10_set 22 = .ok (.iload_n 1, 1) := by decide +kernel
theorem dX10_set_23 : decode cX10_set 23 = .ok (.iconst 1, 1) := by decide +kernel
theorem dX10_set_24 : decode cX10_set 24 = .ok (.iload 5, 2) := by decide +kernel
theorem dX10_set_26 : decode cX10_set 26 = .ok (.ishl, 1) := by decide +kernel
theorem dX10_set_27 : decode cX10_set 27 = .ok (.ior, 1) := by decide +kernel
theorem dX10_set_28 : decode cX10_set 28 = .ok (.istore_n 1, 1) := by decide +kernel
theorem dX10_set_29 : decode cX10_set 29 = .ok (.iinc 4 1, 3) := by decide +kernel
theorem dX10_set_32 : decode cX10_set 32 = .ok (.goto (-22), 3) := by decide +kernel
theorem dX10_set_35 : decode cX10_set 35 = .ok (.iload_n 1, 1) := by decide +kernel
theorem dX10_set_36 : decode cX10_set 36 = .ok (.ireturn, 1) := by decide +kernel
theorem dX10_said_0 : decode cX10_said 0 = .ok (.iconst 0, 1) := by decide +kernel
theorem dX10_said_1 : decode cX10_said 1 = .ok (.istore_n 2, 1) := by decide +kernel
theorem dX10_said_2 : decode cX10_said 2 = .ok (.iconst 0, 1) := by decide +kernel
theorem dX10_said_3 : decode cX10_said 3 = .ok (.istore_n 3, 1) := by decide +kernel
theorem dX10_said_4 : decode cX10_said 4 = .ok (.iload_n 3, 1) := by decide +kernel
theorem dX10_said_5 : decode cX10_said 5 = .ok (.aload_n 0, 1) := by decide +kernel
theorem dX10_said_6 : decode cX10_said 6 = .ok (.getfield 38, 3) := by decide +kernel
theorem dX10_said_9 : decode cX10_said 9 = .ok (.arraylength, 1) := by decide +kernel
theorem dX10_said_10 : decode cX10_said 10 = .ok (.if_icmp .ge 63, 3) := by decide +kernel
theorem dX10_said_13 : decode cX10_said 13 = .ok (.aload_n 0, 1) := by decide +kernel
theorem dX10_said_14 : decode cX10_said 14 = .ok (.getfield 38, 3) := by decide +kernel
theorem dX10_said_17 : decode cX10_said 17 = .ok (.iload_n 3, 1) := by decide +kernel
theorem dX10_said_18 : decode cX10_said 18 = .ok (.aaload, 1) := by decide +kernel
theorem dX10_said_19 : decode cX10_said 19 = .ok (.astore 4, 2) := by decide +kernel
theorem dX10_said_21 : decode cX10_said 21 = .ok (.aload 4, 2) := by decide +kernel
theorem dX10_said_23 : decode cX10_said 23 = .ok (.arraylength, 1) := by decide +kernel
theorem dX10_said_24 : decode cX10_said 24 = .ok (.istore 5, 2) := by decide +kernel
theorem dX10_said_26 : decode cX10_said 26 = .ok (.iconst 0, 1) := by decide +kernel
theorem dX10_said_27 : decode cX10_said 27 = .ok (.istore 6, 2) := by decide +kernel
theorem dX10_said_29 : decode cX10_said 29 = .ok (.iload 6, 2) := by decide +kernel
theorem dX10_said_31 : decode cX10_said 31 = .ok (.iload 5, 2) := by decide +kernel
theorem dX10_said_33 : decode cX10_said 33 = .ok (.if_icmp .ge 34, 3) := by decide +kernel
theorem dX10_said_36 : decode cX10_said 36 = .ok (.aload 4, 2) := by decide +kernel
theorem dX10_said_38 : decode cX10_said 38 = .ok (.iload 6, 2) := by decide +kernel
theorem dX10_said_40 : decode cX10_said 40 = .ok (.aaload, 1) := by decide +kernel
theorem dX10_said_41 : decode cX10_said 41 = .ok (.astore 7, 2) := by decide +kernel
theorem dX10_said_43 : decode cX10_said 43 = .ok (.aload 7, 2) := by decide +kernel
theorem dX10_said_45 : decode cX10_said 45 = .ok (.invokestatic 112, 3) := by decide +kernel
theorem dX10_said_48 : decode cX10_said 48 = .ok (.iload_n 1, 1) := by decide +kernel
theorem dX10_said_49 : decode cX10_said 49 = .ok (.iconst (-1), 1) := by decide +kernel
theorem dX10_said_50 : decode cX10_said 50 = .ok (.ixor, 1) := by decide +kernel
theorem dX10_said_51 : decode cX10_said 51 = .ok (.iand, 1) := by decide +kernel
theorem dX10_said_52 : decode cX10_said 52 = .ok (.ifCond .ne 9, 3) := by decide +kernel
theorem dX10_said_55 : decode cX10_said 55 = .ok (.iload_n 2, 1) := by decide +kernel
theorem dX10_said_56 : decode cX10_said 56 = .ok (.iconst 1, 1) := by decide +kernel
theorem dX10_said_57 : decode cX10_said 57 = .ok (.iload_n 3, 1) := by decide +kernel
theorem dX10_said_58 : decode cX10_said 58 = .ok (.ishl, 1) := by decide +kernel
theorem dX10_said_59 : decode cX10_said 59 = .ok (.ior, 1) := by decide +kernel
theorem dX10_said_60 : decode cX10_said 60 = .ok (.istore_n 2, 1) := by decide +kernel
theorem dX10_said_61 : decode cX10_said 61 = .ok (.iinc 6 1, 3) := by decide +kernel
theorem dX10_said_64 : decode cX10_said 64 = .ok (.goto (-35), 3) := by decide +kernel
theorem dX10_said_67 : decode cX10_said 67 = .ok (.iinc 3 1, 3) := by decide +kernel
theorem dX10_said_70 : decode cX10_said 70 = .ok (.goto (-66), 3) := by decide +kernel
theorem dX10_said_73 : decode cX10_said 73 = .ok (.iload_n 2, 1) := by decide +kernel
theorem dX10_said_74 : decode cX10_said 74 = .ok (.ireturn, 1) := by decide +kernel
theorem dX10_living_0 : decode cX10_living 0 = .ok (.iconst 1, 1) := by decide +kernel
theorem dX10_living_1 : decode cX10_living 1 = .ok (.aload_n 0, 1) := by decide +kernel
theorem dX10_living_2 : decode cX10_living 2 = .ok (.getfield 52, 3) := by decide +kernel
theorem dX10_living_5 : decode cX10_living 5 = .ok (.ishl, 1) := by decide +kernel
theorem dX10_living_6 : decode cX10_living 6 = .ok (.iconst 1, 1) := by decide +kernel
theorem dX10_living_7 : decode cX10_living 7 = .ok (.isub, 1) := by decide +kernel
theorem dX10_living_8 : decode cX10_living 8 = .ok (.aload_n 0, 1) := by decide +kernel
theorem dX10_living_9 : decode cX10_living 9 = .ok (.invokevirtual 70, 3) := by decide +kernel
theorem dX10_living_12 : decode cX10_living 12 = .ok (.iconst (-1), 1) := by decide +kernel
theorem dX10_living_13 : decode cX10_living 13 = .ok (.ixor, 1) := by decide +kernel
theorem dX10_living_14 : decode cX10_living 14 = .ok (.iand, 1) := by decide +kernel
theorem dX10_living_15 : decode cX10_living 15 = .ok (.ireturn, 1) := by decide +kernel
theorem dX10_isSame_0 : decode cX10_isSame 0 = .ok (.iconst 0, 1) := by decide +kernel
theorem dX10_isSame_1 : decode cX10_isSame 1 = .ok (.istore_n 2, 1) := by decide +kernel
theorem dX10_isSame_2 : decode cX10_isSame 2 = .ok (.iload_n 2, 1) := by decide +kernel
theorem dX10_isSame_3 : decode cX10_isSame 3 = .ok (.aload_n 0, 1) := by decide +kernel
theorem dX10_isSame_4 : decode cX10_isSame 4 = .ok (.getfield 52, 3) := by decide +kernel
theorem dX10_isSame_7 : decode cX10_isSame 7 = .ok (.if_icmp .ge 137, 3) := by decide +kernel
theorem dX10_isSame_10 : decode cX10_isSame 10 = .ok (.iconst 0, 1) := by decide +kernel
theorem dX10_isSame_11 : decode cX10_isSame 11 = .ok (.istore_n 3, 1) := by decide +kernel
theorem dX10_isSame_12 : decode cX10_isSame 12 = .ok (.iload_n 3, 1) := by decide +kernel
theorem dX10_isSame_13 : decode cX10_isSame 13 = .ok (.iconst 5, 1) := by decide +kernel
theorem dX10_isSame_14 : decode cX10_isSame 14 = .ok (.if_icmp .ge 28, 3) := by decide +kernel
theorem dX10_isSame_17 : decode cX10_isSame 17 = .ok (.aload_n 1, 1) := by decide +kernel
theorem dX10_isSame_18 : decode cX10_isSame 18 = .ok (.iload_n 2, 1) := by decide +kernel
theorem dX10_isSame_19 : decode cX10_isSame 19 = .ok (.iload_n 3, 1) := by decide +kernel
theorem dX10_isSame_20 : decode cX10_isSame 20 = .ok (.invokevirtual 116, 3) := by decide +kernel
theorem dX10_isSame_23 : decode cX10_isSame 23 = .ok (.aload_n 0, 1) := by decide +kernel
theorem dX10_isSame_24 : decode cX10_isSame 24 = .ok (.getfield 18, 3) := by decide +kernel
theorem dX10_isSame_27 : decode cX10_isSame 27 = .ok (.iload_n 2, 1) := by decide +kernel
theorem dX10_isSame_28 : decode cX10_isSame 28 = .ok (.aaload, 1) := by decide +kernel
theorem dX10_isSame_29 : decode cX10_isSame 29 = .ok (.iload_n 3, 1) := by decide +kernel
theorem dX10_isSame_30 : decode cX10_isSame 30 = .ok (.iaload, 1) := by decide +kernel
theorem dX10_isSame_31 : decode cX10_isSame 31 = .ok (.if_icmp .eq 5, 3) := by decide +kernel
theorem dX10_isSame_34 : decode cX10_isSame 34 = .ok (.iconst 0, 1) := by decide +kernel
theorem dX10_isSame_35 : decode cX10_isSame 35 = .ok (.ireturn, 1) := by decide +kernel
theorem dX10_isSame_36 : decode cX10_isSame 36 = .ok (.iinc 3 1, 3) := by decide +kernel
theorem dX10_isSame_39 : decode cX10_isSame 39 = .ok (.goto (-27), 3) := by decide +kernel
theorem dX10_isSame_42 : decode cX10_isSame 42 = .ok (.aload_n 1, 1) := by decide +kernel
theorem dX10_isSame_43 : decode cX10_isSame 43 = .ok (.iload_n 2, 1) := by decide +kernel
theorem dX10_isSame_44 : decode cX10_isSame 44 = .ok (.iconst 5, 1) := by decide +kernel
theorem dX10_isSame_45 : decode cX10_isSame 45 = .ok (.invokevirtual 116, 3) := by decide +kernel
theorem dX10_isSame_48 : decode cX10_isSame 48 = .ok (.aload_n 0, 1) := by decide +kernel
theorem dX10_isSame_49 : decode cX10_isSame 49 = .ok (.iconst 0, 1) := by decide +kernel
theorem dX10_isSame_50 : decode cX10_isSame 50 = .ok (.iload_n 2, 1) := by decide +kernel
theorem dX10_isSame_51 : decode cX10_isSame 51 = .ok (.iconst 0, 1) := by decide +kernel
theorem dX10_isSame_52 : decode cX10_isSame 52 = .ok (.invokevirtual 89, 3) := by decide +kernel
theorem dX10_isSame_55 : decode cX10_isSame 55 = .ok (.if_icmp .ne 29, 3) := by decide +kernel
theorem dX10_isSame_58 : decode cX10_isSame 58 = .ok (.aload_n 1, 1) := by decide +kernel
theorem dX10_isSame_59 : decode cX10_isSame 59 = .ok (.iload_n 2, 1) := by decide +kernel
theorem dX10_isSame_60 : decode cX10_isSame 60 = .ok (.bipush 6, 2) := by decide +kernel
theorem dX10_isSame_62 : decode cX10_isSame 62 = .ok (.invokevirtual 116, 3) := by decide +kernel
theorem dX10_isSame_65 : decode cX10_isSame 65 = .ok (.aload_n 0, 1) := by decide +kernel
theorem dX10_isSame_66 : decode cX10_isSame 66 = .ok (.iload_n 2, 1) := by decide +kernel
theorem dX10_isSame_67 : decode cX10_isSame 67 = .ok (.invokevirtual 80, 3) := by decide +kernel
theorem dX10_isSame_70 : decode cX10_isSame 70 = .ok (.if_icmp .ne 14, 3) := by decide +kernel
theorem dX10_isSame_73 : decode cX10_isSame 73 = .ok (.aload_n 1, 1) := by decide +kernel
theorem dX10_isSame_74 : decode cX10_isSame 74 = .ok (.iload_n 2, 1) := by decide +kernel
theorem dX10_isSame_75 : decode cX10_isSame 75 = .ok (.bipush 7, 2) := by decide +kernel
theorem dX10_isSame_77 : decode cX10_isSame 77 = .ok (.invokevirtual 116, 3) := by decide +kernel
theorem dX10_isSame_80 : decode cX10_isSame 80 = .ok (.iconst (-1), 1) := by decide +kernel
theorem dX10_isSame_81 : decode cX10_isSame 81 = .ok (.if_icmp .eq 5, 3) := by decide +kernel
theorem dX10_isSame_84 : decode cX10_isSame 84 = .ok (.iconst 0, 1) := by decide +kernel
theorem dX10_isSame_85 : decode cX10_isSame 85 = .ok (.ireturn, 1) := by decide +kernel
theorem dX10_isSame_86 : decode cX10_isSame 86 = .ok (.iload_n 2, 1) := by decide +kernel
theorem dX10_isSame_87 : decode cX10_isSame 87 = .ok (.iconst 3, 1) := by decide +kernel
theorem dX10_isSame_88 : decode cX10_isSame 88 = .ok (.irem, 1) := by decide +kernel
theorem dX10_isSame_89 : decode cX10_isSame 89 = .ok (.istore_n 3, 1) := by decide +kernel
theorem dX10_isSame_90 : decode cX10_isSame 90 = .ok (.iload_n 3, 1) := by decide +kernel
theorem dX10_isSame_91 : decode cX10_isSame 91 = .ok (.bipush 10, 2) := by decide +kernel
theorem dX10_isSame_93 : decode cX10_isSame 93 = .ok (.if_icmp .ge 45, 3) := by decide +kernel
theorem dX10_isSame_96 : decode cX10_isSame 96 = .ok (.aload_n 1, 1) := by decide +kernel
theorem dX10_isSame_97 : decode cX10_isSame 97 = .ok (.iload_n 2, 1) := by decide +kernel
theorem dX10_isSame_98 : decode cX10_isSame 98 = .ok (.iload_n 3, 1) := by decide +kernel
theorem dX10_isSame_99 : decode cX10_isSame 99 = .ok (.iconst 0, 1) := by decide +kernel
theorem dX10_isSame_100 : decode cX10_isSame 100 = .ok (.invokevirtual 121, 3) := by decide +kernel
theorem dX10_isSame_103 : decode cX10_isSame 103 = .ok (.aload_n 0, 1) := by decide +kernel
theorem dX10_isSame_104 : decode cX10_isSame 104 = .ok (.iconst 1, 1) := by decide +kernel
theorem dX10_isSame_105 : decode cX10_isSame 105 = .ok (.iload_n 2, 1) := by decide +kernel
theorem dX10_isSame_106 : decode cX10_isSame 106 = .ok (.iload_n 3, 1) := by decide +kernel
theorem dX10_isSame_107 : decode cX10_isSame 107 = .ok (.invokevirtual 89, 3) := by decide +kernel
theorem dX10_isSame_110 : decode cX10_isSame 110 = .ok (.if_icmp .ne 20, 3) := by decide +kernel
theorem dX10_isSame_113 : decode cX10_isSame 113 = .ok (.aload_n 1, 1) := by decide +kernel
theorem dX10_isSame_114 : decode cX10_isSame 114 = .ok (.iload_n 2, 1) := by decide +kernel
theorem dX10_isSame_115 : decode cX10_isSame 115 = .ok (.iload_n 3, 1) := by decide +kernel
theorem dX10_isSame_116 : decode cX10_isSame 116 = .ok (.iconst 1, 1) := by decide +kernel
theorem dX10_isSame_117 : decode cX10_isSame 117 = .ok (.invokevirtual 121, 3) := by decide +kernel
theorem dX10_isSame_120 : decode cX10_isSame 120 = .ok (.aload_n 0, 1) := by decide +kernel
theorem dX10_isSame_121 : decode cX10_isSame 121 = .ok (.iconst 2, 1) := by decide +kernel
theorem dX10_isSame_122 : decode cX10_isSame 122 = .ok (.iload_n 2, 1) := by decide +kernel
theorem dX10_isSame_123 : decode cX10_isSame 123 = .ok (.iload_n 3, 1) := by decide +kernel
theorem dX10_isSame_124 : decode cX10_isSame 124 = .ok (.invokevirtual 89, 3) := by decide +kernel
theorem dX10_isSame_127 : decode cX10_isSame 127 = .ok (.if_icmp .eq 5, 3) := by decide +kernel
theorem dX10_isSame_130 : decode cX10_isSame 130 = .ok (.iconst 0, 1) := by decide +kernel
theorem dX10_isSame_131 : decode cX10_isSame 131 = .ok (.ireturn, 1) := by decide +kernel
theorem dX10_isSame_132 : decode cX10_isSame 132 = .ok (.iinc 3 3, 3) := by decide +kernel
theorem dX10_isSame_135 : decode cX10_isSame 135 = .ok (.goto (-45), 3) := by decide +kernel
theorem dX10_isSame_138 : decode cX10_isSame 138 = .ok (.iinc 2 1, 3) := by decide +kernel
theorem dX10_isSame_141 : decode cX10_isSame 141 = .ok (.goto (-139), 3) := by decide +kernel
theorem dX10_isSame_144 : decode cX10_isSame 144 = .ok (.iconst 0, 1) := by decide +kernel
theorem dX10_isSame_145 : decode cX10_isSame 145 = .ok (.istore_n 2, 1) := by decide +kernel
theorem dX10_isSame_146 : decode cX10_isSame 146 = .ok (.iload_n 2, 1) := by decide +kernel
theorem dX10_isSame_147 : decode cX10_isSame 147 = .ok (.aload_n 0, 1) := by decide +kernel
theorem dX10_isSame_148 : decode cX10_isSame 148 = .ok (.getfield 55, 3) := by decide +kernel
theorem dX10_isSame_151 : decode cX10_isSame 151 = .ok (.if_icmp .ge 41, 3) := by decide +kernel
theorem dX10_isSame_154 : decode cX10_isSame 154 = .ok (.iconst 0, 1) := by decide +kernel
theorem dX10_isSame_155 : decode cX10_isSame 155 = .ok (.istore_n 3, 1) := by decide +kernel
theorem dX10_isSame_156 : decode cX10_isSame 156 = .ok (.iload_n 3, 1) := by decide +kernel
theorem dX10_isSame_157 : decode cX10_isSame 157 = .ok (.iconst 3, 1) := by decide +kernel
theorem dX10_isSame_158 : decode cX10_isSame 158 = .ok (.if_icmp .ge 28, 3) := by decide +kernel
theorem dX10_isSame_161 : decode cX10_isSame 161 = .ok (.aload_n 1, 1) := by decide +kernel
theorem dX10_isSame_162 : decode cX10_isSame 162 = .ok (.iload_n 2, 1) := by decide +kernel
theorem dX10_isSame_163 : decode cX10_isSame 163 = .ok (.iload_n 3, 1) := by decide +kernel
theorem dX10_isSame_164 : decode cX10_isSame 164 = .ok (.invokevirtual 125, 3) := by decide +kernel
theorem dX10_isSame_167 : decode cX10_isSame 167 = .ok (.aload_n 0, 1) := by decide +kernel
theorem dX10_isSame_168 : decode cX10_isSame 168 = .ok (.getfield 22, 3) := by decide +kernel
theorem dX10_isSame_171 : decode cX10_isSame 171 = .ok (.iload_n 2, 1) := by decide +kernel
theorem dX10_isSame_172 : decode cX10_isSame 172 = .ok (.aaload, 1) := by decide +kernel
theorem dX10_isSame_173 : decode cX10_isSame 173 = .ok (.iload_n 3, 1) := by decide +kernel
theorem dX10_isSame_174 : decode cX10_isSame 174 = .ok (.iaload, 1) := by decide +kernel
theorem dX10_isSame_175 : decode cX10_isSame 175 = .ok (.if_icmp .eq 5, 3) := by decide +kernel
theorem dX10_isSame_178 : decode cX10_isSame 178 = .ok (.iconst 0, 1) := by decide +kernel
theorem dX10_isSame_179 : decode cX10_isSame 179 = .ok (.ireturn, 1) := by decide +kernel
theorem dX10_isSame_180 : decode cX10_isSame 180 = .ok (.iinc 3 1, 3) := by decide +kernel
theorem dX10_isSame_183 : decode cX10_isSame 183 = .ok (.goto (-27), 3) := by decide +kernel
theorem dX10_isSame_186 : decode cX10_isSame 186 = .ok (.iinc 2 1, 3) := by decide +kernel
theorem dX10_isSame_189 : decode cX10_isSame 189 = .ok (.goto (-43), 3) := by decide +kernel
theorem dX10_isSame_192 : decode cX10_isSame 192 = .ok (.iconst 0, 1) := by decide +kernel
theorem dX10_isSame_193 : decode cX10_isSame 193 = .ok (.istore_n 2, 1) := by decide +kernel
theorem dX10_isSame_194 : decode cX10_isSame 194 = .ok (.iload_n 2, 1) := by decide +kernel
theorem dX10_isSame_195 : decode cX10_isSame 195 = .ok (.aload_n 0, 1) := by decide +kernel
theorem dX10_isSame_196 : decode cX10_isSame 196 = .ok (.getfield 58, 3) := by decide +kernel
theorem dX10_isSame_199 : decode cX10_isSame 199 = .ok (.if_icmp .ge 41, 3) := by decide +kernel
theorem dX10_isSame_202 : decode cX10_isSame 202 = .ok (.iconst 0, 1) := by decide +kernel
theorem dX10_isSame_203 : decode cX10_isSame 203 = .ok (.istore_n 3, 1) := by decide +kernel
theorem dX10_isSame_204 : decode cX10_isSame 204 = .ok (.iload_n 3, 1) := by decide +kernel
theorem dX10_isSame_205 : decode cX10_isSame 205 = .ok (.iconst 4, 1) := by decide +kernel
theorem dX10_isSame_206 : decode cX10_isSame 206 = .ok (.if_icmp .ge 28, 3) := by decide +kernel
theorem dX10_isSame_209 : decode cX10_isSame 209 = .ok (.aload_n 1, 1) := by decide +kernel
theorem dX10_isSame_210 : decode cX10_isSame 210 = .ok (.iload_n 2, 1) := by decide +kernel
theorem dX10_isSame_211 : decode cX10_isSame 211 = .ok (.iload_n 3, 1) := by decide +kernel
theorem dX10_isSame_212 : decode cX10_isSame 212 = .ok (.invokevirtual 128, 3) := by decide +kernel
theorem dX10_isSame_215 : decode cX10_isSame 215 = .ok (.aload_n 0, 1) := by decide +kernel
theorem dX10_isSame_216 : decode cX10_isSame 216 = .ok (.getfield 31, 3) := by decide +kernel
theorem dX10_isSame_219 : decode cX10_isSame 219 = .ok (.iload_n 2, 1) := by decide +kernel
theorem dX10_isSame_220 : decode cX10_isSame 220 = .ok (.aaload, 1) := by decide +kernel
theorem dX10_isSame_221 : decode cX10_isSame 221 = .ok (.iload_n 3, 1) := by decide +kernel
theorem dX10_isSame_222 : decode cX10_isSame 222 = .ok (.iaload, 1) := by decide +kernel
theorem dX10_isSame_223 : decode cX10_isSame 223 = .ok (.if_icmp .eq 5, 3) := by decide +kernel
theorem dX10_isSame_226 : decode cX10_isSame 226 = .ok (.iconst 0, 1) := by decide +kernel
theorem dX10_isSame_227 : decode cX10_isSame 227 = .ok (.ireturn, 1) := by decide +kernel
theorem dX10_isSame_228 : decode cX10_isSame 228 = .ok (.iinc 3 1, 3) := by decide +kernel
theorem dX10_isSame_231 : decode cX10_isSame 231 = .ok (.goto (-27), 3) := by decide +kernel
theorem dX10_isSame_234 : decode cX10_isSame 234 = .ok (.iinc 2 1, 3) := by decide +kernel
theorem dX10_isSame_237 : decode cX10_isSame 237 = .ok (.goto (-43), 3) := by decide +kernel
theorem dX10_isSame_240 : decode cX10_isSame 240 = .ok (.bipush 8, 2) := by decide +kernel
theorem dX10_isSame_242 : decode cX10_isSame 242 = .ok (.newarray .int, 2) := by decide +kernel
theorem dX10_isSame_244 : decode cX10_isSame 244 = .ok (.dup, 1) := by decide +kernel
theorem dX10_isSame_245 : decode cX10_isSame 245 = .ok (.iconst 0, 1) := by decide +kernel
theorem dX10_isSame_246 : decode cX10_isSame 246 = .ok (.aload_n 0, 1) := by decide +kernel
theorem dX10_isSame_247 : decode cX10_isSame 247 = .ok (.getfield 52, 3) := by decide +kernel
theorem dX10_isSame_250 : decode cX10_isSame 250 = .ok (.iastore, 1) := by decide +kernel
theorem dX10_isSame_251 : decode cX10_isSame 251 = .ok (.dup, 1) := by decide +kernel
theorem dX10_isSame_252 : decode cX10_isSame 252 = .ok (.iconst 1, 1) := by decide +kernel
theorem dX10_isSame_253 : decode cX10_isSame 253 = .ok (.aload_n 0, 1) := by decide +kernel
theorem dX10_isSame_254 : decode cX10_isSame 254 = .ok (.getfield 55, 3) := by decide +kernel
theorem dX10_isSame_257 : decode cX10_isSame 257 = .ok (.iastore, 1) := by decide +kernel
theorem dX10_isSame_258 : decode cX10_isSame 258 = .ok (.dup, 1) := by decide +kernel
theorem dX10_isSame_259 : decode cX10_isSame 259 = .ok (.iconst 2, 1) := by decide +kernel
theorem dX10_isSame_260 : decode cX10_isSame 260 = .ok (.aload_n 0, 1) := by decide +kernel
theorem dX10_isSame_261 : decode cX10_isSame 261 = .ok (.getfield 46, 3) := by decide +kernel
theorem dX10_isSame_264 : decode cX10_isSame 264 = .ok (.iastore, 1) := by decide +kernel
theorem dX10_isSame_265 : decode cX10_isSame 265 = .ok (.dup, 1) := by decide +kernel
theorem dX10_isSame_266 : decode cX10_isSame 266 = .ok (.iconst 3, 1) := by decide +kernel
theorem dX10_isSame_267 : decode cX10_isSame 267 = .ok (.aload_n 0, 1) := by decide +kernel
theorem dX10_isSame_268 : decode cX10_isSame 268 = .ok (.getfield 49, 3) := by decide +kernel
theorem dX10_isSame_271 : decode cX10_isSame 271 = .ok (.iastore, 1) := by decide +kernel
theorem dX10_isSame_272 : decode cX10_isSame 272 = .ok (.dup, 1) := by decide +kernel
theorem dX10_isSame_273 : decode cX10_isSame 273 = .ok (.iconst 4, 1) := by decide +kernel
theorem dX10_isSame_274 : decode cX10_isSame 274 = .ok (.aload_n 0, 1) := by decide +kernel
theorem dX10_isSame_275 : decode cX10_isSame 275 = .ok (.invokevirtual 70, 3) := by decide +kernel
theorem dX10_isSame_278 : decode cX10_isSame 278 = .ok (.iastore, 1) := by decide +kernel
theorem dX10_isSame_279 : decode cX10_isSame 279 = .ok (.dup, 1) := by decide +kernel
theorem dX10_isSame_280 : decode cX10_isSame 280 = .ok (.iconst 5, 1) := by decide +kernel
theorem dX10_isSame_281 : decode cX10_isSame 281 = .ok (.aload_n 0, 1) := by decide +kernel
theorem dX10_isSame_282 : decode cX10_isSame 282 = .ok (.getfield 58, 3) := by decide +kernel
theorem dX10_isSame_285 : decode cX10_isSame 285 = .ok (.iastore, 1) := by decide +kernel
theorem dX10_isSame_286 : decode cX10_isSame 286 = .ok (.dup, 1) := by decide +kernel
theorem dX10_isSame_287 : decode cX10_isSame 287 = .ok (.bipush 6, 2) := by decide +kernel
theorem dX10_isSame_289 : decode cX10_isSame 289 = .ok (.aload_n 0, 1) := by decide +kernel
theorem dX10_isSame_290 : decode cX10_isSame 290 = .ok (.getfield 43, 3) := by decide +kernel
theorem dX10_isSame_293 : decode cX10_isSame 293 = .ok (.iastore, 1) := by decide +kernel
theorem dX10_isSame_294 : decode cX10_isSame 294 = .ok (.dup, 1) := by decide +kernel
theorem dX10_isSame_295 : decode cX10_isSame 295 = .ok (.bipush 7, 2) := by decide +kernel
theorem dX10_isSame_297 : decode cX10_isSame 297 = .ok (.aload_n 0, 1) := by decide +kernel
theorem dX10_isSame_298 : decode cX10_isSame 298 = .ok (.getfield 38, 3) := by decide +kernel
theorem dX10_isSame_301 : decode cX10_isSame 301 = .ok (.arraylength, 1) := by decide +kernel
theorem dX10_isSame_302 : decode cX10_isSame 302 = .ok (.iastore, 1) := by decide +kernel
theorem dX10_isSame_303 : decode cX10_isSame 303 = .ok (.astore_n 2, 1) := by decide +kernel
theorem dX10_isSame_304 : decode cX10_isSame 304 = .ok (.iconst 0, 1) := by decide +kernel
theorem dX10_isSame_305 : decode cX10_isSame 305 = .ok (.istore_n 3, 1) := by decide +kernel
theorem dX10_isSame_306 : decode cX10_isSame 306 = .ok (.iload_n 3, 1) := by decide +kernel
theorem dX10_isSame_307 : decode cX10_isSame 307 = .ok (.bipush 8, 2) := by decide +kernel
theorem dX10_isSame_309 : decode cX10_isSame 309 = .ok (.if_icmp .ge 22, 3) := by decide +kernel
theorem dX10_isSame_312 : decode cX10_isSame 312 = .ok (.aload_n 1, 1) := by decide +kernel
theorem dX10_isSame_313 : decode cX10_isSame 313 = .ok (.iload_n 3, 1) := by decide +kernel
theorem dX10_isSame_314 : decode cX10_isSame 314 = .ok (.invokevirtual 131, 3) := by decide +kernel
theorem dX10_isSame_317 : decode cX10_isSame 317 = .ok (.aload_n 2, 1) := by decide +kernel
theorem dX10_isSame_318 : decode cX10_isSame 318 = .ok (.iload_n 3, 1) := by decide +kernel
theorem dX10_isSame_319 : decode cX10_isSame 319 = .ok (.iaload, 1) := by decide +kernel
theorem dX10_isSame_320 : decode cX10_isSame 320 = .ok (.if_icmp .eq 5, 3) := by decide +kernel
theorem dX10_isSame_323 : decode cX10_isSame 323 = .ok (.iconst 0, 1) := by decide +kernel
theorem dX10_isSame_324 : decode cX10_isSame 324 = .ok (.ireturn, 1) := by decide +kernel
theorem dX10_isSame_325 : decode cX10_isSame 325 = .ok (.iinc 3 1, 3) := by decide +kernel
theorem dX10_isSame_328 : decode cX10_isSame 328 = .ok (.goto (-22), 3) := by decide +kernel
theorem dX10_isSame_331 : decode cX10_isSame 331 = .ok (.aload_n 1, 1) := by decide +kernel
theorem dX10_isSame_332 : decode cX10_isSame 332 = .ok (.aload_n 0, 1) := by decide +kernel
theorem dX10_isSame_333 : decode cX10_isSame 333 = .ok (.getfield 52, 3) := by decide +kernel
theorem dX10_isSame_336 : decode cX10_isSame 336 = .ok (.iconst 0, 1) := by decide +kernel
theorem dX10_isSame_337 : decode cX10_isSame 337 = .ok (.invokevirtual 116, 3) := by decide +kernel
theorem dX10_isSame_340 : decode cX10_isSame 340 = .ok (.iconst (-1), 1) := by decide +kernel
theorem dX10_isSame_341 : decode cX10_isSame 341 = .ok (.if_icmp .ne 79, 3) := by decide +kernel
theorem dX10_isSame_344 : decode cX10_isSame 344 = .ok (.aload_n 1, 1) := by decide +kernel
theorem dX10_isSame_345 : decode cX10_isSame 345 = .ok (.aload_n 0, 1) := by decide +kernel
theorem dX10_isSame_346 : decode cX10_isSame 346 = .ok (.getfield 55, 3) := by decide +kernel
theorem dX10_isSame_349 : decode cX10_isSame 349 = .ok (.iconst 0, 1) := by decide +kernel
theorem dX10_isSame_350 : decode cX10_isSame 350 = .ok (.invokevirtual 125, 3) := by decide +kernel
theorem dX10_isSame_353 : decode cX10_isSame 353 = .ok (.iconst (-1), 1) := by decide +kernel
theorem dX10_isSame_354 : decode cX10_isSame 354 = .ok (.if_icmp .ne 66, 3) := by decide +kernel
theorem dX10_isSame_357 : decode cX10_isSame 357 = .ok (.aload_n 1, 1) := by decide +kernel
theorem dX10_isSame_358 : decode cX10_isSame 358 = .ok (.aload_n 0, 1) := by decide +kernel
theorem dX10_isSame_359 : decode cX10_isSame 359 = .ok (.getfield 58, 3) := by decide +kernel
theorem dX10_isSame_362 : decode cX10_isSame 362 = .ok (.iconst 0, 1) := by decide +kernel
theorem dX10_isSame_363 : decode cX10_isSame 363 = .ok (.invokevirtual 128, 3) := by decide +kernel
theorem dX10_isSame_366 : decode cX10_isSame 366 = .ok (.bipush (-2), 2) := by decide +kernel
theorem dX10_isSame_368 : decode cX10_isSame 368 = .ok (.if_icmp .ne 52, 3) := by decide +kernel
theorem dX10_isSame_371 : decode cX10_isSame 371 = .ok (.aload_n 1, 1) := by decide +kernel
theorem dX10_isSame_372 : decode cX10_isSame 372 = .ok (.bipush 9, 2) := by decide +kernel
theorem dX10_isSame_374 : decode cX10_isSame 374 = .ok (.invokevirtual 131, 3) := by decide +kernel
theorem dX10_isSame_377 : decode cX10_isSame 377 = .ok (.aload_n 0, 1) := by decide +kernel
theorem dX10_isSame_378 : decode cX10_isSame 378 = .ok (.getfield 25, 3) := by decide +kernel
theorem dX10_isSame_381 : decode cX10_isSame 381 = .ok (.arraylength, 1) := by decide +kernel
theorem dX10_isSame_382 : decode cX10_isSame 382 = .ok (.if_icmp .ne 38, 3) := by decide +kernel
theorem dX10_isSame_385 : decode cX10_isSame 385 = .ok (.aload_n 1, 1) := by decide +kernel
theorem dX10_isSame_386 : decode cX10_isSame 386 = .ok (.bipush 10, 2) := by decide +kernel
theorem dX10_isSame_388 : decode cX10_isSame 388 = .ok (.invokevirtual 131, 3) := by decide +kernel
theorem dX10_isSame_391 : decode cX10_isSame 391 = .ok (.aload_n 0, 1) := by decide +kernel
theorem dX10_isSame_392 : decode cX10_isSame 392 = .ok (.getfield 28, 3) := by decide +kernel
theorem dX10_isSame_395 : decode cX10_isSame 395 = .ok (.arraylength, 1) := by decide +kernel
theorem dX10_isSame_396 : decode cX10_isSame 396 = .ok (.if_icmp .ne 24, 3) := by decide +kernel
theorem dX10_isSame_399 : decode cX10_isSame 399 = .ok (.aload_n 1, 1) := by decide +kernel
theorem dX10_isSame_400 : decode cX10_isSame 400 = .ok (.bipush 13, 2) := by decide +kernel
theorem dX10_isSame_402 : decode cX10_isSame 402 = .ok (.invokevirtual 131, 3) := by decide +kernel
theorem dX10_isSame_405 : decode cX10_isSame 405 = .ok (.aload_n 0, 1) := by decide +kernel
theorem dX10_isSame_406 : decode cX10_isSame 406 = .ok (.aload_n 0, 1) := by decide +kernel
theorem dX10_isSame_407 : decode cX10_isSame 407 = .ok (.invokevirtual 134, 3) := by decide +kernel
theorem dX10_isSame_410 : decode cX10_isSame 410 = .ok (.invokevirtual 137, 3) := by decide +kernel
theorem dX10_isSame_413 : decode cX10_isSame 413 = .ok (.if_icmp .ne 7, 3) := by decide +kernel
theorem dX10_isSame_416 : decode cX10_isSame 416 = .ok (.iconst 1, 1) := by decide +kernel
theorem dX10_isSame_417 : decode cX10_isSame 417 = .ok (.goto 4, 3) := by decide +kernel
theorem dX10_isSame_420 : decode cX10_isSame 420 = .ok (.iconst 0, 1) := by decide +kernel
theorem dX10_isSame_421 : decode cX10_isSame 421 = .ok (.ireturn, 1) := by decide +kernel
theorem dJ6_bitCount_0f7a4_0 : decode cJ6_bitCount_0f7a4 0 = .ok (.iload_n 0, 1) := by decide +kernel
theorem dJ6_bitCount_0f7a4_1 : decode cJ6_bitCount_0f7a4 1 = .ok (.iload_n 0, 1) := by decide +kernel
theorem dJ6_bitCount_0f7a4_2 : decode cJ6_bitCount_0f7a4 2 = .ok (.iconst 1, 1) := by decide +kernel
theorem dJ6_bitCount_0f7a4_3 : decode cJ6_bitCount_0f7a4 3 = .ok (.iushr, 1) := by decide +kernel
theorem dJ6_bitCount_0f7a4_4 : decode cJ6_bitCount_0f7a4 4 = .ok (.ldc_w 265, 3) := by decide +kernel
theorem dJ6_bitCount_0f7a4_7 : decode cJ6_bitCount_0f7a4 7 = .ok (.iand, 1) := by decide +kernel
theorem dJ6_bitCount_0f7a4_8 : decode cJ6_bitCount_0f7a4 8 = .ok (.isub, 1) := by decide +kernel
theorem dJ6_bitCount_0f7a4_9 : decode cJ6_bitCount_0f7a4 9 = .ok (.istore_n 0, 1) := by decide +kernel
theorem dJ6_bitCount_0f7a4_10 : decode cJ6_bitCount_0f7a4 10 = .ok (.iload_n 0, 1) := by decide +kernel
theorem dJ6_bitCount_0f7a4_11 : decode cJ6_bitCount_0f7a4 11 = .ok (.ldc_w 266, 3) := by decide +kernel
theorem dJ6_bitCount_0f7a4_14 : decode cJ6_bitCount_0f7a4 14 = .ok (.iand, 1) := by decide +kernel
theorem dJ6_bitCount_0f7a4_15 : decode cJ6_bitCount_0f7a4 15 = .ok (.iload_n 0, 1) := by decide +kernel
theorem dJ6_bitCount_0f7a4_16 : decode cJ6_bitCount_0f7a4 16 = .ok (.iconst 2, 1) := by decide +kernel
theorem dJ6_bitCount_0f7a4_17 : decode cJ6_bitCount_0f7a4 17 = .ok (.iushr, 1) := by decide +kernel
theorem dJ6_bitCount_0f7a4_18 : decode cJ6_bitCount_0f7a4 18 = .ok (.ldc_w 266, 3) := by decide +kernel
theorem dJ6_bitCount_0f7a4_21 : decode cJ6_bitCount_0f7a4 21 = .ok (.iand, 1) := by decide +kernel
theorem dJ6_bitCount_0f7a4_22 : decode cJ6_bitCount_0f7a4 22 = .ok (.iadd, 1) := by decide +kernel
theorem dJ6_bitCount_0f7a4_23 : decode cJ6_bitCount_0f7a4 23 = .ok (.istore_n 0, 1) := by decide +kernel
theorem dJ6_bitCount_0f7a4_24 : decode cJ6_bitCount_0f7a4 24 = .ok (.iload_n 0, 1) := by decide +kernel
theorem dJ6_bitCount_0f7a4_25 : decode cJ6_bitCount_0f7a4 25 = .ok (.iload_n 0, 1) := by decide +kernel
theorem dJ6_bitCount_0f7a4_26 : decode cJ6_bitCount_0f7a4 26 = .ok (.iconst 4, 1) := by decide +kernel
theorem dJ6_bitCount_0f7a4_27 : decode cJ6_bitCount_0f7a4 27 = .ok (.iushr, 1) := by decide +kernel
theorem dJ6_bitCount_0f7a4_28 : decode cJ6_bitCount_0f7a4 28 = .ok (.iadd, 1) := by decide +kernel
theorem dJ6_bitCount_0f7a4_29 : decode cJ6_bitCount_0f7a4 29 = .ok (.ldc_w 267, 3) := by decide +kernel
theorem dJ6_bitCount_0f7a4_32 : decode cJ6_bitCount_0f7a4 32 = .ok (.iand, 1) := by decide +kernel
theorem dJ6_bitCount_0f7a4_33 : decode cJ6_bitCount_0f7a4 33 = .ok (.istore_n 0, 1) := by decide +kernel
theorem dJ6_bitCount_0f7a4_34 : decode cJ6_bitCount_0f7a4 34 = .ok (.iload_n 0, 1) := by decide +kernel
theorem dJ6_bitCount_0f7a4_35 : decode cJ6_bitCount_0f7a4 35 = .ok (.iload_n 0, 1) := by decide +kernel
theorem dJ6_bitCount_0f7a4_36 : decode cJ6_bitCount_0f7a4 36 = .ok (.bipush 8, 2) := by decide +kernel
theorem dJ6_bitCount_0f7a4_38 : decode cJ6_bitCount_0f7a4 38 = .ok (.iushr, 1) := by decide +kernel
theorem dJ6_bitCount_0f7a4_39 : decode cJ6_bitCount_0f7a4 39 = .ok (.iadd, 1) := by decide +kernel
theorem dJ6_bitCount_0f7a4_40 : decode cJ6_bitCount_0f7a4 40 = .ok (.istore_n 0, 1) := by decide +kernel
theorem dJ6_bitCount_0f7a4_41 : decode cJ6_bitCount_0f7a4 41 = .ok (.iload_n 0, 1) := by decide +kernel
theorem dJ6_bitCount_0f7a4_42 : decode cJ6_bitCount_0f7a4 42 = .ok (.iload_n 0, 1) := by decide +kernel
theorem dJ6_bitCount_0f7a4_43 : decode cJ6_bitCount_0f7a4 43 = .ok (.bipush 16, 2) := by decide +kernel
theorem dJ6_bitCount_0f7a4_45 : decode cJ6_bitCount_0f7a4 45 = .ok (.iushr, 1) := by decide +kernel
theorem dJ6_bitCount_0f7a4_46 : decode cJ6_bitCount_0f7a4 46 = .ok (.iadd, 1) := by decide +kernel
theorem dJ6_bitCount_0f7a4_47 : decode cJ6_bitCount_0f7a4 47 = .ok (.istore_n 0, 1) := by decide +kernel
theorem dJ6_bitCount_0f7a4_48 : decode cJ6_bitCount_0f7a4 48 = .ok (.iload_n 0, 1) := by decide +kernel
theorem dJ6_bitCount_0f7a4_49 : decode cJ6_bitCount_0f7a4 49 = .ok (.bipush 63, 2) := by decide +kernel
theorem dJ6_bitCount_0f7a4_51 : decode cJ6_bitCount_0f7a4 51 = .ok (.iand, 1) := by decide +kernel
theorem dJ6_bitCount_0f7a4_52 : decode cJ6_bitCount_0f7a4 52 = .ok (.ireturn, 1) := by decide +kernel
theorem dL_cell_0 : decode cL_cell 0 = .ok (.iload_n 1, 1) := by decide +kernel
theorem dL_cell_1 : decode cL_cell 1 = .ok (.aload_n 0, 1) := by decide +kernel
theorem dL_cell_2 : decode cL_cell 2 = .ok (.arraylength, 1) := by decide +kernel
theorem dL_cell_3 : decode cL_cell 3 = .ok (.if_icmp .ge 9, 3) := by decide +kernel
theorem dL_cell_6 : decode cL_cell 6 = .ok (.aload_n 0, 1) := by decide +kernel
theorem dL_cell_7 : decode cL_cell 7 = .ok (.iload_n 1, 1) := by decide +kernel
theorem dL_cell_8 : decode cL_cell 8 = .ok (.iaload, 1) := by decide +kernel
theorem dL_cell_9 : decode cL_cell 9 = .ok (.goto 12, 3) := by decide +kernel
theorem dL_cell_12 : decode cL_cell 12 = .ok (.sipush 619, 3) := by decide +kernel
theorem dL_cell_15 : decode cL_cell 15 = .ok (.iload_n 1, 1) := by decide +kernel
theorem dL_cell_16 : decode cL_cell 16 = .ok (.imul, 1) := by decide +kernel
theorem dL_cell_17 : decode cL_cell 17 = .ok (.sipush 617, 3) := by decide +kernel
theorem dL_cell_20 : decode cL_cell 20 = .ok (.iadd, 1) := by decide +kernel
theorem dL_cell_21 : decode cL_cell 21 = .ok (.ireturn, 1) := by decide +kernel
theorem dL_between_0 : decode cL_between 0 = .ok (.iload_n 1, 1) := by decide +kernel
theorem dL_between_1 : decode cL_between 1 = .ok (.iload_n 0, 1) := by decide +kernel
theorem dL_between_2 : decode cL_between 2 = .ok (.ldc 7, 2) := by decide +kernel
theorem dL_between_4 : decode cL_between 4 = .ok (.iand, 1) := by decide +kernel
theorem dL_between_5 : decode cL_between 5 = .ok (.iload_n 2, 1) := by decide +kernel
theorem dL_between_6 : decode cL_between 6 = .ok (.iload_n 1, 1) := by decide +kernel
theorem dL_between_7 : decode cL_between 7 = .ok (.isub, 1) := by decide +kernel
theorem dL_between_8 : decode cL_between 8 = .ok (.iconst 1, 1) := by decide +kernel
theorem dL_between_9 : decode cL_between 9 = .ok (.iadd, 1) := by decide +kernel
theorem dL_between_10 : decode cL_between 10 = .ok (.irem, 1) := by decide +kernel
theorem dL_between_11 : decode cL_between 11 = .ok (.iadd, 1) := by decide +kernel
theorem dL_between_12 : decode cL_between 12 = .ok (.ireturn, 1) := by decide +kernel
theorem dL_held_0 : decode cL_held 0 = .ok (.iload_n 1, 1) := by decide +kernel
theorem dL_held_1 : decode cL_held 1 = .ok (.iload_n 2, 1) := by decide +kernel
theorem dL_held_2 : decode cL_held 2 = .ok (.iload_n 0, 1) := by decide +kernel
theorem dL_held_3 : decode cL_held 3 = .ok (.invokestatic 8, 3) := by decide +kernel
theorem dL_held_6 : decode cL_held 6 = .ok (.invokestatic 14, 3) := by decide +kernel
theorem dL_held_9 : decode cL_held 9 = .ok (.ireturn, 1) := by decide +kernel
theorem dL_say_0 : decode cL_say 0 = .ok (.iconst 0, 1) := by decide +kernel
theorem dL_say_1 : decode cL_say 1 = .ok (.istore_n 2, 1) := by decide +kernel
theorem dL_say_2 : decode cL_say 2 = .ok (.iload_n 2, 1) := by decide +kernel
theorem dL_say_3 : decode cL_say 3 = .ok (.aload_n 1, 1) := by decide +kernel
theorem dL_say_4 : decode cL_say 4 = .ok (.invokevirtual 17, 3) := by decide +kernel
theorem dL_say_7 : decode cL_say 7 = .ok (.if_icmp .ge 89, 3) := by decide +kernel
theorem dL_say_10 : decode cL_say 10 = .ok (.iconst 5, 1) := by decide +kernel
theorem dL_say_11 : decode cL_say 11 = .ok (.newarray .int, 2) := by decide +kernel
theorem dL_say_13 : decode cL_say 13 = .ok (.astore_n 3, 1) := by decide +kernel
theorem dL_say_14 : decode cL_say 14 = .ok (.iconst 0, 1) := by decide +kernel
theorem dL_say_15 : decode cL_say 15 = .ok (.istore 4, 2) := by decide +kernel
theorem dL_say_17 : decode cL_say 17 = .ok (.iload 4, 2) := by decide +kernel
theorem dL_say_19 : decode cL_say 19 = .ok (.bipush 20, 2) := by decide +kernel
theorem dL_say_21 : decode cL_say 21 = .ok (.if_icmp .ge 49, 3) := by decide +kernel
theorem dL_say_24 : decode cL_say 24 = .ok (.aload_n 3, 1) := by decide +kernel
theorem dL_say_25 : decode cL_say 25 = .ok (.iload 4, 2) := by decide +kernel
theorem dL_say_27 : decode cL_say 27 = .ok (.iconst 4, 1) := by decide +kernel
theorem dL_say_28 : decode cL_say 28 = .ok (.idiv, 1) := by decide +kernel
theorem dL_say_29 : decode cL_say 29 = .ok (.aload_n 3, 1) := by decide +kernel
theorem dL_say_30 : decode cL_say 30 = .ok (.iload 4, 2) := by decide +kernel
theorem dL_say_32 : decode cL_say 32 = .ok (.iconst 4, 1) := by decide +kernel
theorem dL_say_33 : decode cL_say 33 = .ok (.idiv, 1) := by decide +kernel
theorem dL_say_34 : decode cL_say 34 = .ok (.iaload, 1) := by decide +kernel
theorem dL_say_35 : decode cL_say 35 = .ok (.bipush 8, 2) := by decide +kernel
theorem dL_say_37 : decode cL_say 37 = .ok (.ishl, 1) := by decide +kernel
theorem dL_say_38 : decode cL_say 38 = .ok (.iload_n 2, 1) := by decide +kernel
theorem dL_say_39 : decode cL_say 39 = .ok (.iload 4, 2) := by decide +kernel
theorem dL_say_41 : decode cL_say 41 = .ok (.iadd, 1) := by decide +kernel
theorem dL_say_42 : decode cL_say 42 = .ok (.aload_n 1, 1) := by decide +kernel
theorem dL_say_43 : decode cL_say 43 = .ok (.invokevirtual 17, 3) := by decide +kernel
theorem dL_say_46 : decode cL_say 46 = .ok (.if_icmp .ge 14, 3) := by decide +kernel
theorem dL_say_49 : decode cL_say 49 = .ok (.aload_n 1, 1) := by decide +kernel
theorem dL_say_50 : decode cL_say 50 = .ok (.iload_n 2, 1) := by decide +kernel
theorem dL_say_51 : decode cL_say 51 = .ok (.iload 4, 2) := by decide +kernel
theorem dL_say_53 : decode cL_say 53 = .ok (.iadd, 1) := by decide +kernel
theorem dL_say_54 : decode cL_say 54 = .ok (.invokevirtual 23, 3) := by decide +kernel
theorem dL_say_57 : decode cL_say 57 = .ok (.goto 5, 3) := by decide +kernel
theorem dL_say_60 : decode cL_say 60 = .ok (.bipush 32, 2) := by decide +kernel
theorem dL_say_62 : decode cL_say 62 = .ok (.ior, 1) := by decide +kernel
theorem dL_say_63 : decode cL_say 63 = .ok (.iastore, 1) := by decide +kernel
theorem dL_say_64 : decode cL_say 64 = .ok (.iinc 4 1, 3) := by decide +kernel
theorem dL_say_67 : decode cL_say 67 = .ok (.goto (-50), 3) := by decide +kernel
theorem dL_say_70 : decode cL_say 70 = .ok (.aload_n 0, 1) := by decide +kernel
theorem dL_say_71 : decode cL_say 71 = .ok (.aload_n 3, 1) := by decide +kernel
theorem dL_say_72 : decode cL_say 72 = .ok (.iconst 0, 1) := by decide +kernel
theorem dL_say_73 : decode cL_say 73 = .ok (.iaload, 1) := by decide +kernel
theorem dL_say_74 : decode cL_say 74 = .ok (.aload_n 3, 1) := by decide +kernel
theorem dL_say_75 : decode cL_say 75 = .ok (.iconst 1, 1) := by decide +kernel
theorem dL_say_76 : decode cL_say 76 = .ok (.iaload, 1) := by decide +kernel
theorem dL_say_77 : decode cL_say 77 = .ok (.aload_n 3, 1) := by decide +kernel
theorem dL_say_78 : decode cL_say 78 = .ok (.iconst 2, 1) := by decide +kernel
theorem dL_say_79 : decode cL_say 79 = .ok (.iaload, 1) := by decide +kernel
theorem dL_say_80 : decode cL_say 80 = .ok (.aload_n 3, 1) := by decide +kernel
theorem dL_say_81 : decode cL_say 81 = .ok (.iconst 3, 1) := by decide +kernel
theorem dL_say_82 : decode cL_say 82 = .ok (.iaload, 1) := by decide +kernel
theorem dL_say_83 : decode cL_say 83 = .ok (.aload_n 3, 1) := by decide +kernel
theorem dL_say_84 : decode cL_say 84 = .ok (.iconst 4, 1) := by decide +kernel
theorem dL_say_85 : decode cL_say 85 = .ok (.iaload, 1) := by decide +kernel
theorem dL_say_86 : decode cL_say 86 = .ok (.invokevirtual 27, 3) := by decide +kernel
theorem dL_say_89 : decode cL_say 89 = .ok (.pop, 1) := by decide +kernel
theorem dL_say_90 : decode cL_say 90 = .ok (.iinc 2 20, 3) := by decide +kernel
theorem dL_say_93 : decode cL_say 93 = .ok (.goto (-91), 3) := by decide +kernel
theorem dL_say_96 : decode cL_say 96 = .ok (.aload_n 1, 1) := by decide +kernel
theorem dL_say_97 : decode cL_say 97 = .ok (.invokevirtual 17, 3) := by decide +kernel
theorem dL_say_100 : decode cL_say 100 = .ok (.ifCond .le 12, 3) := by decide +kernel
theorem dL_say_103 : decode cL_say 103 = .ok (.aload_n 0, 1) := by decide +kernel
theorem dL_say_104 : decode cL_say 104 = .ok (.aload_n 1, 1) := by decide +kernel
theorem dL_say_105 : decode cL_say 105 = .ok (.invokevirtual 17, 3) := by decide +kernel
theorem dL_say_108 : decode cL_say 108 = .ok (.invokevirtual 33, 3) := by decide +kernel
theorem dL_say_111 : decode cL_say 111 = .ok (.pop, 1) := by decide +kernel
theorem dL_say_112 : decode cL_say 112 = .ok (.return_, 1) := by decide +kernel
theorem dL_meanings_0 : decode cL_meanings 0 = .ok (.aload_n 1, 1) := by decide +kernel
theorem dL_meanings_1 : decode cL_meanings 1 = .ok (.getfield 37, 3) := by decide +kernel
theorem dL_meanings_4 : decode cL_meanings 4 = .ok (.ifCond .ne 7, 3) := by decide +kernel
theorem dL_meanings_7 : decode cL_meanings 7 = .ok (.iconst 0, 1) := by decide +kernel
theorem dL_meanings_8 : decode cL_meanings 8 = .ok (.goto 12, 3) := by decide +kernel
theorem dL_meanings_11 : decode cL_meanings 11 = .ok (.iload_n 2, 1) := by decide +kernel
theorem dL_meanings_12 : decode cL_meanings 12 = .ok (.iconst 3, 1) := by decide +kernel
theorem dL_meanings_13 : decode cL_meanings 13 = .ok (.ishr, 1) := by decide +kernel
theorem dL_meanings_14 : decode cL_meanings 14 = .ok (.iconst 0, 1) := by decide +kernel
theorem dL_meanings_15 : decode cL_meanings 15 = .ok (.bipush 7, 2) := by decide +kernel
theorem dL_meanings_17 : decode cL_meanings 17 = .ok (.invokestatic 43, 3) := by decide +kernel
theorem dL_meanings_20 : decode cL_meanings 20 = .ok (.istore_n 3, 1) := by decide +kernel
theorem dL_meanings_21 : decode cL_meanings 21 = .ok (.new 49, 3) := by decide +kernel
theorem dL_meanings_24 : decode cL_meanings 24 = .ok (.dup, 1) := by decide +kernel
theorem dL_meanings_25 : decode cL_meanings 25 = .ok (.invokespecial 51, 3) := by decide +kernel
theorem dL_meanings_28 : decode cL_meanings 28 = .ok (.astore 4, 2) := by decide +kernel
theorem dL_meanings_30 : decode cL_meanings 30 = .ok (.aload_n 1, 1) := by decide +kernel
theorem dL_meanings_31 : decode cL_meanings 31 = .ok (.iload_n 3, 1) := by decide +kernel
theorem dL_meanings_32 : decode cL_meanings 32 = .ok (.anewarray 52, 3) := by decide +kernel
theorem dL_meanings_35 : decode cL_meanings 35 = .ok (.putfield 54, 3) := by decide +kernel
theorem dL_meanings_38 : decode cL_meanings 38 = .ok (.iconst 0, 1) := by decide +kernel
theorem dL_meanings_39 : decode cL_meanings 39 = .ok (.istore 5, 2) := by decide +kernel
theorem dL_meanings_41 : decode cL_meanings 41 = .ok (.iload 5, 2) := by decide +kernel
theorem dL_meanings_43 : decode cL_meanings 43 = .ok (.iload_n 3, 1) := by decide +kernel
theorem dL_meanings_44 : decode cL_meanings 44 = .ok (.if_icmp .ge 218, 3) := by decide +kernel
theorem dL_meanings_47 : decode cL_meanings 47 = .ok (.iload_n 2, 1) := by decide +kernel
theorem dL_meanings_48 : decode cL_meanings 48 = .ok (.iload 5, 2) := by decide +kernel
theorem dL_meanings_50 : decode cL_meanings 50 = .ok (.iconst 3, 1) := by decide +kernel
theorem dL_meanings_51 : decode cL_meanings 51 = .ok (.iadd, 1) := by decide +kernel
theorem dL_meanings_52 : decode cL_meanings 52 = .ok (.imul, 1) := by decide +kernel
theorem dL_meanings_53 : decode cL_meanings 53 = .ok (.sipush 277, 3) := by decide +kernel
theorem dL_meanings_56 : decode cL_meanings 56 = .ok (.iload 5, 2) := by decide +kernel
theorem dL_meanings_58 : decode cL_meanings 58 = .ok (.imul, 1) := by decide +kernel
theorem dL_meanings_59 : decode cL_meanings 59 = .ok (.iadd, 1) := by decide +kernel
theorem dL_meanings_60 : decode cL_meanings 60 = .ok (.istore 6, 2) := by decide +kernel
theorem dL_meanings_62 : decode cL_meanings 62 = .ok (.aload_n 1, 1) := by decide +kernel
theorem dL_meanings_63 : decode cL_meanings 63 = .ok (.getfield 54, 3) := by decide +kernel
theorem dL_meanings_66 : decode cL_meanings 66 = .ok (.iload 5, 2) := by decide +kernel
theorem dL_meanings_68 : decode cL_meanings 68 = .ok (.iload 6, 2) := by decide +kernel
theorem dL_meanings_70 : decode cL_meanings 70 = .ok (.iconst 4, 1) := by decide +kernel
theorem dL_meanings_71 : decode cL_meanings 71 = .ok (.ishr, 1) := by decide +kernel
theorem dL_meanings_72 : decode cL_meanings 72 = .ok (.iconst 1, 1) := by decide +kernel
theorem dL_meanings_73 : decode cL_meanings 73 = .ok (.iconst 3, 1) := by decide +kernel
theorem dL_meanings_74 : decode cL_meanings 74 = .ok (.invokestatic 43, 3) := by decide +kernel
theorem dL_meanings_77 : decode cL_meanings 77 = .ok (.anewarray 58, 3) := by decide +kernel
theorem dL_meanings_80 : decode cL_meanings 80 = .ok (.aastore, 1) := by decide +kernel
theorem dL_meanings_81 : decode cL_meanings 81 = .ok (.aload 4, 2) := by decide +kernel
theorem dL_meanings_83 : decode cL_meanings 83 = .ok (.ldc 60, 2) := by decide +kernel
theorem dL_meanings_85 : decode cL_meanings 85 = .ok (.invokevirtual 61, 3) := by decide +kernel
theorem dL_meanings_88 : decode cL_meanings 88 = .ok (.pop, 1) := by decide +kernel
theorem dL_meanings_89 : decode cL_meanings 89 = .ok (.iconst 0, 1) := by decide +kernel
theorem dL_meanings_90 : decode cL_meanings 90 = .ok (.istore 7, 2) := by decide +kernel
theorem dL_meanings_92 : decode cL_meanings 92 = .ok (.iload 7, 2) := by decide +kernel
theorem dL_meanings_94 : decode cL_meanings 94 = .ok (.aload_n 1, 1) := by decide +kernel
theorem dL_meanings_95 : decode cL_meanings 95 = .ok (.getfield 54, 3) := by decide +kernel
theorem dL_meanings_98 : decode cL_meanings 98 = .ok (.iload 5, 2) := by decide +kernel
theorem dL_meanings_100 : decode cL_meanings 100 = .ok (.aaload, 1) := by decide +kernel
theorem dL_meanings_101 : decode cL_meanings 101 = .ok (.arraylength, 1) := by decide +kernel
theorem dL_meanings_102 : decode cL_meanings 102 = .ok (.if_icmp .ge 146, 3) := by decide +kernel
theorem dL_meanings_105 : decode cL_meanings 105 = .ok (.iload 6, 2) := by decide +kernel
theorem dL_meanings_107 : decode cL_meanings 107 = .ok (.iload 7, 2) := by decide +kernel
theorem dL_meanings_109 : decode cL_meanings 109 = .ok (.iconst 5, 1) := by decide +kernel
theorem dL_meanings_110 : decode cL_meanings 110 = .ok (.iadd, 1) := by decide +kernel
theorem dL_meanings_111 : decode cL_meanings 111 = .ok (.imul, 1) := by decide +kernel
theorem dL_meanings_112 : decode cL_meanings 112 = .ok (.sipush 281, 3) := by decide +kernel
theorem dL_meanings_115 : decode cL_meanings 115 = .ok (.iload 7, 2) := by decide +kernel
theorem dL_meanings_117 : decode cL_meanings 117 = .ok (.imul, 1) := by decide +kernel
theorem dL_meanings_118 : decode cL_meanings 118 = .ok (.iadd, 1) := by decide +kernel
theorem dL_meanings_119 : decode cL_meanings 119 = .ok (.istore 8, 2) := by decide +kernel
theorem dL_meanings_121 : decode cL_meanings 121 = .ok (.iload 8, 2) := by decide +kernel
theorem dL_meanings_123 : decode cL_meanings 123 = .ok (.iconst 3, 1) := by decide +kernel
theorem dL_meanings_124 : decode cL_meanings 124 = .ok (.ishr, 1) := by decide +kernel
theorem dL_meanings_125 : decode cL_meanings 125 = .ok (.iconst 1, 1) := by decide +kernel
theorem dL_meanings_126 : decode cL_meanings 126 = .ok (.iconst 4, 1) := by decide +kernel
theorem dL_meanings_127 : decode cL_meanings 127 = .ok (.invokestatic 43, 3) := by decide +kernel
theorem dL_meanings_130 : decode cL_meanings 130 = .ok (.istore 9, 2) := by decide +kernel
theorem dL_meanings_132 : decode cL_meanings 132 = .ok (.aload_n 1, 1) := by decide +kernel
theorem dL_meanings_133 : decode cL_meanings 133 = .ok (.getfield 54, 3) := by decide +kernel
theorem dL_meanings_136 : decode cL_meanings 136 = .ok (.iload 5, 2) := by decide +kernel
theorem dL_meanings_138 : decode cL_meanings 138 = .ok (.aaload, 1) := by decide +kernel
theorem dL_meanings_139 : decode cL_meanings 139 = .ok (.iload 7, 2) := by decide +kernel
theorem dL_meanings_141 : decode cL_meanings 141 = .ok (.iload 9, 2) := by decide +kernel
theorem dL_meanings_143 : decode cL_meanings 143 = .ok (.newarray .int, 2) := by decide +kernel
theorem dL_meanings_145 : decode cL_meanings 145 = .ok (.aastore, 1) := by decide +kernel
theorem dL_meanings_146 : decode cL_meanings 146 = .ok (.iload 7, 2) := by decide +kernel
theorem dL_meanings_148 : decode cL_meanings 148 = .ok (.ifCond .le 11, 3) := by decide +kernel
theorem dL_meanings_151 : decode cL_meanings 151 = .ok (.aload 4, 2) := by decide +kernel
theorem dL_meanings_153 : decode cL_meanings 153 = .ok (.ldc 65, 2) := by decide +kernel
theorem dL_meanings_155 : decode cL_meanings 155 = .ok (.invokevirtual 61, 3) := by decide +kernel
theorem dL_meanings_158 : decode cL_meanings 158 = .ok (.pop, 1) := by decide +kernel
theorem dL_meanings_159 : decode cL_meanings 159 = .ok (.iconst 0, 1) := by decide +kernel
theorem dL_meanings_160 : decode cL_meanings 160 = .ok (.istore 10, 2) := by decide +kernel
theorem dL_meanings_162 : decode cL_meanings 162 = .ok (.iload 10, 2) := by decide +kernel
theorem dL_meanings_164 : decode cL_meanings 164 = .ok (.iload 9, 2) := by decide +kernel
theorem dL_meanings_166 : decode cL_meanings 166 = .ok (.if_icmp .ge 76, 3) := by decide +kernel
theorem dL_meanings_169 : decode cL_meanings 169 = .ok (.aload_n 1, 1) := by decide +kernel
theorem dL_meanings_170 : decode cL_meanings 170 = .ok (.getfield 54, 3) := by decide +kernel
theorem dL_meanings_173 : decode cL_meanings 173 = .ok (.iload 5, 2) := by decide +kernel
theorem dL_meanings_175 : decode cL_meanings 175 = .ok (.aaload, 1) := by decide +kernel
theorem dL_meanings_176 : decode cL_meanings 176 = .ok (.iload 7, 2) := by decide +kernel
theorem dL_meanings_178 : decode cL_meanings 178 = .ok (.aaload, 1) := by decide +kernel
theorem dL_meanings_179 : decode cL_meanings 179 = .ok (.iload 10, 2) := by decide +kernel
theorem dL_meanings_181 : decode cL_meanings 181 = .ok (.iload 8, 2) := by decide +kernel
theorem dL_meanings_183 : decode cL_meanings 183 = .ok (.iload 10, 2) := by decide +kernel
theorem dL_meanings_185 : decode cL_meanings 185 = .ok (.iconst 4, 1) := by decide +kernel
theorem dL_meanings_186 : decode cL_meanings 186 = .ok (.iadd, 1) := by decide +kernel
theorem dL_meanings_187 : decode cL_meanings 187 = .ok (.ishr, 1) := by decide +kernel
theorem dL_meanings_188 : decode cL_meanings 188 = .ok (.iconst 0, 1) := by decide +kernel
theorem dL_meanings_189 : decode cL_meanings 189 = .ok (.aload_n 1, 1) := by decide +kernel
theorem dL_meanings_190 : decode cL_meanings 190 = .ok (.getfield 37, 3) := by decide +kernel
theorem dL_meanings_193 : decode cL_meanings 193 = .ok (.iconst 1, 1) := by decide +kernel
theorem dL_meanings_194 : decode cL_meanings 194 = .ok (.isub, 1) := by decide +kernel
theorem dL_meanings_195 : decode cL_meanings 195 = .ok (.invokestatic 43, 3) := by decide +kernel
theorem dL_meanings_198 : decode cL_meanings 198 = .ok (.iastore, 1) := by decide +kernel
theorem dL_meanings_199 : decode cL_meanings 199 = .ok (.aload 4, 2) := by decide +kernel
theorem dL_meanings_201 : decode cL_meanings 201 = .ok (.new 49, 3) := by decide +kernel
theorem dL_meanings_204 : decode cL_meanings 204 = .ok (.dup, 1) := by decide +kernel
theorem dL_meanings_205 : decode cL_meanings 205 = .ok (.invokespecial 51, 3) := by decide +kernel
theorem dL_meanings_208 : decode cL_meanings 208 = .ok (.ldc 67, 2) := by decide +kernel
theorem dL_meanings_210 : decode cL_meanings 210 = .ok (.invokevirtual 61, 3) := by decide +kernel
theorem dL_meanings_213 : decode cL_meanings 213 = .ok (.aload_n 1, 1) := by decide +kernel
theorem dL_meanings_214 : decode cL_meanings 214 = .ok (.getfield 54, 3) := by decide +kernel
theorem dL_meanings_217 : decode cL_meanings 217 = .ok (.iload 5, 2) := by decide +kernel
theorem dL_meanings_219 : decode cL_meanings 219 = .ok (.aaload, 1) := by decide +kernel
theorem dL_meanings_220 : decode cL_meanings 220 = .ok (.iload 7, 2) := by decide +kernel
theorem dL_meanings_222 : decode cL_meanings 222 = .ok (.aaload, 1) := by decide +kernel
theorem dL_meanings_223 : decode cL_meanings 223 = .ok (.iload 10, 2) := by decide +kernel
theorem dL_meanings_225 : decode cL_meanings 225 = .ok (.iaload, 1) := by decide +kernel
theorem dL_meanings_226 : decode cL_meanings 226 = .ok (.invokevirtual 69, 3) := by decide +kernel
theorem dL_meanings_229 : decode cL_meanings 229 = .ok (.invokevirtual 72, 3) := by decide +kernel
theorem dL_meanings_232 : decode cL_meanings 232 = .ok (.invokevirtual 61, 3) := by decide +kernel
theorem dL_meanings_235 : decode cL_meanings 235 = .ok (.pop, 1) := by decide +kernel
theorem dL_meanings_236 : decode cL_meanings 236 = .ok (.iinc 10 1, 3) := by decide +kernel
theorem dL_meanings_239 : decode cL_meanings 239 = .ok (.goto (-77), 3) := by decide +kernel
theorem dL_meanings_242 : decode cL_meanings 242 = .ok (.iinc 7 1, 3) := by decide +kernel
theorem dL_meanings_245 : decode cL_meanings 245 = .ok (.goto (-153), 3) := by decide +kernel
theorem dL_meanings_248 : decode cL_meanings 248 = .ok (.aload 4, 2) := by decide +kernel
theorem dL_meanings_250 : decode cL_meanings 250 = .ok (.ldc 76, 2) := by decide +kernel
theorem dL_meanings_252 : decode cL_meanings 252 = .ok (.invokevirtual 61, 3) := by decide +kernel
theorem dL_meanings_255 : decode cL_meanings 255 = .ok (.pop, 1) := by decide +kernel
theorem dL_meanings_256 : decode cL_meanings 256 = .ok (.iinc 5 1, 3) := by decide +kernel
theorem dL_meanings_259 : decode cL_meanings 259 = .ok (.goto (-218), 3) := by decide +kernel
theorem dL_meanings_262 : decode cL_meanings 262 = .ok (.aload_n 0, 1) := by decide +kernel
theorem dL_meanings_263 : decode cL_meanings 263 = .ok (.aload 4, 2) := by decide +kernel
theorem dL_meanings_265 : decode cL_meanings 265 = .ok (.invokevirtual 72, 3) := by decide +kernel
theorem dL_meanings_268 : decode cL_meanings 268 = .ok (.invokestatic 78, 3) := by decide +kernel
theorem dL_meanings_271 : decode cL_meanings 271 = .ok (.aload_n 0, 1) := by decide +kernel
theorem dL_meanings_272 : decode cL_meanings 272 = .ok (.iconst 0, 1) := by decide +kernel
theorem dL_meanings_273 : decode cL_meanings 273 = .ok (.invokevirtual 82, 3) := by decide +kernel
theorem dL_meanings_276 : decode cL_meanings 276 = .ok (.iload_n 3, 1) := by decide +kernel
theorem dL_meanings_277 : decode cL_meanings 277 = .ok (.if_icmp .eq 5, 3) := by decide +kernel
theorem dL_meanings_280 : decode cL_meanings 280 = .ok (.iconst 0, 1) := by decide +kernel
theorem dL_meanings_281 : decode cL_meanings 281 = .ok (.ireturn, 1) := by decide +kernel
theorem dL_meanings_282 : decode cL_meanings 282 = .ok (.iload_n 3, 1) := by decide +kernel
theorem dL_meanings_283 : decode cL_meanings 283 = .ok (.ifCond .ne 7, 3) := by decide +kernel
theorem dL_meanings_286 : decode cL_meanings 286 = .ok (.iconst 0, 1) := by decide +kernel
theorem dL_meanings_287 : decode cL_meanings 287 = .ok (.goto 12, 3) := by decide +kernel
theorem dL_meanings_290 : decode cL_meanings 290 = .ok (.iload_n 2, 1) := by decide +kernel
theorem dL_meanings_291 : decode cL_meanings 291 = .ok (.iconst 5, 1) := by decide +kernel
theorem dL_meanings_292 : decode cL_meanings 292 = .ok (.ishr, 1) := by decide +kernel
theorem dL_meanings_293 : decode cL_meanings 293 = .ok (.iconst 0, 1) := by decide +kernel
theorem dL_meanings_294 : decode cL_meanings 294 = .ok (.bipush 10, 2) := by decide +kernel
theorem dL_meanings_296 : decode cL_meanings 296 = .ok (.invokestatic 43, 3) := by decide +kernel
theorem dL_meanings_299 : decode cL_meanings 299 = .ok (.istore 5, 2) := by decide +kernel
theorem dL_meanings_301 : decode cL_meanings 301 = .ok (.new 49, 3) := by decide +kernel
theorem dL_meanings_304 : decode cL_meanings 304 = .ok (.dup, 1) := by decide +kernel
theorem dL_meanings_305 : decode cL_meanings 305 = .ok (.invokespecial 51, 3) := by decide +kernel
theorem dL_meanings_308 : decode cL_meanings 308 = .ok (.astore 4, 2) := by decide +kernel
theorem dL_meanings_310 : decode cL_meanings 310 = .ok (.aload_n 1, 1) := by decide +kernel
theorem dL_meanings_311 : decode cL_meanings 311 = .ok (.iload 5, 2) := by decide +kernel
theorem dL_meanings_313 : decode cL_meanings 313 = .ok (.anewarray 58, 3) := by decide +kernel
theorem dL_meanings_316 : decode cL_meanings 316 = .ok (.putfield 86, 3) := by decide +kernel
theorem dL_meanings_319 : decode cL_meanings 319 = .ok (.iconst 0, 1) := by decide +kernel
theorem dL_meanings_320 : decode cL_meanings 320 = .ok (.istore 6, 2) := by decide +kernel
theorem dL_meanings_322 : decode cL_meanings 322 = .ok (.iload 6, 2) := by decide +kernel
theorem dL_meanings_324 : decode cL_meanings 324 = .ok (.iload 5, 2) := by decide +kernel
theorem dL_meanings_326 : decode cL_meanings 326 = .ok (.if_icmp .ge 151, 3) := by decide +kernel
theorem dL_meanings_329 : decode cL_meanings 329 = .ok (.iload_n 2, 1) := by decide +kernel
theorem dL_meanings_330 : decode cL_meanings 330 = .ok (.iload 6, 2) := by decide +kernel
theorem dL_meanings_332 : decode cL_meanings 332 = .ok (.bipush 7, 2) := by decide +kernel
theorem dL_meanings_334 : decode cL_meanings 334 = .ok (.iadd, 1) := by decide +kernel
theorem dL_meanings_335 : decode cL_meanings 335 = .ok (.imul, 1) := by decide +kernel
theorem dL_meanings_336 : decode cL_meanings 336 = .ok (.sipush 283, 3) := by decide +kernel
theorem dL_meanings_339 : decode cL_meanings 339 = .ok (.iload 6, 2) := by decide +kernel
theorem dL_meanings_341 : decode cL_meanings 341 = .ok (.imul, 1) := by decide +kernel
theorem dL_meanings_342 : decode cL_meanings 342 = .ok (.iadd, 1) := by decide +kernel
theorem dL_meanings_343 : decode cL_meanings 343 = .ok (.istore 7, 2) := by decide +kernel
theorem dL_meanings_345 : decode cL_meanings 345 = .ok (.aload_n 1, 1) := by decide +kernel
theorem dL_meanings_346 : decode cL_meanings 346 = .ok (.getfield 86, 3) := by decide +kernel
theorem dL_meanings_349 : decode cL_meanings 349 = .ok (.iload 6, 2) := by decide +kernel
theorem dL_meanings_351 : decode cL_meanings 351 = .ok (.iconst 3, 1) := by decide +kernel
theorem dL_meanings_352 : decode cL_meanings 352 = .ok (.newarray .int, 2) := by decide +kernel
theorem dL_meanings_354 : decode cL_meanings 354 = .ok (.dup, 1) := by decide +kernel
theorem dL_meanings_355 : decode cL_meanings 355 = .ok (.iconst 0, 1) := by decide +kernel
theorem dL_meanings_356 : decode cL_meanings 356 = .ok (.iload 7, 2) := by decide +kernel
theorem dL_meanings_358 : decode cL_meanings 358 = .ok (.iconst 0, 1) := by decide +kernel
theorem dL_meanings_359 : decode cL_meanings 359 = .ok (.iload_n 3, 1) := by decide +kernel
theorem dL_meanings_360 : decode cL_meanings 360 = .ok (.iconst 1, 1) := by decide +kernel
theorem dL_meanings_361 : decode cL_meanings 361 = .ok (.isub, 1) := by decide +kernel
theorem dL_meanings_362 : decode cL_meanings 362 = .ok (.invokestatic 43, 3) := by decide +kernel
theorem dL_meanings_365 : decode cL_meanings 365 = .ok (.iastore, 1) := by decide +kernel
theorem dL_meanings_366 : decode cL_meanings 366 = .ok (.dup, 1) := by decide +kernel
theorem dL_meanings_367 : decode cL_meanings 367 = .ok (.iconst 1, 1) := by decide +kernel
theorem dL_meanings_368 : decode cL_meanings 368 = .ok (.aload_n 1, 1) := by decide +kernel
theorem dL_meanings_369 : decode cL_meanings 369 = .ok (.getfield 89, 3) := by decide +kernel
theorem dL_meanings_372 : decode cL_meanings 372 = .ok (.iload 7, 2) := by decide +kernel
theorem dL_meanings_374 : decode cL_meanings 374 = .ok (.iconst 4, 1) := by decide +kernel
theorem dL_meanings_375 : decode cL_meanings 375 = .ok (.ishr, 1) := by decide +kernel
theorem dL_meanings_376 : decode cL_meanings 376 = .ok (.iconst 0, 1) := by decide +kernel
theorem dL_meanings_377 : decode cL_meanings 377 = .ok (.bipush 30, 2) := by decide +kernel
theorem dL_meanings_379 : decode cL_meanings 379 = .ok (.invokestatic 43, 3) := by decide +kernel
theorem dL_meanings_382 : decode cL_meanings 382 = .ok (.iadd, 1) := by decide +kernel
theorem dL_meanings_383 : decode cL_meanings 383 = .ok (.iastore, 1) := by decide +kernel
theorem dL_meanings_384 : decode cL_meanings 384 = .ok (.dup, 1) := by decide +kernel
theorem dL_meanings_385 : decode cL_meanings 385 = .ok (.iconst 2, 1) := by decide +kernel
theorem dL_meanings_386 : decode cL_meanings 386 = .ok (.iload 7, 2) := by decide +kernel
theorem dL_meanings_388 : decode cL_meanings 388 = .ok (.bipush 6, 2) := by decide +kernel
theorem dL_meanings_390 : decode cL_meanings 390 = .ok (.ishr, 1) := by decide +kernel
theorem dL_meanings_391 : decode cL_meanings 391 = .ok (.iconst 1, 1) := by decide +kernel
theorem dL_meanings_392 : decode cL_meanings 392 = .ok (.bipush 99, 2) := by decide +kernel
theorem dL_meanings_394 : decode cL_meanings 394 = .ok (.invokestatic 43, 3) := by decide +kernel
theorem dL_meanings_397 : decode cL_meanings 397 = .ok (.iastore, 1) := by decide +kernel
theorem dL_meanings_398 : decode cL_meanings 398 = .ok (.aastore, 1) := by decide +kernel
theorem dL_meanings_399 : decode cL_meanings 399 = .ok (.aload 4, 2) := by decide +kernel
theorem dL_meanings_401 : decode cL_meanings 401 = .ok (.new 49, 3) := by decide +kernel
theorem dL_meanings_404 : decode cL_meanings 404 = .ok (.dup, 1) := by decide +kernel
theorem dL_meanings_405 : decode cL_meanings 405 = .ok (.invokespecial 51, 3) := by decide +kernel
theorem dL_meanings_408 : decode cL_meanings 408 = .ok (.ldc 92, 2) := by decide +kernel
theorem dL_meanings_410 : decode cL_meanings 410 = .ok (.invokevirtual 61, 3) := by decide +kernel
theorem dL_meanings_413 : decode cL_meanings 413 = .ok (.aload_n 1, 1) := by decide +kernel
theorem dL_meanings_414 : decode cL_meanings 414 = .ok (.getfield 86, 3) := by decide +kernel
theorem dL_meanings_417 : decode cL_meanings 417 = .ok (.iload 6, 2) := by decide +kernel
theorem dL_meanings_419 : decode cL_meanings 419 = .ok (.aaload, 1) := by decide +kernel
theorem dL_meanings_420 : decode cL_meanings 420 = .ok (.iconst 0, 1) := by decide +kernel
theorem dL_meanings_421 : decode cL_meanings 421 = .ok (.iaload, 1) := by decide +kernel
theorem dL_meanings_422 : decode cL_meanings 422 = .ok (.invokevirtual 69, 3) := by decide +kernel
theorem dL_meanings_425 : decode cL_meanings 425 = .ok (.ldc 94, 2) := by decide +kernel
theorem dL_meanings_427 : decode cL_meanings 427 = .ok (.invokevirtual 61, 3) := by decide +kernel
theorem dL_meanings_430 : decode cL_meanings 430 = .ok (.aload_n 1, 1) := by decide +kernel
theorem dL_meanings_431 : decode cL_meanings 431 = .ok (.getfield 86, 3) := by decide +kernel
theorem dL_meanings_434 : decode cL_meanings 434 = .ok (.iload 6, 2) := by decide +kernel
theorem dL_meanings_436 : decode cL_meanings 436 = .ok (.aaload, 1) := by decide +kernel
theorem dL_meanings_437 : decode cL_meanings 437 = .ok (.iconst 1, 1) := by decide +kernel
theorem dL_meanings_438 : decode cL_meanings 438 = .ok (.iaload, 1) := by decide +kernel
theorem dL_meanings_439 : decode cL_meanings 439 = .ok (.invokevirtual 69, 3) := by decide +kernel
theorem dL_meanings_442 : decode cL_meanings 442 = .ok (.ldc 96, 2) := by decide +kernel
theorem dL_meanings_444 : decode cL_meanings 444 = .ok (.invokevirtual 61, 3) := by decide +kernel
theorem dL_meanings_447 : decode cL_meanings 447 = .ok (.aload_n 1, 1) := by decide +kernel
theorem dL_meanings_448 : decode cL_meanings 448 = .ok (.getfield 86, 3) := by decide +kernel
theorem dL_meanings_451 : decode cL_meanings 451 = .ok (.iload 6, 2) := by decide +kernel
theorem dL_meanings_453 : decode cL_meanings 453 = .ok (.aaload, 1) := by decide +kernel
theorem dL_meanings_454 : decode cL_meanings 454 = .ok (.iconst 2, 1) := by decide +kernel
theorem dL_meanings_455 : decode cL_meanings 455 = .ok (.iaload, 1) := by decide +kernel
theorem dL_meanings_456 : decode cL_meanings 456 = .ok (.invokevirtual 69, 3) := by decide +kernel
theorem dL_meanings_459 : decode cL_meanings 459 = .ok (.ldc 76, 2) := by decide +kernel
theorem dL_meanings_461 : decode cL_meanings 461 = .ok (.invokevirtual 61, 3) := by decide +kernel
theorem dL_meanings_464 : decode cL_meanings 464 = .ok (.invokevirtual 72, 3) := by decide +kernel
theorem dL_meanings_467 : decode cL_meanings 467 = .ok (.invokevirtual 61, 3) := by decide +kernel
theorem dL_meanings_470 : decode cL_meanings 470 = .ok (.pop, 1) := by decide +kernel
theorem dL_meanings_471 : decode cL_meanings 471 = .ok (.iinc 6 1, 3) := by decide +kernel
theorem dL_meanings_474 : decode cL_meanings 474 = .ok (.goto (-152), 3) := by decide +kernel
theorem dL_meanings_477 : decode cL_meanings 477 = .ok (.aload_n 0, 1) := by decide +kernel
theorem dL_meanings_478 : decode cL_meanings 478 = .ok (.aload 4, 2) := by decide +kernel
theorem dL_meanings_480 : decode cL_meanings 480 = .ok (.invokevirtual 72, 3) := by decide +kernel
theorem dL_meanings_483 : decode cL_meanings 483 = .ok (.invokestatic 78, 3) := by decide +kernel
theorem dL_meanings_486 : decode cL_meanings 486 = .ok (.aload_n 0, 1) := by decide +kernel
theorem dL_meanings_487 : decode cL_meanings 487 = .ok (.iconst 3, 1) := by decide +kernel
theorem dL_meanings_488 : decode cL_meanings 488 = .ok (.invokevirtual 82, 3) := by decide +kernel
theorem dL_meanings_491 : decode cL_meanings 491 = .ok (.iload 5, 2) := by decide +kernel
theorem dL_meanings_493 : decode cL_meanings 493 = .ok (.if_icmp .ne 7, 3) := by decide +kernel
theorem dL_meanings_496 : decode cL_meanings 496 = .ok (.iconst 1, 1) := by decide +kernel
theorem dL_meanings_497 : decode cL_meanings 497 = .ok (.goto 4, 3) := by decide +kernel
theorem dL_meanings_500 : decode cL_meanings 500 = .ok (.iconst 0, 1) := by decide +kernel
theorem dL_meanings_501 : decode cL_meanings 501 = .ok (.ireturn, 1) := by decide +kernel
theorem dL_walks_0 : decode cL_walks 0 = .ok (.aload_n 1, 1) := by decide +kernel
theorem dL_walks_1 : decode cL_walks 1 = .ok (.getfield 98, 3) := by decide +kernel
theorem dL_walks_4 : decode cL_walks 4 = .ok (.ifCond .ne 7, 3) := by decide +kernel
theorem dL_walks_7 : decode cL_walks 7 = .ok (.iconst 0, 1) := by decide +kernel
theorem dL_walks_8 : decode cL_walks 8 = .ok (.goto 12, 3) := by decide +kernel
theorem dL_walks_11 : decode cL_walks 11 = .ok (.iload_n 2, 1) := by decide +kernel
theorem dL_walks_12 : decode cL_walks 12 = .ok (.iconst 4, 1) := by decide +kernel
theorem dL_walks_13 : decode cL_walks 13 = .ok (.ishr, 1) := by decide +kernel
theorem dL_walks_14 : decode cL_walks 14 = .ok (.iconst 0, 1) := by decide +kernel
theorem dL_walks_15 : decode cL_walks 15 = .ok (.bipush 12, 2) := by decide +kernel
theorem dL_walks_17 : decode cL_walks 17 = .ok (.invokestatic 43, 3) := by decide +kernel
theorem dL_walks_20 : decode cL_walks 20 = .ok (.istore_n 3, 1) := by decide +kernel
theorem dL_walks_21 : decode cL_walks 21 = .ok (.new 49, 3) := by decide +kernel
theorem dL_walks_24 : decode cL_walks 24 = .ok (.dup, 1) := by decide +kernel
theorem dL_walks_25 : decode cL_walks 25 = .ok (.invokespecial 51, 3) := by decide +kernel
theorem dL_walks_28 : decode cL_walks 28 = .ok (.astore 4, 2) := by decide +kernel
theorem dL_walks_30 : decode cL_walks 30 = .ok (.aload_n 1, 1) := by decide +kernel
theorem dL_walks_31 : decode cL_walks 31 = .ok (.iload_n 3, 1) := by decide +kernel
theorem dL_walks_32 : decode cL_walks 32 = .ok (.anewarray 58, 3) := by decide +kernel
theorem dL_walks_35 : decode cL_walks 35 = .ok (.putfield 101, 3) := by decide +kernel
theorem dL_walks_38 : decode cL_walks 38 = .ok (.iconst 0, 1) := by decide +kernel
theorem dL_walks_39 : decode cL_walks 39 = .ok (.istore 5, 2) := by decide +kernel
theorem dL_walks_41 : decode cL_walks 41 = .ok (.iload 5, 2) := by decide +kernel
theorem dL_walks_43 : decode cL_walks 43 = .ok (.iload_n 3, 1) := by decide +kernel
theorem dL_walks_44 : decode cL_walks 44 = .ok (.if_icmp .ge 267, 3) := by decide +kernel
theorem dL_walks_47 : decode cL_walks 47 = .ok (.iload_n 2, 1) := by decide +kernel
theorem dL_walks_48 : decode cL_walks 48 = .ok (.iload 5, 2) := by decide +kernel
theorem dL_walks_50 : decode cL_walks 50 = .ok (.iconst 3, 1) := by decide +kernel
theorem dL_walks_51 : decode cL_walks 51 = .ok (.iadd, 1) := by decide +kernel
theorem dL_walks_52 : decode cL_walks 52 = .ok (.imul, 1) := by decide +kernel
theorem dL_walks_53 : decode cL_walks 53 = .ok (.sipush 293, 3) := by decide +kernel
theorem dL_walks_56 : decode cL_walks 56 = .ok (.iload 5, 2) := by decide +kernel
theorem dL_walks_58 : decode cL_walks 58 = .ok (.imul, 1) := by decide +kernel
theorem dL_walks_59 : decode cL_walks 59 = .ok (.iadd, 1) := by decide +kernel
theorem dL_walks_60 : decode cL_walks 60 = .ok (.istore 6, 2) := by decide +kernel
theorem dL_walks_62 : decode cL_walks 62 = .ok (.aload_n 1, 1) := by decide +kernel
theorem dL_walks_63 : decode cL_walks 63 = .ok (.getfield 37, 3) := by decide +kernel
theorem dL_walks_66 : decode cL_walks 66 = .ok (.ifCond .ne 12, 3) := by decide +kernel
theorem dL_walks_69 : decode cL_walks 69 = .ok (.iconst 2, 1) := by decide +kernel
theorem dL_walks_70 : decode cL_walks 70 = .ok (.iload 6, 2) := by decide +kernel
theorem dL_walks_72 : decode cL_walks 72 = .ok (.iconst 1, 1) := by decide +kernel
theorem dL_walks_73 : decode cL_walks 73 = .ok (.iand, 1) := by decide +kernel
theorem dL_walks_74 : decode cL_walks 74 = .ok (.imul, 1) := by decide +kernel
theorem dL_walks_75 : decode cL_walks 75 = .ok (.goto 14, 3) := by decide +kernel
theorem dL_walks_78 : decode cL_walks 78 = .ok (.iload 6, 2) := by decide +kernel
theorem dL_walks_80 : decode cL_walks 80 = .ok (.iconst 3, 1) := by decide +kernel
theorem dL_walks_81 : decode cL_walks 81 = .ok (.ishr, 1) := by decide +kernel
theorem dL_walks_82 : decode cL_walks 82 = .ok (.iconst 0, 1) := by decide +kernel
theorem dL_walks_83 : decode cL_walks 83 = .ok (.iconst 5, 1) := by decide +kernel
theorem dL_walks_84 : decode cL_walks 84 = .ok (.invokestatic 43, 3) := by decide +kernel
theorem dL_walks_87 : decode cL_walks 87 = .ok (.iconst 2, 1) := by decide +kernel
theorem dL_walks_88 : decode cL_walks 88 = .ok (.idiv, 1) := by decide +kernel
theorem dL_walks_89 : decode cL_walks 89 = .ok (.istore 7, 2) := by decide +kernel
theorem dL_walks_91 : decode cL_walks 91 = .ok (.aload_n 1, 1) := by decide +kernel
theorem dL_walks_92 : decode cL_walks 92 = .ok (.getfield 101, 3) := by decide +kernel
theorem dL_walks_95 : decode cL_walks 95 = .ok (.iload 5, 2) := by decide +kernel
theorem dL_walks_97 : decode cL_walks 97 = .ok (.iconst 4, 1) := by decide +kernel
theorem dL_walks_98 : decode cL_walks 98 = .ok (.newarray .int, 2) := by decide +kernel
theorem dL_walks_100 : decode cL_walks 100 = .ok (.dup, 1) := by decide +kernel
theorem dL_walks_101 : decode cL_walks 101 = .ok (.iconst 0, 1) := by decide +kernel
theorem dL_walks_102 : decode cL_walks 102 = .ok (.aload_n 1, 1) := by decide +kernel
theorem dL_walks_103 : decode cL_walks 103 = .ok (.getfield 89, 3) := by decide +kernel
theorem dL_walks_106 : decode cL_walks 106 = .ok (.iload 6, 2) := by decide +kernel
theorem dL_walks_108 : decode cL_walks 108 = .ok (.iconst 0, 1) := by decide +kernel
theorem dL_walks_109 : decode cL_walks 109 = .ok (.bipush 8, 2) := by decide +kernel
theorem dL_walks_111 : decode cL_walks 111 = .ok (.invokestatic 43, 3) := by decide +kernel
theorem dL_walks_114 : decode cL_walks 114 = .ok (.iadd, 1) := by decide +kernel
theorem dL_walks_115 : decode cL_walks 115 = .ok (.iastore, 1) := by decide +kernel
theorem dL_walks_116 : decode cL_walks 116 = .ok (.dup, 1) := by decide +kernel
theorem dL_walks_117 : decode cL_walks 117 = .ok (.iconst 1, 1) := by decide +kernel
theorem dL_walks_118 : decode cL_walks 118 = .ok (.iload 6, 2) := by decide +kernel
theorem dL_walks_120 : decode cL_walks 120 = .ok (.iconst 5, 1) := by decide +kernel
theorem dL_walks_121 : decode cL_walks 121 = .ok (.ishr, 1) := by decide +kernel
theorem dL_walks_122 : decode cL_walks 122 = .ok (.iconst 0, 1) := by decide +kernel
theorem dL_walks_123 : decode cL_walks 123 = .ok (.aload_n 1, 1) := by decide +kernel
theorem dL_walks_124 : decode cL_walks 124 = .ok (.getfield 98, 3) := by decide +kernel
theorem dL_walks_127 : decode cL_walks 127 = .ok (.iconst 1, 1) := by decide +kernel
theorem dL_walks_128 : decode cL_walks 128 = .ok (.isub, 1) := by decide +kernel
theorem dL_walks_129 : decode cL_walks 129 = .ok (.invokestatic 43, 3) := by decide +kernel
theorem dL_walks_132 : decode cL_walks 132 = .ok (.iastore, 1) := by decide +kernel
theorem dL_walks_133 : decode cL_walks 133 = .ok (.dup, 1) := by decide +kernel
theorem dL_walks_134 : decode cL_walks 134 = .ok (.iconst 2, 1) := by decide +kernel
theorem dL_walks_135 : decode cL_walks 135 = .ok (.iload 7, 2) := by decide +kernel
theorem dL_walks_137 : decode cL_walks 137 = .ok (.iastore, 1) := by decide +kernel
theorem dL_walks_138 : decode cL_walks 138 = .ok (.dup, 1) := by decide +kernel
theorem dL_walks_139 : decode cL_walks 139 = .ok (.iconst 3, 1) := by decide +kernel
theorem dL_walks_140 : decode cL_walks 140 = .ok (.iload 7, 2) := by decide +kernel
theorem dL_walks_142 : decode cL_walks 142 = .ok (.ifCond .ne 16, 3) := by decide +kernel
theorem dL_walks_145 : decode cL_walks 145 = .ok (.iload 6, 2) := by decide +kernel
theorem dL_walks_147 : decode cL_walks 147 = .ok (.bipush 6, 2) := by decide +kernel
theorem dL_walks_149 : decode cL_walks 149 = .ok (.ishr, 1) := by decide +kernel
theorem dL_walks_150 : decode cL_walks 150 = .ok (.iconst 0, 1) := by decide +kernel
theorem dL_walks_151 : decode cL_walks 151 = .ok (.iconst 3, 1) := by decide +kernel
theorem dL_walks_152 : decode cL_walks 152 = .ok (.invokestatic 43, 3) := by decide +kernel
theorem dL_walks_155 : decode cL_walks 155 = .ok (.goto 28, 3) := by decide +kernel
theorem dL_walks_158 : decode cL_walks 158 = .ok (.iload 7, 2) := by decide +kernel
theorem dL_walks_160 : decode cL_walks 160 = .ok (.iconst 1, 1) := by decide +kernel
theorem dL_walks_161 : decode cL_walks 161 = .ok (.if_icmp .ne 21, 3) := by decide +kernel
theorem dL_walks_164 : decode cL_walks 164 = .ok (.iload 6, 2) := by decide +kernel
theorem dL_walks_166 : decode cL_walks 166 = .ok (.bipush 6, 2) := by decide +kernel
theorem dL_walks_168 : decode cL_walks 168 = .ok (.ishr, 1) := by decide +kernel
theorem dL_walks_169 : decode cL_walks 169 = .ok (.iconst 0, 1) := by decide +kernel
theorem dL_walks_170 : decode cL_walks 170 = .ok (.aload_n 1, 1) := by decide +kernel
theorem dL_walks_171 : decode cL_walks 171 = .ok (.getfield 37, 3) := by decide +kernel
theorem dL_walks_174 : decode cL_walks 174 = .ok (.iconst 1, 1) := by decide +kernel
theorem dL_walks_175 : decode cL_walks 175 = .ok (.isub, 1) := by decide +kernel
theorem dL_walks_176 : decode cL_walks 176 = .ok (.invokestatic 43, 3) := by decide +kernel
theorem dL_walks_179 : decode cL_walks 179 = .ok (.goto 4, 3) := by decide +kernel
theorem dL_walks_182 : decode cL_walks 182 = .ok (.iconst 0, 1) := by decide +kernel
theorem dL_walks_183 : decode cL_walks 183 = .ok (.iastore, 1) := by decide +kernel
theorem dL_walks_184 : decode cL_walks 184 = .ok (.aastore, 1) := by decide +kernel
theorem dL_walks_185 : decode cL_walks 185 = .ok (.aload_n 1, 1) := by decide +kernel
theorem dL_walks_186 : decode cL_walks 186 = .ok (.getfield 101, 3) := by decide +kernel
theorem dL_walks_189 : decode cL_walks 189 = .ok (.iload 5, 2) := by decide +kernel
theorem dL_walks_191 : decode cL_walks 191 = .ok (.aaload, 1) := by decide +kernel
theorem dL_walks_192 : decode cL_walks 192 = .ok (.astore 8, 2) := by decide +kernel
theorem dL_walks_194 : decode cL_walks 194 = .ok (.aload 4, 2) := by decide +kernel
theorem dL_walks_196 : decode cL_walks 196 = .ok (.new 49, 3) := by decide +kernel
theorem dL_walks_199 : decode cL_walks 199 = .ok (.dup, 1) := by decide +kernel
theorem dL_walks_200 : decode cL_walks 200 = .ok (.invokespecial 51, 3) := by decide +kernel
theorem dL_walks_203 : decode cL_walks 203 = .ok (.ldc 104, 2) := by decide +kernel
theorem dL_walks_205 : decode cL_walks 205 = .ok (.invokevirtual 61, 3) := by decide +kernel
theorem dL_walks_208 : decode cL_walks 208 = .ok (.aload 8, 2) := by decide +kernel
theorem dL_walks_210 : decode cL_walks 210 = .ok (.iconst 0, 1) := by decide +kernel
theorem dL_walks_211 : decode cL_walks 211 = .ok (.iaload, 1) := by decide +kernel
theorem dL_walks_212 : decode cL_walks 212 = .ok (.invokevirtual 69, 3) := by decide +kernel
theorem dL_walks_215 : decode cL_walks 215 = .ok (.ldc 67, 2) := by decide +kernel
theorem dL_walks_217 : decode cL_walks 217 = .ok (.invokevirtual 61, 3) := by decide +kernel
theorem dL_walks_220 : decode cL_walks 220 = .ok (.aload 8, 2) := by decide +kernel
theorem dL_walks_222 : decode cL_walks 222 = .ok (.iconst 1, 1) := by decide +kernel
theorem dL_walks_223 : decode cL_walks 223 = .ok (.iaload, 1) := by decide +kernel
theorem dL_walks_224 : decode cL_walks 224 = .ok (.invokevirtual 69, 3) := by decide +kernel
theorem dL_walks_227 : decode cL_walks 227 = .ok (.iload 7, 2) := by decide +kernel
theorem dL_walks_229 : decode cL_walks 229 = .ok (.ifCond .ne 28, 3) := by decide +kernel
theorem dL_walks_232 : decode cL_walks 232 = .ok (.new 49, 3) := by decide +kernel
theorem dL_walks_235 : decode cL_walks 235 = .ok (.dup, 1) := by decide +kernel
theorem dL_walks_236 : decode cL_walks 236 = .ok (.invokespecial 51, 3) := by decide +kernel
theorem dL_walks_239 : decode cL_walks 239 = .ok (.ldc 106, 2) := by decide +kernel
theorem dL_walks_241 : decode cL_walks 241 = .ok (.invokevirtual 61, 3) := by decide +kernel
theorem dL_walks_244 : decode cL_walks 244 = .ok (.aload 8, 2) := by decide +kernel
theorem dL_walks_246 : decode cL_walks 246 = .ok (.iconst 3, 1) := by decide +kernel
theorem dL_walks_247 : decode cL_walks 247 = .ok (.iaload, 1) := by decide +kernel
theorem dL_walks_248 : decode cL_walks 248 = .ok (.invokevirtual 69, 3) := by decide +kernel
theorem dL_walks_251 : decode cL_walks 251 = .ok (.invokevirtual 72, 3) := by decide +kernel
theorem dL_walks_254 : decode cL_walks 254 = .ok (.goto 36, 3) := by decide +kernel
theorem dL_walks_257 : decode cL_walks 257 = .ok (.iload 7, 2) := by decide +kernel
theorem dL_walks_259 : decode cL_walks 259 = .ok (.iconst 1, 1) := by decide +kernel
theorem dL_walks_260 : decode cL_walks 260 = .ok (.if_icmp .ne 28, 3) := by decide +kernel
theorem dL_walks_263 : decode cL_walks 263 = .ok (.new 49, 3) := by decide +kernel
theorem dL_walks_266 : decode cL_walks 266 = .ok (.dup, 1) := by decide +kernel
theorem dL_walks_267 : decode cL_walks 267 = .ok (.invokespecial 51, 3) := by decide +kernel
theorem dL_walks_270 : decode cL_walks 270 = .ok (.ldc 108, 2) := by decide +kernel
theorem dL_walks_272 : decode cL_walks 272 = .ok (.invokevirtual 61, 3) := by decide +kernel
theorem dL_walks_275 : decode cL_walks 275 = .ok (.aload 8, 2) := by decide +kernel
theorem dL_walks_277 : decode cL_walks 277 = .ok (.iconst 3, 1) := by decide +kernel
theorem dL_walks_278 : decode cL_walks 278 = .ok (.iaload, 1) := by decide +kernel
theorem dL_walks_279 : decode cL_walks 279 = .ok (.invokevirtual 69, 3) := by decide +kernel
theorem dL_walks_282 : decode cL_walks 282 = .ok (.invokevirtual 72, 3) := by decide +kernel
theorem dL_walks_285 : decode cL_walks 285 = .ok (.goto 5, 3) := by decide +kernel
theorem dL_walks_288 : decode cL_walks 288 = .ok (.ldc 110, 2) := by decide +kernel
theorem dL_walks_290 : decode cL_walks 290 = .ok (.invokevirtual 61, 3) := by decide +kernel
theorem dL_walks_293 : decode cL_walks 293 = .ok (.ldc 76, 2) := by decide +kernel
theorem dL_walks_295 : decode cL_walks 295 = .ok (.invokevirtual 61, 3) := by decide +kernel
theorem dL_walks_298 : decode cL_walks 298 = .ok (.invokevirtual 72, 3) := by decide +kernel
theorem dL_walks_301 : decode cL_walks 301 = .ok (.invokevirtual 61, 3) := by decide +kernel
theorem dL_walks_304 : decode cL_walks 304 = .ok (.pop, 1) := by decide +kernel
theorem dL_walks_305 : decode cL_walks 305 = .ok (.iinc 5 1, 3) := by decide +kernel
theorem dL_walks_308 : decode cL_walks 308 = .ok (.goto (-267), 3) := by decide +kernel
theorem dL_walks_311 : decode cL_walks 311 = .ok (.aload_n 0, 1) := by decide +kernel
theorem dL_walks_312 : decode cL_walks 312 = .ok (.aload 4, 2) := by decide +kernel
theorem dL_walks_314 : decode cL_walks 314 = .ok (.invokevirtual 72, 3) := by decide +kernel
theorem dL_walks_317 : decode cL_walks 317 = .ok (.invokestatic 78, 3) := by decide +kernel
theorem dL_walks_320 : decode cL_walks 320 = .ok (.aload_n 0, 1) := by decide +kernel
theorem dL_walks_321 : decode cL_walks 321 = .ok (.iconst 2, 1) := by decide +kernel
theorem dL_walks_322 : decode cL_walks 322 = .ok (.invokevirtual 82, 3) := by decide +kernel
theorem dL_walks_325 : decode cL_walks 325 = .ok (.iload_n 3, 1) := by decide +kernel
theorem dL_walks_326 : decode cL_walks 326 = .ok (.if_icmp .ne 7, 3) := by decide +kernel
theorem dL_walks_329 : decode cL_walks 329 = .ok (.iconst 1, 1) := by decide +kernel
theorem dL_walks_330 : decode cL_walks 330 = .ok (.goto 4, 3) := by decide +kernel
theorem dL_walks_333 : decode cL_walks 333 = .ok (.iconst 0, 1) := by decide +kernel
theorem dL_walks_334 : decode cL_walks 334 = .ok (.ireturn, 1) := by decide +kernel
theorem dL_talk_0 : decode cL_talk 0 = .ok (.new 38, 3) := by decide +kernel
theorem dL_talk_3 : decode cL_talk 3 = .ok (.dup, 1) := by decide +kernel
theorem dL_talk_4 : decode cL_talk 4 = .ok (.invokespecial 112, 3) := by decide +kernel
theorem dL_talk_7 : decode cL_talk 7 = .ok (.astore_n 3, 1) := by decide +kernel
theorem dL_talk_8 : decode cL_talk 8 = .ok (.aload_n 1, 1) := by decide +kernel
theorem dL_talk_9 : decode cL_talk 9 = .ok (.iload_n 2, 1) := by decide +kernel
theorem dL_talk_10 : decode cL_talk 10 = .ok (.invokestatic 113, 3) := by decide +kernel
theorem dL_talk_13 : decode cL_talk 13 = .ok (.istore 4, 2) := by decide +kernel
theorem dL_talk_15 : decode cL_talk 15 = .ok (.aload_n 1, 1) := by decide +kernel
theorem dL_talk_16 : decode cL_talk 16 = .ok (.iload_n 2, 1) := by decide +kernel
theorem dL_talk_17 : decode cL_talk 17 = .ok (.iconst 1, 1) := by decide +kernel
theorem dL_talk_18 : decode cL_talk 18 = .ok (.iadd, 1) := by decide +kernel
theorem dL_talk_19 : decode cL_talk 19 = .ok (.invokestatic 113, 3) := by decide +kernel
theorem dL_talk_22 : decode cL_talk 22 = .ok (.istore 5, 2) := by decide +kernel
theorem dL_talk_24 : decode cL_talk 24 = .ok (.bipush 7, 2) := by decide +kernel
theorem dL_talk_26 : decode cL_talk 26 = .ok (.newarray .int, 2) := by decide +kernel
theorem dL_talk_28 : decode cL_talk 28 = .ok (.dup, 1) := by decide +kernel
theorem dL_talk_29 : decode cL_talk 29 = .ok (.iconst 0, 1) := by decide +kernel
theorem dL_talk_30 : decode cL_talk 30 = .ok (.iload 5, 2) := by decide +kernel
theorem dL_talk_32 : decode cL_talk 32 = .ok (.iconst 0, 1) := by decide +kernel
theorem dL_talk_33 : decode cL_talk 33 = .ok (.bipush 15, 2) := by decide +kernel
theorem dL_talk_35 : decode cL_talk 35 = .ok (.invokestatic 43, 3) := by decide +kernel
theorem dL_talk_38 : decode cL_talk 38 = .ok (.iastore, 1) := by decide +kernel
theorem dL_talk_39 : decode cL_talk 39 = .ok (.dup, 1) := by decide +kernel
theorem dL_talk_40 : decode cL_talk 40 = .ok (.iconst 1, 1) := by decide +kernel
theorem dL_talk_41 : decode cL_talk 41 = .ok (.iload 5, 2) := by decide +kernel
theorem dL_talk_43 : decode cL_talk 43 = .ok (.iconst 3, 1) := by decide +kernel
theorem dL_talk_44 : decode cL_talk 44 = .ok (.ishr, 1) := by decide +kernel
theorem dL_talk_45 : decode cL_talk 45 = .ok (.iconst 0, 1) := by decide +kernel
theorem dL_talk_46 : decode cL_talk 46 = .ok (.bipush 13, 2) := by decide +kernel
theorem dL_talk_48 : decode cL_talk 48 = .ok (.invokestatic 43, 3) := by decide +kernel
theorem dL_talk_51 : decode cL_talk 51 = .ok (.iastore, 1) := by decide +kernel
theorem dL_talk_52 : decode cL_talk 52 = .ok (.dup, 1) := by decide +kernel
theorem dL_talk_53 : decode cL_talk 53 = .ok (.iconst 2, 1) := by decide +kernel
theorem dL_talk_54 : decode cL_talk 54 = .ok (.iload 5, 2) := by decide +kernel
theorem dL_talk_56 : decode cL_talk 56 = .ok (.iconst 5, 1) := by decide +kernel
theorem dL_talk_57 : decode cL_talk 57 = .ok (.ishr, 1) := by decide +kernel
theorem dL_talk_58 : decode cL_talk 58 = .ok (.iconst 1, 1) := by decide +kernel
theorem dL_talk_59 : decode cL_talk 59 = .ok (.bipush 40, 2) := by decide +kernel
theorem dL_talk_61 : decode cL_talk 61 = .ok (.invokestatic 43, 3) := by decide +kernel
theorem dL_talk_64 : decode cL_talk 64 = .ok (.iastore, 1) := by decide +kernel
theorem dL_talk_65 : decode cL_talk 65 = .ok (.dup, 1) := by decide +kernel
theorem dL_talk_66 : decode cL_talk 66 = .ok (.iconst 3, 1) := by decide +kernel
theorem dL_talk_67 : decode cL_talk 67 = .ok (.iload 5, 2) := by decide +kernel
theorem dL_talk_69 : decode cL_talk 69 = .ok (.bipush 6, 2) := by decide +kernel
theorem dL_talk_71 : decode cL_talk 71 = .ok (.ishr, 1) := by decide +kernel
theorem dL_talk_72 : decode cL_talk 72 = .ok (.iconst 0, 1) := by decide +kernel
theorem dL_talk_73 : decode cL_talk 73 = .ok (.bipush 30, 2) := by decide +kernel
theorem dL_talk_75 : decode cL_talk 75 = .ok (.invokestatic 43, 3) := by decide +kernel
theorem dL_talk_78 : decode cL_talk 78 = .ok (.iastore, 1) := by decide +kernel
theorem dL_talk_79 : decode cL_talk 79 = .ok (.dup, 1) := by decide +kernel
theorem dL_talk_80 : decode cL_talk 80 = .ok (.iconst 4, 1) := by decide +kernel
theorem dL_talk_81 : decode cL_talk 81 = .ok (.iload 5, 2) := by decide +kernel
theorem dL_talk_83 : decode cL_talk 83 = .ok (.iconst 4, 1) := by decide +kernel
theorem dL_talk_84 : decode cL_talk 84 = .ok (.ishr, 1) := by decide +kernel
theorem dL_talk_85 : decode cL_talk 85 = .ok (.iconst 0, 1) := by decide +kernel
theorem dL_talk_86 : decode cL_talk 86 = .ok (.bipush 9, 2) := by decide +kernel
theorem dL_talk_88 : decode cL_talk 88 = .ok (.invokestatic 43, 3) := by decide +kernel
theorem dL_talk_91 : decode cL_talk 91 = .ok (.iastore, 1) := by decide +kernel
theorem dL_talk_92 : decode cL_talk 92 = .ok (.dup, 1) := by decide +kernel
theorem dL_talk_93 : decode cL_talk 93 = .ok (.iconst 5, 1) := by decide +kernel
theorem dL_talk_94 : decode cL_talk 94 = .ok (.iload 5, 2) := by decide +kernel
theorem dL_talk_96 : decode cL_talk 96 = .ok (.bipush 7, 2) := by decide +kernel
theorem dL_talk_98 : decode cL_talk 98 = .ok (.ishr, 1) := by decide +kernel
theorem dL_talk_99 : decode cL_talk 99 = .ok (.iconst 0, 1) := by decide +kernel
theorem dL_talk_100 : decode cL_talk 100 = .ok (.iconst 3, 1) := by decide +kernel
theorem dL_talk_101 : decode cL_talk 101 = .ok (.invokestatic 43, 3) := by decide +kernel
theorem dL_talk_104 : decode cL_talk 104 = .ok (.iastore, 1) := by decide +kernel
theorem dL_talk_105 : decode cL_talk 105 = .ok (.dup, 1) := by decide +kernel
theorem dL_talk_106 : decode cL_talk 106 = .ok (.bipush 6, 2) := by decide +kernel
theorem dL_talk_108 : decode cL_talk 108 = .ok (.iload 5, 2) := by decide +kernel
theorem dL_talk_110 : decode cL_talk 110 = .ok (.iconst 2, 1) := by decide +kernel
theorem dL_talk_111 : decode cL_talk 111 = .ok (.ishr, 1) := by decide +kernel
theorem dL_talk_112 : decode cL_talk 112 = .ok (.iconst 0, 1) := by decide +kernel
theorem dL_talk_113 : decode cL_talk 113 = .ok (.bipush 9, 2) := by decide +kernel
theorem dL_talk_115 : decode cL_talk 115 = .ok (.invokestatic 43, 3) := by decide +kernel
theorem dL_talk_118 : decode cL_talk 118 = .ok (.iastore, 1) := by decide +kernel
theorem dL_talk_119 : decode cL_talk 119 = .ok (.astore 6, 2) := by decide +kernel
theorem dL_talk_121 : decode cL_talk 121 = .ok (.iload 4, 2) := by decide +kernel
theorem dL_talk_123 : decode cL_talk 123 = .ok (.iconst 5, 1) := by decide +kernel
theorem dL_talk_124 : decode cL_talk 124 = .ok (.ishr, 1) := by decide +kernel
theorem dL_talk_125 : decode cL_talk 125 = .ok (.bipush 7, 2) := by decide +kernel
theorem dL_talk_127 : decode cL_talk 127 = .ok (.iand, 1) := by decide +kernel
theorem dL_talk_128 : decode cL_talk 128 = .ok (.ifCond .le 124, 3) := by decide +kernel
theorem dL_talk_131 : decode cL_talk 131 = .ok (.aload_n 3, 1) := by decide +kernel
theorem dL_talk_132 : decode cL_talk 132 = .ok (.aload 6, 2) := by decide +kernel
theorem dL_talk_134 : decode cL_talk 134 = .ok (.putfield 117, 3) := by decide +kernel
theorem dL_talk_137 : decode cL_talk 137 = .ok (.aload_n 0, 1) := by decide +kernel
theorem dL_talk_138 : decode cL_talk 138 = .ok (.new 49, 3) := by decide +kernel
theorem dL_talk_141 : decode cL_talk 141 = .ok (.dup, 1) := by decide +kernel
theorem dL_talk_142 : decode cL_talk 142 = .ok (.invokespecial 51, 3) := by decide +kernel
theorem dL_talk_145 : decode cL_talk 145 = .ok (.ldc 120, 2) := by decide +kernel
theorem dL_talk_147 : decode cL_talk 147 = .ok (.invokevirtual 61, 3) := by decide +kernel
theorem dL_talk_150 : decode cL_talk 150 = .ok (.aload 6, 2) := by decide +kernel
theorem dL_talk_152 : decode cL_talk 152 = .ok (.iconst 2, 1) := by decide +kernel
theorem dL_talk_153 : decode cL_talk 153 = .ok (.iaload, 1) := by decide +kernel
theorem dL_talk_154 : decode cL_talk 154 = .ok (.invokevirtual 69, 3) := by decide +kernel
theorem dL_talk_157 : decode cL_talk 157 = .ok (.ldc 122, 2) := by decide +kernel
theorem dL_talk_159 : decode cL_talk 159 = .ok (.invokevirtual 61, 3) := by decide +kernel
theorem dL_talk_162 : decode cL_talk 162 = .ok (.aload 6, 2) := by decide +kernel
theorem dL_talk_164 : decode cL_talk 164 = .ok (.iconst 0, 1) := by decide +kernel
theorem dL_talk_165 : decode cL_talk 165 = .ok (.iaload, 1) := by decide +kernel
theorem dL_talk_166 : decode cL_talk 166 = .ok (.invokevirtual 69, 3) := by decide +kernel
theorem dL_talk_169 : decode cL_talk 169 = .ok (.ldc 124, 2) := by decide +kernel
theorem dL_talk_171 : decode cL_talk 171 = .ok (.invokevirtual 61, 3) := by decide +kernel
theorem dL_talk_174 : decode cL_talk 174 = .ok (.aload 6, 2) := by decide +kernel
theorem dL_talk_176 : decode cL_talk 176 = .ok (.iconst 1, 1) := by decide +kernel
theorem dL_talk_177 : decode cL_talk 177 = .ok (.iaload, 1) := by decide +kernel
theorem dL_talk_178 : decode cL_talk 178 = .ok (.invokevirtual 69, 3) := by decide +kernel
theorem dL_talk_181 : decode cL_talk 181 = .ok (.ldc 126, 2) := by decide +kernel
theorem dL_talk_183 : decode cL_talk 183 = .ok (.invokevirtual 61, 3) := by decide +kernel
theorem dL_talk_186 : decode cL_talk 186 = .ok (.aload 6, 2) := by decide +kernel
theorem dL_talk_188 : decode cL_talk 188 = .ok (.iconst 3, 1) := by decide +kernel
theorem dL_talk_189 : decode cL_talk 189 = .ok (.iaload, 1) := by decide +kernel
theorem dL_talk_190 : decode cL_talk 190 = .ok (.invokevirtual 69, 3) := by decide +kernel
theorem dL_talk_193 : decode cL_talk 193 = .ok (.ldc 128, 2) := by decide +kernel
theorem dL_talk_195 : decode cL_talk 195 = .ok (.invokevirtual 61, 3) := by decide +kernel
theorem dL_talk_198 : decode cL_talk 198 = .ok (.aload 6, 2) := by decide +kernel
theorem dL_talk_200 : decode cL_talk 200 = .ok (.iconst 4, 1) := by decide +kernel
theorem dL_talk_201 : decode cL_talk 201 = .ok (.iaload, 1) := by decide +kernel
theorem dL_talk_202 : decode cL_talk 202 = .ok (.invokevirtual 69, 3) := by decide +kernel
theorem dL_talk_205 : decode cL_talk 205 = .ok (.ldc 130, 2) := by decide +kernel
theorem dL_talk_207 : decode cL_talk 207 = .ok (.invokevirtual 61, 3) := by decide +kernel
theorem dL_talk_210 : decode cL_talk 210 = .ok (.aload 6, 2) := by decide +kernel
theorem dL_talk_212 : decode cL_talk 212 = .ok (.iconst 5, 1) := by decide +kernel
theorem dL_talk_213 : decode cL_talk 213 = .ok (.iaload, 1) := by decide +kernel
theorem dL_talk_214 : decode cL_talk 214 = .ok (.invokevirtual 69, 3) := by decide +kernel
theorem dL_talk_217 : decode cL_talk 217 = .ok (.ldc 132, 2) := by decide +kernel
theorem dL_talk_219 : decode cL_talk 219 = .ok (.invokevirtual 61, 3) := by decide +kernel
theorem dL_talk_222 : decode cL_talk 222 = .ok (.aload 6, 2) := by decide +kernel
theorem dL_talk_224 : decode cL_talk 224 = .ok (.bipush 6, 2) := by decide +kernel
theorem dL_talk_226 : decode cL_talk 226 = .ok (.iaload, 1) := by decide +kernel
theorem dL_talk_227 : decode cL_talk 227 = .ok (.invokevirtual 69, 3) := by decide +kernel
theorem dL_talk_230 : decode cL_talk 230 = .ok (.ldc 134, 2) := by decide +kernel
theorem dL_talk_232 : decode cL_talk 232 = .ok (.invokevirtual 61, 3) := by decide +kernel
theorem dL_talk_235 : decode cL_talk 235 = .ok (.invokevirtual 72, 3) := by decide +kernel
theorem dL_talk_238 : decode cL_talk 238 = .ok (.invokestatic 78, 3) := by decide +kernel
theorem dL_talk_241 : decode cL_talk 241 = .ok (.aload_n 0, 1) := by decide +kernel
theorem dL_talk_242 : decode cL_talk 242 = .ok (.iconst 1, 1) := by decide +kernel
theorem dL_talk_243 : decode cL_talk 243 = .ok (.invokevirtual 82, 3) := by decide +kernel
theorem dL_talk_246 : decode cL_talk 246 = .ok (.iconst 5, 1) := by decide +kernel
theorem dL_talk_247 : decode cL_talk 247 = .ok (.if_icmp .eq 5, 3) := by decide +kernel
theorem dL_talk_250 : decode cL_talk 250 = .ok (.aconst_null, 1) := by decide +kernel
theorem dL_talk_251 : decode cL_talk 251 = .ok (.areturn, 1) := by decide +kernel
theorem dL_talk_252 : decode cL_talk 252 = .ok (.iload 4, 2) := by decide +kernel
theorem dL_talk_254 : decode cL_talk 254 = .ok (.iconst 3, 1) := by decide +kernel
theorem dL_talk_255 : decode cL_talk 255 = .ok (.ishr, 1) := by decide +kernel
theorem dL_talk_256 : decode cL_talk 256 = .ok (.iconst 0, 1) := by decide +kernel
theorem dL_talk_257 : decode cL_talk 257 = .ok (.bipush 14, 2) := by decide +kernel
theorem dL_talk_259 : decode cL_talk 259 = .ok (.invokestatic 43, 3) := by decide +kernel
theorem dL_talk_262 : decode cL_talk 262 = .ok (.istore 7, 2) := by decide +kernel
theorem dL_talk_264 : decode cL_talk 264 = .ok (.iconst 0, 1) := by decide +kernel
theorem dL_talk_265 : decode cL_talk 265 = .ok (.istore 8, 2) := by decide +kernel
theorem dL_talk_267 : decode cL_talk 267 = .ok (.iload 8, 2) := by decide +kernel
theorem dL_talk_269 : decode cL_talk 269 = .ok (.iload 7, 2) := by decide +kernel
theorem dL_talk_271 : decode cL_talk 271 = .ok (.if_icmp .ge 127, 3) := by decide +kernel
theorem dL_talk_274 : decode cL_talk 274 = .ok (.aload_n 1, 1) := by decide +kernel
theorem dL_talk_275 : decode cL_talk 275 = .ok (.iload_n 2, 1) := by decide +kernel
theorem dL_talk_276 : decode cL_talk 276 = .ok (.iconst 2, 1) := by decide +kernel
theorem dL_talk_277 : decode cL_talk 277 = .ok (.iadd, 1) := by decide +kernel
theorem dL_talk_278 : decode cL_talk 278 = .ok (.invokestatic 113, 3) := by decide +kernel
theorem dL_talk_281 : decode cL_talk 281 = .ok (.iload 8, 2) := by decide +kernel
theorem dL_talk_283 : decode cL_talk 283 = .ok (.iconst 1, 1) := by decide +kernel
theorem dL_talk_284 : decode cL_talk 284 = .ok (.iadd, 1) := by decide +kernel
theorem dL_talk_285 : decode cL_talk 285 = .ok (.imul, 1) := by decide +kernel
theorem dL_talk_286 : decode cL_talk 286 = .ok (.sipush 307, 3) := by decide +kernel
theorem dL_talk_289 : decode cL_talk 289 = .ok (.iload 8, 2) := by decide +kernel
theorem dL_talk_291 : decode cL_talk 291 = .ok (.imul, 1) := by decide +kernel
theorem dL_talk_292 : decode cL_talk 292 = .ok (.iadd, 1) := by decide +kernel
theorem dL_talk_293 : decode cL_talk 293 = .ok (.istore 5, 2) := by decide +kernel
theorem dL_talk_295 : decode cL_talk 295 = .ok (.aload_n 3, 1) := by decide +kernel
theorem dL_talk_296 : decode cL_talk 296 = .ok (.getfield 136, 3) := by decide +kernel
theorem dL_talk_299 : decode cL_talk 299 = .ok (.iload 8, 2) := by decide +kernel
theorem dL_talk_301 : decode cL_talk 301 = .ok (.iconst 5, 1) := by decide +kernel
theorem dL_talk_302 : decode cL_talk 302 = .ok (.newarray .int, 2) := by decide +kernel
theorem dL_talk_304 : decode cL_talk 304 = .ok (.dup, 1) := by decide +kernel
theorem dL_talk_305 : decode cL_talk 305 = .ok (.iconst 0, 1) := by decide +kernel
theorem dL_talk_306 : decode cL_talk 306 = .ok (.iload 5, 2) := by decide +kernel
theorem dL_talk_308 : decode cL_talk 308 = .ok (.iconst 3, 1) := by decide +kernel
theorem dL_talk_309 : decode cL_talk 309 = .ok (.ishr, 1) := by decide +kernel
theorem dL_talk_310 : decode cL_talk 310 = .ok (.iconst 1, 1) := by decide +kernel
theorem dL_talk_311 : decode cL_talk 311 = .ok (.bipush 20, 2) := by decide +kernel
theorem dL_talk_313 : decode cL_talk 313 = .ok (.invokestatic 43, 3) := by decide +kernel
theorem dL_talk_316 : decode cL_talk 316 = .ok (.iastore, 1) := by decide +kernel
theorem dL_talk_317 : decode cL_talk 317 = .ok (.dup, 1) := by decide +kernel
theorem dL_talk_318 : decode cL_talk 318 = .ok (.iconst 1, 1) := by decide +kernel
theorem dL_talk_319 : decode cL_talk 319 = .ok (.iload 5, 2) := by decide +kernel
theorem dL_talk_321 : decode cL_talk 321 = .ok (.iconst 5, 1) := by decide +kernel
theorem dL_talk_322 : decode cL_talk 322 = .ok (.ishr, 1) := by decide +kernel
theorem dL_talk_323 : decode cL_talk 323 = .ok (.iconst 0, 1) := by decide +kernel
theorem dL_talk_324 : decode cL_talk 324 = .ok (.bipush 12, 2) := by decide +kernel
theorem dL_talk_326 : decode cL_talk 326 = .ok (.invokestatic 43, 3) := by decide +kernel
theorem dL_talk_329 : decode cL_talk 329 = .ok (.iastore, 1) := by decide +kernel
theorem dL_talk_330 : decode cL_talk 330 = .ok (.dup, 1) := by decide +kernel
theorem dL_talk_331 : decode cL_talk 331 = .ok (.iconst 2, 1) := by decide +kernel
theorem dL_talk_332 : decode cL_talk 332 = .ok (.iconst 0, 1) := by decide +kernel
theorem dL_talk_333 : decode cL_talk 333 = .ok (.iastore, 1) := by decide +kernel
theorem dL_talk_334 : decode cL_talk 334 = .ok (.dup, 1) := by decide +kernel
theorem dL_talk_335 : decode cL_talk 335 = .ok (.iconst 3, 1) := by decide +kernel
theorem dL_talk_336 : decode cL_talk 336 = .ok (.iconst 0, 1) := by decide +kernel
theorem dL_talk_337 : decode cL_talk 337 = .ok (.iastore, 1) := by decide +kernel
theorem dL_talk_338 : decode cL_talk 338 = .ok (.dup, 1) := by decide +kernel
theorem dL_talk_339 : decode cL_talk 339 = .ok (.iconst 4, 1) := by decide +kernel
theorem dL_talk_340 : decode cL_talk 340 = .ok (.iconst 0, 1) := by decide +kernel
theorem dL_talk_341 : decode cL_talk 341 = .ok (.iastore, 1) := by decide +kernel
theorem dL_talk_342 : decode cL_talk 342 = .ok (.aastore, 1) := by decide +kernel
theorem dL_talk_343 : decode cL_talk 343 = .ok (.aload_n 0, 1) := by decide +kernel
theorem dL_talk_344 : decode cL_talk 344 = .ok (.aload_n 3, 1) := by decide +kernel
theorem dL_talk_345 : decode cL_talk 345 = .ok (.getfield 136, 3) := by decide +kernel
theorem dL_talk_348 : decode cL_talk 348 = .ok (.iload 8, 2) := by decide +kernel
theorem dL_talk_350 : decode cL_talk 350 = .ok (.aaload, 1) := by decide +kernel
theorem dL_talk_351 : decode cL_talk 351 = .ok (.iconst 0, 1) := by decide +kernel
theorem dL_talk_352 : decode cL_talk 352 = .ok (.iaload, 1) := by decide +kernel
theorem dL_talk_353 : decode cL_talk 353 = .ok (.invokevirtual 139, 3) := by decide +kernel
theorem dL_talk_356 : decode cL_talk 356 = .ok (.iload 8, 2) := by decide +kernel
theorem dL_talk_358 : decode cL_talk 358 = .ok (.if_icmp .ne 22, 3) := by decide +kernel
theorem dL_talk_361 : decode cL_talk 361 = .ok (.aload_n 0, 1) := by decide +kernel
theorem dL_talk_362 : decode cL_talk 362 = .ok (.iconst 2, 1) := by decide +kernel
theorem dL_talk_363 : decode cL_talk 363 = .ok (.iload 8, 2) := by decide +kernel
theorem dL_talk_365 : decode cL_talk 365 = .ok (.aload_n 3, 1) := by decide +kernel
theorem dL_talk_366 : decode cL_talk 366 = .ok (.getfield 136, 3) := by decide +kernel
theorem dL_talk_369 : decode cL_talk 369 = .ok (.iload 8, 2) := by decide +kernel
theorem dL_talk_371 : decode cL_talk 371 = .ok (.aaload, 1) := by decide +kernel
theorem dL_talk_372 : decode cL_talk 372 = .ok (.iconst 1, 1) := by decide +kernel
theorem dL_talk_373 : decode cL_talk 373 = .ok (.iaload, 1) := by decide +kernel
theorem dL_talk_374 : decode cL_talk 374 = .ok (.invokevirtual 141, 3) := by decide +kernel
theorem dL_talk_377 : decode cL_talk 377 = .ok (.ifCond .ne 5, 3) := by decide +kernel
theorem dL_talk_380 : decode cL_talk 380 = .ok (.aconst_null, 1) := by decide +kernel
theorem dL_talk_381 : decode cL_talk 381 = .ok (.areturn, 1) := by decide +kernel
theorem dL_talk_382 : decode cL_talk 382 = .ok (.aload_n 3, 1) := by decide +kernel
theorem dL_talk_383 : decode cL_talk 383 = .ok (.dup, 1) := by decide +kernel
theorem dL_talk_384 : decode cL_talk 384 = .ok (.getfield 37, 3) := by decide +kernel
theorem dL_talk_387 : decode cL_talk 387 = .ok (.iconst 1, 1) := by decide +kernel
theorem dL_talk_388 : decode cL_talk 388 = .ok (.iadd, 1) := by decide +kernel
theorem dL_talk_389 : decode cL_talk 389 = .ok (.putfield 37, 3) := by decide +kernel
theorem dL_talk_392 : decode cL_talk 392 = .ok (.iinc 8 1, 3) := by decide +kernel
theorem dL_talk_395 : decode cL_talk 395 = .ok (.goto (-128), 3) := by decide +kernel
theorem dL_talk_398 : decode cL_talk 398 = .ok (.iconst 0, 1) := by decide +kernel
theorem dL_talk_399 : decode cL_talk 399 = .ok (.istore 8, 2) := by decide +kernel
theorem dL_talk_401 : decode cL_talk 401 = .ok (.iload 8, 2) := by decide +kernel
theorem dL_talk_403 : decode cL_talk 403 = .ok (.iload 4, 2) := by decide +kernel
theorem dL_talk_405 : decode cL_talk 405 = .ok (.bipush 7, 2) := by decide +kernel
theorem dL_talk_407 : decode cL_talk 407 = .ok (.ishr, 1) := by decide +kernel
theorem dL_talk_408 : decode cL_talk 408 = .ok (.iconst 0, 1) := by decide +kernel
theorem dL_talk_409 : decode cL_talk 409 = .ok (.bipush 10, 2) := by decide +kernel
theorem dL_talk_411 : decode cL_talk 411 = .ok (.invokestatic 43, 3) := by decide +kernel
theorem dL_talk_414 : decode cL_talk 414 = .ok (.if_icmp .ge 130, 3) := by decide +kernel
theorem dL_talk_417 : decode cL_talk 417 = .ok (.iload 7, 2) := by decide +kernel
theorem dL_talk_419 : decode cL_talk 419 = .ok (.iconst 1, 1) := by decide +kernel
theorem dL_talk_420 : decode cL_talk 420 = .ok (.if_icmp .le 124, 3) := by decide +kernel
theorem dL_talk_423 : decode cL_talk 423 = .ok (.aload_n 1, 1) := by decide +kernel
theorem dL_talk_424 : decode cL_talk 424 = .ok (.iload_n 2, 1) := by decide +kernel
theorem dL_talk_425 : decode cL_talk 425 = .ok (.iconst 3, 1) := by decide +kernel
theorem dL_talk_426 : decode cL_talk 426 = .ok (.iadd, 1) := by decide +kernel
theorem dL_talk_427 : decode cL_talk 427 = .ok (.invokestatic 113, 3) := by decide +kernel
theorem dL_talk_430 : decode cL_talk 430 = .ok (.iload 8, 2) := by decide +kernel
theorem dL_talk_432 : decode cL_talk 432 = .ok (.iconst 1, 1) := by decide +kernel
theorem dL_talk_433 : decode cL_talk 433 = .ok (.iadd, 1) := by decide +kernel
theorem dL_talk_434 : decode cL_talk 434 = .ok (.imul, 1) := by decide +kernel
theorem dL_talk_435 : decode cL_talk 435 = .ok (.sipush 311, 3) := by decide +kernel
theorem dL_talk_438 : decode cL_talk 438 = .ok (.iload 8, 2) := by decide +kernel
theorem dL_talk_440 : decode cL_talk 440 = .ok (.imul, 1) := by decide +kernel
theorem dL_talk_441 : decode cL_talk 441 = .ok (.iadd, 1) := by decide +kernel
theorem dL_talk_442 : decode cL_talk 442 = .ok (.istore 9, 2) := by decide +kernel
theorem dL_talk_444 : decode cL_talk 444 = .ok (.iload 9, 2) := by decide +kernel
theorem dL_talk_446 : decode cL_talk 446 = .ok (.iconst 0, 1) := by decide +kernel
theorem dL_talk_447 : decode cL_talk 447 = .ok (.iload 7, 2) := by decide +kernel
theorem dL_talk_449 : decode cL_talk 449 = .ok (.iconst 1, 1) := by decide +kernel
theorem dL_talk_450 : decode cL_talk 450 = .ok (.isub, 1) := by decide +kernel
theorem dL_talk_451 : decode cL_talk 451 = .ok (.invokestatic 43, 3) := by decide +kernel
theorem dL_talk_454 : decode cL_talk 454 = .ok (.istore 10, 2) := by decide +kernel
theorem dL_talk_456 : decode cL_talk 456 = .ok (.iload 9, 2) := by decide +kernel
theorem dL_talk_458 : decode cL_talk 458 = .ok (.iconst 4, 1) := by decide +kernel
theorem dL_talk_459 : decode cL_talk 459 = .ok (.ishr, 1) := by decide +kernel
theorem dL_talk_460 : decode cL_talk 460 = .ok (.iconst 0, 1) := by decide +kernel
theorem dL_talk_461 : decode cL_talk 461 = .ok (.iload 7, 2) := by decide +kernel
theorem dL_talk_463 : decode cL_talk 463 = .ok (.iconst 1, 1) := by decide +kernel
theorem dL_talk_464 : decode cL_talk 464 = .ok (.isub, 1) := by decide +kernel
theorem dL_talk_465 : decode cL_talk 465 = .ok (.invokestatic 43, 3) := by decide +kernel
theorem dL_talk_468 : decode cL_talk 468 = .ok (.istore 11, 2) := by decide +kernel
theorem dL_talk_470 : decode cL_talk 470 = .ok (.aload_n 0, 1) := by decide +kernel
theorem dL_talk_471 : decode cL_talk 471 = .ok (.iload 10, 2) := by decide +kernel
theorem dL_talk_473 : decode cL_talk 473 = .ok (.iload 11, 2) := by decide +kernel
theorem dL_talk_475 : decode cL_talk 475 = .ok (.iconst 1, 1) := by decide +kernel
theorem dL_talk_476 : decode cL_talk 476 = .ok (.invokevirtual 145, 3) := by decide +kernel
theorem dL_talk_479 : decode cL_talk 479 = .ok (.iload 10, 2) := by decide +kernel
theorem dL_talk_481 : decode cL_talk 481 = .ok (.iload 11, 2) := by decide +kernel
theorem dL_talk_483 : decode cL_talk 483 = .ok (.if_icmp .eq 7, 3) := by decide +kernel
theorem dL_talk_486 : decode cL_talk 486 = .ok (.iconst 1, 1) := by decide +kernel
theorem dL_talk_487 : decode cL_talk 487 = .ok (.goto 4, 3) := by decide +kernel
theorem dL_talk_490 : decode cL_talk 490 = .ok (.iconst 0, 1) := by decide +kernel
theorem dL_talk_491 : decode cL_talk 491 = .ok (.if_icmp .eq 5, 3) := by decide +kernel
theorem dL_talk_494 : decode cL_talk 494 = .ok (.aconst_null, 1) := by decide +kernel
theorem dL_talk_495 : decode cL_talk 495 = .ok (.areturn, 1) := by decide +kernel
theorem dL_talk_496 : decode cL_talk 496 = .ok (.iload 10, 2) := by decide +kernel
theorem dL_talk_498 : decode cL_talk 498 = .ok (.iload 11, 2) := by decide +kernel
theorem dL_talk_500 : decode cL_talk 500 = .ok (.if_icmp .ne 6, 3) := by decide +kernel
theorem dL_talk_503 : decode cL_talk 503 = .ok (.goto 35, 3) := by decide +kernel
theorem dL_talk_506 : decode cL_talk 506 = .ok (.aload_n 3, 1) := by decide +kernel
theorem dL_talk_507 : decode cL_talk 507 = .ok (.getfield 136, 3) := by decide +kernel
theorem dL_talk_510 : decode cL_talk 510 = .ok (.iload 10, 2) := by decide +kernel
theorem dL_talk_512 : decode cL_talk 512 = .ok (.aaload, 1) := by decide +kernel
theorem dL_talk_513 : decode cL_talk 513 = .ok (.iconst 4, 1) := by decide +kernel
theorem dL_talk_514 : decode cL_talk 514 = .ok (.dup2, 1) := by decide +kernel
theorem dL_talk_515 : decode cL_talk 515 = .ok (.iaload, 1) := by decide +kernel
theorem dL_talk_516 : decode cL_talk 516 = .ok (.iconst 1, 1) := by decide +kernel
theorem dL_talk_517 : decode cL_talk 517 = .ok (.iload 11, 2) := by decide +kernel
theorem dL_talk_519 : decode cL_talk 519 = .ok (.ishl, 1) := by decide +kernel
theorem dL_talk_520 : decode cL_talk 520 = .ok (.ior, 1) := by decide +kernel
theorem dL_talk_521 : decode cL_talk 521 = .ok (.iastore, 1) := by decide +kernel
theorem dL_talk_522 : decode cL_talk 522 = .ok (.aload_n 3, 1) := by decide +kernel
theorem dL_talk_523 : decode cL_talk 523 = .ok (.getfield 136, 3) := by decide +kernel
theorem dL_talk_526 : decode cL_talk 526 = .ok (.iload 11, 2) := by decide +kernel
theorem dL_talk_528 : decode cL_talk 528 = .ok (.aaload, 1) := by decide +kernel
theorem dL_talk_529 : decode cL_talk 529 = .ok (.iconst 4, 1) := by decide +kernel
theorem dL_talk_530 : decode cL_talk 530 = .ok (.dup2, 1) := by decide +kernel
theorem dL_talk_531 : decode cL_talk 531 = .ok (.iaload, 1) := by decide +kernel
theorem dL_talk_532 : decode cL_talk 532 = .ok (.iconst 1, 1) := by decide +kernel
theorem dL_talk_533 : decode cL_talk 533 = .ok (.iload 10, 2) := by decide +kernel
theorem dL_talk_535 : decode cL_talk 535 = .ok (.ishl, 1) := by decide +kernel
theorem dL_talk_536 : decode cL_talk 536 = .ok (.ior, 1) := by decide +kernel
theorem dL_talk_537 : decode cL_talk 537 = .ok (.iastore, 1) := by decide +kernel
theorem dL_talk_538 : decode cL_talk 538 = .ok (.iinc 8 1, 3) := by decide +kernel
theorem dL_talk_541 : decode cL_talk 541 = .ok (.goto (-140), 3) := by decide +kernel
theorem dL_talk_544 : decode cL_talk 544 = .ok (.iload 4, 2) := by decide +kernel
theorem dL_talk_546 : decode cL_talk 546 = .ok (.bipush 6, 2) := by decide +kernel
theorem dL_talk_548 : decode cL_talk 548 = .ok (.ishr, 1) := by decide +kernel
theorem dL_talk_549 : decode cL_talk 549 = .ok (.iconst 0, 1) := by decide +kernel
theorem dL_talk_550 : decode cL_talk 550 = .ok (.bipush 10, 2) := by decide +kernel
theorem dL_talk_552 : decode cL_talk 552 = .ok (.invokestatic 43, 3) := by decide +kernel
theorem dL_talk_555 : decode cL_talk 555 = .ok (.istore 8, 2) := by decide +kernel
theorem dL_talk_557 : decode cL_talk 557 = .ok (.iconst 0, 1) := by decide +kernel
theorem dL_talk_558 : decode cL_talk 558 = .ok (.istore 9, 2) := by decide +kernel
theorem dL_talk_560 : decode cL_talk 560 = .ok (.iload 9, 2) := by decide +kernel
theorem dL_talk_562 : decode cL_talk 562 = .ok (.iload 8, 2) := by decide +kernel
theorem dL_talk_564 : decode cL_talk 564 = .ok (.if_icmp .ge 199, 3) := by decide +kernel
theorem dL_talk_567 : decode cL_talk 567 = .ok (.aload_n 1, 1) := by decide +kernel
theorem dL_talk_568 : decode cL_talk 568 = .ok (.iload_n 2, 1) := by decide +kernel
theorem dL_talk_569 : decode cL_talk 569 = .ok (.iconst 4, 1) := by decide +kernel
theorem dL_talk_570 : decode cL_talk 570 = .ok (.iadd, 1) := by decide +kernel
theorem dL_talk_571 : decode cL_talk 571 = .ok (.invokestatic 113, 3) := by decide +kernel
theorem dL_talk_574 : decode cL_talk 574 = .ok (.iload 9, 2) := by decide +kernel
theorem dL_talk_576 : decode cL_talk 576 = .ok (.iconst 1, 1) := by decide +kernel
theorem dL_talk_577 : decode cL_talk 577 = .ok (.iadd, 1) := by decide +kernel
theorem dL_talk_578 : decode cL_talk 578 = .ok (.imul, 1) := by decide +kernel
theorem dL_talk_579 : decode cL_talk 579 = .ok (.sipush 313, 3) := by decide +kernel
theorem dL_talk_582 : decode cL_talk 582 = .ok (.iload 9, 2) := by decide +kernel
theorem dL_talk_584 : decode cL_talk 584 = .ok (.imul, 1) := by decide +kernel
theorem dL_talk_585 : decode cL_talk 585 = .ok (.iadd, 1) := by decide +kernel
theorem dL_talk_586 : decode cL_talk 586 = .ok (.istore 5, 2) := by decide +kernel
theorem dL_talk_588 : decode cL_talk 588 = .ok (.aload_n 3, 1) := by decide +kernel
theorem dL_talk_589 : decode cL_talk 589 = .ok (.getfield 149, 3) := by decide +kernel
theorem dL_talk_592 : decode cL_talk 592 = .ok (.iload 9, 2) := by decide +kernel
theorem dL_talk_594 : decode cL_talk 594 = .ok (.iconst 3, 1) := by decide +kernel
theorem dL_talk_595 : decode cL_talk 595 = .ok (.newarray .int, 2) := by decide +kernel
theorem dL_talk_597 : decode cL_talk 597 = .ok (.dup, 1) := by decide +kernel
theorem dL_talk_598 : decode cL_talk 598 = .ok (.iconst 0, 1) := by decide +kernel
theorem dL_talk_599 : decode cL_talk 599 = .ok (.iload 5, 2) := by decide +kernel
theorem dL_talk_601 : decode cL_talk 601 = .ok (.iconst 4, 1) := by decide +kernel
theorem dL_talk_602 : decode cL_talk 602 = .ok (.ishr, 1) := by decide +kernel
theorem dL_talk_603 : decode cL_talk 603 = .ok (.iconst 0, 1) := by decide +kernel
theorem dL_talk_604 : decode cL_talk 604 = .ok (.iconst 3, 1) := by decide +kernel
theorem dL_talk_605 : decode cL_talk 605 = .ok (.invokestatic 43, 3) := by decide +kernel
theorem dL_talk_608 : decode cL_talk 608 = .ok (.iastore, 1) := by decide +kernel
theorem dL_talk_609 : decode cL_talk 609 = .ok (.dup, 1) := by decide +kernel
theorem dL_talk_610 : decode cL_talk 610 = .ok (.iconst 1, 1) := by decide +kernel
theorem dL_talk_611 : decode cL_talk 611 = .ok (.iconst 0, 1) := by decide +kernel
theorem dL_talk_612 : decode cL_talk 612 = .ok (.iastore, 1) := by decide +kernel
theorem dL_talk_613 : decode cL_talk 613 = .ok (.dup, 1) := by decide +kernel
theorem dL_talk_614 : decode cL_talk 614 = .ok (.iconst 2, 1) := by decide +kernel
theorem dL_talk_615 : decode cL_talk 615 = .ok (.iload 5, 2) := by decide +kernel
theorem dL_talk_617 : decode cL_talk 617 = .ok (.bipush 6, 2) := by decide +kernel
theorem dL_talk_619 : decode cL_talk 619 = .ok (.ishr, 1) := by decide +kernel
theorem dL_talk_620 : decode cL_talk 620 = .ok (.iconst 0, 1) := by decide +kernel
theorem dL_talk_621 : decode cL_talk 621 = .ok (.bipush 99, 2) := by decide +kernel
theorem dL_talk_623 : decode cL_talk 623 = .ok (.invokestatic 43, 3) := by decide +kernel
theorem dL_talk_626 : decode cL_talk 626 = .ok (.iastore, 1) := by decide +kernel
theorem dL_talk_627 : decode cL_talk 627 = .ok (.aastore, 1) := by decide +kernel
theorem dL_talk_628 : decode cL_talk 628 = .ok (.aload_n 0, 1) := by decide +kernel
theorem dL_talk_629 : decode cL_talk 629 = .ok (.aload_n 3, 1) := by decide +kernel
theorem dL_talk_630 : decode cL_talk 630 = .ok (.getfield 149, 3) := by decide +kernel
theorem dL_talk_633 : decode cL_talk 633 = .ok (.iload 9, 2) := by decide +kernel
theorem dL_talk_635 : decode cL_talk 635 = .ok (.aaload, 1) := by decide +kernel
theorem dL_talk_636 : decode cL_talk 636 = .ok (.iconst 0, 1) := by decide +kernel
theorem dL_talk_637 : decode cL_talk 637 = .ok (.iaload, 1) := by decide +kernel
theorem dL_talk_638 : decode cL_talk 638 = .ok (.invokevirtual 152, 3) := by decide +kernel
theorem dL_talk_641 : decode cL_talk 641 = .ok (.iload 9, 2) := by decide +kernel
theorem dL_talk_643 : decode cL_talk 643 = .ok (.if_icmp .ne 34, 3) := by decide +kernel
theorem dL_talk_646 : decode cL_talk 646 = .ok (.aload_n 0, 1) := by decide +kernel
theorem dL_talk_647 : decode cL_talk 647 = .ok (.iload 9, 2) := by decide +kernel
theorem dL_talk_649 : decode cL_talk 649 = .ok (.iconst 2, 1) := by decide +kernel
theorem dL_talk_650 : decode cL_talk 650 = .ok (.invokevirtual 155, 3) := by decide +kernel
theorem dL_talk_653 : decode cL_talk 653 = .ok (.bipush 50, 2) := by decide +kernel
theorem dL_talk_655 : decode cL_talk 655 = .ok (.if_icmp .ne 22, 3) := by decide +kernel
theorem dL_talk_658 : decode cL_talk 658 = .ok (.aload_n 0, 1) := by decide +kernel
theorem dL_talk_659 : decode cL_talk 659 = .ok (.iconst 1, 1) := by decide +kernel
theorem dL_talk_660 : decode cL_talk 660 = .ok (.iload 9, 2) := by decide +kernel
theorem dL_talk_662 : decode cL_talk 662 = .ok (.aload_n 3, 1) := by decide +kernel
theorem dL_talk_663 : decode cL_talk 663 = .ok (.getfield 149, 3) := by decide +kernel
theorem dL_talk_666 : decode cL_talk 666 = .ok (.iload 9, 2) := by decide +kernel
theorem dL_talk_668 : decode cL_talk 668 = .ok (.aaload, 1) := by decide +kernel
theorem dL_talk_669 : decode cL_talk 669 = .ok (.iconst 2, 1) := by decide +kernel
theorem dL_talk_670 : decode cL_talk 670 = .ok (.iaload, 1) := by decide +kernel
theorem dL_talk_671 : decode cL_talk 671 = .ok (.invokevirtual 141, 3) := by decide +kernel
theorem dL_talk_674 : decode cL_talk 674 = .ok (.ifCond .ne 5, 3) := by decide +kernel
theorem dL_talk_677 : decode cL_talk 677 = .ok (.aconst_null, 1) := by decide +kernel
theorem dL_talk_678 : decode cL_talk 678 = .ok (.areturn, 1) := by decide +kernel
theorem dL_talk_679 : decode cL_talk 679 = .ok (.aload_n 3, 1) := by decide +kernel
theorem dL_talk_680 : decode cL_talk 680 = .ok (.dup, 1) := by decide +kernel
theorem dL_talk_681 : decode cL_talk 681 = .ok (.getfield 98, 3) := by decide +kernel
theorem dL_talk_684 : decode cL_talk 684 = .ok (.iconst 1, 1) := by decide +kernel
theorem dL_talk_685 : decode cL_talk 685 = .ok (.iadd, 1) := by decide +kernel
theorem dL_talk_686 : decode cL_talk 686 = .ok (.putfield 98, 3) := by decide +kernel
theorem dL_talk_689 : decode cL_talk 689 = .ok (.iconst 0, 1) := by decide +kernel
theorem dL_talk_690 : decode cL_talk 690 = .ok (.istore 10, 2) := by decide +kernel
theorem dL_talk_692 : decode cL_talk 692 = .ok (.iload 10, 2) := by decide +kernel
theorem dL_talk_694 : decode cL_talk 694 = .ok (.iload 7, 2) := by decide +kernel
theorem dL_talk_696 : decode cL_talk 696 = .ok (.if_icmp .ge 61, 3) := by decide +kernel
theorem dL_talk_699 : decode cL_talk 699 = .ok (.iload 5, 2) := by decide +kernel
theorem dL_talk_701 : decode cL_talk 701 = .ok (.iload 10, 2) := by decide +kernel
theorem dL_talk_703 : decode cL_talk 703 = .ok (.iconst 2, 1) := by decide +kernel
theorem dL_talk_704 : decode cL_talk 704 = .ok (.iadd, 1) := by decide +kernel
theorem dL_talk_705 : decode cL_talk 705 = .ok (.ishr, 1) := by decide +kernel
theorem dL_talk_706 : decode cL_talk 706 = .ok (.iconst 1, 1) := by decide +kernel
theorem dL_talk_707 : decode cL_talk 707 = .ok (.iand, 1) := by decide +kernel
theorem dL_talk_708 : decode cL_talk 708 = .ok (.iconst 1, 1) := by decide +kernel
theorem dL_talk_709 : decode cL_talk 709 = .ok (.if_icmp .ne 42, 3) := by decide +kernel
theorem dL_talk_712 : decode cL_talk 712 = .ok (.aload_n 3, 1) := by decide +kernel
theorem dL_talk_713 : decode cL_talk 713 = .ok (.getfield 149, 3) := by decide +kernel
theorem dL_talk_716 : decode cL_talk 716 = .ok (.iload 9, 2) := by decide +kernel
theorem dL_talk_718 : decode cL_talk 718 = .ok (.aaload, 1) := by decide +kernel
theorem dL_talk_719 : decode cL_talk 719 = .ok (.iconst 1, 1) := by decide +kernel
theorem dL_talk_720 : decode cL_talk 720 = .ok (.dup2, 1) := by decide +kernel
theorem dL_talk_721 : decode cL_talk 721 = .ok (.iaload, 1) := by decide +kernel
theorem dL_talk_722 : decode cL_talk 722 = .ok (.iconst 1, 1) := by decide +kernel
theorem dL_talk_723 : decode cL_talk 723 = .ok (.iload 10, 2) := by decide +kernel
theorem dL_talk_725 : decode cL_talk 725 = .ok (.ishl, 1) := by decide +kernel
theorem dL_talk_726 : decode cL_talk 726 = .ok (.ior, 1) := by decide +kernel
theorem dL_talk_727 : decode cL_talk 727 = .ok (.iastore, 1) := by decide +kernel
theorem dL_talk_728 : decode cL_talk 728 = .ok (.aload_n 3, 1) := by decide +kernel
