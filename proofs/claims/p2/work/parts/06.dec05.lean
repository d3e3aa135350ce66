theorem d_Law_law_318 : decode code 318 = .ok (.invokevirtual 72, 3) := by decide +kernel
theorem d_Law_law_321 : decode code 321 = .ok (.pop, 1) := by decide +kernel
theorem d_Law_law_322 : decode code 322 = .ok (.goto 213, 3) := by decide +kernel
theorem d_Law_law_325 : decode code 325 = .ok (.aload_n 1, 1) := by decide +kernel
theorem d_Law_law_326 : decode code 326 = .ok (.invokevirtual 73, 3) := by decide +kernel
theorem d_Law_law_329 : decode code 329 = .ok (.pop, 1) := by decide +kernel
theorem d_Law_law_330 : decode code 330 = .ok (.aload_n 2, 1) := by decide +kernel
theorem d_Law_law_331 : decode code 331 = .ok (.invokevirtual 77, 3) := by decide +kernel
theorem d_Law_law_334 : decode code 334 = .ok (.pop, 1) := by decide +kernel
theorem d_Law_law_335 : decode code 335 = .ok (.goto 200, 3) := by decide +kernel
theorem d_Law_law_338 : decode code 338 = .ok (.aload_n 1, 1) := by decide +kernel
theorem d_Law_law_339 : decode code 339 = .ok (.aload_n 0, 1) := by decide +kernel
theorem d_Law_law_340 : decode code 340 = .ok (.iload 4, 2) := by decide +kernel
theorem d_Law_law_342 : decode code 342 = .ok (.iconst 1, 1) := by decide +kernel
theorem d_Law_law_343 : decode code 343 = .ok (.iadd, 1) := by decide +kernel
theorem d_Law_law_344 : decode code 344 = .ok (.iaload, 1) := by decide +kernel
theorem d_Law_law_345 : decode code 345 = .ok (.aload_n 0, 1) := by decide +kernel
theorem d_Law_law_346 : decode code 346 = .ok (.iload 4, 2) := by decide +kernel
theorem d_Law_law_348 : decode code 348 = .ok (.iconst 2, 1) := by decide +kernel
theorem d_Law_law_349 : decode code 349 = .ok (.iadd, 1) := by decide +kernel
theorem d_Law_law_350 : decode code 350 = .ok (.iaload, 1) := by decide +kernel
theorem d_Law_law_351 : decode code 351 = .ok (.aload_n 3, 1) := by decide +kernel
theorem d_Law_law_352 : decode code 352 = .ok (.invokestatic 78, 3) := by decide +kernel
theorem d_Law_law_355 : decode code 355 = .ok (.istore 5, 2) := by decide +kernel
theorem d_Law_law_357 : decode code 357 = .ok (.aload_n 2, 1) := by decide +kernel
theorem d_Law_law_358 : decode code 358 = .ok (.aload_n 0, 1) := by decide +kernel
theorem d_Law_law_359 : decode code 359 = .ok (.iload 4, 2) := by decide +kernel
theorem d_Law_law_361 : decode code 361 = .ok (.iconst 1, 1) := by decide +kernel
theorem d_Law_law_362 : decode code 362 = .ok (.iadd, 1) := by decide +kernel
theorem d_Law_law_363 : decode code 363 = .ok (.iaload, 1) := by decide +kernel
theorem d_Law_law_364 : decode code 364 = .ok (.aload_n 0, 1) := by decide +kernel
theorem d_Law_law_365 : decode code 365 = .ok (.iload 4, 2) := by decide +kernel
theorem d_Law_law_367 : decode code 367 = .ok (.iconst 2, 1) := by decide +kernel
theorem d_Law_law_368 : decode code 368 = .ok (.iadd, 1) := by decide +kernel
theorem d_Law_law_369 : decode code 369 = .ok (.iaload, 1) := by decide +kernel
theorem d_Law_law_370 : decode code 370 = .ok (.invokevirtual 81, 3) := by decide +kernel
theorem d_Law_law_373 : decode code 373 = .ok (.istore 6, 2) := by decide +kernel
theorem d_Law_law_375 : decode code 375 = .ok (.goto 160, 3) := by decide +kernel
theorem d_Law_law_378 : decode code 378 = .ok (.aload_n 1, 1) := by decide +kernel
theorem d_Law_law_379 : decode code 379 = .ok (.aload_n 0, 1) := by decide +kernel
theorem d_Law_law_380 : decode code 380 = .ok (.iload 4, 2) := by decide +kernel
theorem d_Law_law_382 : decode code 382 = .ok (.iconst 1, 1) := by decide +kernel
theorem d_Law_law_383 : decode code 383 = .ok (.iadd, 1) := by decide +kernel
theorem d_Law_law_384 : decode code 384 = .ok (.iaload, 1) := by decide +kernel
theorem d_Law_law_385 : decode code 385 = .ok (.aload_n 3, 1) := by decide +kernel
theorem d_Law_law_386 : decode code 386 = .ok (.invokestatic 82, 3) := by decide +kernel
theorem d_Law_law_389 : decode code 389 = .ok (.istore 5, 2) := by decide +kernel
theorem d_Law_law_391 : decode code 391 = .ok (.aload_n 2, 1) := by decide +kernel
theorem d_Law_law_392 : decode code 392 = .ok (.aload_n 0, 1) := by decide +kernel
theorem d_Law_law_393 : decode code 393 = .ok (.iload 4, 2) := by decide +kernel
theorem d_Law_law_395 : decode code 395 = .ok (.iconst 1, 1) := by decide +kernel
theorem d_Law_law_396 : decode code 396 = .ok (.iadd, 1) := by decide +kernel
theorem d_Law_law_397 : decode code 397 = .ok (.iaload, 1) := by decide +kernel
theorem d_Law_law_398 : decode code 398 = .ok (.invokevirtual 85, 3) := by decide +kernel
theorem d_Law_law_401 : decode code 401 = .ok (.istore 6, 2) := by decide +kernel
theorem d_Law_law_403 : decode code 403 = .ok (.goto 132, 3) := by decide +kernel
theorem d_Law_law_406 : decode code 406 = .ok (.aload_n 1, 1) := by decide +kernel
theorem d_Law_law_407 : decode code 407 = .ok (.aload_n 0, 1) := by decide +kernel
theorem d_Law_law_408 : decode code 408 = .ok (.iload 4, 2) := by decide +kernel
theorem d_Law_law_410 : decode code 410 = .ok (.iconst 1, 1) := by decide +kernel
theorem d_Law_law_411 : decode code 411 = .ok (.iadd, 1) := by decide +kernel
theorem d_Law_law_412 : decode code 412 = .ok (.iaload, 1) := by decide +kernel
theorem d_Law_law_413 : decode code 413 = .ok (.aload_n 0, 1) := by decide +kernel
theorem d_Law_law_414 : decode code 414 = .ok (.iload 4, 2) := by decide +kernel
theorem d_Law_law_416 : decode code 416 = .ok (.iconst 2, 1) := by decide +kernel
theorem d_Law_law_417 : decode code 417 = .ok (.iadd, 1) := by decide +kernel
theorem d_Law_law_418 : decode code 418 = .ok (.iaload, 1) := by decide +kernel
theorem d_Law_law_419 : decode code 419 = .ok (.aload_n 3, 1) := by decide +kernel
theorem d_Law_law_420 : decode code 420 = .ok (.invokestatic 86, 3) := by decide +kernel
theorem d_Law_law_423 : decode code 423 = .ok (.istore 5, 2) := by decide +kernel
theorem d_Law_law_425 : decode code 425 = .ok (.aload_n 2, 1) := by decide +kernel
theorem d_Law_law_426 : decode code 426 = .ok (.aload_n 0, 1) := by decide +kernel
theorem d_Law_law_427 : decode code 427 = .ok (.iload 4, 2) := by decide +kernel
theorem d_Law_law_429 : decode code 429 = .ok (.iconst 1, 1) := by decide +kernel
theorem d_Law_law_430 : decode code 430 = .ok (.iadd, 1) := by decide +kernel
theorem d_Law_law_431 : decode code 431 = .ok (.iaload, 1) := by decide +kernel
theorem d_Law_law_432 : decode code 432 = .ok (.aload_n 0, 1) := by decide +kernel
theorem d_Law_law_433 : decode code 433 = .ok (.iload 4, 2) := by decide +kernel
theorem d_Law_law_435 : decode code 435 = .ok (.iconst 2, 1) := by decide +kernel
theorem d_Law_law_436 : decode code 436 = .ok (.iadd, 1) := by decide +kernel
theorem d_Law_law_437 : decode code 437 = .ok (.iaload, 1) := by decide +kernel
theorem d_Law_law_438 : decode code 438 = .ok (.invokevirtual 88, 3) := by decide +kernel
theorem d_Law_law_441 : decode code 441 = .ok (.istore 6, 2) := by decide +kernel
theorem d_Law_law_443 : decode code 443 = .ok (.goto 92, 3) := by decide +kernel
theorem d_Law_law_446 : decode code 446 = .ok (.aload_n 1, 1) := by decide +kernel
theorem d_Law_law_447 : decode code 447 = .ok (.aload_n 0, 1) := by decide +kernel
theorem d_Law_law_448 : decode code 448 = .ok (.iload 4, 2) := by decide +kernel
theorem d_Law_law_450 : decode code 450 = .ok (.iconst 1, 1) := by decide +kernel
theorem d_Law_law_451 : decode code 451 = .ok (.iadd, 1) := by decide +kernel
theorem d_Law_law_452 : decode code 452 = .ok (.iaload, 1) := by decide +kernel
theorem d_Law_law_453 : decode code 453 = .ok (.aload_n 0, 1) := by decide +kernel
theorem d_Law_law_454 : decode code 454 = .ok (.iload 4, 2) := by decide +kernel
theorem d_Law_law_456 : decode code 456 = .ok (.iconst 2, 1) := by decide +kernel
theorem d_Law_law_457 : decode code 457 = .ok (.iadd, 1) := by decide +kernel
theorem d_Law_law_458 : decode code 458 = .ok (.iaload, 1) := by decide +kernel
theorem d_Law_law_459 : decode code 459 = .ok (.aload_n 0, 1) := by decide +kernel
theorem d_Law_law_460 : decode code 460 = .ok (.iload 4, 2) := by decide +kernel
theorem d_Law_law_462 : decode code 462 = .ok (.iconst 3, 1) := by decide +kernel
theorem d_Law_law_463 : decode code 463 = .ok (.iadd, 1) := by decide +kernel
theorem d_Law_law_464 : decode code 464 = .ok (.iaload, 1) := by decide +kernel
theorem d_Law_law_465 : decode code 465 = .ok (.aload_n 3, 1) := by decide +kernel
theorem d_Law_law_466 : decode code 466 = .ok (.invokestatic 89, 3) := by decide +kernel
theorem d_Law_law_469 : decode code 469 = .ok (.istore 5, 2) := by decide +kernel
theorem d_Law_law_471 : decode code 471 = .ok (.aload_n 2, 1) := by decide +kernel
theorem d_Law_law_472 : decode code 472 = .ok (.aload_n 0, 1) := by decide +kernel
theorem d_Law_law_473 : decode code 473 = .ok (.iload 4, 2) := by decide +kernel
theorem d_Law_law_475 : decode code 475 = .ok (.iconst 1, 1) := by decide +kernel
theorem d_Law_law_476 : decode code 476 = .ok (.iadd, 1) := by decide +kernel
theorem d_Law_law_477 : decode code 477 = .ok (.iaload, 1) := by decide +kernel
theorem d_Law_law_478 : decode code 478 = .ok (.aload_n 0, 1) := by decide +kernel
theorem d_Law_law_479 : decode code 479 = .ok (.iload 4, 2) := by decide +kernel
theorem d_Law_law_481 : decode code 481 = .ok (.iconst 2, 1) := by decide +kernel
theorem d_Law_law_482 : decode code 482 = .ok (.iadd, 1) := by decide +kernel
theorem d_Law_law_483 : decode code 483 = .ok (.iaload, 1) := by decide +kernel
theorem d_Law_law_484 : decode code 484 = .ok (.aload_n 0, 1) := by decide +kernel
theorem d_Law_law_485 : decode code 485 = .ok (.iload 4, 2) := by decide +kernel
theorem d_Law_law_487 : decode code 487 = .ok (.iconst 3, 1) := by decide +kernel
theorem d_Law_law_488 : decode code 488 = .ok (.iadd, 1) := by decide +kernel
theorem d_Law_law_489 : decode code 489 = .ok (.iaload, 1) := by decide +kernel
theorem d_Law_law_490 : decode code 490 = .ok (.invokevirtual 91, 3) := by decide +kernel
theorem d_Law_law_493 : decode code 493 = .ok (.istore 6, 2) := by decide +kernel
theorem d_Law_law_495 : decode code 495 = .ok (.goto 40, 3) := by decide +kernel
theorem d_Law_law_498 : decode code 498 = .ok (.aload_n 1, 1) := by decide +kernel
theorem d_Law_law_499 : decode code 499 = .ok (.aload_n 0, 1) := by decide +kernel
theorem d_Law_law_500 : decode code 500 = .ok (.iload 4, 2) := by decide +kernel
theorem d_Law_law_502 : decode code 502 = .ok (.iconst 1, 1) := by decide +kernel
theorem d_Law_law_503 : decode code 503 = .ok (.iadd, 1) := by decide +kernel
theorem d_Law_law_504 : decode code 504 = .ok (.iaload, 1) := by decide +kernel
theorem d_Law_law_505 : decode code 505 = .ok (.aload_n 0, 1) := by decide +kernel
theorem d_Law_law_506 : decode code 506 = .ok (.iload 4, 2) := by decide +kernel
theorem d_Law_law_508 : decode code 508 = .ok (.iconst 2, 1) := by decide +kernel
theorem d_Law_law_509 : decode code 509 = .ok (.iadd, 1) := by decide +kernel
theorem d_Law_law_510 : decode code 510 = .ok (.iaload, 1) := by decide +kernel
theorem d_Law_law_511 : decode code 511 = .ok (.invokevirtual 92, 3) := by decide +kernel
theorem d_Law_law_514 : decode code 514 = .ok (.pop, 1) := by decide +kernel
theorem d_Law_law_515 : decode code 515 = .ok (.aload_n 2, 1) := by decide +kernel
theorem d_Law_law_516 : decode code 516 = .ok (.aload_n 0, 1) := by decide +kernel
theorem d_Law_law_517 : decode code 517 = .ok (.iload 4, 2) := by decide +kernel
theorem d_Law_law_519 : decode code 519 = .ok (.iconst 1, 1) := by decide +kernel
theorem d_Law_law_520 : decode code 520 = .ok (.iadd, 1) := by decide +kernel
theorem d_Law_law_521 : decode code 521 = .ok (.iaload, 1) := by decide +kernel
theorem d_Law_law_522 : decode code 522 = .ok (.aload_n 0, 1) := by decide +kernel
theorem d_Law_law_523 : decode code 523 = .ok (.iload 4, 2) := by decide +kernel
theorem d_Law_law_525 : decode code 525 = .ok (.iconst 2, 1) := by decide +kernel
theorem d_Law_law_526 : decode code 526 = .ok (.iadd, 1) := by decide +kernel
theorem d_Law_law_527 : decode code 527 = .ok (.iaload, 1) := by decide +kernel
theorem d_Law_law_528 : decode code 528 = .ok (.invokevirtual 95, 3) := by decide +kernel
theorem d_Law_law_531 : decode code 531 = .ok (.pop, 1) := by decide +kernel
theorem d_Law_law_532 : decode code 532 = .ok (.goto 3, 3) := by decide +kernel
theorem d_Law_law_535 : decode code 535 = .ok (.iinc 4 5, 3) := by decide +kernel
theorem d_Law_law_538 : decode code 538 = .ok (.goto (-515), 3) := by decide +kernel
theorem d_Law_law_541 : decode code 541 = .ok (.iconst 1, 1) := by decide +kernel
theorem d_Law_law_542 : decode code 542 = .ok (.ireturn, 1) := by decide +kernel
theorem d_Law_object_0 : decode method_3_code 0 = .ok (.aload 4, 2) := by decide +kernel
theorem d_Law_object_2 : decode method_3_code 2 = .ok (.iconst 0, 1) := by decide +kernel
theorem d_Law_object_3 : decode method_3_code 3 = .ok (.aload_n 0, 1) := by decide +kernel
theorem d_Law_object_4 : decode method_3_code 4 = .ok (.iload_n 1, 1) := by decide +kernel
theorem d_Law_object_5 : decode method_3_code 5 = .ok (.iload_n 2, 1) := by decide +kernel
theorem d_Law_object_6 : decode method_3_code 6 = .ok (.iload_n 3, 1) := by decide +kernel
theorem d_Law_object_7 : decode method_3_code 7 = .ok (.invokevirtual 7, 3) := by decide +kernel
theorem d_Law_object_10 : decode method_3_code 10 = .ok (.i2l, 1) := by decide +kernel
theorem d_Law_object_11 : decode method_3_code 11 = .ok (.lastore, 1) := by decide +kernel
theorem d_Law_object_12 : decode method_3_code 12 = .ok (.goto 11, 3) := by decide +kernel
theorem d_Law_object_15 : decode method_3_code 15 = .ok (.astore 5, 2) := by decide +kernel
theorem d_Law_object_17 : decode method_3_code 17 = .ok (.iconst 1, 1) := by decide +kernel
theorem d_Law_object_18 : decode method_3_code 18 = .ok (.ireturn, 1) := by decide +kernel
theorem d_Law_object_19 : decode method_3_code 19 = .ok (.astore 5, 2) := by decide +kernel
theorem d_Law_object_21 : decode method_3_code 21 = .ok (.iconst 2, 1) := by decide +kernel
theorem d_Law_object_22 : decode method_3_code 22 = .ok (.ireturn, 1) := by decide +kernel
theorem d_Law_object_23 : decode method_3_code 23 = .ok (.iconst 0, 1) := by decide +kernel
theorem d_Law_object_24 : decode method_3_code 24 = .ok (.ireturn, 1) := by decide +kernel
theorem d_Law_property_0 : decode method_4_code 0 = .ok (.aload_n 0, 1) := by decide +kernel
theorem d_Law_property_1 : decode method_4_code 1 = .ok (.iload_n 1, 1) := by decide +kernel
theorem d_Law_property_2 : decode method_4_code 2 = .ok (.iload_n 2, 1) := by decide +kernel
theorem d_Law_property_3 : decode method_4_code 3 = .ok (.iload_n 3, 1) := by decide +kernel
theorem d_Law_property_4 : decode method_4_code 4 = .ok (.iload 4, 2) := by decide +kernel
theorem d_Law_property_6 : decode method_4_code 6 = .ok (.invokevirtual 17, 3) := by decide +kernel
theorem d_Law_property_9 : decode method_4_code 9 = .ok (.goto 15, 3) := by decide +kernel
theorem d_Law_property_12 : decode method_4_code 12 = .ok (.astore 5, 2) := by decide +kernel
theorem d_Law_property_14 : decode method_4_code 14 = .ok (.iconst 1, 1) := by decide +kernel
theorem d_Law_property_15 : decode method_4_code 15 = .ok (.ireturn, 1) := by decide +kernel
theorem d_Law_property_16 : decode method_4_code 16 = .ok (.astore 5, 2) := by decide +kernel
theorem d_Law_property_18 : decode method_4_code 18 = .ok (.iconst 2, 1) := by decide +kernel
theorem d_Law_property_19 : decode method_4_code 19 = .ok (.ireturn, 1) := by decide +kernel
theorem d_Law_property_20 : decode method_4_code 20 = .ok (.astore 5, 2) := by decide +kernel
theorem d_Law_property_22 : decode method_4_code 22 = .ok (.iconst 3, 1) := by decide +kernel
theorem d_Law_property_23 : decode method_4_code 23 = .ok (.ireturn, 1) := by decide +kernel
theorem d_Law_property_24 : decode method_4_code 24 = .ok (.iconst 0, 1) := by decide +kernel
theorem d_Law_property_25 : decode method_4_code 25 = .ok (.ireturn, 1) := by decide +kernel
theorem d_Law_said_0 : decode method_8_code 0 = .ok (.aload_n 3, 1) := by decide +kernel
theorem d_Law_said_1 : decode method_8_code 1 = .ok (.iconst 0, 1) := by decide +kernel
theorem d_Law_said_2 : decode method_8_code 2 = .ok (.aload_n 0, 1) := by decide +kernel
theorem d_Law_said_3 : decode method_8_code 3 = .ok (.iload_n 1, 1) := by decide +kernel
theorem d_Law_said_4 : decode method_8_code 4 = .ok (.iload_n 2, 1) := by decide +kernel
theorem d_Law_said_5 : decode method_8_code 5 = .ok (.invokevirtual 35, 3) := by decide +kernel
theorem d_Law_said_8 : decode method_8_code 8 = .ok (.i2l, 1) := by decide +kernel
theorem d_Law_said_9 : decode method_8_code 9 = .ok (.lastore, 1) := by decide +kernel
theorem d_Law_said_10 : decode method_8_code 10 = .ok (.goto 7, 3) := by decide +kernel
theorem d_Law_said_13 : decode method_8_code 13 = .ok (.astore 4, 2) := by decide +kernel
theorem d_Law_said_15 : decode method_8_code 15 = .ok (.iconst 1, 1) := by decide +kernel
theorem d_Law_said_16 : decode method_8_code 16 = .ok (.ireturn, 1) := by decide +kernel
theorem d_Law_said_17 : decode method_8_code 17 = .ok (.iconst 0, 1) := by decide +kernel
theorem d_Law_said_18 : decode method_8_code 18 = .ok (.ireturn, 1) := by decide +kernel
theorem d_Law_show_0 : decode method_7_code 0 = .ok (.aload_n 2, 1) := by decide +kernel
theorem d_Law_show_1 : decode method_7_code 1 = .ok (.iconst 0, 1) := by decide +kernel
theorem d_Law_show_2 : decode method_7_code 2 = .ok (.aload_n 0, 1) := by decide +kernel
theorem d_Law_show_3 : decode method_7_code 3 = .ok (.iload_n 1, 1) := by decide +kernel
theorem d_Law_show_4 : decode method_7_code 4 = .ok (.invokevirtual 31, 3) := by decide +kernel
theorem d_Law_show_7 : decode method_7_code 7 = .ok (.i2l, 1) := by decide +kernel
theorem d_Law_show_8 : decode method_7_code 8 = .ok (.lastore, 1) := by decide +kernel
theorem d_Law_show_9 : decode method_7_code 9 = .ok (.goto 6, 3) := by decide +kernel
theorem d_Law_show_12 : decode method_7_code 12 = .ok (.astore_n 3, 1) := by decide +kernel
theorem d_Law_show_13 : decode method_7_code 13 = .ok (.iconst 1, 1) := by decide +kernel
theorem d_Law_show_14 : decode method_7_code 14 = .ok (.ireturn, 1) := by decide +kernel
theorem d_Law_show_15 : decode method_7_code 15 = .ok (.iconst 0, 1) := by decide +kernel
theorem d_Law_show_16 : decode method_7_code 16 = .ok (.ireturn, 1) := by decide +kernel
theorem d_Law_stack_0 : decode method_6_code 0 = .ok (.aload_n 3, 1) := by decide +kernel
theorem d_Law_stack_1 : decode method_6_code 1 = .ok (.iconst 0, 1) := by decide +kernel
theorem d_Law_stack_2 : decode method_6_code 2 = .ok (.aload_n 0, 1) := by decide +kernel
theorem d_Law_stack_3 : decode method_6_code 3 = .ok (.iload_n 1, 1) := by decide +kernel
theorem d_Law_stack_4 : decode method_6_code 4 = .ok (.iload_n 2, 1) := by decide +kernel
theorem d_Law_stack_5 : decode method_6_code 5 = .ok (.invokevirtual 27, 3) := by decide +kernel
theorem d_Law_stack_8 : decode method_6_code 8 = .ok (.i2l, 1) := by decide +kernel
theorem d_Law_stack_9 : decode method_6_code 9 = .ok (.lastore, 1) := by decide +kernel
theorem d_Law_stack_10 : decode method_6_code 10 = .ok (.goto 7, 3) := by decide +kernel
theorem d_Law_stack_13 : decode method_6_code 13 = .ok (.astore 4, 2) := by decide +kernel
theorem d_Law_stack_15 : decode method_6_code 15 = .ok (.iconst 1, 1) := by decide +kernel
theorem d_Law_stack_16 : decode method_6_code 16 = .ok (.ireturn, 1) := by decide +kernel
theorem d_Law_stack_17 : decode method_6_code 17 = .ok (.iconst 0, 1) := by decide +kernel
theorem d_Law_stack_18 : decode method_6_code 18 = .ok (.ireturn, 1) := by decide +kernel
theorem d_Model_init_0 : decode prog_10_method_1_code 0 = .ok (.aload_n 0, 1) := by decide +kernel
theorem d_Model_init_1 : decode prog_10_method_1_code 1 = .ok (.invokespecial 1, 3) := by decide +kernel
theorem d_Model_init_4 : decode prog_10_method_1_code 4 = .ok (.aload_n 0, 1) := by decide +kernel
theorem d_Model_init_5 : decode prog_10_method_1_code 5 = .ok (.sipush 300, 3) := by decide +kernel
theorem d_Model_init_8 : decode prog_10_method_1_code 8 = .ok (.newarray .int, 2) := by decide +kernel
theorem d_Model_init_10 : decode prog_10_method_1_code 10 = .ok (.putfield 7, 3) := by decide +kernel
theorem d_Model_init_13 : decode prog_10_method_1_code 13 = .ok (.aload_n 0, 1) := by decide +kernel
theorem d_Model_init_14 : decode prog_10_method_1_code 14 = .ok (.sipush 5568, 3) := by decide +kernel
theorem d_Model_init_17 : decode prog_10_method_1_code 17 = .ok (.newarray .int, 2) := by decide +kernel
theorem d_Model_init_19 : decode prog_10_method_1_code 19 = .ok (.putfield 13, 3) := by decide +kernel
theorem d_Model_init_22 : decode prog_10_method_1_code 22 = .ok (.aload_n 0, 1) := by decide +kernel
theorem d_Model_init_23 : decode prog_10_method_1_code 23 = .ok (.iconst 2, 1) := by decide +kernel
theorem d_Model_init_24 : decode prog_10_method_1_code 24 = .ok (.newarray .boolean, 2) := by decide +kernel
theorem d_Model_init_26 : decode prog_10_method_1_code 26 = .ok (.putfield 16, 3) := by decide +kernel
theorem d_Model_init_29 : decode prog_10_method_1_code 29 = .ok (.aload_n 0, 1) := by decide +kernel
theorem d_Model_init_30 : decode prog_10_method_1_code 30 = .ok (.bipush 32, 2) := by decide +kernel
theorem d_Model_init_32 : decode prog_10_method_1_code 32 = .ok (.newarray .int, 2) := by decide +kernel
theorem d_Model_init_34 : decode prog_10_method_1_code 34 = .ok (.putfield 20, 3) := by decide +kernel
theorem d_Model_init_37 : decode prog_10_method_1_code 37 = .ok (.aload_n 0, 1) := by decide +kernel
theorem d_Model_init_38 : decode prog_10_method_1_code 38 = .ok (.bipush 32, 2) := by decide +kernel
theorem d_Model_init_40 : decode prog_10_method_1_code 40 = .ok (.newarray .boolean, 2) := by decide +kernel
theorem d_Model_init_42 : decode prog_10_method_1_code 42 = .ok (.putfield 23, 3) := by decide +kernel
theorem d_Model_init_45 : decode prog_10_method_1_code 45 = .ok (.aload_n 0, 1) := by decide +kernel
theorem d_Model_init_46 : decode prog_10_method_1_code 46 = .ok (.bipush 40, 2) := by decide +kernel
theorem d_Model_init_48 : decode prog_10_method_1_code 48 = .ok (.newarray .int, 2) := by decide +kernel
theorem d_Model_init_50 : decode prog_10_method_1_code 50 = .ok (.putfield 26, 3) := by decide +kernel
theorem d_Model_init_53 : decode prog_10_method_1_code 53 = .ok (.aload_n 0, 1) := by decide +kernel
theorem d_Model_init_54 : decode prog_10_method_1_code 54 = .ok (.bipush 40, 2) := by decide +kernel
theorem d_Model_init_56 : decode prog_10_method_1_code 56 = .ok (.newarray .int, 2) := by decide +kernel
theorem d_Model_init_58 : decode prog_10_method_1_code 58 = .ok (.putfield 29, 3) := by decide +kernel
theorem d_Model_init_61 : decode prog_10_method_1_code 61 = .ok (.aload_n 0, 1) := by decide +kernel
theorem d_Model_init_62 : decode prog_10_method_1_code 62 = .ok (.bipush 40, 2) := by decide +kernel
theorem d_Model_init_64 : decode prog_10_method_1_code 64 = .ok (.newarray .int, 2) := by decide +kernel
theorem d_Model_init_66 : decode prog_10_method_1_code 66 = .ok (.putfield 32, 3) := by decide +kernel
theorem d_Model_init_69 : decode prog_10_method_1_code 69 = .ok (.aload_n 0, 1) := by decide +kernel
theorem d_Model_init_70 : decode prog_10_method_1_code 70 = .ok (.bipush 40, 2) := by decide +kernel
theorem d_Model_init_72 : decode prog_10_method_1_code 72 = .ok (.newarray .int, 2) := by decide +kernel
theorem d_Model_init_74 : decode prog_10_method_1_code 74 = .ok (.putfield 35, 3) := by decide +kernel
theorem d_Model_init_77 : decode prog_10_method_1_code 77 = .ok (.aload_n 0, 1) := by decide +kernel
theorem d_Model_init_78 : decode prog_10_method_1_code 78 = .ok (.bipush 8, 2) := by decide +kernel
theorem d_Model_init_80 : decode prog_10_method_1_code 80 = .ok (.newarray .int, 2) := by decide +kernel
theorem d_Model_init_82 : decode prog_10_method_1_code 82 = .ok (.putfield 38, 3) := by decide +kernel
theorem d_Model_init_85 : decode prog_10_method_1_code 85 = .ok (.aload_n 0, 1) := by decide +kernel
theorem d_Model_init_86 : decode prog_10_method_1_code 86 = .ok (.bipush 8, 2) := by decide +kernel
theorem d_Model_init_88 : decode prog_10_method_1_code 88 = .ok (.newarray .int, 2) := by decide +kernel
theorem d_Model_init_90 : decode prog_10_method_1_code 90 = .ok (.putfield 41, 3) := by decide +kernel
theorem d_Model_init_93 : decode prog_10_method_1_code 93 = .ok (.aload_n 0, 1) := by decide +kernel
theorem d_Model_init_94 : decode prog_10_method_1_code 94 = .ok (.bipush 8, 2) := by decide +kernel
theorem d_Model_init_96 : decode prog_10_method_1_code 96 = .ok (.newarray .int, 2) := by decide +kernel
theorem d_Model_init_98 : decode prog_10_method_1_code 98 = .ok (.putfield 44, 3) := by decide +kernel
theorem d_Model_init_101 : decode prog_10_method_1_code 101 = .ok (.aload_n 0, 1) := by decide +kernel
theorem d_Model_init_102 : decode prog_10_method_1_code 102 = .ok (.bipush 8, 2) := by decide +kernel
theorem d_Model_init_104 : decode prog_10_method_1_code 104 = .ok (.newarray .int, 2) := by decide +kernel
theorem d_Model_init_106 : decode prog_10_method_1_code 106 = .ok (.putfield 47, 3) := by decide +kernel
theorem d_Model_init_109 : decode prog_10_method_1_code 109 = .ok (.aload_n 0, 1) := by decide +kernel
theorem d_Model_init_110 : decode prog_10_method_1_code 110 = .ok (.bipush 8, 2) := by decide +kernel
theorem d_Model_init_112 : decode prog_10_method_1_code 112 = .ok (.newarray .int, 2) := by decide +kernel
theorem d_Model_init_114 : decode prog_10_method_1_code 114 = .ok (.putfield 50, 3) := by decide +kernel
theorem d_Model_init_117 : decode prog_10_method_1_code 117 = .ok (.aload_n 0, 1) := by decide +kernel
theorem d_Model_init_118 : decode prog_10_method_1_code 118 = .ok (.bipush 8, 2) := by decide +kernel
theorem d_Model_init_120 : decode prog_10_method_1_code 120 = .ok (.newarray .int, 2) := by decide +kernel
theorem d_Model_init_122 : decode prog_10_method_1_code 122 = .ok (.putfield 53, 3) := by decide +kernel
theorem d_Model_init_125 : decode prog_10_method_1_code 125 = .ok (.aload_n 0, 1) := by decide +kernel
theorem d_Model_init_126 : decode prog_10_method_1_code 126 = .ok (.bipush 8, 2) := by decide +kernel
theorem d_Model_init_128 : decode prog_10_method_1_code 128 = .ok (.newarray .int, 2) := by decide +kernel
theorem d_Model_init_130 : decode prog_10_method_1_code 130 = .ok (.putfield 56, 3) := by decide +kernel
theorem d_Model_init_133 : decode prog_10_method_1_code 133 = .ok (.aload_n 0, 1) := by decide +kernel
theorem d_Model_init_134 : decode prog_10_method_1_code 134 = .ok (.bipush 8, 2) := by decide +kernel
theorem d_Model_init_136 : decode prog_10_method_1_code 136 = .ok (.newarray .int, 2) := by decide +kernel
theorem d_Model_init_138 : decode prog_10_method_1_code 138 = .ok (.putfield 59, 3) := by decide +kernel
theorem d_Model_init_141 : decode prog_10_method_1_code 141 = .ok (.aload_n 0, 1) := by decide +kernel
theorem d_Model_init_142 : decode prog_10_method_1_code 142 = .ok (.bipush 8, 2) := by decide +kernel
theorem d_Model_init_144 : decode prog_10_method_1_code 144 = .ok (.newarray .int, 2) := by decide +kernel
theorem d_Model_init_146 : decode prog_10_method_1_code 146 = .ok (.putfield 62, 3) := by decide +kernel
theorem d_Model_init_149 : decode prog_10_method_1_code 149 = .ok (.aload_n 0, 1) := by decide +kernel
theorem d_Model_init_150 : decode prog_10_method_1_code 150 = .ok (.bipush 50, 2) := by decide +kernel
theorem d_Model_init_152 : decode prog_10_method_1_code 152 = .ok (.newarray .int, 2) := by decide +kernel
theorem d_Model_init_154 : decode prog_10_method_1_code 154 = .ok (.putfield 65, 3) := by decide +kernel
theorem d_Model_init_157 : decode prog_10_method_1_code 157 = .ok (.aload_n 0, 1) := by decide +kernel
theorem d_Model_init_158 : decode prog_10_method_1_code 158 = .ok (.bipush 50, 2) := by decide +kernel
theorem d_Model_init_160 : decode prog_10_method_1_code 160 = .ok (.newarray .int, 2) := by decide +kernel
theorem d_Model_init_162 : decode prog_10_method_1_code 162 = .ok (.putfield 68, 3) := by decide +kernel
theorem d_Model_init_165 : decode prog_10_method_1_code 165 = .ok (.aload_n 0, 1) := by decide +kernel
theorem d_Model_init_166 : decode prog_10_method_1_code 166 = .ok (.iconst (-1), 1) := by decide +kernel
theorem d_Model_init_167 : decode prog_10_method_1_code 167 = .ok (.putfield 71, 3) := by decide +kernel
theorem d_Model_init_170 : decode prog_10_method_1_code 170 = .ok (.return_, 1) := by decide +kernel
theorem d_Model_ask_0 : decode prog_10_method_41_code 0 = .ok (.iload_n 2, 1) := by decide +kernel
theorem d_Model_ask_1 : decode prog_10_method_41_code 1 = .ok (.iconst (-1), 1) := by decide +kernel
theorem d_Model_ask_2 : decode prog_10_method_41_code 2 = .ok (.if_icmp .ne 7, 3) := by decide +kernel
theorem d_Model_ask_5 : decode prog_10_method_41_code 5 = .ok (.iconst 0, 1) := by decide +kernel
theorem d_Model_ask_6 : decode prog_10_method_41_code 6 = .ok (.goto 9, 3) := by decide +kernel
theorem d_Model_ask_9 : decode prog_10_method_41_code 9 = .ok (.aload_n 0, 1) := by decide +kernel
theorem d_Model_ask_10 : decode prog_10_method_41_code 10 = .ok (.iload_n 2, 1) := by decide +kernel
theorem d_Model_ask_11 : decode prog_10_method_41_code 11 = .ok (.iload_n 3, 1) := by decide +kernel
theorem d_Model_ask_12 : decode prog_10_method_41_code 12 = .ok (.invokevirtual 82, 3) := by decide +kernel
theorem d_Model_ask_15 : decode prog_10_method_41_code 15 = .ok (.istore 6, 2) := by decide +kernel
theorem d_Model_ask_17 : decode prog_10_method_41_code 17 = .ok (.iload_n 2, 1) := by decide +kernel
theorem d_Model_ask_18 : decode prog_10_method_41_code 18 = .ok (.iconst (-1), 1) := by decide +kernel
theorem d_Model_ask_19 : decode prog_10_method_41_code 19 = .ok (.if_icmp .eq 36, 3) := by decide +kernel
theorem d_Model_ask_22 : decode prog_10_method_41_code 22 = .ok (.aload_n 0, 1) := by decide +kernel
theorem d_Model_ask_23 : decode prog_10_method_41_code 23 = .ok (.getfield 13, 3) := by decide +kernel
theorem d_Model_ask_26 : decode prog_10_method_41_code 26 = .ok (.iload 6, 2) := by decide +kernel
theorem d_Model_ask_28 : decode prog_10_method_41_code 28 = .ok (.iconst 1, 1) := by decide +kernel
theorem d_Model_ask_29 : decode prog_10_method_41_code 29 = .ok (.iadd, 1) := by decide +kernel
theorem d_Model_ask_30 : decode prog_10_method_41_code 30 = .ok (.iaload, 1) := by decide +kernel
theorem d_Model_ask_31 : decode prog_10_method_41_code 31 = .ok (.iconst 4, 1) := by decide +kernel
theorem d_Model_ask_32 : decode prog_10_method_41_code 32 = .ok (.if_icmp .ne 23, 3) := by decide +kernel
theorem d_Model_ask_35 : decode prog_10_method_41_code 35 = .ok (.aload_n 0, 1) := by decide +kernel
theorem d_Model_ask_36 : decode prog_10_method_41_code 36 = .ok (.aload_n 0, 1) := by decide +kernel
theorem d_Model_ask_37 : decode prog_10_method_41_code 37 = .ok (.getfield 13, 3) := by decide +kernel
theorem d_Model_ask_40 : decode prog_10_method_41_code 40 = .ok (.iload 6, 2) := by decide +kernel
theorem d_Model_ask_42 : decode prog_10_method_41_code 42 = .ok (.iconst 2, 1) := by decide +kernel
theorem d_Model_ask_43 : decode prog_10_method_41_code 43 = .ok (.iadd, 1) := by decide +kernel
theorem d_Model_ask_44 : decode prog_10_method_41_code 44 = .ok (.iaload, 1) := by decide +kernel
theorem d_Model_ask_45 : decode prog_10_method_41_code 45 = .ok (.iload 4, 2) := by decide +kernel
theorem d_Model_ask_47 : decode prog_10_method_41_code 47 = .ok (.iload 5, 2) := by decide +kernel
theorem d_Model_ask_49 : decode prog_10_method_41_code 49 = .ok (.iload_n 1, 1) := by decide +kernel
theorem d_Model_ask_50 : decode prog_10_method_41_code 50 = .ok (.iload_n 2, 1) := by decide +kernel
theorem d_Model_ask_51 : decode prog_10_method_41_code 51 = .ok (.invokevirtual 211, 3) := by decide +kernel
theorem d_Model_ask_54 : decode prog_10_method_41_code 54 = .ok (.ireturn, 1) := by decide +kernel
theorem d_Model_ask_55 : decode prog_10_method_41_code 55 = .ok (.iload 4, 2) := by decide +kernel
theorem d_Model_ask_57 : decode prog_10_method_41_code 57 = .ok (.ifCond .gt 15, 3) := by decide +kernel
theorem d_Model_ask_60 : decode prog_10_method_41_code 60 = .ok (.aload_n 0, 1) := by decide +kernel
theorem d_Model_ask_61 : decode prog_10_method_41_code 61 = .ok (.getfield 130, 3) := by decide +kernel
theorem d_Model_ask_64 : decode prog_10_method_41_code 64 = .ok (.iload 5, 2) := by decide +kernel
theorem d_Model_ask_66 : decode prog_10_method_41_code 66 = .ok (.isub, 1) := by decide +kernel
theorem d_Model_ask_67 : decode prog_10_method_41_code 67 = .ok (.bipush 40, 2) := by decide +kernel
theorem d_Model_ask_69 : decode prog_10_method_41_code 69 = .ok (.if_icmp .ne 5, 3) := by decide +kernel
theorem d_Model_ask_72 : decode prog_10_method_41_code 72 = .ok (.iconst 0, 1) := by decide +kernel
theorem d_Model_ask_73 : decode prog_10_method_41_code 73 = .ok (.ireturn, 1) := by decide +kernel
theorem d_Model_ask_74 : decode prog_10_method_41_code 74 = .ok (.aload_n 0, 1) := by decide +kernel
theorem d_Model_ask_75 : decode prog_10_method_41_code 75 = .ok (.dup, 1) := by decide +kernel
theorem d_Model_ask_76 : decode prog_10_method_41_code 76 = .ok (.getfield 130, 3) := by decide +kernel
theorem d_Model_ask_79 : decode prog_10_method_41_code 79 = .ok (.iload 5, 2) := by decide +kernel
theorem d_Model_ask_81 : decode prog_10_method_41_code 81 = .ok (.isub, 1) := by decide +kernel
theorem d_Model_ask_82 : decode prog_10_method_41_code 82 = .ok (.putfield 130, 3) := by decide +kernel
theorem d_Model_ask_85 : decode prog_10_method_41_code 85 = .ok (.aload_n 0, 1) := by decide +kernel
theorem d_Model_ask_86 : decode prog_10_method_41_code 86 = .ok (.iload_n 2, 1) := by decide +kernel
theorem d_Model_ask_87 : decode prog_10_method_41_code 87 = .ok (.iconst (-1), 1) := by decide +kernel
theorem d_Model_ask_88 : decode prog_10_method_41_code 88 = .ok (.if_icmp .ne 7, 3) := by decide +kernel
theorem d_Model_ask_91 : decode prog_10_method_41_code 91 = .ok (.iconst 0, 1) := by decide +kernel
theorem d_Model_ask_92 : decode prog_10_method_41_code 92 = .ok (.goto 12, 3) := by decide +kernel
theorem d_Model_ask_95 : decode prog_10_method_41_code 95 = .ok (.aload_n 0, 1) := by decide +kernel
theorem d_Model_ask_96 : decode prog_10_method_41_code 96 = .ok (.getfield 13, 3) := by decide +kernel
theorem d_Model_ask_99 : decode prog_10_method_41_code 99 = .ok (.iload 6, 2) := by decide +kernel
theorem d_Model_ask_101 : decode prog_10_method_41_code 101 = .ok (.iconst 1, 1) := by decide +kernel
theorem d_Model_ask_102 : decode prog_10_method_41_code 102 = .ok (.iadd, 1) := by decide +kernel
theorem d_Model_ask_103 : decode prog_10_method_41_code 103 = .ok (.iaload, 1) := by decide +kernel
theorem d_Model_ask_104 : decode prog_10_method_41_code 104 = .ok (.iload_n 2, 1) := by decide +kernel
theorem d_Model_ask_105 : decode prog_10_method_41_code 105 = .ok (.iconst (-1), 1) := by decide +kernel
theorem d_Model_ask_106 : decode prog_10_method_41_code 106 = .ok (.if_icmp .ne 7, 3) := by decide +kernel
theorem d_Model_ask_109 : decode prog_10_method_41_code 109 = .ok (.iconst 0, 1) := by decide +kernel
theorem d_Model_ask_110 : decode prog_10_method_41_code 110 = .ok (.goto 12, 3) := by decide +kernel
theorem d_Model_ask_113 : decode prog_10_method_41_code 113 = .ok (.aload_n 0, 1) := by decide +kernel
theorem d_Model_ask_114 : decode prog_10_method_41_code 114 = .ok (.getfield 13, 3) := by decide +kernel
theorem d_Model_ask_117 : decode prog_10_method_41_code 117 = .ok (.iload 6, 2) := by decide +kernel
theorem d_Model_ask_119 : decode prog_10_method_41_code 119 = .ok (.iconst 2, 1) := by decide +kernel
theorem d_Model_ask_120 : decode prog_10_method_41_code 120 = .ok (.iadd, 1) := by decide +kernel
theorem d_Model_ask_121 : decode prog_10_method_41_code 121 = .ok (.iaload, 1) := by decide +kernel
theorem d_Model_ask_122 : decode prog_10_method_41_code 122 = .ok (.invokevirtual 133, 3) := by decide +kernel
theorem d_Model_ask_125 : decode prog_10_method_41_code 125 = .ok (.aload_n 0, 1) := by decide +kernel
theorem d_Model_ask_126 : decode prog_10_method_41_code 126 = .ok (.getfield 59, 3) := by decide +kernel
theorem d_Model_ask_129 : decode prog_10_method_41_code 129 = .ok (.aload_n 0, 1) := by decide +kernel
theorem d_Model_ask_130 : decode prog_10_method_41_code 130 = .ok (.getfield 127, 3) := by decide +kernel
theorem d_Model_ask_133 : decode prog_10_method_41_code 133 = .ok (.iconst 1, 1) := by decide +kernel
theorem d_Model_ask_134 : decode prog_10_method_41_code 134 = .ok (.isub, 1) := by decide +kernel
theorem d_Model_ask_135 : decode prog_10_method_41_code 135 = .ok (.aload_n 0, 1) := by decide +kernel
theorem d_Model_ask_136 : decode prog_10_method_41_code 136 = .ok (.getfield 62, 3) := by decide +kernel
theorem d_Model_ask_139 : decode prog_10_method_41_code 139 = .ok (.aload_n 0, 1) := by decide +kernel
theorem d_Model_ask_140 : decode prog_10_method_41_code 140 = .ok (.getfield 127, 3) := by decide +kernel
theorem d_Model_ask_143 : decode prog_10_method_41_code 143 = .ok (.iconst 1, 1) := by decide +kernel
theorem d_Model_ask_144 : decode prog_10_method_41_code 144 = .ok (.isub, 1) := by decide +kernel
theorem d_Model_ask_145 : decode prog_10_method_41_code 145 = .ok (.iaload, 1) := by decide +kernel
theorem d_Model_ask_146 : decode prog_10_method_41_code 146 = .ok (.iastore, 1) := by decide +kernel
theorem d_Model_ask_147 : decode prog_10_method_41_code 147 = .ok (.iconst 1, 1) := by decide +kernel
theorem d_Model_ask_148 : decode prog_10_method_41_code 148 = .ok (.ireturn, 1) := by decide +kernel
theorem d_Model_assign_0 : decode prog_10_method_39_code 0 = .ok (.aload_n 0, 1) := by decide +kernel
theorem d_Model_assign_1 : decode prog_10_method_39_code 1 = .ok (.invokevirtual 181, 3) := by decide +kernel
theorem d_Model_assign_4 : decode prog_10_method_39_code 4 = .ok (.iconst 2, 1) := by decide +kernel
theorem d_Model_assign_5 : decode prog_10_method_39_code 5 = .ok (.if_icmp .lt 26, 3) := by decide +kernel
theorem d_Model_assign_8 : decode prog_10_method_39_code 8 = .ok (.aload_n 0, 1) := by decide +kernel
theorem d_Model_assign_9 : decode prog_10_method_39_code 9 = .ok (.iload_n 1, 1) := by decide +kernel
theorem d_Model_assign_10 : decode prog_10_method_39_code 10 = .ok (.invokevirtual 124, 3) := by decide +kernel
theorem d_Model_assign_13 : decode prog_10_method_39_code 13 = .ok (.bipush 7, 2) := by decide +kernel
theorem d_Model_assign_15 : decode prog_10_method_39_code 15 = .ok (.if_icmp .gt 16, 3) := by decide +kernel
theorem d_Model_assign_18 : decode prog_10_method_39_code 18 = .ok (.aload_n 0, 1) := by decide +kernel
theorem d_Model_assign_19 : decode prog_10_method_39_code 19 = .ok (.aload_n 0, 1) := by decide +kernel
theorem d_Model_assign_20 : decode prog_10_method_39_code 20 = .ok (.getfield 130, 3) := by decide +kernel
theorem d_Model_assign_23 : decode prog_10_method_39_code 23 = .ok (.iconst 1, 1) := by decide +kernel
theorem d_Model_assign_24 : decode prog_10_method_39_code 24 = .ok (.isub, 1) := by decide +kernel
theorem d_Model_assign_25 : decode prog_10_method_39_code 25 = .ok (.invokevirtual 201, 3) := by decide +kernel
theorem d_Model_assign_28 : decode prog_10_method_39_code 28 = .ok (.ifCond .ne 5, 3) := by decide +kernel
theorem d_Model_assign_31 : decode prog_10_method_39_code 31 = .ok (.iconst 0, 1) := by decide +kernel
theorem d_Model_assign_32 : decode prog_10_method_39_code 32 = .ok (.ireturn, 1) := by decide +kernel
theorem d_Model_assign_33 : decode prog_10_method_39_code 33 = .ok (.aload_n 0, 1) := by decide +kernel
theorem d_Model_assign_34 : decode prog_10_method_39_code 34 = .ok (.aload_n 0, 1) := by decide +kernel
theorem d_Model_assign_35 : decode prog_10_method_39_code 35 = .ok (.getfield 35, 3) := by decide +kernel
theorem d_Model_assign_38 : decode prog_10_method_39_code 38 = .ok (.aload_n 0, 1) := by decide +kernel
theorem d_Model_assign_39 : decode prog_10_method_39_code 39 = .ok (.getfield 130, 3) := by decide +kernel
theorem d_Model_assign_42 : decode prog_10_method_39_code 42 = .ok (.iconst 1, 1) := by decide +kernel
theorem d_Model_assign_43 : decode prog_10_method_39_code 43 = .ok (.isub, 1) := by decide +kernel
theorem d_Model_assign_44 : decode prog_10_method_39_code 44 = .ok (.iaload, 1) := by decide +kernel
theorem d_Model_assign_45 : decode prog_10_method_39_code 45 = .ok (.aload_n 0, 1) := by decide +kernel
theorem d_Model_assign_46 : decode prog_10_method_39_code 46 = .ok (.iload_n 1, 1) := by decide +kernel
theorem d_Model_assign_47 : decode prog_10_method_39_code 47 = .ok (.invokevirtual 124, 3) := by decide +kernel
theorem d_Model_assign_50 : decode prog_10_method_39_code 50 = .ok (.aload_n 0, 1) := by decide +kernel
theorem d_Model_assign_51 : decode prog_10_method_39_code 51 = .ok (.getfield 32, 3) := by decide +kernel
theorem d_Model_assign_54 : decode prog_10_method_39_code 54 = .ok (.aload_n 0, 1) := by decide +kernel
theorem d_Model_assign_55 : decode prog_10_method_39_code 55 = .ok (.getfield 130, 3) := by decide +kernel
theorem d_Model_assign_58 : decode prog_10_method_39_code 58 = .ok (.iconst 2, 1) := by decide +kernel
theorem d_Model_assign_59 : decode prog_10_method_39_code 59 = .ok (.isub, 1) := by decide +kernel
theorem d_Model_assign_60 : decode prog_10_method_39_code 60 = .ok (.iaload, 1) := by decide +kernel
theorem d_Model_assign_61 : decode prog_10_method_39_code 61 = .ok (.aload_n 0, 1) := by decide +kernel
theorem d_Model_assign_62 : decode prog_10_method_39_code 62 = .ok (.getfield 35, 3) := by decide +kernel
theorem d_Model_assign_65 : decode prog_10_method_39_code 65 = .ok (.aload_n 0, 1) := by decide +kernel
theorem d_Model_assign_66 : decode prog_10_method_39_code 66 = .ok (.getfield 130, 3) := by decide +kernel
theorem d_Model_assign_69 : decode prog_10_method_39_code 69 = .ok (.iconst 2, 1) := by decide +kernel
theorem d_Model_assign_70 : decode prog_10_method_39_code 70 = .ok (.isub, 1) := by decide +kernel
theorem d_Model_assign_71 : decode prog_10_method_39_code 71 = .ok (.iaload, 1) := by decide +kernel
theorem d_Model_assign_72 : decode prog_10_method_39_code 72 = .ok (.invokevirtual 120, 3) := by decide +kernel
theorem d_Model_assign_75 : decode prog_10_method_39_code 75 = .ok (.aload_n 0, 1) := by decide +kernel
theorem d_Model_assign_76 : decode prog_10_method_39_code 76 = .ok (.dup, 1) := by decide +kernel
theorem d_Model_assign_77 : decode prog_10_method_39_code 77 = .ok (.getfield 130, 3) := by decide +kernel
theorem d_Model_assign_80 : decode prog_10_method_39_code 80 = .ok (.iconst 2, 1) := by decide +kernel
theorem d_Model_assign_81 : decode prog_10_method_39_code 81 = .ok (.isub, 1) := by decide +kernel
theorem d_Model_assign_82 : decode prog_10_method_39_code 82 = .ok (.putfield 130, 3) := by decide +kernel
theorem d_Model_assign_85 : decode prog_10_method_39_code 85 = .ok (.iconst 1, 1) := by decide +kernel
theorem d_Model_assign_86 : decode prog_10_method_39_code 86 = .ok (.ireturn, 1) := by decide +kernel
theorem d_Model_begin_0 : decode prog_10_method_24_code 0 = .ok (.aload_n 0, 1) := by decide +kernel
theorem d_Model_begin_1 : decode prog_10_method_24_code 1 = .ok (.iconst 0, 1) := by decide +kernel
theorem d_Model_begin_2 : decode prog_10_method_24_code 2 = .ok (.putfield 75, 3) := by decide +kernel
theorem d_Model_begin_5 : decode prog_10_method_24_code 5 = .ok (.aload_n 0, 1) := by decide +kernel
theorem d_Model_begin_6 : decode prog_10_method_24_code 6 = .ok (.iload_n 1, 1) := by decide +kernel
theorem d_Model_begin_7 : decode prog_10_method_24_code 7 = .ok (.invokevirtual 107, 3) := by decide +kernel
theorem d_Model_begin_10 : decode prog_10_method_24_code 10 = .ok (.ifCond .ne 11, 3) := by decide +kernel
theorem d_Model_begin_13 : decode prog_10_method_24_code 13 = .ok (.aload_n 0, 1) := by decide +kernel
theorem d_Model_begin_14 : decode prog_10_method_24_code 14 = .ok (.iconst 1, 1) := by decide +kernel
theorem d_Model_begin_15 : decode prog_10_method_24_code 15 = .ok (.putfield 75, 3) := by decide +kernel
theorem d_Model_begin_18 : decode prog_10_method_24_code 18 = .ok (.goto 18, 3) := by decide +kernel
theorem d_Model_begin_21 : decode prog_10_method_24_code 21 = .ok (.iload_n 2, 1) := by decide +kernel
theorem d_Model_begin_22 : decode prog_10_method_24_code 22 = .ok (.iconst 0, 1) := by decide +kernel
theorem d_Model_begin_23 : decode prog_10_method_24_code 23 = .ok (.bipush 7, 2) := by decide +kernel
theorem d_Model_begin_25 : decode prog_10_method_24_code 25 = .ok (.invokestatic 78, 3) := by decide +kernel
theorem d_Model_begin_28 : decode prog_10_method_24_code 28 = .ok (.ifCond .eq 8, 3) := by decide +kernel
theorem d_Model_begin_31 : decode prog_10_method_24_code 31 = .ok (.aload_n 0, 1) := by decide +kernel
theorem d_Model_begin_32 : decode prog_10_method_24_code 32 = .ok (.iconst 2, 1) := by decide +kernel
theorem d_Model_begin_33 : decode prog_10_method_24_code 33 = .ok (.putfield 75, 3) := by decide +kernel
theorem d_Model_begin_36 : decode prog_10_method_24_code 36 = .ok (.aload_n 0, 1) := by decide +kernel
theorem d_Model_begin_37 : decode prog_10_method_24_code 37 = .ok (.getfield 75, 3) := by decide +kernel
theorem d_Model_begin_40 : decode prog_10_method_24_code 40 = .ok (.ifCond .le 4, 3) := by decide +kernel
theorem d_Model_begin_43 : decode prog_10_method_24_code 43 = .ok (.return_, 1) := by decide +kernel
theorem d_Model_begin_44 : decode prog_10_method_24_code 44 = .ok (.aload_n 0, 1) := by decide +kernel
theorem d_Model_begin_45 : decode prog_10_method_24_code 45 = .ok (.iload_n 1, 1) := by decide +kernel
theorem d_Model_begin_46 : decode prog_10_method_24_code 46 = .ok (.iload_n 2, 1) := by decide +kernel
theorem d_Model_begin_47 : decode prog_10_method_24_code 47 = .ok (.iconst (-1), 1) := by decide +kernel
theorem d_Model_begin_48 : decode prog_10_method_24_code 48 = .ok (.invokevirtual 137, 3) := by decide +kernel
theorem d_Model_begin_51 : decode prog_10_method_24_code 51 = .ok (.istore_n 3, 1) := by decide +kernel
theorem d_Model_begin_52 : decode prog_10_method_24_code 52 = .ok (.iload_n 3, 1) := by decide +kernel
theorem d_Model_begin_53 : decode prog_10_method_24_code 53 = .ok (.iconst (-1), 1) := by decide +kernel
theorem d_Model_begin_54 : decode prog_10_method_24_code 54 = .ok (.if_icmp .eq 45, 3) := by decide +kernel
theorem d_Model_begin_57 : decode prog_10_method_24_code 57 = .ok (.aload_n 0, 1) := by decide +kernel
theorem d_Model_begin_58 : decode prog_10_method_24_code 58 = .ok (.getfield 13, 3) := by decide +kernel
theorem d_Model_begin_61 : decode prog_10_method_24_code 61 = .ok (.aload_n 0, 1) := by decide +kernel
theorem d_Model_begin_62 : decode prog_10_method_24_code 62 = .ok (.iload_n 3, 1) := by decide +kernel
theorem d_Model_begin_63 : decode prog_10_method_24_code 63 = .ok (.iload_n 2, 1) := by decide +kernel
theorem d_Model_begin_64 : decode prog_10_method_24_code 64 = .ok (.invokevirtual 82, 3) := by decide +kernel
theorem d_Model_begin_67 : decode prog_10_method_24_code 67 = .ok (.iconst 1, 1) := by decide +kernel
theorem d_Model_begin_68 : decode prog_10_method_24_code 68 = .ok (.iadd, 1) := by decide +kernel
theorem d_Model_begin_69 : decode prog_10_method_24_code 69 = .ok (.iaload, 1) := by decide +kernel
theorem d_Model_begin_70 : decode prog_10_method_24_code 70 = .ok (.iconst 4, 1) := by decide +kernel
theorem d_Model_begin_71 : decode prog_10_method_24_code 71 = .ok (.if_icmp .ne 28, 3) := by decide +kernel
theorem d_Model_begin_74 : decode prog_10_method_24_code 74 = .ok (.aload_n 0, 1) := by decide +kernel
theorem d_Model_begin_75 : decode prog_10_method_24_code 75 = .ok (.aload_n 0, 1) := by decide +kernel
theorem d_Model_begin_76 : decode prog_10_method_24_code 76 = .ok (.getfield 13, 3) := by decide +kernel
theorem d_Model_begin_79 : decode prog_10_method_24_code 79 = .ok (.aload_n 0, 1) := by decide +kernel
theorem d_Model_begin_80 : decode prog_10_method_24_code 80 = .ok (.iload_n 3, 1) := by decide +kernel
theorem d_Model_begin_81 : decode prog_10_method_24_code 81 = .ok (.iload_n 2, 1) := by decide +kernel
theorem d_Model_begin_82 : decode prog_10_method_24_code 82 = .ok (.invokevirtual 82, 3) := by decide +kernel
theorem d_Model_begin_85 : decode prog_10_method_24_code 85 = .ok (.iconst 2, 1) := by decide +kernel
theorem d_Model_begin_86 : decode prog_10_method_24_code 86 = .ok (.iadd, 1) := by decide +kernel
theorem d_Model_begin_87 : decode prog_10_method_24_code 87 = .ok (.iaload, 1) := by decide +kernel
theorem d_Model_begin_88 : decode prog_10_method_24_code 88 = .ok (.iconst 0, 1) := by decide +kernel
theorem d_Model_begin_89 : decode prog_10_method_24_code 89 = .ok (.invokevirtual 141, 3) := by decide +kernel
theorem d_Model_begin_92 : decode prog_10_method_24_code 92 = .ok (.ifCond .eq 7, 3) := by decide +kernel
theorem d_Model_begin_95 : decode prog_10_method_24_code 95 = .ok (.iconst 1, 1) := by decide +kernel
theorem d_Model_begin_96 : decode prog_10_method_24_code 96 = .ok (.goto 4, 3) := by decide +kernel
theorem d_Model_begin_99 : decode prog_10_method_24_code 99 = .ok (.iconst 0, 1) := by decide +kernel
theorem d_Model_begin_100 : decode prog_10_method_24_code 100 = .ok (.istore 4, 2) := by decide +kernel
theorem d_Model_begin_102 : decode prog_10_method_24_code 102 = .ok (.aload_n 0, 1) := by decide +kernel
theorem d_Model_begin_103 : decode prog_10_method_24_code 103 = .ok (.iload 4, 2) := by decide +kernel
theorem d_Model_begin_105 : decode prog_10_method_24_code 105 = .ok (.ifCond .ne 7, 3) := by decide +kernel
theorem d_Model_begin_108 : decode prog_10_method_24_code 108 = .ok (.iconst 2, 1) := by decide +kernel
theorem d_Model_begin_109 : decode prog_10_method_24_code 109 = .ok (.goto 15, 3) := by decide +kernel
theorem d_Model_begin_112 : decode prog_10_method_24_code 112 = .ok (.aload_n 0, 1) := by decide +kernel
theorem d_Model_begin_113 : decode prog_10_method_24_code 113 = .ok (.getfield 71, 3) := by decide +kernel
theorem d_Model_begin_116 : decode prog_10_method_24_code 116 = .ok (.ifCond .ne 7, 3) := by decide +kernel
theorem d_Model_begin_119 : decode prog_10_method_24_code 119 = .ok (.iconst 3, 1) := by decide +kernel
theorem d_Model_begin_120 : decode prog_10_method_24_code 120 = .ok (.goto 4, 3) := by decide +kernel
theorem d_Model_begin_123 : decode prog_10_method_24_code 123 = .ok (.iconst 0, 1) := by decide +kernel
theorem d_Model_begin_124 : decode prog_10_method_24_code 124 = .ok (.putfield 75, 3) := by decide +kernel
theorem d_Model_begin_127 : decode prog_10_method_24_code 127 = .ok (.aload_n 0, 1) := by decide +kernel
theorem d_Model_begin_128 : decode prog_10_method_24_code 128 = .ok (.getfield 75, 3) := by decide +kernel
theorem d_Model_begin_131 : decode prog_10_method_24_code 131 = .ok (.ifCond .le 4, 3) := by decide +kernel
theorem d_Model_begin_134 : decode prog_10_method_24_code 134 = .ok (.return_, 1) := by decide +kernel
theorem d_Model_begin_135 : decode prog_10_method_24_code 135 = .ok (.aload_n 0, 1) := by decide +kernel
theorem d_Model_begin_136 : decode prog_10_method_24_code 136 = .ok (.iconst 0, 1) := by decide +kernel
theorem d_Model_begin_137 : decode prog_10_method_24_code 137 = .ok (.putfield 127, 3) := by decide +kernel
theorem d_Model_begin_140 : decode prog_10_method_24_code 140 = .ok (.aload_n 0, 1) := by decide +kernel
theorem d_Model_begin_141 : decode prog_10_method_24_code 141 = .ok (.iconst 0, 1) := by decide +kernel
theorem d_Model_begin_142 : decode prog_10_method_24_code 142 = .ok (.putfield 130, 3) := by decide +kernel
theorem d_Model_begin_145 : decode prog_10_method_24_code 145 = .ok (.aload_n 0, 1) := by decide +kernel
theorem d_Model_begin_146 : decode prog_10_method_24_code 146 = .ok (.iconst 0, 1) := by decide +kernel
theorem d_Model_begin_147 : decode prog_10_method_24_code 147 = .ok (.putfield 144, 3) := by decide +kernel
theorem d_Model_begin_150 : decode prog_10_method_24_code 150 = .ok (.aload_n 0, 1) := by decide +kernel
theorem d_Model_begin_151 : decode prog_10_method_24_code 151 = .ok (.iconst 0, 1) := by decide +kernel
theorem d_Model_begin_152 : decode prog_10_method_24_code 152 = .ok (.putfield 147, 3) := by decide +kernel
theorem d_Model_begin_155 : decode prog_10_method_24_code 155 = .ok (.aload_n 0, 1) := by decide +kernel
theorem d_Model_begin_156 : decode prog_10_method_24_code 156 = .ok (.iconst 0, 1) := by decide +kernel
theorem d_Model_begin_157 : decode prog_10_method_24_code 157 = .ok (.putfield 150, 3) := by decide +kernel
theorem d_Model_begin_160 : decode prog_10_method_24_code 160 = .ok (.aload_n 0, 1) := by decide +kernel
theorem d_Model_begin_161 : decode prog_10_method_24_code 161 = .ok (.iconst 0, 1) := by decide +kernel
theorem d_Model_begin_162 : decode prog_10_method_24_code 162 = .ok (.putfield 153, 3) := by decide +kernel
theorem d_Model_begin_165 : decode prog_10_method_24_code 165 = .ok (.aload_n 0, 1) := by decide +kernel
theorem d_Model_begin_166 : decode prog_10_method_24_code 166 = .ok (.iconst 0, 1) := by decide +kernel
theorem d_Model_begin_167 : decode prog_10_method_24_code 167 = .ok (.putfield 71, 3) := by decide +kernel
theorem d_Model_begin_170 : decode prog_10_method_24_code 170 = .ok (.aload_n 0, 1) := by decide +kernel
theorem d_Model_begin_171 : decode prog_10_method_24_code 171 = .ok (.aload_n 0, 1) := by decide +kernel
theorem d_Model_begin_172 : decode prog_10_method_24_code 172 = .ok (.getfield 13, 3) := by decide +kernel
theorem d_Model_begin_175 : decode prog_10_method_24_code 175 = .ok (.aload_n 0, 1) := by decide +kernel
theorem d_Model_begin_176 : decode prog_10_method_24_code 176 = .ok (.iload_n 3, 1) := by decide +kernel
theorem d_Model_begin_177 : decode prog_10_method_24_code 177 = .ok (.iload_n 2, 1) := by decide +kernel
theorem d_Model_begin_178 : decode prog_10_method_24_code 178 = .ok (.invokevirtual 82, 3) := by decide +kernel
theorem d_Model_begin_181 : decode prog_10_method_24_code 181 = .ok (.iconst 2, 1) := by decide +kernel
theorem d_Model_begin_182 : decode prog_10_method_24_code 182 = .ok (.iadd, 1) := by decide +kernel
theorem d_Model_begin_183 : decode prog_10_method_24_code 183 = .ok (.iaload, 1) := by decide +kernel
theorem d_Model_begin_184 : decode prog_10_method_24_code 184 = .ok (.iconst 0, 1) := by decide +kernel
theorem d_Model_begin_185 : decode prog_10_method_24_code 185 = .ok (.iload_n 1, 1) := by decide +kernel
theorem d_Model_begin_186 : decode prog_10_method_24_code 186 = .ok (.iload_n 3, 1) := by decide +kernel
theorem d_Model_begin_187 : decode prog_10_method_24_code 187 = .ok (.invokevirtual 156, 3) := by decide +kernel
theorem d_Model_begin_190 : decode prog_10_method_24_code 190 = .ok (.return_, 1) := by decide +kernel
theorem d_Model_belongs_0 : decode prog_10_method_15_code 0 = .ok (.iconst 1, 1) := by decide +kernel
theorem d_Model_belongs_1 : decode prog_10_method_15_code 1 = .ok (.iload_n 1, 1) := by decide +kernel
theorem d_Model_belongs_2 : decode prog_10_method_15_code 2 = .ok (.ishl, 1) := by decide +kernel
theorem d_Model_belongs_3 : decode prog_10_method_15_code 3 = .ok (.istore_n 3, 1) := by decide +kernel
theorem d_Model_belongs_4 : decode prog_10_method_15_code 4 = .ok (.iconst 0, 1) := by decide +kernel
theorem d_Model_belongs_5 : decode prog_10_method_15_code 5 = .ok (.istore 4, 2) := by decide +kernel
theorem d_Model_belongs_7 : decode prog_10_method_15_code 7 = .ok (.iload_n 3, 1) := by decide +kernel
theorem d_Model_belongs_8 : decode prog_10_method_15_code 8 = .ok (.iload 4, 2) := by decide +kernel
theorem d_Model_belongs_10 : decode prog_10_method_15_code 10 = .ok (.if_icmp .eq 69, 3) := by decide +kernel
theorem d_Model_belongs_13 : decode prog_10_method_15_code 13 = .ok (.iload_n 3, 1) := by decide +kernel
theorem d_Model_belongs_14 : decode prog_10_method_15_code 14 = .ok (.istore 4, 2) := by decide +kernel
theorem d_Model_belongs_16 : decode prog_10_method_15_code 16 = .ok (.iconst 0, 1) := by decide +kernel
theorem d_Model_belongs_17 : decode prog_10_method_15_code 17 = .ok (.istore 5, 2) := by decide +kernel
theorem d_Model_belongs_19 : decode prog_10_method_15_code 19 = .ok (.iload 5, 2) := by decide +kernel
theorem d_Model_belongs_21 : decode prog_10_method_15_code 21 = .ok (.bipush 32, 2) := by decide +kernel
theorem d_Model_belongs_23 : decode prog_10_method_15_code 23 = .ok (.if_icmp .ge 53, 3) := by decide +kernel
theorem d_Model_belongs_26 : decode prog_10_method_15_code 26 = .ok (.iconst 0, 1) := by decide +kernel
theorem d_Model_belongs_27 : decode prog_10_method_15_code 27 = .ok (.istore 6, 2) := by decide +kernel
theorem d_Model_belongs_29 : decode prog_10_method_15_code 29 = .ok (.iload 6, 2) := by decide +kernel
theorem d_Model_belongs_31 : decode prog_10_method_15_code 31 = .ok (.aload_n 0, 1) := by decide +kernel
theorem d_Model_belongs_32 : decode prog_10_method_15_code 32 = .ok (.iload 5, 2) := by decide +kernel
theorem d_Model_belongs_34 : decode prog_10_method_15_code 34 = .ok (.invokevirtual 89, 3) := by decide +kernel
theorem d_Model_belongs_37 : decode prog_10_method_15_code 37 = .ok (.if_icmp .ge 33, 3) := by decide +kernel
theorem d_Model_belongs_40 : decode prog_10_method_15_code 40 = .ok (.iload 4, 2) := by decide +kernel
theorem d_Model_belongs_42 : decode prog_10_method_15_code 42 = .ok (.iload 5, 2) := by decide +kernel
theorem d_Model_belongs_44 : decode prog_10_method_15_code 44 = .ok (.ishr, 1) := by decide +kernel
theorem d_Model_belongs_45 : decode prog_10_method_15_code 45 = .ok (.iconst 1, 1) := by decide +kernel
theorem d_Model_belongs_46 : decode prog_10_method_15_code 46 = .ok (.iand, 1) := by decide +kernel
theorem d_Model_belongs_47 : decode prog_10_method_15_code 47 = .ok (.iconst 1, 1) := by decide +kernel
theorem d_Model_belongs_48 : decode prog_10_method_15_code 48 = .ok (.if_icmp .ne 22, 3) := by decide +kernel
theorem d_Model_belongs_51 : decode prog_10_method_15_code 51 = .ok (.iload_n 3, 1) := by decide +kernel
theorem d_Model_belongs_52 : decode prog_10_method_15_code 52 = .ok (.iconst 1, 1) := by decide +kernel
theorem d_Model_belongs_53 : decode prog_10_method_15_code 53 = .ok (.aload_n 0, 1) := by decide +kernel
theorem d_Model_belongs_54 : decode prog_10_method_15_code 54 = .ok (.iload 5, 2) := by decide +kernel
theorem d_Model_belongs_56 : decode prog_10_method_15_code 56 = .ok (.iload 6, 2) := by decide +kernel
theorem d_Model_belongs_58 : decode prog_10_method_15_code 58 = .ok (.invokevirtual 93, 3) := by decide +kernel
theorem d_Model_belongs_61 : decode prog_10_method_15_code 61 = .ok (.ishl, 1) := by decide +kernel
theorem d_Model_belongs_62 : decode prog_10_method_15_code 62 = .ok (.ior, 1) := by decide +kernel
theorem d_Model_belongs_63 : decode prog_10_method_15_code 63 = .ok (.istore_n 3, 1) := by decide +kernel
theorem d_Model_belongs_64 : decode prog_10_method_15_code 64 = .ok (.iinc 6 1, 3) := by decide +kernel
theorem d_Model_belongs_67 : decode prog_10_method_15_code 67 = .ok (.goto (-38), 3) := by decide +kernel
theorem d_Model_belongs_70 : decode prog_10_method_15_code 70 = .ok (.iinc 5 1, 3) := by decide +kernel
theorem d_Model_belongs_73 : decode prog_10_method_15_code 73 = .ok (.goto (-54), 3) := by decide +kernel
theorem d_Model_belongs_76 : decode prog_10_method_15_code 76 = .ok (.goto (-69), 3) := by decide +kernel
theorem d_Model_belongs_79 : decode prog_10_method_15_code 79 = .ok (.iload_n 3, 1) := by decide +kernel
theorem d_Model_belongs_80 : decode prog_10_method_15_code 80 = .ok (.iload_n 2, 1) := by decide +kernel
theorem d_Model_belongs_81 : decode prog_10_method_15_code 81 = .ok (.ishr, 1) := by decide +kernel
theorem d_Model_belongs_82 : decode prog_10_method_15_code 82 = .ok (.iconst 1, 1) := by decide +kernel
theorem d_Model_belongs_83 : decode prog_10_method_15_code 83 = .ok (.iand, 1) := by decide +kernel
theorem d_Model_belongs_84 : decode prog_10_method_15_code 84 = .ok (.iconst 1, 1) := by decide +kernel
theorem d_Model_belongs_85 : decode prog_10_method_15_code 85 = .ok (.if_icmp .ne 7, 3) := by decide +kernel
theorem d_Model_belongs_88 : decode prog_10_method_15_code 88 = .ok (.iconst 1, 1) := by decide +kernel
theorem d_Model_belongs_89 : decode prog_10_method_15_code 89 = .ok (.goto 4, 3) := by decide +kernel
theorem d_Model_belongs_92 : decode prog_10_method_15_code 92 = .ok (.iconst 0, 1) := by decide +kernel
theorem d_Model_belongs_93 : decode prog_10_method_15_code 93 = .ok (.ireturn, 1) := by decide +kernel
theorem d_Model_call_0 : decode prog_10_method_40_code 0 = .ok (.aload_n 0, 1) := by decide +kernel
theorem d_Model_call_1 : decode prog_10_method_40_code 1 = .ok (.iload_n 1, 1) := by decide +kernel
theorem d_Model_call_2 : decode prog_10_method_40_code 2 = .ok (.iload_n 2, 1) := by decide +kernel
theorem d_Model_call_3 : decode prog_10_method_40_code 3 = .ok (.invokevirtual 141, 3) := by decide +kernel
theorem d_Model_call_6 : decode prog_10_method_40_code 6 = .ok (.ifCond .eq 32, 3) := by decide +kernel
theorem d_Model_call_9 : decode prog_10_method_40_code 9 = .ok (.aload_n 0, 1) := by decide +kernel
theorem d_Model_call_10 : decode prog_10_method_40_code 10 = .ok (.getfield 127, 3) := by decide +kernel
theorem d_Model_call_13 : decode prog_10_method_40_code 13 = .ok (.bipush 8, 2) := by decide +kernel
theorem d_Model_call_15 : decode prog_10_method_40_code 15 = .ok (.if_icmp .eq 23, 3) := by decide +kernel
theorem d_Model_call_18 : decode prog_10_method_40_code 18 = .ok (.aload_n 0, 1) := by decide +kernel
theorem d_Model_call_19 : decode prog_10_method_40_code 19 = .ok (.getfield 130, 3) := by decide +kernel
theorem d_Model_call_22 : decode prog_10_method_40_code 22 = .ok (.iload_n 3, 1) := by decide +kernel
theorem d_Model_call_23 : decode prog_10_method_40_code 23 = .ok (.isub, 1) := by decide +kernel
theorem d_Model_call_24 : decode prog_10_method_40_code 24 = .ok (.aload_n 0, 1) := by decide +kernel
theorem d_Model_call_25 : decode prog_10_method_40_code 25 = .ok (.getfield 7, 3) := by decide +kernel
theorem d_Model_call_28 : decode prog_10_method_40_code 28 = .ok (.iload_n 1, 1) := by decide +kernel
theorem d_Model_call_29 : decode prog_10_method_40_code 29 = .ok (.iconst 1, 1) := by decide +kernel
theorem d_Model_call_30 : decode prog_10_method_40_code 30 = .ok (.iadd, 1) := by decide +kernel
theorem d_Model_call_31 : decode prog_10_method_40_code 31 = .ok (.iaload, 1) := by decide +kernel
theorem d_Model_call_32 : decode prog_10_method_40_code 32 = .ok (.iadd, 1) := by decide +kernel
theorem d_Model_call_33 : decode prog_10_method_40_code 33 = .ok (.bipush 40, 2) := by decide +kernel
theorem d_Model_call_35 : decode prog_10_method_40_code 35 = .ok (.if_icmp .le 5, 3) := by decide +kernel
theorem d_Model_call_38 : decode prog_10_method_40_code 38 = .ok (.iconst 0, 1) := by decide +kernel
theorem d_Model_call_39 : decode prog_10_method_40_code 39 = .ok (.ireturn, 1) := by decide +kernel
theorem d_Model_call_40 : decode prog_10_method_40_code 40 = .ok (.aload_n 0, 1) := by decide +kernel
theorem d_Model_call_41 : decode prog_10_method_40_code 41 = .ok (.dup, 1) := by decide +kernel
theorem d_Model_call_42 : decode prog_10_method_40_code 42 = .ok (.getfield 130, 3) := by decide +kernel
theorem d_Model_call_45 : decode prog_10_method_40_code 45 = .ok (.iload_n 3, 1) := by decide +kernel
theorem d_Model_call_46 : decode prog_10_method_40_code 46 = .ok (.isub, 1) := by decide +kernel
theorem d_Model_call_47 : decode prog_10_method_40_code 47 = .ok (.putfield 130, 3) := by decide +kernel
theorem d_Model_call_50 : decode prog_10_method_40_code 50 = .ok (.aload_n 0, 1) := by decide +kernel
theorem d_Model_call_51 : decode prog_10_method_40_code 51 = .ok (.iload_n 1, 1) := by decide +kernel
theorem d_Model_call_52 : decode prog_10_method_40_code 52 = .ok (.iload_n 2, 1) := by decide +kernel
theorem d_Model_call_53 : decode prog_10_method_40_code 53 = .ok (.iload 4, 2) := by decide +kernel
theorem d_Model_call_55 : decode prog_10_method_40_code 55 = .ok (.iload 5, 2) := by decide +kernel
theorem d_Model_call_57 : decode prog_10_method_40_code 57 = .ok (.invokevirtual 156, 3) := by decide +kernel
theorem d_Model_call_60 : decode prog_10_method_40_code 60 = .ok (.iconst 1, 1) := by decide +kernel
theorem d_Model_call_61 : decode prog_10_method_40_code 61 = .ok (.ireturn, 1) := by decide +kernel
theorem d_Model_code_0 : decode prog_10_method_16_code 0 = .ok (.aload_n 0, 1) := by decide +kernel
theorem d_Model_code_1 : decode prog_10_method_16_code 1 = .ok (.iconst 0, 1) := by decide +kernel
theorem d_Model_code_2 : decode prog_10_method_16_code 2 = .ok (.putfield 75, 3) := by decide +kernel
theorem d_Model_code_5 : decode prog_10_method_16_code 5 = .ok (.iload_n 2, 1) := by decide +kernel
theorem d_Model_code_6 : decode prog_10_method_16_code 6 = .ok (.iconst 1, 1) := by decide +kernel
theorem d_Model_code_7 : decode prog_10_method_16_code 7 = .ok (.iconst 4, 1) := by decide +kernel
theorem d_Model_code_8 : decode prog_10_method_16_code 8 = .ok (.invokestatic 78, 3) := by decide +kernel
theorem d_Model_code_11 : decode prog_10_method_16_code 11 = .ok (.ifCond .ne 15, 3) := by decide +kernel
theorem d_Model_code_14 : decode prog_10_method_16_code 14 = .ok (.aload_n 0, 1) := by decide +kernel
theorem d_Model_code_15 : decode prog_10_method_16_code 15 = .ok (.getfield 104, 3) := by decide +kernel
theorem d_Model_code_18 : decode prog_10_method_16_code 18 = .ok (.iload_n 2, 1) := by decide +kernel
theorem d_Model_code_19 : decode prog_10_method_16_code 19 = .ok (.iadd, 1) := by decide +kernel
theorem d_Model_code_20 : decode prog_10_method_16_code 20 = .ok (.sipush 300, 3) := by decide +kernel
theorem d_Model_code_23 : decode prog_10_method_16_code 23 = .ok (.if_icmp .le 5, 3) := by decide +kernel
theorem d_Model_code_26 : decode prog_10_method_16_code 26 = .ok (.iconst 0, 1) := by decide +kernel
theorem d_Model_code_27 : decode prog_10_method_16_code 27 = .ok (.ireturn, 1) := by decide +kernel
theorem d_Model_code_28 : decode prog_10_method_16_code 28 = .ok (.iload_n 2, 1) := by decide +kernel
theorem d_Model_code_29 : decode prog_10_method_16_code 29 = .ok (.iconst 1, 1) := by decide +kernel
theorem d_Model_code_30 : decode prog_10_method_16_code 30 = .ok (.isub, 1) := by decide +kernel
theorem d_Model_code_31 : decode prog_10_method_16_code 31 = .ok (.istore_n 3, 1) := by decide +kernel
theorem d_Model_code_32 : decode prog_10_method_16_code 32 = .ok (.iload_n 3, 1) := by decide +kernel
theorem d_Model_code_33 : decode prog_10_method_16_code 33 = .ok (.ifCond .lt 38, 3) := by decide +kernel
theorem d_Model_code_36 : decode prog_10_method_16_code 36 = .ok (.aload_n 0, 1) := by decide +kernel
theorem d_Model_code_37 : decode prog_10_method_16_code 37 = .ok (.getfield 7, 3) := by decide +kernel
theorem d_Model_code_40 : decode prog_10_method_16_code 40 = .ok (.aload_n 0, 1) := by decide +kernel
theorem d_Model_code_41 : decode prog_10_method_16_code 41 = .ok (.getfield 104, 3) := by decide +kernel
theorem d_Model_code_44 : decode prog_10_method_16_code 44 = .ok (.iload_n 1, 1) := by decide +kernel
theorem d_Model_code_45 : decode prog_10_method_16_code 45 = .ok (.bipush 8, 2) := by decide +kernel
theorem d_Model_code_47 : decode prog_10_method_16_code 47 = .ok (.iload_n 3, 1) := by decide +kernel
theorem d_Model_code_48 : decode prog_10_method_16_code 48 = .ok (.imul, 1) := by decide +kernel
theorem d_Model_code_49 : decode prog_10_method_16_code 49 = .ok (.ishr, 1) := by decide +kernel
theorem d_Model_code_50 : decode prog_10_method_16_code 50 = .ok (.sipush 255, 3) := by decide +kernel
theorem d_Model_code_53 : decode prog_10_method_16_code 53 = .ok (.iand, 1) := by decide +kernel
theorem d_Model_code_54 : decode prog_10_method_16_code 54 = .ok (.iastore, 1) := by decide +kernel
theorem d_Model_code_55 : decode prog_10_method_16_code 55 = .ok (.aload_n 0, 1) := by decide +kernel
theorem d_Model_code_56 : decode prog_10_method_16_code 56 = .ok (.dup, 1) := by decide +kernel
theorem d_Model_code_57 : decode prog_10_method_16_code 57 = .ok (.getfield 104, 3) := by decide +kernel
