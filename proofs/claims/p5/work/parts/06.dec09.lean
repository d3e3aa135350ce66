theorem d_Model_world_248 : decode prog_10_method_45_code 248 = .ok (.getfield 144, 3) := by decide +kernel
theorem d_Model_world_251 : decode prog_10_method_45_code 251 = .ok (.aload_n 0, 1) := by decide +kernel
theorem d_Model_world_252 : decode prog_10_method_45_code 252 = .ok (.getfield 35, 3) := by decide +kernel
theorem d_Model_world_255 : decode prog_10_method_45_code 255 = .ok (.iload_n 3, 1) := by decide +kernel
theorem d_Model_world_256 : decode prog_10_method_45_code 256 = .ok (.iaload, 1) := by decide +kernel
theorem d_Model_world_257 : decode prog_10_method_45_code 257 = .ok (.iastore, 1) := by decide +kernel
theorem d_Model_world_258 : decode prog_10_method_45_code 258 = .ok (.aload_n 0, 1) := by decide +kernel
theorem d_Model_world_259 : decode prog_10_method_45_code 259 = .ok (.dup, 1) := by decide +kernel
theorem d_Model_world_260 : decode prog_10_method_45_code 260 = .ok (.getfield 144, 3) := by decide +kernel
theorem d_Model_world_263 : decode prog_10_method_45_code 263 = .ok (.iconst 1, 1) := by decide +kernel
theorem d_Model_world_264 : decode prog_10_method_45_code 264 = .ok (.iadd, 1) := by decide +kernel
theorem d_Model_world_265 : decode prog_10_method_45_code 265 = .ok (.putfield 144, 3) := by decide +kernel
theorem d_Model_world_268 : decode prog_10_method_45_code 268 = .ok (.aload_n 0, 1) := by decide +kernel
theorem d_Model_world_269 : decode prog_10_method_45_code 269 = .ok (.dup, 1) := by decide +kernel
theorem d_Model_world_270 : decode prog_10_method_45_code 270 = .ok (.getfield 130, 3) := by decide +kernel
theorem d_Model_world_273 : decode prog_10_method_45_code 273 = .ok (.iconst 1, 1) := by decide +kernel
theorem d_Model_world_274 : decode prog_10_method_45_code 274 = .ok (.isub, 1) := by decide +kernel
theorem d_Model_world_275 : decode prog_10_method_45_code 275 = .ok (.putfield 130, 3) := by decide +kernel
theorem d_Model_world_278 : decode prog_10_method_45_code 278 = .ok (.iconst 1, 1) := by decide +kernel
theorem d_Model_world_279 : decode prog_10_method_45_code 279 = .ok (.ireturn, 1) := by decide +kernel
theorem d_Model_world_280 : decode prog_10_method_45_code 280 = .ok (.aload_n 0, 1) := by decide +kernel
theorem d_Model_world_281 : decode prog_10_method_45_code 281 = .ok (.invokevirtual 226, 3) := by decide +kernel
theorem d_Model_world_284 : decode prog_10_method_45_code 284 = .ok (.ireturn, 1) := by decide +kernel
theorem d_Model_world_285 : decode prog_10_method_45_code 285 = .ok (.aload_n 0, 1) := by decide +kernel
theorem d_Model_world_286 : decode prog_10_method_45_code 286 = .ok (.getfield 153, 3) := by decide +kernel
theorem d_Model_world_289 : decode prog_10_method_45_code 289 = .ok (.ifCond .le 12, 3) := by decide +kernel
theorem d_Model_world_292 : decode prog_10_method_45_code 292 = .ok (.aload_n 0, 1) := by decide +kernel
theorem d_Model_world_293 : decode prog_10_method_45_code 293 = .ok (.aload_n 0, 1) := by decide +kernel
theorem d_Model_world_294 : decode prog_10_method_45_code 294 = .ok (.getfield 153, 3) := by decide +kernel
theorem d_Model_world_297 : decode prog_10_method_45_code 297 = .ok (.iconst 0, 1) := by decide +kernel
theorem d_Model_world_298 : decode prog_10_method_45_code 298 = .ok (.invokevirtual 229, 3) := by decide +kernel
theorem d_Model_world_301 : decode prog_10_method_45_code 301 = .ok (.aload_n 0, 1) := by decide +kernel
theorem d_Model_world_302 : decode prog_10_method_45_code 302 = .ok (.aload_n 0, 1) := by decide +kernel
theorem d_Model_world_303 : decode prog_10_method_45_code 303 = .ok (.getfield 153, 3) := by decide +kernel
theorem d_Model_world_306 : decode prog_10_method_45_code 306 = .ok (.ifCond .le 12, 3) := by decide +kernel
theorem d_Model_world_309 : decode prog_10_method_45_code 309 = .ok (.aload_n 0, 1) := by decide +kernel
theorem d_Model_world_310 : decode prog_10_method_45_code 310 = .ok (.getfield 153, 3) := by decide +kernel
theorem d_Model_world_313 : decode prog_10_method_45_code 313 = .ok (.iconst 1, 1) := by decide +kernel
theorem d_Model_world_314 : decode prog_10_method_45_code 314 = .ok (.isub, 1) := by decide +kernel
theorem d_Model_world_315 : decode prog_10_method_45_code 315 = .ok (.goto 4, 3) := by decide +kernel
theorem d_Model_world_318 : decode prog_10_method_45_code 318 = .ok (.iconst (-1), 1) := by decide +kernel
theorem d_Model_world_319 : decode prog_10_method_45_code 319 = .ok (.putfield 153, 3) := by decide +kernel
theorem d_Model_world_322 : decode prog_10_method_45_code 322 = .ok (.aload_n 0, 1) := by decide +kernel
theorem d_Model_world_323 : decode prog_10_method_45_code 323 = .ok (.aload_n 0, 1) := by decide +kernel
theorem d_Model_world_324 : decode prog_10_method_45_code 324 = .ok (.getfield 153, 3) := by decide +kernel
theorem d_Model_world_327 : decode prog_10_method_45_code 327 = .ok (.iconst (-1), 1) := by decide +kernel
theorem d_Model_world_328 : decode prog_10_method_45_code 328 = .ok (.if_icmp .eq 7, 3) := by decide +kernel
theorem d_Model_world_331 : decode prog_10_method_45_code 331 = .ok (.iconst 1, 1) := by decide +kernel
theorem d_Model_world_332 : decode prog_10_method_45_code 332 = .ok (.goto 4, 3) := by decide +kernel
theorem d_Model_world_335 : decode prog_10_method_45_code 335 = .ok (.iconst 0, 1) := by decide +kernel
theorem d_Model_world_336 : decode prog_10_method_45_code 336 = .ok (.invokevirtual 194, 3) := by decide +kernel
theorem d_Model_world_339 : decode prog_10_method_45_code 339 = .ok (.pop, 1) := by decide +kernel
theorem d_Model_world_340 : decode prog_10_method_45_code 340 = .ok (.aload_n 0, 1) := by decide +kernel
theorem d_Model_world_341 : decode prog_10_method_45_code 341 = .ok (.aload_n 0, 1) := by decide +kernel
theorem d_Model_world_342 : decode prog_10_method_45_code 342 = .ok (.getfield 153, 3) := by decide +kernel
theorem d_Model_world_345 : decode prog_10_method_45_code 345 = .ok (.iconst (-1), 1) := by decide +kernel
theorem d_Model_world_346 : decode prog_10_method_45_code 346 = .ok (.if_icmp .ne 7, 3) := by decide +kernel
theorem d_Model_world_349 : decode prog_10_method_45_code 349 = .ok (.iconst 0, 1) := by decide +kernel
theorem d_Model_world_350 : decode prog_10_method_45_code 350 = .ok (.goto 7, 3) := by decide +kernel
theorem d_Model_world_353 : decode prog_10_method_45_code 353 = .ok (.aload_n 0, 1) := by decide +kernel
theorem d_Model_world_354 : decode prog_10_method_45_code 354 = .ok (.getfield 153, 3) := by decide +kernel
theorem d_Model_world_357 : decode prog_10_method_45_code 357 = .ok (.putfield 153, 3) := by decide +kernel
theorem d_Model_world_360 : decode prog_10_method_45_code 360 = .ok (.iconst 1, 1) := by decide +kernel
theorem d_Model_world_361 : decode prog_10_method_45_code 361 = .ok (.ireturn, 1) := by decide +kernel
theorem d_Model_world_362 : decode prog_10_method_45_code 362 = .ok (.aload_n 0, 1) := by decide +kernel
theorem d_Model_world_363 : decode prog_10_method_45_code 363 = .ok (.iconst 0, 1) := by decide +kernel
theorem d_Model_world_364 : decode prog_10_method_45_code 364 = .ok (.iconst 4, 1) := by decide +kernel
theorem d_Model_world_365 : decode prog_10_method_45_code 365 = .ok (.aload_n 0, 1) := by decide +kernel
theorem d_Model_world_366 : decode prog_10_method_45_code 366 = .ok (.iload_n 2, 1) := by decide +kernel
theorem d_Model_world_367 : decode prog_10_method_45_code 367 = .ok (.invokevirtual 124, 3) := by decide +kernel
theorem d_Model_world_370 : decode prog_10_method_45_code 370 = .ok (.iadd, 1) := by decide +kernel
theorem d_Model_world_371 : decode prog_10_method_45_code 371 = .ok (.invokevirtual 229, 3) := by decide +kernel
theorem d_Model_world_374 : decode prog_10_method_45_code 374 = .ok (.aload_n 0, 1) := by decide +kernel
theorem d_Model_world_375 : decode prog_10_method_45_code 375 = .ok (.getfield 16, 3) := by decide +kernel
theorem d_Model_world_378 : decode prog_10_method_45_code 378 = .ok (.aload_n 0, 1) := by decide +kernel
theorem d_Model_world_379 : decode prog_10_method_45_code 379 = .ok (.iload_n 2, 1) := by decide +kernel
theorem d_Model_world_380 : decode prog_10_method_45_code 380 = .ok (.invokevirtual 124, 3) := by decide +kernel
theorem d_Model_world_383 : decode prog_10_method_45_code 383 = .ok (.iconst 1, 1) := by decide +kernel
theorem d_Model_world_384 : decode prog_10_method_45_code 384 = .ok (.bastore, 1) := by decide +kernel
theorem d_Model_world_385 : decode prog_10_method_45_code 385 = .ok (.iconst 1, 1) := by decide +kernel
theorem d_Model_world_386 : decode prog_10_method_45_code 386 = .ok (.ireturn, 1) := by decide +kernel
theorem d_Model_world_387 : decode prog_10_method_45_code 387 = .ok (.aload_n 0, 1) := by decide +kernel
theorem d_Model_world_388 : decode prog_10_method_45_code 388 = .ok (.getfield 16, 3) := by decide +kernel
theorem d_Model_world_391 : decode prog_10_method_45_code 391 = .ok (.aload_n 0, 1) := by decide +kernel
theorem d_Model_world_392 : decode prog_10_method_45_code 392 = .ok (.iload_n 2, 1) := by decide +kernel
theorem d_Model_world_393 : decode prog_10_method_45_code 393 = .ok (.invokevirtual 124, 3) := by decide +kernel
theorem d_Model_world_396 : decode prog_10_method_45_code 396 = .ok (.baload, 1) := by decide +kernel
theorem d_Model_world_397 : decode prog_10_method_45_code 397 = .ok (.ifCond .eq 15, 3) := by decide +kernel
theorem d_Model_world_400 : decode prog_10_method_45_code 400 = .ok (.aload_n 0, 1) := by decide +kernel
theorem d_Model_world_401 : decode prog_10_method_45_code 401 = .ok (.iconst 4, 1) := by decide +kernel
theorem d_Model_world_402 : decode prog_10_method_45_code 402 = .ok (.aload_n 0, 1) := by decide +kernel
theorem d_Model_world_403 : decode prog_10_method_45_code 403 = .ok (.iload_n 2, 1) := by decide +kernel
theorem d_Model_world_404 : decode prog_10_method_45_code 404 = .ok (.invokevirtual 124, 3) := by decide +kernel
theorem d_Model_world_407 : decode prog_10_method_45_code 407 = .ok (.iadd, 1) := by decide +kernel
theorem d_Model_world_408 : decode prog_10_method_45_code 408 = .ok (.iconst 0, 1) := by decide +kernel
theorem d_Model_world_409 : decode prog_10_method_45_code 409 = .ok (.invokevirtual 229, 3) := by decide +kernel
theorem d_Model_world_412 : decode prog_10_method_45_code 412 = .ok (.aload_n 0, 1) := by decide +kernel
theorem d_Model_world_413 : decode prog_10_method_45_code 413 = .ok (.getfield 16, 3) := by decide +kernel
theorem d_Model_world_416 : decode prog_10_method_45_code 416 = .ok (.aload_n 0, 1) := by decide +kernel
theorem d_Model_world_417 : decode prog_10_method_45_code 417 = .ok (.iload_n 2, 1) := by decide +kernel
theorem d_Model_world_418 : decode prog_10_method_45_code 418 = .ok (.invokevirtual 124, 3) := by decide +kernel
theorem d_Model_world_421 : decode prog_10_method_45_code 421 = .ok (.baload, 1) := by decide +kernel
theorem d_Model_world_422 : decode prog_10_method_45_code 422 = .ok (.ifCond .eq 8, 3) := by decide +kernel
theorem d_Model_world_425 : decode prog_10_method_45_code 425 = .ok (.aload_n 0, 1) := by decide +kernel
theorem d_Model_world_426 : decode prog_10_method_45_code 426 = .ok (.iconst 0, 1) := by decide +kernel
theorem d_Model_world_427 : decode prog_10_method_45_code 427 = .ok (.putfield 153, 3) := by decide +kernel
theorem d_Model_world_430 : decode prog_10_method_45_code 430 = .ok (.aload_n 0, 1) := by decide +kernel
theorem d_Model_world_431 : decode prog_10_method_45_code 431 = .ok (.aload_n 0, 1) := by decide +kernel
theorem d_Model_world_432 : decode prog_10_method_45_code 432 = .ok (.getfield 16, 3) := by decide +kernel
theorem d_Model_world_435 : decode prog_10_method_45_code 435 = .ok (.aload_n 0, 1) := by decide +kernel
theorem d_Model_world_436 : decode prog_10_method_45_code 436 = .ok (.iload_n 2, 1) := by decide +kernel
theorem d_Model_world_437 : decode prog_10_method_45_code 437 = .ok (.invokevirtual 124, 3) := by decide +kernel
theorem d_Model_world_440 : decode prog_10_method_45_code 440 = .ok (.baload, 1) := by decide +kernel
theorem d_Model_world_441 : decode prog_10_method_45_code 441 = .ok (.invokevirtual 194, 3) := by decide +kernel
theorem d_Model_world_444 : decode prog_10_method_45_code 444 = .ok (.ireturn, 1) := by decide +kernel
theorem d_Arrays_fill_0 : decode prog_19_method_103_code 0 = .ok (.iconst 0, 1) := by decide +kernel
theorem d_Arrays_fill_1 : decode prog_19_method_103_code 1 = .ok (.istore_n 2, 1) := by decide +kernel
theorem d_Arrays_fill_2 : decode prog_19_method_103_code 2 = .ok (.aload_n 0, 1) := by decide +kernel
theorem d_Arrays_fill_3 : decode prog_19_method_103_code 3 = .ok (.arraylength, 1) := by decide +kernel
theorem d_Arrays_fill_4 : decode prog_19_method_103_code 4 = .ok (.istore_n 3, 1) := by decide +kernel
theorem d_Arrays_fill_5 : decode prog_19_method_103_code 5 = .ok (.iload_n 2, 1) := by decide +kernel
theorem d_Arrays_fill_6 : decode prog_19_method_103_code 6 = .ok (.iload_n 3, 1) := by decide +kernel
theorem d_Arrays_fill_7 : decode prog_19_method_103_code 7 = .ok (.if_icmp .ge 13, 3) := by decide +kernel
theorem d_Arrays_fill_10 : decode prog_19_method_103_code 10 = .ok (.aload_n 0, 1) := by decide +kernel
theorem d_Arrays_fill_11 : decode prog_19_method_103_code 11 = .ok (.iload_n 2, 1) := by decide +kernel
theorem d_Arrays_fill_12 : decode prog_19_method_103_code 12 = .ok (.iload_n 1, 1) := by decide +kernel
theorem d_Arrays_fill_13 : decode prog_19_method_103_code 13 = .ok (.iastore, 1) := by decide +kernel
theorem d_Arrays_fill_14 : decode prog_19_method_103_code 14 = .ok (.iinc 2 1, 3) := by decide +kernel
theorem d_Arrays_fill_17 : decode prog_19_method_103_code 17 = .ok (.goto (-12), 3) := by decide +kernel
theorem d_Arrays_fill_20 : decode prog_19_method_103_code 20 = .ok (.return_, 1) := by decide +kernel
