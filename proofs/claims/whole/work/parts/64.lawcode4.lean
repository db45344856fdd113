theorem ld_law_346 : decode code 346 = .ok (.lcmp, 1) := by decide +kernel
theorem ld_law_347 : decode code 347 = .ok (.ifCond .eq (5), 3) := by decide +kernel
theorem ld_law_350 : decode code 350 = .ok (.iconst 0, 1) := by decide +kernel
theorem ld_law_351 : decode code 351 = .ok (.ireturn, 1) := by decide +kernel
theorem ld_law_352 : decode code 352 = .ok (.goto (398), 3) := by decide +kernel
theorem ld_law_355 : decode code 355 = .ok (.aload_n 1, 1) := by decide +kernel
theorem ld_law_356 : decode code 356 = .ok (.aload_n 0, 1) := by decide +kernel
theorem ld_law_357 : decode code 357 = .ok (.iload 4, 2) := by decide +kernel
theorem ld_law_359 : decode code 359 = .ok (.iconst 1, 1) := by decide +kernel
theorem ld_law_360 : decode code 360 = .ok (.iadd, 1) := by decide +kernel
theorem ld_law_361 : decode code 361 = .ok (.iaload, 1) := by decide +kernel
theorem ld_law_362 : decode code 362 = .ok (.invokevirtual 73, 3) := by decide +kernel
theorem ld_law_365 : decode code 365 = .ok (.aload_n 2, 1) := by decide +kernel
theorem ld_law_366 : decode code 366 = .ok (.aload_n 0, 1) := by decide +kernel
theorem ld_law_367 : decode code 367 = .ok (.iload 4, 2) := by decide +kernel
theorem ld_law_369 : decode code 369 = .ok (.iconst 1, 1) := by decide +kernel
theorem ld_law_370 : decode code 370 = .ok (.iadd, 1) := by decide +kernel
theorem ld_law_371 : decode code 371 = .ok (.iaload, 1) := by decide +kernel
theorem ld_law_372 : decode code 372 = .ok (.invokevirtual 76, 3) := by decide +kernel
theorem ld_law_375 : decode code 375 = .ok (.if_icmp .eq (375), 3) := by decide +kernel
theorem ld_law_378 : decode code 378 = .ok (.iconst 0, 1) := by decide +kernel
theorem ld_law_379 : decode code 379 = .ok (.ireturn, 1) := by decide +kernel
theorem ld_law_380 : decode code 380 = .ok (.aload_n 1, 1) := by decide +kernel
theorem ld_law_381 : decode code 381 = .ok (.aload_n 0, 1) := by decide +kernel
theorem ld_law_382 : decode code 382 = .ok (.iload 4, 2) := by decide +kernel
theorem ld_law_384 : decode code 384 = .ok (.iconst 1, 1) := by decide +kernel
theorem ld_law_385 : decode code 385 = .ok (.iadd, 1) := by decide +kernel
theorem ld_law_386 : decode code 386 = .ok (.iaload, 1) := by decide +kernel
theorem ld_law_387 : decode code 387 = .ok (.aload_n 0, 1) := by decide +kernel
theorem ld_law_388 : decode code 388 = .ok (.iload 4, 2) := by decide +kernel
theorem ld_law_390 : decode code 390 = .ok (.iconst 2, 1) := by decide +kernel
theorem ld_law_391 : decode code 391 = .ok (.iadd, 1) := by decide +kernel
theorem ld_law_392 : decode code 392 = .ok (.iaload, 1) := by decide +kernel
theorem ld_law_393 : decode code 393 = .ok (.invokestatic 77, 3) := by decide +kernel
theorem ld_law_396 : decode code 396 = .ok (.istore 5, 2) := by decide +kernel
theorem ld_law_398 : decode code 398 = .ok (.aload_n 2, 1) := by decide +kernel
theorem ld_law_399 : decode code 399 = .ok (.aload_n 0, 1) := by decide +kernel
theorem ld_law_400 : decode code 400 = .ok (.iload 4, 2) := by decide +kernel
theorem ld_law_402 : decode code 402 = .ok (.iconst 1, 1) := by decide +kernel
theorem ld_law_403 : decode code 403 = .ok (.iadd, 1) := by decide +kernel
theorem ld_law_404 : decode code 404 = .ok (.iaload, 1) := by decide +kernel
theorem ld_law_405 : decode code 405 = .ok (.aload_n 0, 1) := by decide +kernel
theorem ld_law_406 : decode code 406 = .ok (.iload 4, 2) := by decide +kernel
theorem ld_law_408 : decode code 408 = .ok (.iconst 2, 1) := by decide +kernel
theorem ld_law_409 : decode code 409 = .ok (.iadd, 1) := by decide +kernel
theorem ld_law_410 : decode code 410 = .ok (.iaload, 1) := by decide +kernel
theorem ld_law_411 : decode code 411 = .ok (.invokevirtual 79, 3) := by decide +kernel
theorem ld_law_414 : decode code 414 = .ok (.aload_n 2, 1) := by decide +kernel
theorem ld_law_415 : decode code 415 = .ok (.invokevirtual 48, 3) := by decide +kernel
theorem ld_law_418 : decode code 418 = .ok (.iload 5, 2) := by decide +kernel
theorem ld_law_420 : decode code 420 = .ok (.if_icmp .eq (5), 3) := by decide +kernel
theorem ld_law_423 : decode code 423 = .ok (.iconst 0, 1) := by decide +kernel
theorem ld_law_424 : decode code 424 = .ok (.ireturn, 1) := by decide +kernel
theorem ld_law_425 : decode code 425 = .ok (.goto (325), 3) := by decide +kernel
theorem ld_law_428 : decode code 428 = .ok (.aload_n 1, 1) := by decide +kernel
theorem ld_law_429 : decode code 429 = .ok (.aload_n 0, 1) := by decide +kernel
theorem ld_law_430 : decode code 430 = .ok (.iload 4, 2) := by decide +kernel
theorem ld_law_432 : decode code 432 = .ok (.iconst 1, 1) := by decide +kernel
theorem ld_law_433 : decode code 433 = .ok (.iadd, 1) := by decide +kernel
theorem ld_law_434 : decode code 434 = .ok (.iaload, 1) := by decide +kernel
