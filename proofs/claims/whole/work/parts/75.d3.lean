/-! the law, read -/
theorem dL_362 : decode code 362 = .ok (.aload_n 0, 1) := by decide +kernel
theorem dL_363 : decode code 363 = .ok (.iload_n 3, 1) := by decide +kernel
theorem dL_364 : decode code 364 = .ok (.iconst 1, 1) := by decide +kernel
theorem dL_365 : decode code 365 = .ok (.iadd, 1) := by decide +kernel
theorem dL_366 : decode code 366 = .ok (.iaload, 1) := by decide +kernel
theorem dL_367 : decode code 367 = .ok (.i2l, 1) := by decide +kernel
theorem dL_368 : decode code 368 = .ok (.bipush 32, 2) := by decide +kernel
theorem dL_370 : decode code 370 = .ok (.lshl, 1) := by decide +kernel
theorem dL_371 : decode code 371 = .ok (.aload_n 0, 1) := by decide +kernel
theorem dL_372 : decode code 372 = .ok (.iload_n 3, 1) := by decide +kernel
theorem dL_373 : decode code 373 = .ok (.iconst 2, 1) := by decide +kernel
theorem dL_374 : decode code 374 = .ok (.iadd, 1) := by decide +kernel
theorem dL_375 : decode code 375 = .ok (.iaload, 1) := by decide +kernel
theorem dL_376 : decode code 376 = .ok (.i2l, 1) := by decide +kernel
theorem dL_377 : decode code 377 = .ok (.ldc2_w 32, 3) := by decide +kernel
theorem dL_380 : decode code 380 = .ok (.land, 1) := by decide +kernel
theorem dL_381 : decode code 381 = .ok (.lor, 1) := by decide +kernel
theorem dL_382 : decode code 382 = .ok (.aload_n 0, 1) := by decide +kernel
theorem dL_383 : decode code 383 = .ok (.iload_n 3, 1) := by decide +kernel
theorem dL_384 : decode code 384 = .ok (.iconst 3, 1) := by decide +kernel
theorem dL_385 : decode code 385 = .ok (.iadd, 1) := by decide +kernel
theorem dL_386 : decode code 386 = .ok (.iaload, 1) := by decide +kernel
theorem dL_387 : decode code 387 = .ok (.invokevirtual 38, 3) := by decide +kernel
theorem dL_390 : decode code 390 = .ok (.if_icmp .eq 574, 3) := by decide +kernel
theorem dL_393 : decode code 393 = .ok (.iconst 0, 1) := by decide +kernel
theorem dL_394 : decode code 394 = .ok (.ireturn, 1) := by decide +kernel
theorem dL_395 : decode code 395 = .ok (.aload_n 1, 1) := by decide +kernel
theorem dL_396 : decode code 396 = .ok (.invokevirtual 39, 3) := by decide +kernel
theorem dL_399 : decode code 399 = .ok (.aload_n 2, 1) := by decide +kernel
theorem dL_400 : decode code 400 = .ok (.invokevirtual 43, 3) := by decide +kernel
theorem dL_403 : decode code 403 = .ok (.if_icmp .eq 561, 3) := by decide +kernel
theorem dL_406 : decode code 406 = .ok (.iconst 0, 1) := by decide +kernel
theorem dL_407 : decode code 407 = .ok (.ireturn, 1) := by decide +kernel
theorem dL_408 : decode code 408 = .ok (.aload_n 1, 1) := by decide +kernel
theorem dL_409 : decode code 409 = .ok (.invokevirtual 44, 3) := by decide +kernel
theorem dL_412 : decode code 412 = .ok (.aload_n 2, 1) := by decide +kernel
theorem dL_413 : decode code 413 = .ok (.invokevirtual 47, 3) := by decide +kernel
theorem dL_416 : decode code 416 = .ok (.if_icmp .eq 548, 3) := by decide +kernel
theorem dL_419 : decode code 419 = .ok (.iconst 0, 1) := by decide +kernel
theorem dL_420 : decode code 420 = .ok (.ireturn, 1) := by decide +kernel
theorem dL_421 : decode code 421 = .ok (.aload_n 1, 1) := by decide +kernel
theorem dL_422 : decode code 422 = .ok (.aload_n 0, 1) := by decide +kernel
theorem dL_423 : decode code 423 = .ok (.iload_n 3, 1) := by decide +kernel
theorem dL_424 : decode code 424 = .ok (.iconst 1, 1) := by decide +kernel
theorem dL_425 : decode code 425 = .ok (.iadd, 1) := by decide +kernel
theorem dL_426 : decode code 426 = .ok (.iaload, 1) := by decide +kernel
theorem dL_427 : decode code 427 = .ok (.invokevirtual 48, 3) := by decide +kernel
theorem dL_430 : decode code 430 = .ok (.aload_n 2, 1) := by decide +kernel
theorem dL_431 : decode code 431 = .ok (.aload_n 0, 1) := by decide +kernel
theorem dL_432 : decode code 432 = .ok (.iload_n 3, 1) := by decide +kernel
theorem dL_433 : decode code 433 = .ok (.iconst 1, 1) := by decide +kernel
theorem dL_434 : decode code 434 = .ok (.iadd, 1) := by decide +kernel
theorem dL_435 : decode code 435 = .ok (.iaload, 1) := by decide +kernel
theorem dL_436 : decode code 436 = .ok (.invokevirtual 51, 3) := by decide +kernel
theorem dL_439 : decode code 439 = .ok (.if_icmp .eq 525, 3) := by decide +kernel
theorem dL_442 : decode code 442 = .ok (.iconst 0, 1) := by decide +kernel
theorem dL_443 : decode code 443 = .ok (.ireturn, 1) := by decide +kernel
theorem dL_444 : decode code 444 = .ok (.aload_n 1, 1) := by decide +kernel
theorem dL_445 : decode code 445 = .ok (.invokevirtual 52, 3) := by decide +kernel
theorem dL_448 : decode code 448 = .ok (.aload_n 2, 1) := by decide +kernel
theorem dL_449 : decode code 449 = .ok (.invokevirtual 55, 3) := by decide +kernel
theorem dL_452 : decode code 452 = .ok (.if_icmp .eq 512, 3) := by decide +kernel
theorem dL_455 : decode code 455 = .ok (.iconst 0, 1) := by decide +kernel
theorem dL_456 : decode code 456 = .ok (.ireturn, 1) := by decide +kernel
theorem dL_457 : decode code 457 = .ok (.aload_n 1, 1) := by decide +kernel
