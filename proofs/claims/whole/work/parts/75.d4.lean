/-! the law, read -/
theorem dL_458 : decode code 458 = .ok (.invokevirtual 56, 3) := by decide +kernel
theorem dL_461 : decode code 461 = .ok (.aload_n 2, 1) := by decide +kernel
theorem dL_462 : decode code 462 = .ok (.invokevirtual 59, 3) := by decide +kernel
theorem dL_465 : decode code 465 = .ok (.if_icmp .eq 499, 3) := by decide +kernel
theorem dL_468 : decode code 468 = .ok (.iconst 0, 1) := by decide +kernel
theorem dL_469 : decode code 469 = .ok (.ireturn, 1) := by decide +kernel
theorem dL_470 : decode code 470 = .ok (.aload_n 1, 1) := by decide +kernel
theorem dL_471 : decode code 471 = .ok (.aload_n 0, 1) := by decide +kernel
theorem dL_472 : decode code 472 = .ok (.iload_n 3, 1) := by decide +kernel
theorem dL_473 : decode code 473 = .ok (.iconst 1, 1) := by decide +kernel
theorem dL_474 : decode code 474 = .ok (.iadd, 1) := by decide +kernel
theorem dL_475 : decode code 475 = .ok (.iaload, 1) := by decide +kernel
theorem dL_476 : decode code 476 = .ok (.aload_n 0, 1) := by decide +kernel
theorem dL_477 : decode code 477 = .ok (.iload_n 3, 1) := by decide +kernel
theorem dL_478 : decode code 478 = .ok (.iconst 2, 1) := by decide +kernel
theorem dL_479 : decode code 479 = .ok (.iadd, 1) := by decide +kernel
theorem dL_480 : decode code 480 = .ok (.iaload, 1) := by decide +kernel
theorem dL_481 : decode code 481 = .ok (.invokevirtual 60, 3) := by decide +kernel
theorem dL_484 : decode code 484 = .ok (.aload_n 2, 1) := by decide +kernel
theorem dL_485 : decode code 485 = .ok (.aload_n 0, 1) := by decide +kernel
theorem dL_486 : decode code 486 = .ok (.iload_n 3, 1) := by decide +kernel
theorem dL_487 : decode code 487 = .ok (.iconst 1, 1) := by decide +kernel
theorem dL_488 : decode code 488 = .ok (.iadd, 1) := by decide +kernel
theorem dL_489 : decode code 489 = .ok (.iaload, 1) := by decide +kernel
theorem dL_490 : decode code 490 = .ok (.aload_n 0, 1) := by decide +kernel
theorem dL_491 : decode code 491 = .ok (.iload_n 3, 1) := by decide +kernel
theorem dL_492 : decode code 492 = .ok (.iconst 2, 1) := by decide +kernel
theorem dL_493 : decode code 493 = .ok (.iadd, 1) := by decide +kernel
theorem dL_494 : decode code 494 = .ok (.iaload, 1) := by decide +kernel
theorem dL_495 : decode code 495 = .ok (.invokevirtual 64, 3) := by decide +kernel
theorem dL_498 : decode code 498 = .ok (.if_icmp .eq 466, 3) := by decide +kernel
theorem dL_501 : decode code 501 = .ok (.iconst 0, 1) := by decide +kernel
theorem dL_502 : decode code 502 = .ok (.ireturn, 1) := by decide +kernel
theorem dL_503 : decode code 503 = .ok (.aload_n 1, 1) := by decide +kernel
theorem dL_504 : decode code 504 = .ok (.invokevirtual 65, 3) := by decide +kernel
theorem dL_507 : decode code 507 = .ok (.aload_n 2, 1) := by decide +kernel
theorem dL_508 : decode code 508 = .ok (.invokevirtual 68, 3) := by decide +kernel
theorem dL_511 : decode code 511 = .ok (.if_icmp .eq 453, 3) := by decide +kernel
theorem dL_514 : decode code 514 = .ok (.iconst 0, 1) := by decide +kernel
theorem dL_515 : decode code 515 = .ok (.ireturn, 1) := by decide +kernel
theorem dL_516 : decode code 516 = .ok (.aload_n 1, 1) := by decide +kernel
theorem dL_517 : decode code 517 = .ok (.aload_n 0, 1) := by decide +kernel
theorem dL_518 : decode code 518 = .ok (.iload_n 3, 1) := by decide +kernel
theorem dL_519 : decode code 519 = .ok (.iconst 1, 1) := by decide +kernel
theorem dL_520 : decode code 520 = .ok (.iadd, 1) := by decide +kernel
theorem dL_521 : decode code 521 = .ok (.iaload, 1) := by decide +kernel
theorem dL_522 : decode code 522 = .ok (.invokevirtual 69, 3) := by decide +kernel
theorem dL_525 : decode code 525 = .ok (.aload_n 2, 1) := by decide +kernel
theorem dL_526 : decode code 526 = .ok (.aload_n 0, 1) := by decide +kernel
theorem dL_527 : decode code 527 = .ok (.iload_n 3, 1) := by decide +kernel
theorem dL_528 : decode code 528 = .ok (.iconst 1, 1) := by decide +kernel
theorem dL_529 : decode code 529 = .ok (.iadd, 1) := by decide +kernel
theorem dL_530 : decode code 530 = .ok (.iaload, 1) := by decide +kernel
theorem dL_531 : decode code 531 = .ok (.invokevirtual 72, 3) := by decide +kernel
theorem dL_534 : decode code 534 = .ok (.if_icmp .eq 430, 3) := by decide +kernel
theorem dL_537 : decode code 537 = .ok (.iconst 0, 1) := by decide +kernel
theorem dL_538 : decode code 538 = .ok (.ireturn, 1) := by decide +kernel
theorem dL_539 : decode code 539 = .ok (.aload_n 1, 1) := by decide +kernel
theorem dL_540 : decode code 540 = .ok (.aload_n 0, 1) := by decide +kernel
theorem dL_541 : decode code 541 = .ok (.iload_n 3, 1) := by decide +kernel
theorem dL_542 : decode code 542 = .ok (.iconst 1, 1) := by decide +kernel
theorem dL_543 : decode code 543 = .ok (.iadd, 1) := by decide +kernel
theorem dL_544 : decode code 544 = .ok (.iaload, 1) := by decide +kernel
theorem dL_545 : decode code 545 = .ok (.aload_n 0, 1) := by decide +kernel
theorem dL_546 : decode code 546 = .ok (.iload_n 3, 1) := by decide +kernel
