theorem dl_413 : decode code 413 = .ok (.iload 6, 2) := by decide +kernel
theorem dl_415 : decode code 415 = .ok (.i2l, 1) := by decide +kernel
theorem dl_416 : decode code 416 = .ok (.lcmp, 1) := by decide +kernel
theorem dl_417 : decode code 417 = .ok (.ifCond .eq 5, 3) := by decide +kernel
theorem dl_420 : decode code 420 = .ok (.iconst 0, 1) := by decide +kernel
theorem dl_421 : decode code 421 = .ok (.ireturn, 1) := by decide +kernel
theorem dl_422 : decode code 422 = .ok (.goto 2277, 3) := by decide +kernel
theorem dl_425 : decode code 425 = .ok (.aload_n 1, 1) := by decide +kernel
theorem dl_426 : decode code 426 = .ok (.invokevirtual 134, 3) := by decide +kernel
theorem dl_429 : decode code 429 = .ok (.aload_n 2, 1) := by decide +kernel
theorem dl_430 : decode code 430 = .ok (.invokevirtual 137, 3) := by decide +kernel
theorem dl_433 : decode code 433 = .ok (.if_icmp .eq 2266, 3) := by decide +kernel
theorem dl_436 : decode code 436 = .ok (.iconst 0, 1) := by decide +kernel
theorem dl_437 : decode code 437 = .ok (.ireturn, 1) := by decide +kernel
theorem dl_438 : decode code 438 = .ok (.aload_n 1, 1) := by decide +kernel
theorem dl_439 : decode code 439 = .ok (.invokevirtual 138, 3) := by decide +kernel
theorem dl_442 : decode code 442 = .ok (.aload_n 2, 1) := by decide +kernel
theorem dl_443 : decode code 443 = .ok (.invokevirtual 141, 3) := by decide +kernel
theorem dl_446 : decode code 446 = .ok (.if_icmp .eq 2253, 3) := by decide +kernel
theorem dl_449 : decode code 449 = .ok (.iconst 0, 1) := by decide +kernel
theorem dl_450 : decode code 450 = .ok (.ireturn, 1) := by decide +kernel
theorem dl_451 : decode code 451 = .ok (.aload_n 1, 1) := by decide +kernel
theorem dl_452 : decode code 452 = .ok (.aload_n 0, 1) := by decide +kernel
theorem dl_453 : decode code 453 = .ok (.iload 4, 2) := by decide +kernel
theorem dl_455 : decode code 455 = .ok (.iconst 1, 1) := by decide +kernel
theorem dl_456 : decode code 456 = .ok (.iadd, 1) := by decide +kernel
theorem dl_457 : decode code 457 = .ok (.iaload, 1) := by decide +kernel
theorem dl_458 : decode code 458 = .ok (.aload_n 0, 1) := by decide +kernel
theorem dl_459 : decode code 459 = .ok (.iload 4, 2) := by decide +kernel
theorem dl_461 : decode code 461 = .ok (.iconst 2, 1) := by decide +kernel
theorem dl_462 : decode code 462 = .ok (.iadd, 1) := by decide +kernel
theorem dl_463 : decode code 463 = .ok (.iaload, 1) := by decide +kernel
theorem dl_464 : decode code 464 = .ok (.aload_n 3, 1) := by decide +kernel
theorem dl_465 : decode code 465 = .ok (.invokestatic 142, 3) := by decide +kernel
theorem dl_468 : decode code 468 = .ok (.istore 5, 2) := by decide +kernel
theorem dl_470 : decode code 470 = .ok (.aload_n 2, 1) := by decide +kernel
theorem dl_471 : decode code 471 = .ok (.aload_n 0, 1) := by decide +kernel
theorem dl_472 : decode code 472 = .ok (.iload 4, 2) := by decide +kernel
theorem dl_474 : decode code 474 = .ok (.iconst 1, 1) := by decide +kernel
theorem dl_475 : decode code 475 = .ok (.iadd, 1) := by decide +kernel
theorem dl_476 : decode code 476 = .ok (.iaload, 1) := by decide +kernel
theorem dl_477 : decode code 477 = .ok (.aload_n 0, 1) := by decide +kernel
theorem dl_478 : decode code 478 = .ok (.iload 4, 2) := by decide +kernel
theorem dl_480 : decode code 480 = .ok (.iconst 2, 1) := by decide +kernel
theorem dl_481 : decode code 481 = .ok (.iadd, 1) := by decide +kernel
theorem dl_482 : decode code 482 = .ok (.iaload, 1) := by decide +kernel
theorem dl_483 : decode code 483 = .ok (.invokevirtual 145, 3) := by decide +kernel
theorem dl_486 : decode code 486 = .ok (.istore 6, 2) := by decide +kernel
theorem dl_488 : decode code 488 = .ok (.aload_n 2, 1) := by decide +kernel
theorem dl_489 : decode code 489 = .ok (.invokevirtual 131, 3) := by decide +kernel
theorem dl_492 : decode code 492 = .ok (.iload 5, 2) := by decide +kernel
theorem dl_494 : decode code 494 = .ok (.if_icmp .eq 5, 3) := by decide +kernel
theorem dl_497 : decode code 497 = .ok (.iconst 0, 1) := by decide +kernel
theorem dl_498 : decode code 498 = .ok (.ireturn, 1) := by decide +kernel
theorem dl_499 : decode code 499 = .ok (.iload 5, 2) := by decide +kernel
theorem dl_501 : decode code 501 = .ok (.ifCond .ne 15, 3) := by decide +kernel
theorem dl_504 : decode code 504 = .ok (.aload_n 3, 1) := by decide +kernel
theorem dl_505 : decode code 505 = .ok (.iconst 0, 1) := by decide +kernel
theorem dl_506 : decode code 506 = .ok (.laload, 1) := by decide +kernel
theorem dl_507 : decode code 507 = .ok (.iload 6, 2) := by decide +kernel
theorem dl_509 : decode code 509 = .ok (.i2l, 1) := by decide +kernel
theorem dl_510 : decode code 510 = .ok (.lcmp, 1) := by decide +kernel
theorem dl_511 : decode code 511 = .ok (.ifCond .eq 5, 3) := by decide +kernel
theorem dl_514 : decode code 514 = .ok (.iconst 0, 1) := by decide +kernel
theorem dl_515 : decode code 515 = .ok (.ireturn, 1) := by decide +kernel
theorem dl_516 : decode code 516 = .ok (.goto 2183, 3) := by decide +kernel
theorem dl_519 : decode code 519 = .ok (.aload_n 1, 1) := by decide +kernel
theorem dl_520 : decode code 520 = .ok (.aload_n 0, 1) := by decide +kernel
theorem dl_521 : decode code 521 = .ok (.iload 4, 2) := by decide +kernel
theorem dl_523 : decode code 523 = .ok (.iconst 1, 1) := by decide +kernel
theorem dl_524 : decode code 524 = .ok (.iadd, 1) := by decide +kernel
theorem dl_525 : decode code 525 = .ok (.iaload, 1) := by decide +kernel
theorem dl_526 : decode code 526 = .ok (.aload_n 0, 1) := by decide +kernel
theorem dl_527 : decode code 527 = .ok (.iload 4, 2) := by decide +kernel
theorem dl_529 : decode code 529 = .ok (.iconst 2, 1) := by decide +kernel
theorem dl_530 : decode code 530 = .ok (.iadd, 1) := by decide +kernel
theorem dl_531 : decode code 531 = .ok (.iaload, 1) := by decide +kernel
theorem dl_532 : decode code 532 = .ok (.aload_n 3, 1) := by decide +kernel
theorem dl_533 : decode code 533 = .ok (.invokestatic 146, 3) := by decide +kernel
theorem dl_536 : decode code 536 = .ok (.istore 5, 2) := by decide +kernel
theorem dl_538 : decode code 538 = .ok (.aload_n 2, 1) := by decide +kernel
theorem dl_539 : decode code 539 = .ok (.aload_n 0, 1) := by decide +kernel
theorem dl_540 : decode code 540 = .ok (.iload 4, 2) := by decide +kernel
theorem dl_542 : decode code 542 = .ok (.iconst 1, 1) := by decide +kernel
theorem dl_543 : decode code 543 = .ok (.iadd, 1) := by decide +kernel
theorem dl_544 : decode code 544 = .ok (.iaload, 1) := by decide +kernel
theorem dl_545 : decode code 545 = .ok (.aload_n 0, 1) := by decide +kernel
theorem dl_546 : decode code 546 = .ok (.iload 4, 2) := by decide +kernel
theorem dl_548 : decode code 548 = .ok (.iconst 2, 1) := by decide +kernel
theorem dl_549 : decode code 549 = .ok (.iadd, 1) := by decide +kernel
theorem dl_550 : decode code 550 = .ok (.iaload, 1) := by decide +kernel
theorem dl_551 : decode code 551 = .ok (.invokevirtual 148, 3) := by decide +kernel
theorem dl_554 : decode code 554 = .ok (.istore 6, 2) := by decide +kernel
theorem dl_556 : decode code 556 = .ok (.aload_n 2, 1) := by decide +kernel
theorem dl_557 : decode code 557 = .ok (.invokevirtual 131, 3) := by decide +kernel
theorem dl_560 : decode code 560 = .ok (.iload 5, 2) := by decide +kernel
theorem dl_562 : decode code 562 = .ok (.if_icmp .eq 5, 3) := by decide +kernel
theorem dl_565 : decode code 565 = .ok (.iconst 0, 1) := by decide +kernel
theorem dl_566 : decode code 566 = .ok (.ireturn, 1) := by decide +kernel
theorem dl_567 : decode code 567 = .ok (.iload 5, 2) := by decide +kernel
theorem dl_569 : decode code 569 = .ok (.ifCond .ne 15, 3) := by decide +kernel
theorem dl_572 : decode code 572 = .ok (.aload_n 3, 1) := by decide +kernel
theorem dl_573 : decode code 573 = .ok (.iconst 0, 1) := by decide +kernel
theorem dl_574 : decode code 574 = .ok (.laload, 1) := by decide +kernel
theorem dl_575 : decode code 575 = .ok (.iload 6, 2) := by decide +kernel
theorem dl_577 : decode code 577 = .ok (.i2l, 1) := by decide +kernel
theorem dl_578 : decode code 578 = .ok (.lcmp, 1) := by decide +kernel
theorem dl_579 : decode code 579 = .ok (.ifCond .eq 5, 3) := by decide +kernel
theorem dl_582 : decode code 582 = .ok (.iconst 0, 1) := by decide +kernel
theorem dl_583 : decode code 583 = .ok (.ireturn, 1) := by decide +kernel
