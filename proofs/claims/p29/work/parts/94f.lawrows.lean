/-! the law: rows of the print -/
theorem dL_law_465 : decode cL_law 465 = .ok (.ireturn, 1) := by decide +kernel
theorem dL_law_466 : decode cL_law 466 = .ok (.iinc 11 1, 3) := by decide +kernel
theorem dL_law_469 : decode cL_law 469 = .ok (.goto (-37), 3) := by decide +kernel
theorem dL_law_472 : decode cL_law 472 = .ok (.aload_n 1, 1) := by decide +kernel
theorem dL_law_473 : decode cL_law 473 = .ok (.iload_n 3, 1) := by decide +kernel
theorem dL_law_474 : decode cL_law 474 = .ok (.invokevirtual 44, 3) := by decide +kernel
theorem dL_law_477 : decode cL_law 477 = .ok (.istore 11, 2) := by decide +kernel
theorem dL_law_479 : decode cL_law 479 = .ok (.iload 11, 2) := by decide +kernel
theorem dL_law_481 : decode cL_law 481 = .ok (.ifCond .lt 20, 3) := by decide +kernel
theorem dL_law_484 : decode cL_law 484 = .ok (.iload 10, 2) := by decide +kernel
theorem dL_law_486 : decode cL_law 486 = .ok (.ifCond .lt 13, 3) := by decide +kernel
theorem dL_law_489 : decode cL_law 489 = .ok (.iload 10, 2) := by decide +kernel
theorem dL_law_491 : decode cL_law 491 = .ok (.aload_n 1, 1) := by decide +kernel
theorem dL_law_492 : decode cL_law 492 = .ok (.iconst 4, 1) := by decide +kernel
theorem dL_law_493 : decode cL_law 493 = .ok (.invokevirtual 47, 3) := by decide +kernel
theorem dL_law_496 : decode cL_law 496 = .ok (.if_icmp .le 5, 3) := by decide +kernel
theorem dL_law_499 : decode cL_law 499 = .ok (.iconst 0, 1) := by decide +kernel
theorem dL_law_500 : decode cL_law 500 = .ok (.ireturn, 1) := by decide +kernel
theorem dL_law_501 : decode cL_law 501 = .ok (.iload 10, 2) := by decide +kernel
theorem dL_law_503 : decode cL_law 503 = .ok (.ifCond .lt 51, 3) := by decide +kernel
theorem dL_law_506 : decode cL_law 506 = .ok (.iconst 0, 1) := by decide +kernel
theorem dL_law_507 : decode cL_law 507 = .ok (.istore 12, 2) := by decide +kernel
theorem dL_law_509 : decode cL_law 509 = .ok (.iload 12, 2) := by decide +kernel
theorem dL_law_511 : decode cL_law 511 = .ok (.iload_n 2, 1) := by decide +kernel
theorem dL_law_512 : decode cL_law 512 = .ok (.if_icmp .ge 42, 3) := by decide +kernel
theorem dL_law_515 : decode cL_law 515 = .ok (.aload_n 1, 1) := by decide +kernel
theorem dL_law_516 : decode cL_law 516 = .ok (.iload_n 3, 1) := by decide +kernel
theorem dL_law_517 : decode cL_law 517 = .ok (.iload 12, 2) := by decide +kernel
theorem dL_law_519 : decode cL_law 519 = .ok (.invokevirtual 54, 3) := by decide +kernel
theorem dL_law_522 : decode cL_law 522 = .ok (.istore 13, 2) := by decide +kernel
theorem dL_law_524 : decode cL_law 524 = .ok (.iload 13, 2) := by decide +kernel
theorem dL_law_526 : decode cL_law 526 = .ok (.ifCond .lt 20, 3) := by decide +kernel
theorem dL_law_529 : decode cL_law 529 = .ok (.iload 11, 2) := by decide +kernel
theorem dL_law_531 : decode cL_law 531 = .ok (.ifCond .lt 17, 3) := by decide +kernel
theorem dL_law_534 : decode cL_law 534 = .ok (.iload 13, 2) := by decide +kernel
theorem dL_law_536 : decode cL_law 536 = .ok (.aload_n 1, 1) := by decide +kernel
theorem dL_law_537 : decode cL_law 537 = .ok (.iload 12, 2) := by decide +kernel
theorem dL_law_539 : decode cL_law 539 = .ok (.iconst 2, 1) := by decide +kernel
theorem dL_law_540 : decode cL_law 540 = .ok (.invokevirtual 37, 3) := by decide +kernel
theorem dL_law_543 : decode cL_law 543 = .ok (.if_icmp .le 5, 3) := by decide +kernel
theorem dL_law_546 : decode cL_law 546 = .ok (.iconst 0, 1) := by decide +kernel
theorem dL_law_547 : decode cL_law 547 = .ok (.ireturn, 1) := by decide +kernel
theorem dL_law_548 : decode cL_law 548 = .ok (.iinc 12 1, 3) := by decide +kernel
theorem dL_law_551 : decode cL_law 551 = .ok (.goto (-42), 3) := by decide +kernel
theorem dL_law_554 : decode cL_law 554 = .ok (.aload_n 1, 1) := by decide +kernel
theorem dL_law_555 : decode cL_law 555 = .ok (.bipush 6, 2) := by decide +kernel
theorem dL_law_557 : decode cL_law 557 = .ok (.iconst 2, 1) := by decide +kernel
theorem dL_law_558 : decode cL_law 558 = .ok (.invokevirtual 19, 3) := by decide +kernel
theorem dL_law_561 : decode cL_law 561 = .ok (.bipush 6, 2) := by decide +kernel
theorem dL_law_563 : decode cL_law 563 = .ok (.if_icmp .ne 51, 3) := by decide +kernel
theorem dL_law_566 : decode cL_law 566 = .ok (.aload_n 1, 1) := by decide +kernel
theorem dL_law_567 : decode cL_law 567 = .ok (.iload_n 3, 1) := by decide +kernel
theorem dL_law_568 : decode cL_law 568 = .ok (.iconst 0, 1) := by decide +kernel
theorem dL_law_569 : decode cL_law 569 = .ok (.invokevirtual 50, 3) := by decide +kernel
theorem dL_law_572 : decode cL_law 572 = .ok (.ldc 57, 2) := by decide +kernel
theorem dL_law_574 : decode cL_law 574 = .ok (.if_icmp .ne 40, 3) := by decide +kernel
theorem dL_law_577 : decode cL_law 577 = .ok (.aload_n 1, 1) := by decide +kernel
theorem dL_law_578 : decode cL_law 578 = .ok (.iconst 0, 1) := by decide +kernel
theorem dL_law_579 : decode cL_law 579 = .ok (.iconst 0, 1) := by decide +kernel
theorem dL_law_580 : decode cL_law 580 = .ok (.invokevirtual 50, 3) := by decide +kernel
theorem dL_law_583 : decode cL_law 583 = .ok (.ldc 58, 2) := by decide +kernel
theorem dL_law_585 : decode cL_law 585 = .ok (.if_icmp .ne 29, 3) := by decide +kernel
theorem dL_law_588 : decode cL_law 588 = .ok (.aload_n 1, 1) := by decide +kernel
theorem dL_law_589 : decode cL_law 589 = .ok (.iconst 3, 1) := by decide +kernel
theorem dL_law_590 : decode cL_law 590 = .ok (.bipush 9, 2) := by decide +kernel
theorem dL_law_592 : decode cL_law 592 = .ok (.invokevirtual 19, 3) := by decide +kernel
theorem dL_law_595 : decode cL_law 595 = .ok (.iconst 3, 1) := by decide +kernel
theorem dL_law_596 : decode cL_law 596 = .ok (.if_icmp .ne 18, 3) := by decide +kernel
theorem dL_law_599 : decode cL_law 599 = .ok (.aload_n 1, 1) := by decide +kernel
theorem dL_law_600 : decode cL_law 600 = .ok (.iconst 1, 1) := by decide +kernel
theorem dL_law_601 : decode cL_law 601 = .ok (.iconst 1, 1) := by decide +kernel
theorem dL_law_602 : decode cL_law 602 = .ok (.invokevirtual 50, 3) := by decide +kernel
theorem dL_law_605 : decode cL_law 605 = .ok (.ldc 53, 2) := by decide +kernel
theorem dL_law_607 : decode cL_law 607 = .ok (.if_icmp .lt 7, 3) := by decide +kernel
theorem dL_law_610 : decode cL_law 610 = .ok (.iconst 1, 1) := by decide +kernel
theorem dL_law_611 : decode cL_law 611 = .ok (.goto 4, 3) := by decide +kernel
theorem dL_law_614 : decode cL_law 614 = .ok (.iconst 0, 1) := by decide +kernel
theorem dL_law_615 : decode cL_law 615 = .ok (.ireturn, 1) := by decide +kernel
