theorem dL_law_556 : decode code 556 = .ok (.aload_n 0, 1) := by decide +kernel
theorem dL_law_557 : decode code 557 = .ok (.iload 4, 2) := by decide +kernel
theorem dL_law_559 : decode code 559 = .ok (.iconst 1, 1) := by decide +kernel
theorem dL_law_560 : decode code 560 = .ok (.iadd, 1) := by decide +kernel
theorem dL_law_561 : decode code 561 = .ok (.iaload, 1) := by decide +kernel
theorem dL_law_562 : decode code 562 = .ok (.invokevirtual 85, 3) := by decide +kernel
theorem dL_law_565 : decode code 565 = .ok (.if_icmp .eq 878, 3) := by decide +kernel
theorem dL_law_570 : decode code 570 = .ok (.aload_n 1, 1) := by decide +kernel
theorem dL_law_571 : decode code 571 = .ok (.aload_n 0, 1) := by decide +kernel
theorem dL_law_572 : decode code 572 = .ok (.iload 4, 2) := by decide +kernel
theorem dL_law_574 : decode code 574 = .ok (.iconst 1, 1) := by decide +kernel
theorem dL_law_575 : decode code 575 = .ok (.iadd, 1) := by decide +kernel
theorem dL_law_576 : decode code 576 = .ok (.iaload, 1) := by decide +kernel
theorem dL_law_577 : decode code 577 = .ok (.ifCond .eq 7, 3) := by decide +kernel
theorem dL_law_580 : decode code 580 = .ok (.iconst 1, 1) := by decide +kernel
theorem dL_law_581 : decode code 581 = .ok (.goto 4, 3) := by decide +kernel
theorem dL_law_584 : decode code 584 = .ok (.iconst 0, 1) := by decide +kernel
theorem dL_law_585 : decode code 585 = .ok (.aload_n 0, 1) := by decide +kernel
theorem dL_law_586 : decode code 586 = .ok (.iload 4, 2) := by decide +kernel
theorem dL_law_588 : decode code 588 = .ok (.iconst 2, 1) := by decide +kernel
theorem dL_law_589 : decode code 589 = .ok (.iadd, 1) := by decide +kernel
theorem dL_law_590 : decode code 590 = .ok (.iaload, 1) := by decide +kernel
theorem dL_law_591 : decode code 591 = .ok (.invokevirtual 86, 3) := by decide +kernel
theorem dL_law_594 : decode code 594 = .ok (.aload_n 2, 1) := by decide +kernel
theorem dL_law_595 : decode code 595 = .ok (.aload_n 0, 1) := by decide +kernel
theorem dL_law_596 : decode code 596 = .ok (.iload 4, 2) := by decide +kernel
theorem dL_law_598 : decode code 598 = .ok (.iconst 1, 1) := by decide +kernel
theorem dL_law_599 : decode code 599 = .ok (.iadd, 1) := by decide +kernel
theorem dL_law_600 : decode code 600 = .ok (.iaload, 1) := by decide +kernel
theorem dL_law_601 : decode code 601 = .ok (.ifCond .eq 7, 3) := by decide +kernel
theorem dL_law_604 : decode code 604 = .ok (.iconst 1, 1) := by decide +kernel
theorem dL_law_605 : decode code 605 = .ok (.goto 4, 3) := by decide +kernel
theorem dL_law_608 : decode code 608 = .ok (.iconst 0, 1) := by decide +kernel
theorem dL_law_609 : decode code 609 = .ok (.aload_n 0, 1) := by decide +kernel
theorem dL_law_610 : decode code 610 = .ok (.iload 4, 2) := by decide +kernel
theorem dL_law_612 : decode code 612 = .ok (.iconst 2, 1) := by decide +kernel
theorem dL_law_613 : decode code 613 = .ok (.iadd, 1) := by decide +kernel
theorem dL_law_614 : decode code 614 = .ok (.iaload, 1) := by decide +kernel
theorem dL_law_615 : decode code 615 = .ok (.invokevirtual 90, 3) := by decide +kernel
theorem dL_law_618 : decode code 618 = .ok (.if_icmp .eq 825, 3) := by decide +kernel
theorem dL_law_623 : decode code 623 = .ok (.aload_n 1, 1) := by decide +kernel
theorem dL_law_624 : decode code 624 = .ok (.aload_n 0, 1) := by decide +kernel
theorem dL_law_625 : decode code 625 = .ok (.iload 4, 2) := by decide +kernel
theorem dL_law_627 : decode code 627 = .ok (.iconst 1, 1) := by decide +kernel
theorem dL_law_628 : decode code 628 = .ok (.iadd, 1) := by decide +kernel
theorem dL_law_629 : decode code 629 = .ok (.iaload, 1) := by decide +kernel
theorem dL_law_630 : decode code 630 = .ok (.ifCond .eq 7, 3) := by decide +kernel
theorem dL_law_633 : decode code 633 = .ok (.iconst 1, 1) := by decide +kernel
theorem dL_law_634 : decode code 634 = .ok (.goto 4, 3) := by decide +kernel
theorem dL_law_637 : decode code 637 = .ok (.iconst 0, 1) := by decide +kernel
theorem dL_law_638 : decode code 638 = .ok (.aload_n 0, 1) := by decide +kernel
theorem dL_law_639 : decode code 639 = .ok (.iload 4, 2) := by decide +kernel
theorem dL_law_641 : decode code 641 = .ok (.iconst 2, 1) := by decide +kernel
theorem dL_law_642 : decode code 642 = .ok (.iadd, 1) := by decide +kernel
theorem dL_law_643 : decode code 643 = .ok (.iaload, 1) := by decide +kernel
theorem dL_law_644 : decode code 644 = .ok (.invokevirtual 91, 3) := by decide +kernel
theorem dL_law_647 : decode code 647 = .ok (.aload_n 2, 1) := by decide +kernel
theorem dL_law_648 : decode code 648 = .ok (.aload_n 0, 1) := by decide +kernel
theorem dL_law_649 : decode code 649 = .ok (.iload 4, 2) := by decide +kernel
theorem dL_law_651 : decode code 651 = .ok (.iconst 1, 1) := by decide +kernel
