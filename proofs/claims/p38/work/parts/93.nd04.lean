theorem dL_act_516 : decode cL_act 516 = .ok (.iconst 0, 1) := by decide +kernel
theorem dL_act_517 : decode cL_act 517 = .ok (.ireturn, 1) := by decide +kernel
theorem dL_act_518 : decode cL_act 518 = .ok (.aload_n 0, 1) := by decide +kernel
theorem dL_act_519 : decode cL_act 519 = .ok (.iload 6, 2) := by decide +kernel
theorem dL_act_521 : decode cL_act 521 = .ok (.iload 7, 2) := by decide +kernel
theorem dL_act_523 : decode cL_act 523 = .ok (.invokevirtual 87, 3) := by decide +kernel
theorem dL_act_526 : decode cL_act 526 = .ok (.iload 4, 2) := by decide +kernel
theorem dL_act_528 : decode cL_act 528 = .ok (.aload_n 0, 1) := by decide +kernel
theorem dL_act_529 : decode cL_act 529 = .ok (.invokevirtual 48, 3) := by decide +kernel
theorem dL_act_532 : decode cL_act 532 = .ok (.isub, 1) := by decide +kernel
theorem dL_act_533 : decode cL_act 533 = .ok (.if_icmp .ne 17, 3) := by decide +kernel
theorem dL_act_536 : decode cL_act 536 = .ok (.aload_n 0, 1) := by decide +kernel
theorem dL_act_537 : decode cL_act 537 = .ok (.invokevirtual 41, 3) := by decide +kernel
theorem dL_act_540 : decode cL_act 540 = .ok (.iload_n 2, 1) := by decide +kernel
theorem dL_act_541 : decode cL_act 541 = .ok (.iconst 1, 1) := by decide +kernel
theorem dL_act_542 : decode cL_act 542 = .ok (.isub, 1) := by decide +kernel
theorem dL_act_543 : decode cL_act 543 = .ok (.if_icmp .ne 7, 3) := by decide +kernel
theorem dL_act_546 : decode cL_act 546 = .ok (.iconst 1, 1) := by decide +kernel
theorem dL_act_547 : decode cL_act 547 = .ok (.goto 4, 3) := by decide +kernel
theorem dL_act_550 : decode cL_act 550 = .ok (.iconst 0, 1) := by decide +kernel
theorem dL_act_551 : decode cL_act 551 = .ok (.ireturn, 1) := by decide +kernel
theorem dL_act_552 : decode cL_act 552 = .ok (.aload_n 0, 1) := by decide +kernel
theorem dL_act_553 : decode cL_act 553 = .ok (.iload 6, 2) := by decide +kernel
theorem dL_act_555 : decode cL_act 555 = .ok (.iload 7, 2) := by decide +kernel
theorem dL_act_557 : decode cL_act 557 = .ok (.invokevirtual 90, 3) := by decide +kernel
theorem dL_act_560 : decode cL_act 560 = .ok (.ifCond .lt 24, 3) := by decide +kernel
theorem dL_act_563 : decode cL_act 563 = .ok (.aload_n 0, 1) := by decide +kernel
theorem dL_act_564 : decode cL_act 564 = .ok (.invokevirtual 48, 3) := by decide +kernel
theorem dL_act_567 : decode cL_act 567 = .ok (.iload 4, 2) := by decide +kernel
theorem dL_act_569 : decode cL_act 569 = .ok (.if_icmp .ne 15, 3) := by decide +kernel
theorem dL_act_572 : decode cL_act 572 = .ok (.aload_n 0, 1) := by decide +kernel
theorem dL_act_573 : decode cL_act 573 = .ok (.invokevirtual 45, 3) := by decide +kernel
theorem dL_act_576 : decode cL_act 576 = .ok (.iload_n 3, 1) := by decide +kernel
theorem dL_act_577 : decode cL_act 577 = .ok (.if_icmp .ne 7, 3) := by decide +kernel
theorem dL_act_580 : decode cL_act 580 = .ok (.iconst 1, 1) := by decide +kernel
theorem dL_act_581 : decode cL_act 581 = .ok (.goto 4, 3) := by decide +kernel
theorem dL_act_584 : decode cL_act 584 = .ok (.iconst 0, 1) := by decide +kernel
theorem dL_act_585 : decode cL_act 585 = .ok (.ireturn, 1) := by decide +kernel
theorem dL_act_586 : decode cL_act 586 = .ok (.iload_n 1, 1) := by decide +kernel
theorem dL_act_587 : decode cL_act 587 = .ok (.bipush 8, 2) := by decide +kernel
theorem dL_act_589 : decode cL_act 589 = .ok (.ishr, 1) := by decide +kernel
theorem dL_act_590 : decode cL_act 590 = .ok (.iconst 4, 1) := by decide +kernel
theorem dL_act_591 : decode cL_act 591 = .ok (.invokestatic 18, 3) := by decide +kernel
theorem dL_act_594 : decode cL_act 594 = .ok (.ifCond .ne 43, 3) := by decide +kernel
theorem dL_act_597 : decode cL_act 597 = .ok (.aload_n 0, 1) := by decide +kernel
theorem dL_act_598 : decode cL_act 598 = .ok (.iload 5, 2) := by decide +kernel
theorem dL_act_600 : decode cL_act 600 = .ok (.iload_n 1, 1) := by decide +kernel
theorem dL_act_601 : decode cL_act 601 = .ok (.iconst 4, 1) := by decide +kernel
theorem dL_act_602 : decode cL_act 602 = .ok (.ishr, 1) := by decide +kernel
theorem dL_act_603 : decode cL_act 603 = .ok (.bipush 20, 2) := by decide +kernel
theorem dL_act_605 : decode cL_act 605 = .ok (.invokestatic 18, 3) := by decide +kernel
theorem dL_act_608 : decode cL_act 608 = .ok (.iconst 3, 1) := by decide +kernel
theorem dL_act_609 : decode cL_act 609 = .ok (.iload_n 1, 1) := by decide +kernel
theorem dL_act_610 : decode cL_act 610 = .ok (.bipush 6, 2) := by decide +kernel
theorem dL_act_612 : decode cL_act 612 = .ok (.ishr, 1) := by decide +kernel
theorem dL_act_613 : decode cL_act 613 = .ok (.bipush 20, 2) := by decide +kernel
theorem dL_act_615 : decode cL_act 615 = .ok (.invokestatic 18, 3) := by decide +kernel
theorem dL_act_618 : decode cL_act 618 = .ok (.invokevirtual 93, 3) := by decide +kernel
theorem dL_act_621 : decode cL_act 621 = .ok (.ifCond .lt 14, 3) := by decide +kernel
theorem dL_act_624 : decode cL_act 624 = .ok (.aload_n 0, 1) := by decide +kernel
theorem dL_act_625 : decode cL_act 625 = .ok (.invokevirtual 96, 3) := by decide +kernel
theorem dL_act_628 : decode cL_act 628 = .ok (.ifCond .lt 7, 3) := by decide +kernel
theorem dL_act_631 : decode cL_act 631 = .ok (.iconst 1, 1) := by decide +kernel
theorem dL_act_632 : decode cL_act 632 = .ok (.goto 4, 3) := by decide +kernel
theorem dL_act_635 : decode cL_act 635 = .ok (.iconst 0, 1) := by decide +kernel
theorem dL_act_636 : decode cL_act 636 = .ok (.ireturn, 1) := by decide +kernel
theorem dL_act_637 : decode cL_act 637 = .ok (.aload_n 0, 1) := by decide +kernel
theorem dL_act_638 : decode cL_act 638 = .ok (.invokevirtual 99, 3) := by decide +kernel
theorem dL_act_641 : decode cL_act 641 = .ok (.iload_n 2, 1) := by decide +kernel
theorem dL_act_642 : decode cL_act 642 = .ok (.if_icmp .gt 16, 3) := by decide +kernel
theorem dL_act_645 : decode cL_act 645 = .ok (.aload_n 0, 1) := by decide +kernel
theorem dL_act_646 : decode cL_act 646 = .ok (.invokevirtual 48, 3) := by decide +kernel
theorem dL_act_649 : decode cL_act 649 = .ok (.iload 4, 2) := by decide +kernel
theorem dL_act_651 : decode cL_act 651 = .ok (.if_icmp .ne 7, 3) := by decide +kernel
theorem dL_act_654 : decode cL_act 654 = .ok (.iconst 1, 1) := by decide +kernel
theorem dL_act_655 : decode cL_act 655 = .ok (.goto 4, 3) := by decide +kernel
theorem dL_act_658 : decode cL_act 658 = .ok (.iconst 0, 1) := by decide +kernel
theorem dL_act_659 : decode cL_act 659 = .ok (.ireturn, 1) := by decide +kernel
theorem dL_act_660 : decode cL_act 660 = .ok (.aload_n 0, 1) := by decide +kernel
theorem dL_act_661 : decode cL_act 661 = .ok (.invokevirtual 96, 3) := by decide +kernel
theorem dL_act_664 : decode cL_act 664 = .ok (.istore 10, 2) := by decide +kernel
theorem dL_act_666 : decode cL_act 666 = .ok (.aload_n 0, 1) := by decide +kernel
theorem dL_act_667 : decode cL_act 667 = .ok (.iload 7, 2) := by decide +kernel
theorem dL_act_669 : decode cL_act 669 = .ok (.iload 6, 2) := by decide +kernel
theorem dL_act_671 : decode cL_act 671 = .ok (.invokevirtual 102, 3) := by decide +kernel
theorem dL_act_674 : decode cL_act 674 = .ok (.istore 11, 2) := by decide +kernel
theorem dL_act_676 : decode cL_act 676 = .ok (.aload_n 0, 1) := by decide +kernel
theorem dL_act_677 : decode cL_act 677 = .ok (.aload_n 0, 1) := by decide +kernel
theorem dL_act_678 : decode cL_act 678 = .ok (.iload 7, 2) := by decide +kernel
theorem dL_act_680 : decode cL_act 680 = .ok (.iload 6, 2) := by decide +kernel
