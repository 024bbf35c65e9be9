theorem dd_L_law_491 : decode bb_L_law 491 = .ok (.aload_n 2, 1) := by decide +kernel
theorem dd_L_law_492 : decode bb_L_law 492 = .ok (.invokevirtual 105, 3) := by decide +kernel
theorem dd_L_law_495 : decode bb_L_law 495 = .ok (.istore 6, 2) := by decide +kernel
theorem dd_L_law_497 : decode bb_L_law 497 = .ok (.aload_n 2, 1) := by decide +kernel
theorem dd_L_law_498 : decode bb_L_law 498 = .ok (.invokevirtual 69, 3) := by decide +kernel
theorem dd_L_law_501 : decode bb_L_law 501 = .ok (.iload 5, 2) := by decide +kernel
theorem dd_L_law_503 : decode bb_L_law 503 = .ok (.if_icmp .eq 5, 3) := by decide +kernel
theorem dd_L_law_506 : decode bb_L_law 506 = .ok (.iconst 0, 1) := by decide +kernel
theorem dd_L_law_507 : decode bb_L_law 507 = .ok (.ireturn, 1) := by decide +kernel
theorem dd_L_law_508 : decode bb_L_law 508 = .ok (.iload 5, 2) := by decide +kernel
theorem dd_L_law_510 : decode bb_L_law 510 = .ok (.ifCond .ne 15, 3) := by decide +kernel
theorem dd_L_law_513 : decode bb_L_law 513 = .ok (.aload_n 3, 1) := by decide +kernel
theorem dd_L_law_514 : decode bb_L_law 514 = .ok (.iconst 0, 1) := by decide +kernel
theorem dd_L_law_515 : decode bb_L_law 515 = .ok (.laload, 1) := by decide +kernel
theorem dd_L_law_516 : decode bb_L_law 516 = .ok (.iload 6, 2) := by decide +kernel
theorem dd_L_law_518 : decode bb_L_law 518 = .ok (.i2l, 1) := by decide +kernel
theorem dd_L_law_519 : decode bb_L_law 519 = .ok (.lcmp, 1) := by decide +kernel
theorem dd_L_law_520 : decode bb_L_law 520 = .ok (.ifCond .eq 5, 3) := by decide +kernel
theorem dd_L_law_523 : decode bb_L_law 523 = .ok (.iconst 0, 1) := by decide +kernel
theorem dd_L_law_524 : decode bb_L_law 524 = .ok (.ireturn, 1) := by decide +kernel
theorem dd_L_law_525 : decode bb_L_law 525 = .ok (.goto 373, 3) := by decide +kernel
theorem dd_L_law_528 : decode bb_L_law 528 = .ok (.aload_n 1, 1) := by decide +kernel
theorem dd_L_law_529 : decode bb_L_law 529 = .ok (.aload_n 0, 1) := by decide +kernel
theorem dd_L_law_530 : decode bb_L_law 530 = .ok (.iload 4, 2) := by decide +kernel
theorem dd_L_law_532 : decode bb_L_law 532 = .ok (.iconst 1, 1) := by decide +kernel
theorem dd_L_law_533 : decode bb_L_law 533 = .ok (.iadd, 1) := by decide +kernel
theorem dd_L_law_534 : decode bb_L_law 534 = .ok (.iaload, 1) := by decide +kernel
theorem dd_L_law_535 : decode bb_L_law 535 = .ok (.aload_n 3, 1) := by decide +kernel
theorem dd_L_law_536 : decode bb_L_law 536 = .ok (.invokestatic 106, 3) := by decide +kernel
theorem dd_L_law_539 : decode bb_L_law 539 = .ok (.istore 5, 2) := by decide +kernel
theorem dd_L_law_541 : decode bb_L_law 541 = .ok (.aload_n 2, 1) := by decide +kernel
theorem dd_L_law_542 : decode bb_L_law 542 = .ok (.aload_n 0, 1) := by decide +kernel
theorem dd_L_law_543 : decode bb_L_law 543 = .ok (.iload 4, 2) := by decide +kernel
theorem dd_L_law_545 : decode bb_L_law 545 = .ok (.iconst 1, 1) := by decide +kernel
theorem dd_L_law_546 : decode bb_L_law 546 = .ok (.iadd, 1) := by decide +kernel
theorem dd_L_law_547 : decode bb_L_law 547 = .ok (.iaload, 1) := by decide +kernel
theorem dd_L_law_548 : decode bb_L_law 548 = .ok (.invokevirtual 109, 3) := by decide +kernel
theorem dd_L_law_551 : decode bb_L_law 551 = .ok (.istore 6, 2) := by decide +kernel
theorem dd_L_law_553 : decode bb_L_law 553 = .ok (.aload_n 2, 1) := by decide +kernel
theorem dd_L_law_554 : decode bb_L_law 554 = .ok (.invokevirtual 69, 3) := by decide +kernel
theorem dd_L_law_557 : decode bb_L_law 557 = .ok (.iload 5, 2) := by decide +kernel
theorem dd_L_law_559 : decode bb_L_law 559 = .ok (.if_icmp .eq 5, 3) := by decide +kernel
theorem dd_L_law_562 : decode bb_L_law 562 = .ok (.iconst 0, 1) := by decide +kernel
theorem dd_L_law_563 : decode bb_L_law 563 = .ok (.ireturn, 1) := by decide +kernel
theorem dd_L_law_564 : decode bb_L_law 564 = .ok (.iload 5, 2) := by decide +kernel
theorem dd_L_law_566 : decode bb_L_law 566 = .ok (.ifCond .ne 15, 3) := by decide +kernel
theorem dd_L_law_569 : decode bb_L_law 569 = .ok (.aload_n 3, 1) := by decide +kernel
theorem dd_L_law_570 : decode bb_L_law 570 = .ok (.iconst 0, 1) := by decide +kernel
theorem dd_L_law_571 : decode bb_L_law 571 = .ok (.laload, 1) := by decide +kernel
theorem dd_L_law_572 : decode bb_L_law 572 = .ok (.iload 6, 2) := by decide +kernel
theorem dd_L_law_574 : decode bb_L_law 574 = .ok (.i2l, 1) := by decide +kernel
theorem dd_L_law_575 : decode bb_L_law 575 = .ok (.lcmp, 1) := by decide +kernel
theorem dd_L_law_576 : decode bb_L_law 576 = .ok (.ifCond .eq 5, 3) := by decide +kernel
theorem dd_L_law_579 : decode bb_L_law 579 = .ok (.iconst 0, 1) := by decide +kernel
theorem dd_L_law_580 : decode bb_L_law 580 = .ok (.ireturn, 1) := by decide +kernel
theorem dd_L_law_581 : decode bb_L_law 581 = .ok (.goto 317, 3) := by decide +kernel
theorem dd_L_law_584 : decode bb_L_law 584 = .ok (.aload_n 1, 1) := by decide +kernel
theorem dd_L_law_585 : decode bb_L_law 585 = .ok (.aload_n 3, 1) := by decide +kernel
theorem dd_L_law_586 : decode bb_L_law 586 = .ok (.invokestatic 110, 3) := by decide +kernel
theorem dd_L_law_589 : decode bb_L_law 589 = .ok (.istore 5, 2) := by decide +kernel
theorem dd_L_law_591 : decode bb_L_law 591 = .ok (.aload_n 2, 1) := by decide +kernel
theorem dd_L_law_592 : decode bb_L_law 592 = .ok (.invokevirtual 112, 3) := by decide +kernel
theorem dd_L_law_595 : decode bb_L_law 595 = .ok (.istore 6, 2) := by decide +kernel
theorem dd_L_law_597 : decode bb_L_law 597 = .ok (.aload_n 2, 1) := by decide +kernel
theorem dd_L_law_598 : decode bb_L_law 598 = .ok (.invokevirtual 69, 3) := by decide +kernel
theorem dd_L_law_601 : decode bb_L_law 601 = .ok (.iload 5, 2) := by decide +kernel
theorem dd_L_law_603 : decode bb_L_law 603 = .ok (.if_icmp .eq 5, 3) := by decide +kernel
theorem dd_L_law_606 : decode bb_L_law 606 = .ok (.iconst 0, 1) := by decide +kernel
theorem dd_L_law_607 : decode bb_L_law 607 = .ok (.ireturn, 1) := by decide +kernel
theorem dd_L_law_608 : decode bb_L_law 608 = .ok (.iload 5, 2) := by decide +kernel
theorem dd_L_law_610 : decode bb_L_law 610 = .ok (.ifCond .ne 22, 3) := by decide +kernel
theorem dd_L_law_613 : decode bb_L_law 613 = .ok (.aload_n 3, 1) := by decide +kernel
theorem dd_L_law_614 : decode bb_L_law 614 = .ok (.iconst 0, 1) := by decide +kernel
theorem dd_L_law_615 : decode bb_L_law 615 = .ok (.laload, 1) := by decide +kernel
theorem dd_L_law_616 : decode bb_L_law 616 = .ok (.iload 6, 2) := by decide +kernel
theorem dd_L_law_618 : decode bb_L_law 618 = .ok (.ifCond .eq 7, 3) := by decide +kernel
theorem dd_L_law_621 : decode bb_L_law 621 = .ok (.lconst 1, 1) := by decide +kernel
theorem dd_L_law_622 : decode bb_L_law 622 = .ok (.goto 4, 3) := by decide +kernel
theorem dd_L_law_625 : decode bb_L_law 625 = .ok (.lconst 0, 1) := by decide +kernel
theorem dd_L_law_626 : decode bb_L_law 626 = .ok (.lcmp, 1) := by decide +kernel
theorem dd_L_law_627 : decode bb_L_law 627 = .ok (.ifCond .eq 5, 3) := by decide +kernel
theorem dd_L_law_630 : decode bb_L_law 630 = .ok (.iconst 0, 1) := by decide +kernel
theorem dd_L_law_631 : decode bb_L_law 631 = .ok (.ireturn, 1) := by decide +kernel
theorem dd_L_law_632 : decode bb_L_law 632 = .ok (.goto 266, 3) := by decide +kernel
theorem dd_L_law_635 : decode bb_L_law 635 = .ok (.aload_n 1, 1) := by decide +kernel
theorem dd_L_law_636 : decode bb_L_law 636 = .ok (.aload_n 3, 1) := by decide +kernel
theorem dd_L_law_637 : decode bb_L_law 637 = .ok (.invokestatic 113, 3) := by decide +kernel
theorem dd_L_law_640 : decode bb_L_law 640 = .ok (.istore 5, 2) := by decide +kernel
theorem dd_L_law_642 : decode bb_L_law 642 = .ok (.aload_n 2, 1) := by decide +kernel
theorem dd_L_law_643 : decode bb_L_law 643 = .ok (.invokevirtual 115, 3) := by decide +kernel
theorem dd_L_law_646 : decode bb_L_law 646 = .ok (.istore 6, 2) := by decide +kernel
theorem dd_L_law_648 : decode bb_L_law 648 = .ok (.aload_n 2, 1) := by decide +kernel
theorem dd_L_law_649 : decode bb_L_law 649 = .ok (.invokevirtual 69, 3) := by decide +kernel
theorem dd_L_law_652 : decode bb_L_law 652 = .ok (.iload 5, 2) := by decide +kernel
theorem dd_L_law_654 : decode bb_L_law 654 = .ok (.if_icmp .eq 5, 3) := by decide +kernel
theorem dd_L_law_657 : decode bb_L_law 657 = .ok (.iconst 0, 1) := by decide +kernel
theorem dd_L_law_658 : decode bb_L_law 658 = .ok (.ireturn, 1) := by decide +kernel
theorem dd_L_law_659 : decode bb_L_law 659 = .ok (.iload 5, 2) := by decide +kernel
theorem dd_L_law_661 : decode bb_L_law 661 = .ok (.ifCond .ne 15, 3) := by decide +kernel
theorem dd_L_law_664 : decode bb_L_law 664 = .ok (.aload_n 3, 1) := by decide +kernel
theorem dd_L_law_665 : decode bb_L_law 665 = .ok (.iconst 0, 1) := by decide +kernel
theorem dd_L_law_666 : decode bb_L_law 666 = .ok (.laload, 1) := by decide +kernel
theorem dd_L_law_667 : decode bb_L_law 667 = .ok (.iload 6, 2) := by decide +kernel
theorem dd_L_law_669 : decode bb_L_law 669 = .ok (.i2l, 1) := by decide +kernel
theorem dd_L_law_670 : decode bb_L_law 670 = .ok (.lcmp, 1) := by decide +kernel
theorem dd_L_law_671 : decode bb_L_law 671 = .ok (.ifCond .eq 5, 3) := by decide +kernel
theorem dd_L_law_674 : decode bb_L_law 674 = .ok (.iconst 0, 1) := by decide +kernel
theorem dd_L_law_675 : decode bb_L_law 675 = .ok (.ireturn, 1) := by decide +kernel
theorem dd_L_law_676 : decode bb_L_law 676 = .ok (.goto 222, 3) := by decide +kernel
theorem dd_L_law_679 : decode bb_L_law 679 = .ok (.aload_n 1, 1) := by decide +kernel
theorem dd_L_law_680 : decode bb_L_law 680 = .ok (.aload_n 3, 1) := by decide +kernel
theorem dd_L_law_681 : decode bb_L_law 681 = .ok (.invokestatic 116, 3) := by decide +kernel
theorem dd_L_law_684 : decode bb_L_law 684 = .ok (.istore 5, 2) := by decide +kernel
theorem dd_L_law_686 : decode bb_L_law 686 = .ok (.aload_n 2, 1) := by decide +kernel
theorem dd_L_law_687 : decode bb_L_law 687 = .ok (.invokevirtual 118, 3) := by decide +kernel
theorem dd_L_law_690 : decode bb_L_law 690 = .ok (.istore 6, 2) := by decide +kernel
theorem dd_L_law_692 : decode bb_L_law 692 = .ok (.aload_n 2, 1) := by decide +kernel
theorem dd_L_law_693 : decode bb_L_law 693 = .ok (.invokevirtual 69, 3) := by decide +kernel
theorem dd_L_law_696 : decode bb_L_law 696 = .ok (.iload 5, 2) := by decide +kernel
theorem dd_L_law_698 : decode bb_L_law 698 = .ok (.if_icmp .eq 5, 3) := by decide +kernel
theorem dd_L_law_701 : decode bb_L_law 701 = .ok (.iconst 0, 1) := by decide +kernel
theorem dd_L_law_702 : decode bb_L_law 702 = .ok (.ireturn, 1) := by decide +kernel
theorem dd_L_law_703 : decode bb_L_law 703 = .ok (.iload 5, 2) := by decide +kernel
theorem dd_L_law_705 : decode bb_L_law 705 = .ok (.ifCond .ne 15, 3) := by decide +kernel
theorem dd_L_law_708 : decode bb_L_law 708 = .ok (.aload_n 3, 1) := by decide +kernel
theorem dd_L_law_709 : decode bb_L_law 709 = .ok (.iconst 0, 1) := by decide +kernel
theorem dd_L_law_710 : decode bb_L_law 710 = .ok (.laload, 1) := by decide +kernel
theorem dd_L_law_711 : decode bb_L_law 711 = .ok (.iload 6, 2) := by decide +kernel
theorem dd_L_law_713 : decode bb_L_law 713 = .ok (.i2l, 1) := by decide +kernel
theorem dd_L_law_714 : decode bb_L_law 714 = .ok (.lcmp, 1) := by decide +kernel
