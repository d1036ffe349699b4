/-! The law's instructions (made by program) -/
theorem dd_Lw_law_554 : decode bb_Lw_law 554 = .ok (.iload_n 3, 1) := by decide +kernel
theorem dd_Lw_law_555 : decode bb_Lw_law 555 = .ok (.iconst 1, 1) := by decide +kernel
theorem dd_Lw_law_556 : decode bb_Lw_law 556 = .ok (.iadd, 1) := by decide +kernel
theorem dd_Lw_law_557 : decode bb_Lw_law 557 = .ok (.iaload, 1) := by decide +kernel
theorem dd_Lw_law_558 : decode bb_Lw_law 558 = .ok (.aload_n 0, 1) := by decide +kernel
theorem dd_Lw_law_559 : decode bb_Lw_law 559 = .ok (.iload_n 3, 1) := by decide +kernel
theorem dd_Lw_law_560 : decode bb_Lw_law 560 = .ok (.iconst 2, 1) := by decide +kernel
theorem dd_Lw_law_561 : decode bb_Lw_law 561 = .ok (.iadd, 1) := by decide +kernel
theorem dd_Lw_law_562 : decode bb_Lw_law 562 = .ok (.iaload, 1) := by decide +kernel
theorem dd_Lw_law_563 : decode bb_Lw_law 563 = .ok (.invokevirtual 86, 3) := by decide +kernel
theorem dd_Lw_law_566 : decode bb_Lw_law 566 = .ok (.if_icmp .eq 180, 3) := by decide +kernel
theorem dd_Lw_law_569 : decode bb_Lw_law 569 = .ok (.iconst 0, 1) := by decide +kernel
theorem dd_Lw_law_570 : decode bb_Lw_law 570 = .ok (.ireturn, 1) := by decide +kernel
theorem dd_Lw_law_571 : decode bb_Lw_law 571 = .ok (.aload_n 1, 1) := by decide +kernel
theorem dd_Lw_law_572 : decode bb_Lw_law 572 = .ok (.aload_n 0, 1) := by decide +kernel
theorem dd_Lw_law_573 : decode bb_Lw_law 573 = .ok (.iload_n 3, 1) := by decide +kernel
theorem dd_Lw_law_574 : decode bb_Lw_law 574 = .ok (.iconst 1, 1) := by decide +kernel
theorem dd_Lw_law_575 : decode bb_Lw_law 575 = .ok (.iadd, 1) := by decide +kernel
theorem dd_Lw_law_576 : decode bb_Lw_law 576 = .ok (.iaload, 1) := by decide +kernel
theorem dd_Lw_law_577 : decode bb_Lw_law 577 = .ok (.aload_n 0, 1) := by decide +kernel
theorem dd_Lw_law_578 : decode bb_Lw_law 578 = .ok (.iload_n 3, 1) := by decide +kernel
theorem dd_Lw_law_579 : decode bb_Lw_law 579 = .ok (.iconst 2, 1) := by decide +kernel
theorem dd_Lw_law_580 : decode bb_Lw_law 580 = .ok (.iadd, 1) := by decide +kernel
theorem dd_Lw_law_581 : decode bb_Lw_law 581 = .ok (.iaload, 1) := by decide +kernel
theorem dd_Lw_law_582 : decode bb_Lw_law 582 = .ok (.invokevirtual 87, 3) := by decide +kernel
theorem dd_Lw_law_585 : decode bb_Lw_law 585 = .ok (.aload_n 2, 1) := by decide +kernel
theorem dd_Lw_law_586 : decode bb_Lw_law 586 = .ok (.aload_n 0, 1) := by decide +kernel
theorem dd_Lw_law_587 : decode bb_Lw_law 587 = .ok (.iload_n 3, 1) := by decide +kernel
theorem dd_Lw_law_588 : decode bb_Lw_law 588 = .ok (.iconst 1, 1) := by decide +kernel
theorem dd_Lw_law_589 : decode bb_Lw_law 589 = .ok (.iadd, 1) := by decide +kernel
theorem dd_Lw_law_590 : decode bb_Lw_law 590 = .ok (.iaload, 1) := by decide +kernel
theorem dd_Lw_law_591 : decode bb_Lw_law 591 = .ok (.aload_n 0, 1) := by decide +kernel
theorem dd_Lw_law_592 : decode bb_Lw_law 592 = .ok (.iload_n 3, 1) := by decide +kernel
theorem dd_Lw_law_593 : decode bb_Lw_law 593 = .ok (.iconst 2, 1) := by decide +kernel
theorem dd_Lw_law_594 : decode bb_Lw_law 594 = .ok (.iadd, 1) := by decide +kernel
theorem dd_Lw_law_595 : decode bb_Lw_law 595 = .ok (.iaload, 1) := by decide +kernel
theorem dd_Lw_law_596 : decode bb_Lw_law 596 = .ok (.invokevirtual 90, 3) := by decide +kernel
theorem dd_Lw_law_599 : decode bb_Lw_law 599 = .ok (.if_icmp .eq 147, 3) := by decide +kernel
theorem dd_Lw_law_602 : decode bb_Lw_law 602 = .ok (.iconst 0, 1) := by decide +kernel
theorem dd_Lw_law_603 : decode bb_Lw_law 603 = .ok (.ireturn, 1) := by decide +kernel
theorem dd_Lw_law_604 : decode bb_Lw_law 604 = .ok (.aload_n 1, 1) := by decide +kernel
theorem dd_Lw_law_605 : decode bb_Lw_law 605 = .ok (.aload_n 0, 1) := by decide +kernel
theorem dd_Lw_law_606 : decode bb_Lw_law 606 = .ok (.iload_n 3, 1) := by decide +kernel
theorem dd_Lw_law_607 : decode bb_Lw_law 607 = .ok (.iconst 1, 1) := by decide +kernel
theorem dd_Lw_law_608 : decode bb_Lw_law 608 = .ok (.iadd, 1) := by decide +kernel
theorem dd_Lw_law_609 : decode bb_Lw_law 609 = .ok (.iaload, 1) := by decide +kernel
theorem dd_Lw_law_610 : decode bb_Lw_law 610 = .ok (.aload_n 0, 1) := by decide +kernel
theorem dd_Lw_law_611 : decode bb_Lw_law 611 = .ok (.iload_n 3, 1) := by decide +kernel
theorem dd_Lw_law_612 : decode bb_Lw_law 612 = .ok (.iconst 2, 1) := by decide +kernel
theorem dd_Lw_law_613 : decode bb_Lw_law 613 = .ok (.iadd, 1) := by decide +kernel
theorem dd_Lw_law_614 : decode bb_Lw_law 614 = .ok (.iaload, 1) := by decide +kernel
theorem dd_Lw_law_615 : decode bb_Lw_law 615 = .ok (.invokevirtual 91, 3) := by decide +kernel
theorem dd_Lw_law_618 : decode bb_Lw_law 618 = .ok (.aload_n 2, 1) := by decide +kernel
theorem dd_Lw_law_619 : decode bb_Lw_law 619 = .ok (.aload_n 0, 1) := by decide +kernel
theorem dd_Lw_law_620 : decode bb_Lw_law 620 = .ok (.iload_n 3, 1) := by decide +kernel
theorem dd_Lw_law_621 : decode bb_Lw_law 621 = .ok (.iconst 1, 1) := by decide +kernel
theorem dd_Lw_law_622 : decode bb_Lw_law 622 = .ok (.iadd, 1) := by decide +kernel
theorem dd_Lw_law_623 : decode bb_Lw_law 623 = .ok (.iaload, 1) := by decide +kernel
theorem dd_Lw_law_624 : decode bb_Lw_law 624 = .ok (.aload_n 0, 1) := by decide +kernel
theorem dd_Lw_law_625 : decode bb_Lw_law 625 = .ok (.iload_n 3, 1) := by decide +kernel
theorem dd_Lw_law_626 : decode bb_Lw_law 626 = .ok (.iconst 2, 1) := by decide +kernel
theorem dd_Lw_law_627 : decode bb_Lw_law 627 = .ok (.iadd, 1) := by decide +kernel
theorem dd_Lw_law_628 : decode bb_Lw_law 628 = .ok (.iaload, 1) := by decide +kernel
theorem dd_Lw_law_629 : decode bb_Lw_law 629 = .ok (.invokevirtual 94, 3) := by decide +kernel
theorem dd_Lw_law_632 : decode bb_Lw_law 632 = .ok (.if_icmp .eq 114, 3) := by decide +kernel
theorem dd_Lw_law_635 : decode bb_Lw_law 635 = .ok (.iconst 0, 1) := by decide +kernel
theorem dd_Lw_law_636 : decode bb_Lw_law 636 = .ok (.ireturn, 1) := by decide +kernel
theorem dd_Lw_law_637 : decode bb_Lw_law 637 = .ok (.aload_n 1, 1) := by decide +kernel
theorem dd_Lw_law_638 : decode bb_Lw_law 638 = .ok (.aload_n 0, 1) := by decide +kernel
theorem dd_Lw_law_639 : decode bb_Lw_law 639 = .ok (.iload_n 3, 1) := by decide +kernel
theorem dd_Lw_law_640 : decode bb_Lw_law 640 = .ok (.iconst 1, 1) := by decide +kernel
theorem dd_Lw_law_641 : decode bb_Lw_law 641 = .ok (.iadd, 1) := by decide +kernel
theorem dd_Lw_law_642 : decode bb_Lw_law 642 = .ok (.iaload, 1) := by decide +kernel
theorem dd_Lw_law_643 : decode bb_Lw_law 643 = .ok (.aload_n 0, 1) := by decide +kernel
theorem dd_Lw_law_644 : decode bb_Lw_law 644 = .ok (.iload_n 3, 1) := by decide +kernel
theorem dd_Lw_law_645 : decode bb_Lw_law 645 = .ok (.iconst 2, 1) := by decide +kernel
theorem dd_Lw_law_646 : decode bb_Lw_law 646 = .ok (.iadd, 1) := by decide +kernel
theorem dd_Lw_law_647 : decode bb_Lw_law 647 = .ok (.iaload, 1) := by decide +kernel
theorem dd_Lw_law_648 : decode bb_Lw_law 648 = .ok (.invokevirtual 95, 3) := by decide +kernel
theorem dd_Lw_law_651 : decode bb_Lw_law 651 = .ok (.aload_n 2, 1) := by decide +kernel
theorem dd_Lw_law_652 : decode bb_Lw_law 652 = .ok (.aload_n 0, 1) := by decide +kernel
theorem dd_Lw_law_653 : decode bb_Lw_law 653 = .ok (.iload_n 3, 1) := by decide +kernel
theorem dd_Lw_law_654 : decode bb_Lw_law 654 = .ok (.iconst 1, 1) := by decide +kernel
theorem dd_Lw_law_655 : decode bb_Lw_law 655 = .ok (.iadd, 1) := by decide +kernel
theorem dd_Lw_law_656 : decode bb_Lw_law 656 = .ok (.iaload, 1) := by decide +kernel
theorem dd_Lw_law_657 : decode bb_Lw_law 657 = .ok (.aload_n 0, 1) := by decide +kernel
theorem dd_Lw_law_658 : decode bb_Lw_law 658 = .ok (.iload_n 3, 1) := by decide +kernel
theorem dd_Lw_law_659 : decode bb_Lw_law 659 = .ok (.iconst 2, 1) := by decide +kernel
theorem dd_Lw_law_660 : decode bb_Lw_law 660 = .ok (.iadd, 1) := by decide +kernel
theorem dd_Lw_law_661 : decode bb_Lw_law 661 = .ok (.iaload, 1) := by decide +kernel
theorem dd_Lw_law_662 : decode bb_Lw_law 662 = .ok (.invokevirtual 98, 3) := by decide +kernel
theorem dd_Lw_law_665 : decode bb_Lw_law 665 = .ok (.if_icmp .eq 81, 3) := by decide +kernel
theorem dd_Lw_law_668 : decode bb_Lw_law 668 = .ok (.iconst 0, 1) := by decide +kernel
theorem dd_Lw_law_669 : decode bb_Lw_law 669 = .ok (.ireturn, 1) := by decide +kernel
theorem dd_Lw_law_670 : decode bb_Lw_law 670 = .ok (.aload_n 1, 1) := by decide +kernel
theorem dd_Lw_law_671 : decode bb_Lw_law 671 = .ok (.aload_n 0, 1) := by decide +kernel
theorem dd_Lw_law_672 : decode bb_Lw_law 672 = .ok (.iload_n 3, 1) := by decide +kernel
theorem dd_Lw_law_673 : decode bb_Lw_law 673 = .ok (.iconst 1, 1) := by decide +kernel
theorem dd_Lw_law_674 : decode bb_Lw_law 674 = .ok (.iadd, 1) := by decide +kernel
theorem dd_Lw_law_675 : decode bb_Lw_law 675 = .ok (.iaload, 1) := by decide +kernel
theorem dd_Lw_law_676 : decode bb_Lw_law 676 = .ok (.aload_n 0, 1) := by decide +kernel
theorem dd_Lw_law_677 : decode bb_Lw_law 677 = .ok (.iload_n 3, 1) := by decide +kernel
theorem dd_Lw_law_678 : decode bb_Lw_law 678 = .ok (.iconst 2, 1) := by decide +kernel
theorem dd_Lw_law_679 : decode bb_Lw_law 679 = .ok (.iadd, 1) := by decide +kernel
theorem dd_Lw_law_680 : decode bb_Lw_law 680 = .ok (.iaload, 1) := by decide +kernel
theorem dd_Lw_law_681 : decode bb_Lw_law 681 = .ok (.invokevirtual 99, 3) := by decide +kernel
theorem dd_Lw_law_684 : decode bb_Lw_law 684 = .ok (.aload_n 2, 1) := by decide +kernel
theorem dd_Lw_law_685 : decode bb_Lw_law 685 = .ok (.aload_n 0, 1) := by decide +kernel
theorem dd_Lw_law_686 : decode bb_Lw_law 686 = .ok (.iload_n 3, 1) := by decide +kernel
theorem dd_Lw_law_687 : decode bb_Lw_law 687 = .ok (.iconst 1, 1) := by decide +kernel
theorem dd_Lw_law_688 : decode bb_Lw_law 688 = .ok (.iadd, 1) := by decide +kernel
theorem dd_Lw_law_689 : decode bb_Lw_law 689 = .ok (.iaload, 1) := by decide +kernel
theorem dd_Lw_law_690 : decode bb_Lw_law 690 = .ok (.aload_n 0, 1) := by decide +kernel
theorem dd_Lw_law_691 : decode bb_Lw_law 691 = .ok (.iload_n 3, 1) := by decide +kernel
theorem dd_Lw_law_692 : decode bb_Lw_law 692 = .ok (.iconst 2, 1) := by decide +kernel
theorem dd_Lw_law_693 : decode bb_Lw_law 693 = .ok (.iadd, 1) := by decide +kernel
theorem dd_Lw_law_694 : decode bb_Lw_law 694 = .ok (.iaload, 1) := by decide +kernel
theorem dd_Lw_law_695 : decode bb_Lw_law 695 = .ok (.invokevirtual 102, 3) := by decide +kernel
theorem dd_Lw_law_698 : decode bb_Lw_law 698 = .ok (.if_icmp .eq 48, 3) := by decide +kernel
theorem dd_Lw_law_701 : decode bb_Lw_law 701 = .ok (.iconst 0, 1) := by decide +kernel
theorem dd_Lw_law_702 : decode bb_Lw_law 702 = .ok (.ireturn, 1) := by decide +kernel
theorem dd_Lw_law_703 : decode bb_Lw_law 703 = .ok (.aload_n 1, 1) := by decide +kernel
theorem dd_Lw_law_704 : decode bb_Lw_law 704 = .ok (.aload_n 0, 1) := by decide +kernel
theorem dd_Lw_law_705 : decode bb_Lw_law 705 = .ok (.iload_n 3, 1) := by decide +kernel
theorem dd_Lw_law_706 : decode bb_Lw_law 706 = .ok (.iconst 1, 1) := by decide +kernel
theorem dd_Lw_law_707 : decode bb_Lw_law 707 = .ok (.iadd, 1) := by decide +kernel
theorem dd_Lw_law_708 : decode bb_Lw_law 708 = .ok (.iaload, 1) := by decide +kernel
theorem dd_Lw_law_709 : decode bb_Lw_law 709 = .ok (.aload_n 0, 1) := by decide +kernel
theorem dd_Lw_law_710 : decode bb_Lw_law 710 = .ok (.iload_n 3, 1) := by decide +kernel
theorem dd_Lw_law_711 : decode bb_Lw_law 711 = .ok (.iconst 2, 1) := by decide +kernel
theorem dd_Lw_law_712 : decode bb_Lw_law 712 = .ok (.iadd, 1) := by decide +kernel
theorem dd_Lw_law_713 : decode bb_Lw_law 713 = .ok (.iaload, 1) := by decide +kernel
theorem dd_Lw_law_714 : decode bb_Lw_law 714 = .ok (.aload_n 0, 1) := by decide +kernel
theorem dd_Lw_law_715 : decode bb_Lw_law 715 = .ok (.iload_n 3, 1) := by decide +kernel
theorem dd_Lw_law_716 : decode bb_Lw_law 716 = .ok (.iconst 3, 1) := by decide +kernel
theorem dd_Lw_law_717 : decode bb_Lw_law 717 = .ok (.iadd, 1) := by decide +kernel
theorem dd_Lw_law_718 : decode bb_Lw_law 718 = .ok (.iaload, 1) := by decide +kernel
theorem dd_Lw_law_719 : decode bb_Lw_law 719 = .ok (.invokevirtual 103, 3) := by decide +kernel
theorem dd_Lw_law_722 : decode bb_Lw_law 722 = .ok (.aload_n 2, 1) := by decide +kernel
theorem dd_Lw_law_723 : decode bb_Lw_law 723 = .ok (.aload_n 0, 1) := by decide +kernel
theorem dd_Lw_law_724 : decode bb_Lw_law 724 = .ok (.iload_n 3, 1) := by decide +kernel
theorem dd_Lw_law_725 : decode bb_Lw_law 725 = .ok (.iconst 1, 1) := by decide +kernel
theorem dd_Lw_law_726 : decode bb_Lw_law 726 = .ok (.iadd, 1) := by decide +kernel
theorem dd_Lw_law_727 : decode bb_Lw_law 727 = .ok (.iaload, 1) := by decide +kernel
theorem dd_Lw_law_728 : decode bb_Lw_law 728 = .ok (.aload_n 0, 1) := by decide +kernel
theorem dd_Lw_law_729 : decode bb_Lw_law 729 = .ok (.iload_n 3, 1) := by decide +kernel
theorem dd_Lw_law_730 : decode bb_Lw_law 730 = .ok (.iconst 2, 1) := by decide +kernel
theorem dd_Lw_law_731 : decode bb_Lw_law 731 = .ok (.iadd, 1) := by decide +kernel
theorem dd_Lw_law_732 : decode bb_Lw_law 732 = .ok (.iaload, 1) := by decide +kernel
theorem dd_Lw_law_733 : decode bb_Lw_law 733 = .ok (.aload_n 0, 1) := by decide +kernel
theorem dd_Lw_law_734 : decode bb_Lw_law 734 = .ok (.iload_n 3, 1) := by decide +kernel
theorem dd_Lw_law_735 : decode bb_Lw_law 735 = .ok (.iconst 3, 1) := by decide +kernel
theorem dd_Lw_law_736 : decode bb_Lw_law 736 = .ok (.iadd, 1) := by decide +kernel
theorem dd_Lw_law_737 : decode bb_Lw_law 737 = .ok (.iaload, 1) := by decide +kernel
theorem dd_Lw_law_738 : decode bb_Lw_law 738 = .ok (.invokevirtual 106, 3) := by decide +kernel
theorem dd_Lw_law_741 : decode bb_Lw_law 741 = .ok (.if_icmp .eq 5, 3) := by decide +kernel
theorem dd_Lw_law_744 : decode bb_Lw_law 744 = .ok (.iconst 0, 1) := by decide +kernel
theorem dd_Lw_law_745 : decode bb_Lw_law 745 = .ok (.ireturn, 1) := by decide +kernel
theorem dd_Lw_law_746 : decode bb_Lw_law 746 = .ok (.iinc 3 6, 3) := by decide +kernel
theorem dd_Lw_law_749 : decode bb_Lw_law 749 = .ok (.goto (-721), 3) := by decide +kernel
theorem dd_Lw_law_752 : decode bb_Lw_law 752 = .ok (.iconst 1, 1) := by decide +kernel
theorem dd_Lw_law_753 : decode bb_Lw_law 753 = .ok (.ireturn, 1) := by decide +kernel
