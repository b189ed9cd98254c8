theorem d_L_law_557 : decode code 557 = .ok (.ireturn, 1) := by decide +kernel
theorem d_L_law_558 : decode code 558 = .ok (.iload 5, 2) := by decide +kernel
theorem d_L_law_560 : decode code 560 = .ok (.ifCond .ne 22, 3) := by decide +kernel
theorem d_L_law_563 : decode code 563 = .ok (.aload_n 3, 1) := by decide +kernel
theorem d_L_law_564 : decode code 564 = .ok (.iconst 0, 1) := by decide +kernel
theorem d_L_law_565 : decode code 565 = .ok (.laload, 1) := by decide +kernel
theorem d_L_law_566 : decode code 566 = .ok (.iload 6, 2) := by decide +kernel
theorem d_L_law_568 : decode code 568 = .ok (.ifCond .eq 7, 3) := by decide +kernel
theorem d_L_law_571 : decode code 571 = .ok (.lconst 1, 1) := by decide +kernel
theorem d_L_law_572 : decode code 572 = .ok (.goto 4, 3) := by decide +kernel
theorem d_L_law_575 : decode code 575 = .ok (.lconst 0, 1) := by decide +kernel
theorem d_L_law_576 : decode code 576 = .ok (.lcmp, 1) := by decide +kernel
theorem d_L_law_577 : decode code 577 = .ok (.ifCond .eq 5, 3) := by decide +kernel
theorem d_L_law_580 : decode code 580 = .ok (.iconst 0, 1) := by decide +kernel
theorem d_L_law_581 : decode code 581 = .ok (.ireturn, 1) := by decide +kernel
theorem d_L_law_582 : decode code 582 = .ok (.goto 416, 3) := by decide +kernel
theorem d_L_law_585 : decode code 585 = .ok (.aload_n 1, 1) := by decide +kernel
theorem d_L_law_586 : decode code 586 = .ok (.aload_n 0, 1) := by decide +kernel
theorem d_L_law_587 : decode code 587 = .ok (.iload 4, 2) := by decide +kernel
theorem d_L_law_589 : decode code 589 = .ok (.iconst 1, 1) := by decide +kernel
theorem d_L_law_590 : decode code 590 = .ok (.iadd, 1) := by decide +kernel
theorem d_L_law_591 : decode code 591 = .ok (.iaload, 1) := by decide +kernel
theorem d_L_law_592 : decode code 592 = .ok (.aload_n 0, 1) := by decide +kernel
theorem d_L_law_593 : decode code 593 = .ok (.iload 4, 2) := by decide +kernel
theorem d_L_law_595 : decode code 595 = .ok (.iconst 2, 1) := by decide +kernel
theorem d_L_law_596 : decode code 596 = .ok (.iadd, 1) := by decide +kernel
theorem d_L_law_597 : decode code 597 = .ok (.iaload, 1) := by decide +kernel
theorem d_L_law_598 : decode code 598 = .ok (.aload_n 3, 1) := by decide +kernel
theorem d_L_law_599 : decode code 599 = .ok (.invokestatic 109, 3) := by decide +kernel
theorem d_L_law_602 : decode code 602 = .ok (.istore 5, 2) := by decide +kernel
theorem d_L_law_604 : decode code 604 = .ok (.aload_n 2, 1) := by decide +kernel
theorem d_L_law_605 : decode code 605 = .ok (.aload_n 0, 1) := by decide +kernel
theorem d_L_law_606 : decode code 606 = .ok (.iload 4, 2) := by decide +kernel
theorem d_L_law_608 : decode code 608 = .ok (.iconst 1, 1) := by decide +kernel
theorem d_L_law_609 : decode code 609 = .ok (.iadd, 1) := by decide +kernel
theorem d_L_law_610 : decode code 610 = .ok (.iaload, 1) := by decide +kernel
theorem d_L_law_611 : decode code 611 = .ok (.aload_n 0, 1) := by decide +kernel
theorem d_L_law_612 : decode code 612 = .ok (.iload 4, 2) := by decide +kernel
theorem d_L_law_614 : decode code 614 = .ok (.iconst 2, 1) := by decide +kernel
theorem d_L_law_615 : decode code 615 = .ok (.iadd, 1) := by decide +kernel
theorem d_L_law_616 : decode code 616 = .ok (.iaload, 1) := by decide +kernel
theorem d_L_law_617 : decode code 617 = .ok (.invokevirtual 111, 3) := by decide +kernel
theorem d_L_law_620 : decode code 620 = .ok (.istore 6, 2) := by decide +kernel
theorem d_L_law_622 : decode code 622 = .ok (.aload_n 2, 1) := by decide +kernel
theorem d_L_law_623 : decode code 623 = .ok (.invokevirtual 75, 3) := by decide +kernel
theorem d_L_law_626 : decode code 626 = .ok (.iload 5, 2) := by decide +kernel
theorem d_L_law_628 : decode code 628 = .ok (.if_icmp .eq 5, 3) := by decide +kernel
theorem d_L_law_631 : decode code 631 = .ok (.iconst 0, 1) := by decide +kernel
theorem d_L_law_632 : decode code 632 = .ok (.ireturn, 1) := by decide +kernel
theorem d_L_law_633 : decode code 633 = .ok (.iload 5, 2) := by decide +kernel
theorem d_L_law_635 : decode code 635 = .ok (.ifCond .ne 15, 3) := by decide +kernel
theorem d_L_law_638 : decode code 638 = .ok (.aload_n 3, 1) := by decide +kernel
theorem d_L_law_639 : decode code 639 = .ok (.iconst 0, 1) := by decide +kernel
theorem d_L_law_640 : decode code 640 = .ok (.laload, 1) := by decide +kernel
theorem d_L_law_641 : decode code 641 = .ok (.iload 6, 2) := by decide +kernel
theorem d_L_law_643 : decode code 643 = .ok (.i2l, 1) := by decide +kernel
theorem d_L_law_644 : decode code 644 = .ok (.lcmp, 1) := by decide +kernel
theorem d_L_law_645 : decode code 645 = .ok (.ifCond .eq 5, 3) := by decide +kernel
theorem d_L_law_648 : decode code 648 = .ok (.iconst 0, 1) := by decide +kernel
theorem d_L_law_649 : decode code 649 = .ok (.ireturn, 1) := by decide +kernel
theorem d_L_law_650 : decode code 650 = .ok (.goto 348, 3) := by decide +kernel
theorem d_L_law_653 : decode code 653 = .ok (.aload_n 1, 1) := by decide +kernel
theorem d_L_law_654 : decode code 654 = .ok (.aload_n 0, 1) := by decide +kernel
theorem d_L_law_655 : decode code 655 = .ok (.iload 4, 2) := by decide +kernel
theorem d_L_law_657 : decode code 657 = .ok (.iconst 1, 1) := by decide +kernel
theorem d_L_law_658 : decode code 658 = .ok (.iadd, 1) := by decide +kernel
theorem d_L_law_659 : decode code 659 = .ok (.iaload, 1) := by decide +kernel
theorem d_L_law_660 : decode code 660 = .ok (.aload_n 0, 1) := by decide +kernel
theorem d_L_law_661 : decode code 661 = .ok (.iload 4, 2) := by decide +kernel
theorem d_L_law_663 : decode code 663 = .ok (.iconst 2, 1) := by decide +kernel
theorem d_L_law_664 : decode code 664 = .ok (.iadd, 1) := by decide +kernel
theorem d_L_law_665 : decode code 665 = .ok (.iaload, 1) := by decide +kernel
theorem d_L_law_666 : decode code 666 = .ok (.ifCond .eq 7, 3) := by decide +kernel
theorem d_L_law_669 : decode code 669 = .ok (.iconst 1, 1) := by decide +kernel
theorem d_L_law_670 : decode code 670 = .ok (.goto 4, 3) := by decide +kernel
theorem d_L_law_673 : decode code 673 = .ok (.iconst 0, 1) := by decide +kernel
theorem d_L_law_674 : decode code 674 = .ok (.aload_n 3, 1) := by decide +kernel
theorem d_L_law_675 : decode code 675 = .ok (.invokestatic 112, 3) := by decide +kernel
theorem d_L_law_678 : decode code 678 = .ok (.istore 5, 2) := by decide +kernel
theorem d_L_law_680 : decode code 680 = .ok (.aload_n 2, 1) := by decide +kernel
theorem d_L_law_681 : decode code 681 = .ok (.aload_n 0, 1) := by decide +kernel
theorem d_L_law_682 : decode code 682 = .ok (.iload 4, 2) := by decide +kernel
theorem d_L_law_684 : decode code 684 = .ok (.iconst 1, 1) := by decide +kernel
theorem d_L_law_685 : decode code 685 = .ok (.iadd, 1) := by decide +kernel
theorem d_L_law_686 : decode code 686 = .ok (.iaload, 1) := by decide +kernel
theorem d_L_law_687 : decode code 687 = .ok (.aload_n 0, 1) := by decide +kernel
theorem d_L_law_688 : decode code 688 = .ok (.iload 4, 2) := by decide +kernel
theorem d_L_law_690 : decode code 690 = .ok (.iconst 2, 1) := by decide +kernel
theorem d_L_law_691 : decode code 691 = .ok (.iadd, 1) := by decide +kernel
theorem d_L_law_692 : decode code 692 = .ok (.iaload, 1) := by decide +kernel
theorem d_L_law_693 : decode code 693 = .ok (.ifCond .eq 7, 3) := by decide +kernel
theorem d_L_law_696 : decode code 696 = .ok (.iconst 1, 1) := by decide +kernel
theorem d_L_law_697 : decode code 697 = .ok (.goto 4, 3) := by decide +kernel
theorem d_L_law_700 : decode code 700 = .ok (.iconst 0, 1) := by decide +kernel
theorem d_L_law_701 : decode code 701 = .ok (.invokevirtual 114, 3) := by decide +kernel
theorem d_L_law_704 : decode code 704 = .ok (.istore 6, 2) := by decide +kernel
theorem d_L_law_706 : decode code 706 = .ok (.aload_n 2, 1) := by decide +kernel
theorem d_L_law_707 : decode code 707 = .ok (.invokevirtual 75, 3) := by decide +kernel
theorem d_L_law_710 : decode code 710 = .ok (.iload 5, 2) := by decide +kernel
theorem d_L_law_712 : decode code 712 = .ok (.if_icmp .eq 5, 3) := by decide +kernel
theorem d_L_law_715 : decode code 715 = .ok (.iconst 0, 1) := by decide +kernel
theorem d_L_law_716 : decode code 716 = .ok (.ireturn, 1) := by decide +kernel
theorem d_L_law_717 : decode code 717 = .ok (.iload 5, 2) := by decide +kernel
theorem d_L_law_719 : decode code 719 = .ok (.ifCond .ne 22, 3) := by decide +kernel
theorem d_L_law_722 : decode code 722 = .ok (.aload_n 3, 1) := by decide +kernel
theorem d_L_law_723 : decode code 723 = .ok (.iconst 0, 1) := by decide +kernel
theorem d_L_law_724 : decode code 724 = .ok (.laload, 1) := by decide +kernel
theorem d_L_law_725 : decode code 725 = .ok (.iload 6, 2) := by decide +kernel
theorem d_L_law_727 : decode code 727 = .ok (.ifCond .eq 7, 3) := by decide +kernel
theorem d_L_law_730 : decode code 730 = .ok (.lconst 1, 1) := by decide +kernel
theorem d_L_law_731 : decode code 731 = .ok (.goto 4, 3) := by decide +kernel
theorem d_L_law_734 : decode code 734 = .ok (.lconst 0, 1) := by decide +kernel
theorem d_L_law_735 : decode code 735 = .ok (.lcmp, 1) := by decide +kernel
theorem d_L_law_736 : decode code 736 = .ok (.ifCond .eq 5, 3) := by decide +kernel
theorem d_L_law_739 : decode code 739 = .ok (.iconst 0, 1) := by decide +kernel
theorem d_L_law_740 : decode code 740 = .ok (.ireturn, 1) := by decide +kernel
theorem d_L_law_741 : decode code 741 = .ok (.goto 257, 3) := by decide +kernel
theorem d_L_law_744 : decode code 744 = .ok (.aload_n 1, 1) := by decide +kernel
theorem d_L_law_745 : decode code 745 = .ok (.aload_n 0, 1) := by decide +kernel
theorem d_L_law_746 : decode code 746 = .ok (.iload 4, 2) := by decide +kernel
theorem d_L_law_748 : decode code 748 = .ok (.iconst 1, 1) := by decide +kernel
theorem d_L_law_749 : decode code 749 = .ok (.iadd, 1) := by decide +kernel
theorem d_L_law_750 : decode code 750 = .ok (.iaload, 1) := by decide +kernel
theorem d_L_law_751 : decode code 751 = .ok (.invokestatic 115, 3) := by decide +kernel
theorem d_L_law_754 : decode code 754 = .ok (.istore 5, 2) := by decide +kernel
theorem d_L_law_756 : decode code 756 = .ok (.aload_n 2, 1) := by decide +kernel
theorem d_L_law_757 : decode code 757 = .ok (.aload_n 0, 1) := by decide +kernel
theorem d_L_law_758 : decode code 758 = .ok (.iload 4, 2) := by decide +kernel
theorem d_L_law_760 : decode code 760 = .ok (.iconst 1, 1) := by decide +kernel
theorem d_L_law_761 : decode code 761 = .ok (.iadd, 1) := by decide +kernel
theorem d_L_law_762 : decode code 762 = .ok (.iaload, 1) := by decide +kernel
theorem d_L_law_763 : decode code 763 = .ok (.invokevirtual 118, 3) := by decide +kernel
theorem d_L_law_766 : decode code 766 = .ok (.aload_n 2, 1) := by decide +kernel
theorem d_L_law_767 : decode code 767 = .ok (.invokevirtual 75, 3) := by decide +kernel
theorem d_L_law_770 : decode code 770 = .ok (.iload 5, 2) := by decide +kernel
theorem d_L_law_772 : decode code 772 = .ok (.if_icmp .eq 5, 3) := by decide +kernel
theorem d_L_law_775 : decode code 775 = .ok (.iconst 0, 1) := by decide +kernel
theorem d_L_law_776 : decode code 776 = .ok (.ireturn, 1) := by decide +kernel
theorem d_L_law_777 : decode code 777 = .ok (.goto 221, 3) := by decide +kernel
theorem d_L_law_780 : decode code 780 = .ok (.aload_n 1, 1) := by decide +kernel
theorem d_L_law_781 : decode code 781 = .ok (.aload_n 0, 1) := by decide +kernel
theorem d_L_law_782 : decode code 782 = .ok (.iload 4, 2) := by decide +kernel
theorem d_L_law_784 : decode code 784 = .ok (.iconst 1, 1) := by decide +kernel
theorem d_L_law_785 : decode code 785 = .ok (.iadd, 1) := by decide +kernel
theorem d_L_law_786 : decode code 786 = .ok (.iaload, 1) := by decide +kernel
theorem d_L_law_787 : decode code 787 = .ok (.aload_n 3, 1) := by decide +kernel
theorem d_L_law_788 : decode code 788 = .ok (.invokestatic 119, 3) := by decide +kernel
theorem d_L_law_791 : decode code 791 = .ok (.istore 5, 2) := by decide +kernel
theorem d_L_law_793 : decode code 793 = .ok (.aload_n 2, 1) := by decide +kernel
theorem d_L_law_794 : decode code 794 = .ok (.aload_n 0, 1) := by decide +kernel
