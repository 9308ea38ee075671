theorem d_law_500 : decode code 500 = .ok (.aload_n 0, 1) := by decide +kernel
theorem d_law_501 : decode code 501 = .ok (.iload 4, 2) := by decide +kernel
theorem d_law_503 : decode code 503 = .ok (.iconst 1, 1) := by decide +kernel
theorem d_law_504 : decode code 504 = .ok (.iadd, 1) := by decide +kernel
theorem d_law_505 : decode code 505 = .ok (.iaload, 1) := by decide +kernel
theorem d_law_506 : decode code 506 = .ok (.aload_n 0, 1) := by decide +kernel
theorem d_law_507 : decode code 507 = .ok (.iload 4, 2) := by decide +kernel
theorem d_law_509 : decode code 509 = .ok (.iconst 2, 1) := by decide +kernel
theorem d_law_510 : decode code 510 = .ok (.iadd, 1) := by decide +kernel
theorem d_law_511 : decode code 511 = .ok (.iaload, 1) := by decide +kernel
theorem d_law_512 : decode code 512 = .ok (.aload_n 0, 1) := by decide +kernel
theorem d_law_513 : decode code 513 = .ok (.iload 4, 2) := by decide +kernel
theorem d_law_515 : decode code 515 = .ok (.iconst 3, 1) := by decide +kernel
theorem d_law_516 : decode code 516 = .ok (.iadd, 1) := by decide +kernel
theorem d_law_517 : decode code 517 = .ok (.iaload, 1) := by decide +kernel
theorem d_law_518 : decode code 518 = .ok (.invokevirtual 78, 3) := by decide +kernel
theorem d_law_521 : decode code 521 = .ok (.lcmp, 1) := by decide +kernel
theorem d_law_522 : decode code 522 = .ok (.ifCond .eq 653, 3) := by decide +kernel
theorem d_law_525 : decode code 525 = .ok (.iconst 0, 1) := by decide +kernel
theorem d_law_526 : decode code 526 = .ok (.ireturn, 1) := by decide +kernel
theorem d_law_527 : decode code 527 = .ok (.aload_n 1, 1) := by decide +kernel
theorem d_law_528 : decode code 528 = .ok (.aload_n 0, 1) := by decide +kernel
theorem d_law_529 : decode code 529 = .ok (.iload 4, 2) := by decide +kernel
theorem d_law_531 : decode code 531 = .ok (.iconst 1, 1) := by decide +kernel
theorem d_law_532 : decode code 532 = .ok (.iadd, 1) := by decide +kernel
theorem d_law_533 : decode code 533 = .ok (.iaload, 1) := by decide +kernel
theorem d_law_534 : decode code 534 = .ok (.aload_n 0, 1) := by decide +kernel
theorem d_law_535 : decode code 535 = .ok (.iload 4, 2) := by decide +kernel
theorem d_law_537 : decode code 537 = .ok (.iconst 2, 1) := by decide +kernel
theorem d_law_538 : decode code 538 = .ok (.iadd, 1) := by decide +kernel
theorem d_law_539 : decode code 539 = .ok (.iaload, 1) := by decide +kernel
theorem d_law_540 : decode code 540 = .ok (.aload_n 0, 1) := by decide +kernel
theorem d_law_541 : decode code 541 = .ok (.iload 4, 2) := by decide +kernel
theorem d_law_543 : decode code 543 = .ok (.iconst 3, 1) := by decide +kernel
theorem d_law_544 : decode code 544 = .ok (.iadd, 1) := by decide +kernel
theorem d_law_545 : decode code 545 = .ok (.iaload, 1) := by decide +kernel
theorem d_law_546 : decode code 546 = .ok (.invokevirtual 79, 3) := by decide +kernel
theorem d_law_549 : decode code 549 = .ok (.aload_n 2, 1) := by decide +kernel
theorem d_law_550 : decode code 550 = .ok (.aload_n 0, 1) := by decide +kernel
theorem d_law_551 : decode code 551 = .ok (.iload 4, 2) := by decide +kernel
theorem d_law_553 : decode code 553 = .ok (.iconst 1, 1) := by decide +kernel
theorem d_law_554 : decode code 554 = .ok (.iadd, 1) := by decide +kernel
theorem d_law_555 : decode code 555 = .ok (.iaload, 1) := by decide +kernel
theorem d_law_556 : decode code 556 = .ok (.aload_n 0, 1) := by decide +kernel
theorem d_law_557 : decode code 557 = .ok (.iload 4, 2) := by decide +kernel
theorem d_law_559 : decode code 559 = .ok (.iconst 2, 1) := by decide +kernel
theorem d_law_560 : decode code 560 = .ok (.iadd, 1) := by decide +kernel
theorem d_law_561 : decode code 561 = .ok (.iaload, 1) := by decide +kernel
theorem d_law_562 : decode code 562 = .ok (.aload_n 0, 1) := by decide +kernel
theorem d_law_563 : decode code 563 = .ok (.iload 4, 2) := by decide +kernel
theorem d_law_565 : decode code 565 = .ok (.iconst 3, 1) := by decide +kernel
theorem d_law_566 : decode code 566 = .ok (.iadd, 1) := by decide +kernel
theorem d_law_567 : decode code 567 = .ok (.iaload, 1) := by decide +kernel
theorem d_law_568 : decode code 568 = .ok (.invokevirtual 82, 3) := by decide +kernel
theorem d_law_571 : decode code 571 = .ok (.lcmp, 1) := by decide +kernel
theorem d_law_572 : decode code 572 = .ok (.ifCond .eq 603, 3) := by decide +kernel
theorem d_law_575 : decode code 575 = .ok (.iconst 0, 1) := by decide +kernel
theorem d_law_576 : decode code 576 = .ok (.ireturn, 1) := by decide +kernel
theorem d_law_577 : decode code 577 = .ok (.aload_n 1, 1) := by decide +kernel
theorem d_law_578 : decode code 578 = .ok (.aload_n 0, 1) := by decide +kernel
theorem d_law_579 : decode code 579 = .ok (.iload 4, 2) := by decide +kernel
theorem d_law_581 : decode code 581 = .ok (.iconst 1, 1) := by decide +kernel
theorem d_law_582 : decode code 582 = .ok (.iadd, 1) := by decide +kernel
theorem d_law_583 : decode code 583 = .ok (.iaload, 1) := by decide +kernel
theorem d_law_584 : decode code 584 = .ok (.aload_n 0, 1) := by decide +kernel
theorem d_law_585 : decode code 585 = .ok (.iload 4, 2) := by decide +kernel
theorem d_law_587 : decode code 587 = .ok (.iconst 2, 1) := by decide +kernel
theorem d_law_588 : decode code 588 = .ok (.iadd, 1) := by decide +kernel
theorem d_law_589 : decode code 589 = .ok (.iaload, 1) := by decide +kernel
theorem d_law_590 : decode code 590 = .ok (.aload_n 0, 1) := by decide +kernel
theorem d_law_591 : decode code 591 = .ok (.iload 4, 2) := by decide +kernel
theorem d_law_593 : decode code 593 = .ok (.iconst 3, 1) := by decide +kernel
theorem d_law_594 : decode code 594 = .ok (.iadd, 1) := by decide +kernel
theorem d_law_595 : decode code 595 = .ok (.iaload, 1) := by decide +kernel
theorem d_law_596 : decode code 596 = .ok (.ifCond .eq 7, 3) := by decide +kernel
theorem d_law_599 : decode code 599 = .ok (.iconst 1, 1) := by decide +kernel
theorem d_law_600 : decode code 600 = .ok (.goto 4, 3) := by decide +kernel
theorem d_law_603 : decode code 603 = .ok (.iconst 0, 1) := by decide +kernel
theorem d_law_604 : decode code 604 = .ok (.invokevirtual 83, 3) := by decide +kernel
theorem d_law_607 : decode code 607 = .ok (.aload_n 2, 1) := by decide +kernel
theorem d_law_608 : decode code 608 = .ok (.aload_n 0, 1) := by decide +kernel
theorem d_law_609 : decode code 609 = .ok (.iload 4, 2) := by decide +kernel
theorem d_law_611 : decode code 611 = .ok (.iconst 1, 1) := by decide +kernel
theorem d_law_612 : decode code 612 = .ok (.iadd, 1) := by decide +kernel
theorem d_law_613 : decode code 613 = .ok (.iaload, 1) := by decide +kernel
theorem d_law_614 : decode code 614 = .ok (.aload_n 0, 1) := by decide +kernel
theorem d_law_615 : decode code 615 = .ok (.iload 4, 2) := by decide +kernel
theorem d_law_617 : decode code 617 = .ok (.iconst 2, 1) := by decide +kernel
theorem d_law_618 : decode code 618 = .ok (.iadd, 1) := by decide +kernel
theorem d_law_619 : decode code 619 = .ok (.iaload, 1) := by decide +kernel
theorem d_law_620 : decode code 620 = .ok (.aload_n 0, 1) := by decide +kernel
theorem d_law_621 : decode code 621 = .ok (.iload 4, 2) := by decide +kernel
theorem d_law_623 : decode code 623 = .ok (.iconst 3, 1) := by decide +kernel
theorem d_law_624 : decode code 624 = .ok (.iadd, 1) := by decide +kernel
theorem d_law_625 : decode code 625 = .ok (.iaload, 1) := by decide +kernel
theorem d_law_626 : decode code 626 = .ok (.ifCond .eq 7, 3) := by decide +kernel
theorem d_law_629 : decode code 629 = .ok (.iconst 1, 1) := by decide +kernel
theorem d_law_630 : decode code 630 = .ok (.goto 4, 3) := by decide +kernel
theorem d_law_633 : decode code 633 = .ok (.iconst 0, 1) := by decide +kernel
theorem d_law_634 : decode code 634 = .ok (.invokevirtual 87, 3) := by decide +kernel
theorem d_law_637 : decode code 637 = .ok (.lcmp, 1) := by decide +kernel
theorem d_law_638 : decode code 638 = .ok (.ifCond .eq 537, 3) := by decide +kernel
theorem d_law_641 : decode code 641 = .ok (.iconst 0, 1) := by decide +kernel
theorem d_law_642 : decode code 642 = .ok (.ireturn, 1) := by decide +kernel
theorem d_law_643 : decode code 643 = .ok (.aload_n 1, 1) := by decide +kernel
theorem d_law_644 : decode code 644 = .ok (.aload_n 0, 1) := by decide +kernel
theorem d_law_645 : decode code 645 = .ok (.iload 4, 2) := by decide +kernel
theorem d_law_647 : decode code 647 = .ok (.iconst 1, 1) := by decide +kernel
theorem d_law_648 : decode code 648 = .ok (.iadd, 1) := by decide +kernel
theorem d_law_649 : decode code 649 = .ok (.iaload, 1) := by decide +kernel
theorem d_law_650 : decode code 650 = .ok (.i2l, 1) := by decide +kernel
theorem d_law_651 : decode code 651 = .ok (.bipush 32, 2) := by decide +kernel
theorem d_law_653 : decode code 653 = .ok (.lshl, 1) := by decide +kernel
theorem d_law_654 : decode code 654 = .ok (.aload_n 0, 1) := by decide +kernel
theorem d_law_655 : decode code 655 = .ok (.iload 4, 2) := by decide +kernel
theorem d_law_657 : decode code 657 = .ok (.iconst 2, 1) := by decide +kernel
theorem d_law_658 : decode code 658 = .ok (.iadd, 1) := by decide +kernel
theorem d_law_659 : decode code 659 = .ok (.iaload, 1) := by decide +kernel
theorem d_law_660 : decode code 660 = .ok (.i2l, 1) := by decide +kernel
theorem d_law_661 : decode code 661 = .ok (.ldc2_w 88, 3) := by decide +kernel
theorem d_law_664 : decode code 664 = .ok (.land, 1) := by decide +kernel
theorem d_law_665 : decode code 665 = .ok (.lor, 1) := by decide +kernel
theorem d_law_666 : decode code 666 = .ok (.aload_n 0, 1) := by decide +kernel
theorem d_law_667 : decode code 667 = .ok (.iload 4, 2) := by decide +kernel
theorem d_law_669 : decode code 669 = .ok (.iconst 3, 1) := by decide +kernel
theorem d_law_670 : decode code 670 = .ok (.iadd, 1) := by decide +kernel
theorem d_law_671 : decode code 671 = .ok (.iaload, 1) := by decide +kernel
theorem d_law_672 : decode code 672 = .ok (.i2l, 1) := by decide +kernel
theorem d_law_673 : decode code 673 = .ok (.bipush 32, 2) := by decide +kernel
theorem d_law_675 : decode code 675 = .ok (.lshl, 1) := by decide +kernel
theorem d_law_676 : decode code 676 = .ok (.aload_n 0, 1) := by decide +kernel
theorem d_law_677 : decode code 677 = .ok (.iload 4, 2) := by decide +kernel
theorem d_law_679 : decode code 679 = .ok (.iconst 4, 1) := by decide +kernel
theorem d_law_680 : decode code 680 = .ok (.iadd, 1) := by decide +kernel
theorem d_law_681 : decode code 681 = .ok (.iaload, 1) := by decide +kernel
theorem d_law_682 : decode code 682 = .ok (.i2l, 1) := by decide +kernel
theorem d_law_683 : decode code 683 = .ok (.ldc2_w 88, 3) := by decide +kernel
theorem d_law_686 : decode code 686 = .ok (.land, 1) := by decide +kernel
theorem d_law_687 : decode code 687 = .ok (.lor, 1) := by decide +kernel
theorem d_law_688 : decode code 688 = .ok (.aload_n 0, 1) := by decide +kernel
theorem d_law_689 : decode code 689 = .ok (.iload 4, 2) := by decide +kernel
theorem d_law_691 : decode code 691 = .ok (.iconst 5, 1) := by decide +kernel
theorem d_law_692 : decode code 692 = .ok (.iadd, 1) := by decide +kernel
theorem d_law_693 : decode code 693 = .ok (.iaload, 1) := by decide +kernel
theorem d_law_694 : decode code 694 = .ok (.ifCond .eq 7, 3) := by decide +kernel
theorem d_law_697 : decode code 697 = .ok (.iconst 1, 1) := by decide +kernel
theorem d_law_698 : decode code 698 = .ok (.goto 4, 3) := by decide +kernel
theorem d_law_701 : decode code 701 = .ok (.iconst 0, 1) := by decide +kernel
theorem d_law_702 : decode code 702 = .ok (.aload_n 3, 1) := by decide +kernel
theorem d_law_703 : decode code 703 = .ok (.invokestatic 90, 3) := by decide +kernel
theorem d_law_706 : decode code 706 = .ok (.istore 5, 2) := by decide +kernel
theorem d_law_708 : decode code 708 = .ok (.aload_n 2, 1) := by decide +kernel
theorem d_law_709 : decode code 709 = .ok (.aload_n 0, 1) := by decide +kernel
theorem d_law_710 : decode code 710 = .ok (.iload 4, 2) := by decide +kernel
theorem d_law_712 : decode code 712 = .ok (.iconst 1, 1) := by decide +kernel
theorem d_law_713 : decode code 713 = .ok (.iadd, 1) := by decide +kernel
theorem d_law_714 : decode code 714 = .ok (.iaload, 1) := by decide +kernel
theorem d_law_715 : decode code 715 = .ok (.i2l, 1) := by decide +kernel
theorem d_law_716 : decode code 716 = .ok (.bipush 32, 2) := by decide +kernel
theorem d_law_718 : decode code 718 = .ok (.lshl, 1) := by decide +kernel
theorem d_law_719 : decode code 719 = .ok (.aload_n 0, 1) := by decide +kernel
theorem d_law_720 : decode code 720 = .ok (.iload 4, 2) := by decide +kernel
theorem d_law_722 : decode code 722 = .ok (.iconst 2, 1) := by decide +kernel
theorem d_law_723 : decode code 723 = .ok (.iadd, 1) := by decide +kernel
theorem d_law_724 : decode code 724 = .ok (.iaload, 1) := by decide +kernel
theorem d_law_725 : decode code 725 = .ok (.i2l, 1) := by decide +kernel
theorem d_law_726 : decode code 726 = .ok (.ldc2_w 88, 3) := by decide +kernel
theorem d_law_729 : decode code 729 = .ok (.land, 1) := by decide +kernel
theorem d_law_730 : decode code 730 = .ok (.lor, 1) := by decide +kernel
theorem d_law_731 : decode code 731 = .ok (.aload_n 0, 1) := by decide +kernel
theorem d_law_732 : decode code 732 = .ok (.iload 4, 2) := by decide +kernel
theorem d_law_734 : decode code 734 = .ok (.iconst 3, 1) := by decide +kernel
theorem d_law_735 : decode code 735 = .ok (.iadd, 1) := by decide +kernel
theorem d_law_736 : decode code 736 = .ok (.iaload, 1) := by decide +kernel
theorem d_law_737 : decode code 737 = .ok (.i2l, 1) := by decide +kernel
theorem d_law_738 : decode code 738 = .ok (.bipush 32, 2) := by decide +kernel
theorem d_law_740 : decode code 740 = .ok (.lshl, 1) := by decide +kernel
theorem d_law_741 : decode code 741 = .ok (.aload_n 0, 1) := by decide +kernel
theorem d_law_742 : decode code 742 = .ok (.iload 4, 2) := by decide +kernel
theorem d_law_744 : decode code 744 = .ok (.iconst 4, 1) := by decide +kernel
theorem d_law_745 : decode code 745 = .ok (.iadd, 1) := by decide +kernel
theorem d_law_746 : decode code 746 = .ok (.iaload, 1) := by decide +kernel
theorem d_law_747 : decode code 747 = .ok (.i2l, 1) := by decide +kernel
theorem d_law_748 : decode code 748 = .ok (.ldc2_w 88, 3) := by decide +kernel
theorem d_law_751 : decode code 751 = .ok (.land, 1) := by decide +kernel
theorem d_law_752 : decode code 752 = .ok (.lor, 1) := by decide +kernel
theorem d_law_753 : decode code 753 = .ok (.aload_n 0, 1) := by decide +kernel
theorem d_law_754 : decode code 754 = .ok (.iload 4, 2) := by decide +kernel
theorem d_law_756 : decode code 756 = .ok (.iconst 5, 1) := by decide +kernel
theorem d_law_757 : decode code 757 = .ok (.iadd, 1) := by decide +kernel
theorem d_law_758 : decode code 758 = .ok (.iaload, 1) := by decide +kernel
theorem d_law_759 : decode code 759 = .ok (.ifCond .eq 7, 3) := by decide +kernel
theorem d_law_762 : decode code 762 = .ok (.iconst 1, 1) := by decide +kernel
theorem d_law_763 : decode code 763 = .ok (.goto 4, 3) := by decide +kernel
theorem d_law_766 : decode code 766 = .ok (.iconst 0, 1) := by decide +kernel
theorem d_law_767 : decode code 767 = .ok (.invokevirtual 93, 3) := by decide +kernel
theorem d_law_770 : decode code 770 = .ok (.lstore 6, 2) := by decide +kernel
theorem d_law_772 : decode code 772 = .ok (.aload_n 2, 1) := by decide +kernel
theorem d_law_773 : decode code 773 = .ok (.invokevirtual 33, 3) := by decide +kernel
theorem d_law_776 : decode code 776 = .ok (.iload 5, 2) := by decide +kernel
theorem d_law_778 : decode code 778 = .ok (.if_icmp .eq 5, 3) := by decide +kernel
theorem d_law_781 : decode code 781 = .ok (.iconst 0, 1) := by decide +kernel
theorem d_law_782 : decode code 782 = .ok (.ireturn, 1) := by decide +kernel
theorem d_law_783 : decode code 783 = .ok (.iload 5, 2) := by decide +kernel
theorem d_law_785 : decode code 785 = .ok (.ifCond .ne 14, 3) := by decide +kernel
theorem d_law_788 : decode code 788 = .ok (.aload_n 3, 1) := by decide +kernel
theorem d_law_789 : decode code 789 = .ok (.iconst 0, 1) := by decide +kernel
theorem d_law_790 : decode code 790 = .ok (.laload, 1) := by decide +kernel
theorem d_law_791 : decode code 791 = .ok (.lload 6, 2) := by decide +kernel
theorem d_law_793 : decode code 793 = .ok (.lcmp, 1) := by decide +kernel
theorem d_law_794 : decode code 794 = .ok (.ifCond .eq 5, 3) := by decide +kernel
theorem d_law_797 : decode code 797 = .ok (.iconst 0, 1) := by decide +kernel
theorem d_law_798 : decode code 798 = .ok (.ireturn, 1) := by decide +kernel
theorem d_law_799 : decode code 799 = .ok (.goto 376, 3) := by decide +kernel
theorem d_law_802 : decode code 802 = .ok (.aload_n 1, 1) := by decide +kernel
theorem d_law_803 : decode code 803 = .ok (.aload_n 0, 1) := by decide +kernel
theorem d_law_804 : decode code 804 = .ok (.iload 4, 2) := by decide +kernel
theorem d_law_806 : decode code 806 = .ok (.iconst 1, 1) := by decide +kernel
theorem d_law_807 : decode code 807 = .ok (.iadd, 1) := by decide +kernel
theorem d_law_808 : decode code 808 = .ok (.iaload, 1) := by decide +kernel
theorem d_law_809 : decode code 809 = .ok (.aload_n 0, 1) := by decide +kernel
theorem d_law_810 : decode code 810 = .ok (.iload 4, 2) := by decide +kernel
theorem d_law_812 : decode code 812 = .ok (.iconst 2, 1) := by decide +kernel
theorem d_law_813 : decode code 813 = .ok (.iadd, 1) := by decide +kernel
theorem d_law_814 : decode code 814 = .ok (.iaload, 1) := by decide +kernel
theorem d_law_815 : decode code 815 = .ok (.i2l, 1) := by decide +kernel
theorem d_law_816 : decode code 816 = .ok (.bipush 32, 2) := by decide +kernel
theorem d_law_818 : decode code 818 = .ok (.lshl, 1) := by decide +kernel
theorem d_law_819 : decode code 819 = .ok (.aload_n 0, 1) := by decide +kernel
theorem d_law_820 : decode code 820 = .ok (.iload 4, 2) := by decide +kernel
theorem d_law_822 : decode code 822 = .ok (.iconst 3, 1) := by decide +kernel
theorem d_law_823 : decode code 823 = .ok (.iadd, 1) := by decide +kernel
theorem d_law_824 : decode code 824 = .ok (.iaload, 1) := by decide +kernel
theorem d_law_825 : decode code 825 = .ok (.i2l, 1) := by decide +kernel
theorem d_law_826 : decode code 826 = .ok (.ldc2_w 88, 3) := by decide +kernel
theorem d_law_829 : decode code 829 = .ok (.land, 1) := by decide +kernel
theorem d_law_830 : decode code 830 = .ok (.lor, 1) := by decide +kernel
theorem d_law_831 : decode code 831 = .ok (.aload_n 0, 1) := by decide +kernel
theorem d_law_832 : decode code 832 = .ok (.iload 4, 2) := by decide +kernel
theorem d_law_834 : decode code 834 = .ok (.iconst 4, 1) := by decide +kernel
theorem d_law_835 : decode code 835 = .ok (.iadd, 1) := by decide +kernel
theorem d_law_836 : decode code 836 = .ok (.iaload, 1) := by decide +kernel
theorem d_law_837 : decode code 837 = .ok (.invokevirtual 94, 3) := by decide +kernel
theorem d_law_840 : decode code 840 = .ok (.aload_n 2, 1) := by decide +kernel
theorem d_law_841 : decode code 841 = .ok (.aload_n 0, 1) := by decide +kernel
theorem d_law_842 : decode code 842 = .ok (.iload 4, 2) := by decide +kernel
theorem d_law_844 : decode code 844 = .ok (.iconst 1, 1) := by decide +kernel
theorem d_law_845 : decode code 845 = .ok (.iadd, 1) := by decide +kernel
theorem d_law_846 : decode code 846 = .ok (.iaload, 1) := by decide +kernel
theorem d_law_847 : decode code 847 = .ok (.aload_n 0, 1) := by decide +kernel
theorem d_law_848 : decode code 848 = .ok (.iload 4, 2) := by decide +kernel
theorem d_law_850 : decode code 850 = .ok (.iconst 2, 1) := by decide +kernel
theorem d_law_851 : decode code 851 = .ok (.iadd, 1) := by decide +kernel
theorem d_law_852 : decode code 852 = .ok (.iaload, 1) := by decide +kernel
theorem d_law_853 : decode code 853 = .ok (.i2l, 1) := by decide +kernel
theorem d_law_854 : decode code 854 = .ok (.bipush 32, 2) := by decide +kernel
theorem d_law_856 : decode code 856 = .ok (.lshl, 1) := by decide +kernel
theorem d_law_857 : decode code 857 = .ok (.aload_n 0, 1) := by decide +kernel
theorem d_law_858 : decode code 858 = .ok (.iload 4, 2) := by decide +kernel
theorem d_law_860 : decode code 860 = .ok (.iconst 3, 1) := by decide +kernel
theorem d_law_861 : decode code 861 = .ok (.iadd, 1) := by decide +kernel
theorem d_law_862 : decode code 862 = .ok (.iaload, 1) := by decide +kernel
theorem d_law_863 : decode code 863 = .ok (.i2l, 1) := by decide +kernel
theorem d_law_864 : decode code 864 = .ok (.ldc2_w 88, 3) := by decide +kernel
theorem d_law_867 : decode code 867 = .ok (.land, 1) := by decide +kernel
theorem d_law_868 : decode code 868 = .ok (.lor, 1) := by decide +kernel
theorem d_law_869 : decode code 869 = .ok (.aload_n 0, 1) := by decide +kernel
theorem d_law_870 : decode code 870 = .ok (.iload 4, 2) := by decide +kernel
theorem d_law_872 : decode code 872 = .ok (.iconst 4, 1) := by decide +kernel
theorem d_law_873 : decode code 873 = .ok (.iadd, 1) := by decide +kernel
theorem d_law_874 : decode code 874 = .ok (.iaload, 1) := by decide +kernel
theorem d_law_875 : decode code 875 = .ok (.invokevirtual 98, 3) := by decide +kernel
theorem d_law_878 : decode code 878 = .ok (.if_icmp .eq 297, 3) := by decide +kernel
theorem d_law_881 : decode code 881 = .ok (.iconst 0, 1) := by decide +kernel
theorem d_law_882 : decode code 882 = .ok (.ireturn, 1) := by decide +kernel
theorem d_law_883 : decode code 883 = .ok (.aload_n 1, 1) := by decide +kernel
theorem d_law_884 : decode code 884 = .ok (.aload_n 0, 1) := by decide +kernel
theorem d_law_885 : decode code 885 = .ok (.iload 4, 2) := by decide +kernel
theorem d_law_887 : decode code 887 = .ok (.iconst 1, 1) := by decide +kernel
theorem d_law_888 : decode code 888 = .ok (.iadd, 1) := by decide +kernel
theorem d_law_889 : decode code 889 = .ok (.iaload, 1) := by decide +kernel
theorem d_law_890 : decode code 890 = .ok (.aload_n 0, 1) := by decide +kernel
theorem d_law_891 : decode code 891 = .ok (.iload 4, 2) := by decide +kernel
theorem d_law_893 : decode code 893 = .ok (.iconst 2, 1) := by decide +kernel
theorem d_law_894 : decode code 894 = .ok (.iadd, 1) := by decide +kernel
theorem d_law_895 : decode code 895 = .ok (.iaload, 1) := by decide +kernel
theorem d_law_896 : decode code 896 = .ok (.aload_n 3, 1) := by decide +kernel
theorem d_law_897 : decode code 897 = .ok (.invokestatic 99, 3) := by decide +kernel
theorem d_law_900 : decode code 900 = .ok (.istore 5, 2) := by decide +kernel
theorem d_law_902 : decode code 902 = .ok (.aload_n 2, 1) := by decide +kernel
theorem d_law_903 : decode code 903 = .ok (.aload_n 0, 1) := by decide +kernel
theorem d_law_904 : decode code 904 = .ok (.iload 4, 2) := by decide +kernel
theorem d_law_906 : decode code 906 = .ok (.iconst 1, 1) := by decide +kernel
theorem d_law_907 : decode code 907 = .ok (.iadd, 1) := by decide +kernel
theorem d_law_908 : decode code 908 = .ok (.iaload, 1) := by decide +kernel
theorem d_law_909 : decode code 909 = .ok (.aload_n 0, 1) := by decide +kernel
theorem d_law_910 : decode code 910 = .ok (.iload 4, 2) := by decide +kernel
theorem d_law_912 : decode code 912 = .ok (.iconst 2, 1) := by decide +kernel
theorem d_law_913 : decode code 913 = .ok (.iadd, 1) := by decide +kernel
theorem d_law_914 : decode code 914 = .ok (.iaload, 1) := by decide +kernel
theorem d_law_915 : decode code 915 = .ok (.invokevirtual 102, 3) := by decide +kernel
theorem d_law_918 : decode code 918 = .ok (.istore 6, 2) := by decide +kernel
theorem d_law_920 : decode code 920 = .ok (.aload_n 2, 1) := by decide +kernel
theorem d_law_921 : decode code 921 = .ok (.invokevirtual 33, 3) := by decide +kernel
theorem d_law_924 : decode code 924 = .ok (.iload 5, 2) := by decide +kernel
theorem d_law_926 : decode code 926 = .ok (.if_icmp .eq 5, 3) := by decide +kernel
theorem d_law_929 : decode code 929 = .ok (.iconst 0, 1) := by decide +kernel
theorem d_law_930 : decode code 930 = .ok (.ireturn, 1) := by decide +kernel
theorem d_law_931 : decode code 931 = .ok (.iload 5, 2) := by decide +kernel
theorem d_law_933 : decode code 933 = .ok (.ifCond .ne 15, 3) := by decide +kernel
theorem d_law_936 : decode code 936 = .ok (.aload_n 3, 1) := by decide +kernel
theorem d_law_937 : decode code 937 = .ok (.iconst 0, 1) := by decide +kernel
theorem d_law_938 : decode code 938 = .ok (.laload, 1) := by decide +kernel
theorem d_law_939 : decode code 939 = .ok (.iload 6, 2) := by decide +kernel
theorem d_law_941 : decode code 941 = .ok (.i2l, 1) := by decide +kernel
theorem d_law_942 : decode code 942 = .ok (.lcmp, 1) := by decide +kernel
theorem d_law_943 : decode code 943 = .ok (.ifCond .eq 5, 3) := by decide +kernel
theorem d_law_946 : decode code 946 = .ok (.iconst 0, 1) := by decide +kernel
theorem d_law_947 : decode code 947 = .ok (.ireturn, 1) := by decide +kernel
theorem d_law_948 : decode code 948 = .ok (.goto 227, 3) := by decide +kernel
theorem d_law_951 : decode code 951 = .ok (.aload_n 1, 1) := by decide +kernel
theorem d_law_952 : decode code 952 = .ok (.aload_n 0, 1) := by decide +kernel
theorem d_law_953 : decode code 953 = .ok (.iload 4, 2) := by decide +kernel
theorem d_law_955 : decode code 955 = .ok (.iconst 1, 1) := by decide +kernel
theorem d_law_956 : decode code 956 = .ok (.iadd, 1) := by decide +kernel
theorem d_law_957 : decode code 957 = .ok (.iaload, 1) := by decide +kernel
theorem d_law_958 : decode code 958 = .ok (.invokevirtual 103, 3) := by decide +kernel
theorem d_law_961 : decode code 961 = .ok (.aload_n 2, 1) := by decide +kernel
theorem d_law_962 : decode code 962 = .ok (.aload_n 0, 1) := by decide +kernel
theorem d_law_963 : decode code 963 = .ok (.iload 4, 2) := by decide +kernel
theorem d_law_965 : decode code 965 = .ok (.iconst 1, 1) := by decide +kernel
theorem d_law_966 : decode code 966 = .ok (.iadd, 1) := by decide +kernel
theorem d_law_967 : decode code 967 = .ok (.iaload, 1) := by decide +kernel
theorem d_law_968 : decode code 968 = .ok (.invokevirtual 106, 3) := by decide +kernel
theorem d_law_971 : decode code 971 = .ok (.lcmp, 1) := by decide +kernel
theorem d_law_972 : decode code 972 = .ok (.ifCond .eq 203, 3) := by decide +kernel
theorem d_law_975 : decode code 975 = .ok (.iconst 0, 1) := by decide +kernel
theorem d_law_976 : decode code 976 = .ok (.ireturn, 1) := by decide +kernel
theorem d_law_977 : decode code 977 = .ok (.aload_n 1, 1) := by decide +kernel
theorem d_law_978 : decode code 978 = .ok (.aload_n 0, 1) := by decide +kernel
theorem d_law_979 : decode code 979 = .ok (.iload 4, 2) := by decide +kernel
theorem d_law_981 : decode code 981 = .ok (.iconst 1, 1) := by decide +kernel
theorem d_law_982 : decode code 982 = .ok (.iadd, 1) := by decide +kernel
theorem d_law_983 : decode code 983 = .ok (.iaload, 1) := by decide +kernel
theorem d_law_984 : decode code 984 = .ok (.aload_n 0, 1) := by decide +kernel
theorem d_law_985 : decode code 985 = .ok (.iload 4, 2) := by decide +kernel
theorem d_law_987 : decode code 987 = .ok (.iconst 2, 1) := by decide +kernel
theorem d_law_988 : decode code 988 = .ok (.iadd, 1) := by decide +kernel
theorem d_law_989 : decode code 989 = .ok (.iaload, 1) := by decide +kernel
theorem d_law_990 : decode code 990 = .ok (.invokevirtual 107, 3) := by decide +kernel
theorem d_law_993 : decode code 993 = .ok (.aload_n 2, 1) := by decide +kernel
theorem d_law_994 : decode code 994 = .ok (.aload_n 0, 1) := by decide +kernel
theorem d_law_995 : decode code 995 = .ok (.iload 4, 2) := by decide +kernel
theorem d_law_997 : decode code 997 = .ok (.iconst 1, 1) := by decide +kernel
theorem d_law_998 : decode code 998 = .ok (.iadd, 1) := by decide +kernel
theorem d_law_999 : decode code 999 = .ok (.iaload, 1) := by decide +kernel
theorem d_law_1000 : decode code 1000 = .ok (.aload_n 0, 1) := by decide +kernel
theorem d_law_1001 : decode code 1001 = .ok (.iload 4, 2) := by decide +kernel
theorem d_law_1003 : decode code 1003 = .ok (.iconst 2, 1) := by decide +kernel
theorem d_law_1004 : decode code 1004 = .ok (.iadd, 1) := by decide +kernel
theorem d_law_1005 : decode code 1005 = .ok (.iaload, 1) := by decide +kernel
theorem d_law_1006 : decode code 1006 = .ok (.invokevirtual 110, 3) := by decide +kernel
theorem d_law_1009 : decode code 1009 = .ok (.if_icmp .eq 166, 3) := by decide +kernel
theorem d_law_1012 : decode code 1012 = .ok (.iconst 0, 1) := by decide +kernel
theorem d_law_1013 : decode code 1013 = .ok (.ireturn, 1) := by decide +kernel
theorem d_law_1014 : decode code 1014 = .ok (.aload_n 1, 1) := by decide +kernel
theorem d_law_1015 : decode code 1015 = .ok (.aload_n 0, 1) := by decide +kernel
theorem d_law_1016 : decode code 1016 = .ok (.iload 4, 2) := by decide +kernel
theorem d_law_1018 : decode code 1018 = .ok (.iconst 1, 1) := by decide +kernel
theorem d_law_1019 : decode code 1019 = .ok (.iadd, 1) := by decide +kernel
theorem d_law_1020 : decode code 1020 = .ok (.iaload, 1) := by decide +kernel
theorem d_law_1021 : decode code 1021 = .ok (.invokevirtual 111, 3) := by decide +kernel
theorem d_law_1024 : decode code 1024 = .ok (.aload_n 2, 1) := by decide +kernel
theorem d_law_1025 : decode code 1025 = .ok (.aload_n 0, 1) := by decide +kernel
theorem d_law_1026 : decode code 1026 = .ok (.iload 4, 2) := by decide +kernel
theorem d_law_1028 : decode code 1028 = .ok (.iconst 1, 1) := by decide +kernel
theorem d_law_1029 : decode code 1029 = .ok (.iadd, 1) := by decide +kernel
theorem d_law_1030 : decode code 1030 = .ok (.iaload, 1) := by decide +kernel
theorem d_law_1031 : decode code 1031 = .ok (.invokevirtual 114, 3) := by decide +kernel
theorem d_law_1034 : decode code 1034 = .ok (.if_icmp .eq 141, 3) := by decide +kernel
theorem d_law_1037 : decode code 1037 = .ok (.iconst 0, 1) := by decide +kernel
theorem d_law_1038 : decode code 1038 = .ok (.ireturn, 1) := by decide +kernel
theorem d_law_1039 : decode code 1039 = .ok (.aload_n 1, 1) := by decide +kernel
theorem d_law_1040 : decode code 1040 = .ok (.aload_n 0, 1) := by decide +kernel
theorem d_law_1041 : decode code 1041 = .ok (.iload 4, 2) := by decide +kernel
theorem d_law_1043 : decode code 1043 = .ok (.iconst 1, 1) := by decide +kernel
theorem d_law_1044 : decode code 1044 = .ok (.iadd, 1) := by decide +kernel
theorem d_law_1045 : decode code 1045 = .ok (.iaload, 1) := by decide +kernel
theorem d_law_1046 : decode code 1046 = .ok (.aload_n 0, 1) := by decide +kernel
theorem d_law_1047 : decode code 1047 = .ok (.iload 4, 2) := by decide +kernel
theorem d_law_1049 : decode code 1049 = .ok (.iconst 2, 1) := by decide +kernel
theorem d_law_1050 : decode code 1050 = .ok (.iadd, 1) := by decide +kernel
theorem d_law_1051 : decode code 1051 = .ok (.iaload, 1) := by decide +kernel
theorem d_law_1052 : decode code 1052 = .ok (.invokevirtual 115, 3) := by decide +kernel
theorem d_law_1055 : decode code 1055 = .ok (.aload_n 2, 1) := by decide +kernel
theorem d_law_1056 : decode code 1056 = .ok (.aload_n 0, 1) := by decide +kernel
theorem d_law_1057 : decode code 1057 = .ok (.iload 4, 2) := by decide +kernel
theorem d_law_1059 : decode code 1059 = .ok (.iconst 1, 1) := by decide +kernel
theorem d_law_1060 : decode code 1060 = .ok (.iadd, 1) := by decide +kernel
theorem d_law_1061 : decode code 1061 = .ok (.iaload, 1) := by decide +kernel
theorem d_law_1062 : decode code 1062 = .ok (.aload_n 0, 1) := by decide +kernel
theorem d_law_1063 : decode code 1063 = .ok (.iload 4, 2) := by decide +kernel
theorem d_law_1065 : decode code 1065 = .ok (.iconst 2, 1) := by decide +kernel
theorem d_law_1066 : decode code 1066 = .ok (.iadd, 1) := by decide +kernel
theorem d_law_1067 : decode code 1067 = .ok (.iaload, 1) := by decide +kernel
theorem d_law_1068 : decode code 1068 = .ok (.invokevirtual 118, 3) := by decide +kernel
theorem d_law_1071 : decode code 1071 = .ok (.if_icmp .eq 104, 3) := by decide +kernel
theorem d_law_1074 : decode code 1074 = .ok (.iconst 0, 1) := by decide +kernel
theorem d_law_1075 : decode code 1075 = .ok (.ireturn, 1) := by decide +kernel
theorem d_law_1076 : decode code 1076 = .ok (.aload_n 1, 1) := by decide +kernel
theorem d_law_1077 : decode code 1077 = .ok (.aload_n 0, 1) := by decide +kernel
theorem d_law_1078 : decode code 1078 = .ok (.iload 4, 2) := by decide +kernel
theorem d_law_1080 : decode code 1080 = .ok (.iconst 1, 1) := by decide +kernel
theorem d_law_1081 : decode code 1081 = .ok (.iadd, 1) := by decide +kernel
theorem d_law_1082 : decode code 1082 = .ok (.iaload, 1) := by decide +kernel
theorem d_law_1083 : decode code 1083 = .ok (.invokevirtual 119, 3) := by decide +kernel
theorem d_law_1086 : decode code 1086 = .ok (.aload_n 2, 1) := by decide +kernel
theorem d_law_1087 : decode code 1087 = .ok (.aload_n 0, 1) := by decide +kernel
theorem d_law_1088 : decode code 1088 = .ok (.iload 4, 2) := by decide +kernel
theorem d_law_1090 : decode code 1090 = .ok (.iconst 1, 1) := by decide +kernel
theorem d_law_1091 : decode code 1091 = .ok (.iadd, 1) := by decide +kernel
theorem d_law_1092 : decode code 1092 = .ok (.iaload, 1) := by decide +kernel
theorem d_law_1093 : decode code 1093 = .ok (.invokevirtual 122, 3) := by decide +kernel
theorem d_law_1096 : decode code 1096 = .ok (.if_icmp .eq 79, 3) := by decide +kernel
theorem d_law_1099 : decode code 1099 = .ok (.iconst 0, 1) := by decide +kernel
theorem d_law_1100 : decode code 1100 = .ok (.ireturn, 1) := by decide +kernel
theorem d_law_1101 : decode code 1101 = .ok (.aload_n 1, 1) := by decide +kernel
theorem d_law_1102 : decode code 1102 = .ok (.aload_n 0, 1) := by decide +kernel
theorem d_law_1103 : decode code 1103 = .ok (.iload 4, 2) := by decide +kernel
theorem d_law_1105 : decode code 1105 = .ok (.iconst 1, 1) := by decide +kernel
theorem d_law_1106 : decode code 1106 = .ok (.iadd, 1) := by decide +kernel
theorem d_law_1107 : decode code 1107 = .ok (.iaload, 1) := by decide +kernel
theorem d_law_1108 : decode code 1108 = .ok (.aload_n 0, 1) := by decide +kernel
theorem d_law_1109 : decode code 1109 = .ok (.iload 4, 2) := by decide +kernel
theorem d_law_1111 : decode code 1111 = .ok (.iconst 2, 1) := by decide +kernel
theorem d_law_1112 : decode code 1112 = .ok (.iadd, 1) := by decide +kernel
theorem d_law_1113 : decode code 1113 = .ok (.iaload, 1) := by decide +kernel
theorem d_law_1114 : decode code 1114 = .ok (.invokevirtual 123, 3) := by decide +kernel
theorem d_law_1117 : decode code 1117 = .ok (.aload_n 2, 1) := by decide +kernel
theorem d_law_1118 : decode code 1118 = .ok (.aload_n 0, 1) := by decide +kernel
theorem d_law_1119 : decode code 1119 = .ok (.iload 4, 2) := by decide +kernel
theorem d_law_1121 : decode code 1121 = .ok (.iconst 1, 1) := by decide +kernel
theorem d_law_1122 : decode code 1122 = .ok (.iadd, 1) := by decide +kernel
theorem d_law_1123 : decode code 1123 = .ok (.iaload, 1) := by decide +kernel
theorem d_law_1124 : decode code 1124 = .ok (.aload_n 0, 1) := by decide +kernel
theorem d_law_1125 : decode code 1125 = .ok (.iload 4, 2) := by decide +kernel
theorem d_law_1127 : decode code 1127 = .ok (.iconst 2, 1) := by decide +kernel
theorem d_law_1128 : decode code 1128 = .ok (.iadd, 1) := by decide +kernel
theorem d_law_1129 : decode code 1129 = .ok (.iaload, 1) := by decide +kernel
theorem d_law_1130 : decode code 1130 = .ok (.invokevirtual 126, 3) := by decide +kernel
theorem d_law_1133 : decode code 1133 = .ok (.if_icmp .eq 42, 3) := by decide +kernel
theorem d_law_1136 : decode code 1136 = .ok (.iconst 0, 1) := by decide +kernel
theorem d_law_1137 : decode code 1137 = .ok (.ireturn, 1) := by decide +kernel
theorem d_law_1138 : decode code 1138 = .ok (.aload_n 1, 1) := by decide +kernel
theorem d_law_1139 : decode code 1139 = .ok (.aload_n 0, 1) := by decide +kernel
theorem d_law_1140 : decode code 1140 = .ok (.iload 4, 2) := by decide +kernel
theorem d_law_1142 : decode code 1142 = .ok (.iconst 1, 1) := by decide +kernel
theorem d_law_1143 : decode code 1143 = .ok (.iadd, 1) := by decide +kernel
theorem d_law_1144 : decode code 1144 = .ok (.iaload, 1) := by decide +kernel
theorem d_law_1145 : decode code 1145 = .ok (.aload_n 0, 1) := by decide +kernel
theorem d_law_1146 : decode code 1146 = .ok (.iload 4, 2) := by decide +kernel
theorem d_law_1148 : decode code 1148 = .ok (.iconst 2, 1) := by decide +kernel
theorem d_law_1149 : decode code 1149 = .ok (.iadd, 1) := by decide +kernel
theorem d_law_1150 : decode code 1150 = .ok (.iaload, 1) := by decide +kernel
theorem d_law_1151 : decode code 1151 = .ok (.invokevirtual 127, 3) := by decide +kernel
theorem d_law_1154 : decode code 1154 = .ok (.aload_n 2, 1) := by decide +kernel
theorem d_law_1155 : decode code 1155 = .ok (.aload_n 0, 1) := by decide +kernel
theorem d_law_1156 : decode code 1156 = .ok (.iload 4, 2) := by decide +kernel
theorem d_law_1158 : decode code 1158 = .ok (.iconst 1, 1) := by decide +kernel
theorem d_law_1159 : decode code 1159 = .ok (.iadd, 1) := by decide +kernel
theorem d_law_1160 : decode code 1160 = .ok (.iaload, 1) := by decide +kernel
theorem d_law_1161 : decode code 1161 = .ok (.aload_n 0, 1) := by decide +kernel
theorem d_law_1162 : decode code 1162 = .ok (.iload 4, 2) := by decide +kernel
theorem d_law_1164 : decode code 1164 = .ok (.iconst 2, 1) := by decide +kernel
theorem d_law_1165 : decode code 1165 = .ok (.iadd, 1) := by decide +kernel
theorem d_law_1166 : decode code 1166 = .ok (.iaload, 1) := by decide +kernel
theorem d_law_1167 : decode code 1167 = .ok (.invokevirtual 130, 3) := by decide +kernel
theorem d_law_1170 : decode code 1170 = .ok (.if_icmp .eq 5, 3) := by decide +kernel
theorem d_law_1173 : decode code 1173 = .ok (.iconst 0, 1) := by decide +kernel
theorem d_law_1174 : decode code 1174 = .ok (.ireturn, 1) := by decide +kernel
theorem d_law_1175 : decode code 1175 = .ok (.iinc 4 6, 3) := by decide +kernel
theorem d_law_1178 : decode code 1178 = .ok (.goto (-1155), 3) := by decide +kernel
theorem d_law_1181 : decode code 1181 = .ok (.iconst 1, 1) := by decide +kernel
theorem d_law_1182 : decode code 1182 = .ok (.ireturn, 1) := by decide +kernel
