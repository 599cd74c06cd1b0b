/-! decode rows of the law (by program) -/
theorem d_L_580 : decode code 580 = .ok (.iconst 3, 1) := by decide +kernel
theorem d_L_581 : decode code 581 = .ok (.iadd, 1) := by decide +kernel
theorem d_L_582 : decode code 582 = .ok (.iaload, 1) := by decide +kernel
theorem d_L_583 : decode code 583 = .ok (.ifCond .eq 7, 3) := by decide +kernel
theorem d_L_586 : decode code 586 = .ok (.iconst 1, 1) := by decide +kernel
theorem d_L_587 : decode code 587 = .ok (.goto 4, 3) := by decide +kernel
theorem d_L_590 : decode code 590 = .ok (.iconst 0, 1) := by decide +kernel
theorem d_L_591 : decode code 591 = .ok (.invokevirtual 54, 3) := by decide +kernel
theorem d_L_594 : decode code 594 = .ok (.if_icmp .eq 1099, 3) := by decide +kernel
theorem d_L_597 : decode code 597 = .ok (.iconst 0, 1) := by decide +kernel
theorem d_L_598 : decode code 598 = .ok (.ireturn, 1) := by decide +kernel
theorem d_L_599 : decode code 599 = .ok (.aload_n 1, 1) := by decide +kernel
theorem d_L_600 : decode code 600 = .ok (.aload_n 0, 1) := by decide +kernel
theorem d_L_601 : decode code 601 = .ok (.iload_n 3, 1) := by decide +kernel
theorem d_L_602 : decode code 602 = .ok (.iconst 1, 1) := by decide +kernel
theorem d_L_603 : decode code 603 = .ok (.iadd, 1) := by decide +kernel
theorem d_L_604 : decode code 604 = .ok (.iaload, 1) := by decide +kernel
theorem d_L_605 : decode code 605 = .ok (.aload_n 0, 1) := by decide +kernel
theorem d_L_606 : decode code 606 = .ok (.iload_n 3, 1) := by decide +kernel
theorem d_L_607 : decode code 607 = .ok (.iconst 2, 1) := by decide +kernel
theorem d_L_608 : decode code 608 = .ok (.iadd, 1) := by decide +kernel
theorem d_L_609 : decode code 609 = .ok (.iaload, 1) := by decide +kernel
theorem d_L_610 : decode code 610 = .ok (.invokevirtual 55, 3) := by decide +kernel
theorem d_L_613 : decode code 613 = .ok (.aload_n 2, 1) := by decide +kernel
theorem d_L_614 : decode code 614 = .ok (.aload_n 0, 1) := by decide +kernel
theorem d_L_615 : decode code 615 = .ok (.iload_n 3, 1) := by decide +kernel
theorem d_L_616 : decode code 616 = .ok (.iconst 1, 1) := by decide +kernel
theorem d_L_617 : decode code 617 = .ok (.iadd, 1) := by decide +kernel
theorem d_L_618 : decode code 618 = .ok (.iaload, 1) := by decide +kernel
theorem d_L_619 : decode code 619 = .ok (.aload_n 0, 1) := by decide +kernel
theorem d_L_620 : decode code 620 = .ok (.iload_n 3, 1) := by decide +kernel
theorem d_L_621 : decode code 621 = .ok (.iconst 2, 1) := by decide +kernel
theorem d_L_622 : decode code 622 = .ok (.iadd, 1) := by decide +kernel
theorem d_L_623 : decode code 623 = .ok (.iaload, 1) := by decide +kernel
theorem d_L_624 : decode code 624 = .ok (.invokevirtual 58, 3) := by decide +kernel
theorem d_L_627 : decode code 627 = .ok (.if_icmp .eq 1066, 3) := by decide +kernel
theorem d_L_630 : decode code 630 = .ok (.iconst 0, 1) := by decide +kernel
theorem d_L_631 : decode code 631 = .ok (.ireturn, 1) := by decide +kernel
theorem d_L_632 : decode code 632 = .ok (.aload_n 1, 1) := by decide +kernel
theorem d_L_633 : decode code 633 = .ok (.aload_n 0, 1) := by decide +kernel
theorem d_L_634 : decode code 634 = .ok (.iload_n 3, 1) := by decide +kernel
theorem d_L_635 : decode code 635 = .ok (.iconst 1, 1) := by decide +kernel
theorem d_L_636 : decode code 636 = .ok (.iadd, 1) := by decide +kernel
theorem d_L_637 : decode code 637 = .ok (.iaload, 1) := by decide +kernel
theorem d_L_638 : decode code 638 = .ok (.aload_n 0, 1) := by decide +kernel
theorem d_L_639 : decode code 639 = .ok (.iload_n 3, 1) := by decide +kernel
theorem d_L_640 : decode code 640 = .ok (.iconst 2, 1) := by decide +kernel
theorem d_L_641 : decode code 641 = .ok (.iadd, 1) := by decide +kernel
theorem d_L_642 : decode code 642 = .ok (.iaload, 1) := by decide +kernel
theorem d_L_643 : decode code 643 = .ok (.invokevirtual 59, 3) := by decide +kernel
theorem d_L_646 : decode code 646 = .ok (.aload_n 2, 1) := by decide +kernel
theorem d_L_647 : decode code 647 = .ok (.aload_n 0, 1) := by decide +kernel
theorem d_L_648 : decode code 648 = .ok (.iload_n 3, 1) := by decide +kernel
theorem d_L_649 : decode code 649 = .ok (.iconst 1, 1) := by decide +kernel
theorem d_L_650 : decode code 650 = .ok (.iadd, 1) := by decide +kernel
theorem d_L_651 : decode code 651 = .ok (.iaload, 1) := by decide +kernel
theorem d_L_652 : decode code 652 = .ok (.aload_n 0, 1) := by decide +kernel
theorem d_L_653 : decode code 653 = .ok (.iload_n 3, 1) := by decide +kernel
theorem d_L_654 : decode code 654 = .ok (.iconst 2, 1) := by decide +kernel
theorem d_L_655 : decode code 655 = .ok (.iadd, 1) := by decide +kernel
theorem d_L_656 : decode code 656 = .ok (.iaload, 1) := by decide +kernel
theorem d_L_657 : decode code 657 = .ok (.invokevirtual 62, 3) := by decide +kernel
theorem d_L_660 : decode code 660 = .ok (.if_icmp .eq 1033, 3) := by decide +kernel
theorem d_L_663 : decode code 663 = .ok (.iconst 0, 1) := by decide +kernel
theorem d_L_664 : decode code 664 = .ok (.ireturn, 1) := by decide +kernel
theorem d_L_665 : decode code 665 = .ok (.aload_n 1, 1) := by decide +kernel
theorem d_L_666 : decode code 666 = .ok (.aload_n 0, 1) := by decide +kernel
theorem d_L_667 : decode code 667 = .ok (.iload_n 3, 1) := by decide +kernel
theorem d_L_668 : decode code 668 = .ok (.iconst 1, 1) := by decide +kernel
theorem d_L_669 : decode code 669 = .ok (.iadd, 1) := by decide +kernel
theorem d_L_670 : decode code 670 = .ok (.iaload, 1) := by decide +kernel
theorem d_L_671 : decode code 671 = .ok (.aload_n 0, 1) := by decide +kernel
theorem d_L_672 : decode code 672 = .ok (.iload_n 3, 1) := by decide +kernel
theorem d_L_673 : decode code 673 = .ok (.iconst 2, 1) := by decide +kernel
theorem d_L_674 : decode code 674 = .ok (.iadd, 1) := by decide +kernel
theorem d_L_675 : decode code 675 = .ok (.iaload, 1) := by decide +kernel
theorem d_L_676 : decode code 676 = .ok (.ifCond .eq 7, 3) := by decide +kernel
theorem d_L_679 : decode code 679 = .ok (.iconst 1, 1) := by decide +kernel
theorem d_L_680 : decode code 680 = .ok (.goto 4, 3) := by decide +kernel
theorem d_L_683 : decode code 683 = .ok (.iconst 0, 1) := by decide +kernel
theorem d_L_684 : decode code 684 = .ok (.invokevirtual 63, 3) := by decide +kernel
theorem d_L_687 : decode code 687 = .ok (.aload_n 2, 1) := by decide +kernel
theorem d_L_688 : decode code 688 = .ok (.aload_n 0, 1) := by decide +kernel
theorem d_L_689 : decode code 689 = .ok (.iload_n 3, 1) := by decide +kernel
theorem d_L_690 : decode code 690 = .ok (.iconst 1, 1) := by decide +kernel
theorem d_L_691 : decode code 691 = .ok (.iadd, 1) := by decide +kernel
theorem d_L_692 : decode code 692 = .ok (.iaload, 1) := by decide +kernel
theorem d_L_693 : decode code 693 = .ok (.aload_n 0, 1) := by decide +kernel
theorem d_L_694 : decode code 694 = .ok (.iload_n 3, 1) := by decide +kernel
theorem d_L_695 : decode code 695 = .ok (.iconst 2, 1) := by decide +kernel
theorem d_L_696 : decode code 696 = .ok (.iadd, 1) := by decide +kernel
theorem d_L_697 : decode code 697 = .ok (.iaload, 1) := by decide +kernel
theorem d_L_698 : decode code 698 = .ok (.ifCond .eq 7, 3) := by decide +kernel
theorem d_L_701 : decode code 701 = .ok (.iconst 1, 1) := by decide +kernel
theorem d_L_702 : decode code 702 = .ok (.goto 4, 3) := by decide +kernel
theorem d_L_705 : decode code 705 = .ok (.iconst 0, 1) := by decide +kernel
theorem d_L_706 : decode code 706 = .ok (.invokevirtual 66, 3) := by decide +kernel
theorem d_L_709 : decode code 709 = .ok (.if_icmp .eq 984, 3) := by decide +kernel
theorem d_L_712 : decode code 712 = .ok (.iconst 0, 1) := by decide +kernel
theorem d_L_713 : decode code 713 = .ok (.ireturn, 1) := by decide +kernel
theorem d_L_714 : decode code 714 = .ok (.aload_n 1, 1) := by decide +kernel
theorem d_L_715 : decode code 715 = .ok (.aload_n 0, 1) := by decide +kernel
theorem d_L_716 : decode code 716 = .ok (.iload_n 3, 1) := by decide +kernel
theorem d_L_717 : decode code 717 = .ok (.iconst 1, 1) := by decide +kernel
theorem d_L_718 : decode code 718 = .ok (.iadd, 1) := by decide +kernel
theorem d_L_719 : decode code 719 = .ok (.iaload, 1) := by decide +kernel
theorem d_L_720 : decode code 720 = .ok (.aload_n 0, 1) := by decide +kernel
theorem d_L_721 : decode code 721 = .ok (.iload_n 3, 1) := by decide +kernel
theorem d_L_722 : decode code 722 = .ok (.iconst 2, 1) := by decide +kernel
theorem d_L_723 : decode code 723 = .ok (.iadd, 1) := by decide +kernel
theorem d_L_724 : decode code 724 = .ok (.iaload, 1) := by decide +kernel
theorem d_L_725 : decode code 725 = .ok (.aload_n 0, 1) := by decide +kernel
theorem d_L_726 : decode code 726 = .ok (.iload_n 3, 1) := by decide +kernel
theorem d_L_727 : decode code 727 = .ok (.iconst 3, 1) := by decide +kernel
theorem d_L_728 : decode code 728 = .ok (.iadd, 1) := by decide +kernel
theorem d_L_729 : decode code 729 = .ok (.iaload, 1) := by decide +kernel
theorem d_L_730 : decode code 730 = .ok (.invokevirtual 67, 3) := by decide +kernel
theorem d_L_733 : decode code 733 = .ok (.aload_n 2, 1) := by decide +kernel
theorem d_L_734 : decode code 734 = .ok (.aload_n 0, 1) := by decide +kernel
theorem d_L_735 : decode code 735 = .ok (.iload_n 3, 1) := by decide +kernel
theorem d_L_736 : decode code 736 = .ok (.iconst 1, 1) := by decide +kernel
theorem d_L_737 : decode code 737 = .ok (.iadd, 1) := by decide +kernel
theorem d_L_738 : decode code 738 = .ok (.iaload, 1) := by decide +kernel
theorem d_L_739 : decode code 739 = .ok (.aload_n 0, 1) := by decide +kernel
theorem d_L_740 : decode code 740 = .ok (.iload_n 3, 1) := by decide +kernel
theorem d_L_741 : decode code 741 = .ok (.iconst 2, 1) := by decide +kernel
theorem d_L_742 : decode code 742 = .ok (.iadd, 1) := by decide +kernel
theorem d_L_743 : decode code 743 = .ok (.iaload, 1) := by decide +kernel
theorem d_L_744 : decode code 744 = .ok (.aload_n 0, 1) := by decide +kernel
theorem d_L_745 : decode code 745 = .ok (.iload_n 3, 1) := by decide +kernel
theorem d_L_746 : decode code 746 = .ok (.iconst 3, 1) := by decide +kernel
theorem d_L_747 : decode code 747 = .ok (.iadd, 1) := by decide +kernel
theorem d_L_748 : decode code 748 = .ok (.iaload, 1) := by decide +kernel
theorem d_L_749 : decode code 749 = .ok (.invokevirtual 70, 3) := by decide +kernel
theorem d_L_752 : decode code 752 = .ok (.if_icmp .eq 941, 3) := by decide +kernel
theorem d_L_755 : decode code 755 = .ok (.iconst 0, 1) := by decide +kernel
theorem d_L_756 : decode code 756 = .ok (.ireturn, 1) := by decide +kernel
theorem d_L_757 : decode code 757 = .ok (.aload_n 1, 1) := by decide +kernel
theorem d_L_758 : decode code 758 = .ok (.aload_n 0, 1) := by decide +kernel
theorem d_L_759 : decode code 759 = .ok (.iload_n 3, 1) := by decide +kernel
theorem d_L_760 : decode code 760 = .ok (.iconst 1, 1) := by decide +kernel
theorem d_L_761 : decode code 761 = .ok (.iadd, 1) := by decide +kernel
theorem d_L_762 : decode code 762 = .ok (.iaload, 1) := by decide +kernel
theorem d_L_763 : decode code 763 = .ok (.invokevirtual 71, 3) := by decide +kernel
theorem d_L_766 : decode code 766 = .ok (.aload_n 2, 1) := by decide +kernel
theorem d_L_767 : decode code 767 = .ok (.aload_n 0, 1) := by decide +kernel
theorem d_L_768 : decode code 768 = .ok (.iload_n 3, 1) := by decide +kernel
theorem d_L_769 : decode code 769 = .ok (.iconst 1, 1) := by decide +kernel
theorem d_L_770 : decode code 770 = .ok (.iadd, 1) := by decide +kernel
theorem d_L_771 : decode code 771 = .ok (.iaload, 1) := by decide +kernel
theorem d_L_772 : decode code 772 = .ok (.invokevirtual 74, 3) := by decide +kernel
theorem d_L_775 : decode code 775 = .ok (.if_icmp .eq 918, 3) := by decide +kernel
theorem d_L_778 : decode code 778 = .ok (.iconst 0, 1) := by decide +kernel
theorem d_L_779 : decode code 779 = .ok (.ireturn, 1) := by decide +kernel
theorem d_L_780 : decode code 780 = .ok (.aload_n 1, 1) := by decide +kernel
theorem d_L_781 : decode code 781 = .ok (.aload_n 0, 1) := by decide +kernel
theorem d_L_782 : decode code 782 = .ok (.iload_n 3, 1) := by decide +kernel
theorem d_L_783 : decode code 783 = .ok (.iconst 1, 1) := by decide +kernel
theorem d_L_784 : decode code 784 = .ok (.iadd, 1) := by decide +kernel
theorem d_L_785 : decode code 785 = .ok (.iaload, 1) := by decide +kernel
theorem d_L_786 : decode code 786 = .ok (.aload_n 0, 1) := by decide +kernel
theorem d_L_787 : decode code 787 = .ok (.iload_n 3, 1) := by decide +kernel
theorem d_L_788 : decode code 788 = .ok (.iconst 2, 1) := by decide +kernel
theorem d_L_789 : decode code 789 = .ok (.iadd, 1) := by decide +kernel
theorem d_L_790 : decode code 790 = .ok (.iaload, 1) := by decide +kernel
theorem d_L_791 : decode code 791 = .ok (.invokevirtual 75, 3) := by decide +kernel
theorem d_L_794 : decode code 794 = .ok (.aload_n 2, 1) := by decide +kernel
theorem d_L_795 : decode code 795 = .ok (.aload_n 0, 1) := by decide +kernel
theorem d_L_796 : decode code 796 = .ok (.iload_n 3, 1) := by decide +kernel
theorem d_L_797 : decode code 797 = .ok (.iconst 1, 1) := by decide +kernel
theorem d_L_798 : decode code 798 = .ok (.iadd, 1) := by decide +kernel
theorem d_L_799 : decode code 799 = .ok (.iaload, 1) := by decide +kernel
theorem d_L_800 : decode code 800 = .ok (.aload_n 0, 1) := by decide +kernel
theorem d_L_801 : decode code 801 = .ok (.iload_n 3, 1) := by decide +kernel
theorem d_L_802 : decode code 802 = .ok (.iconst 2, 1) := by decide +kernel
theorem d_L_803 : decode code 803 = .ok (.iadd, 1) := by decide +kernel
theorem d_L_804 : decode code 804 = .ok (.iaload, 1) := by decide +kernel
theorem d_L_805 : decode code 805 = .ok (.invokevirtual 78, 3) := by decide +kernel
theorem d_L_808 : decode code 808 = .ok (.if_icmp .eq 885, 3) := by decide +kernel
theorem d_L_811 : decode code 811 = .ok (.iconst 0, 1) := by decide +kernel
theorem d_L_812 : decode code 812 = .ok (.ireturn, 1) := by decide +kernel
theorem d_L_813 : decode code 813 = .ok (.aload_n 1, 1) := by decide +kernel
theorem d_L_814 : decode code 814 = .ok (.aload_n 0, 1) := by decide +kernel
theorem d_L_815 : decode code 815 = .ok (.iload_n 3, 1) := by decide +kernel
theorem d_L_816 : decode code 816 = .ok (.iconst 1, 1) := by decide +kernel
theorem d_L_817 : decode code 817 = .ok (.iadd, 1) := by decide +kernel
theorem d_L_818 : decode code 818 = .ok (.iaload, 1) := by decide +kernel
theorem d_L_819 : decode code 819 = .ok (.aload_n 0, 1) := by decide +kernel
theorem d_L_820 : decode code 820 = .ok (.iload_n 3, 1) := by decide +kernel
theorem d_L_821 : decode code 821 = .ok (.iconst 2, 1) := by decide +kernel
theorem d_L_822 : decode code 822 = .ok (.iadd, 1) := by decide +kernel
theorem d_L_823 : decode code 823 = .ok (.iaload, 1) := by decide +kernel
theorem d_L_824 : decode code 824 = .ok (.ifCond .eq 7, 3) := by decide +kernel
theorem d_L_827 : decode code 827 = .ok (.iconst 1, 1) := by decide +kernel
theorem d_L_828 : decode code 828 = .ok (.goto 4, 3) := by decide +kernel
theorem d_L_831 : decode code 831 = .ok (.iconst 0, 1) := by decide +kernel
theorem d_L_832 : decode code 832 = .ok (.invokevirtual 79, 3) := by decide +kernel
theorem d_L_835 : decode code 835 = .ok (.aload_n 2, 1) := by decide +kernel
theorem d_L_836 : decode code 836 = .ok (.aload_n 0, 1) := by decide +kernel
theorem d_L_837 : decode code 837 = .ok (.iload_n 3, 1) := by decide +kernel
theorem d_L_838 : decode code 838 = .ok (.iconst 1, 1) := by decide +kernel
theorem d_L_839 : decode code 839 = .ok (.iadd, 1) := by decide +kernel
theorem d_L_840 : decode code 840 = .ok (.iaload, 1) := by decide +kernel
theorem d_L_841 : decode code 841 = .ok (.aload_n 0, 1) := by decide +kernel
theorem d_L_842 : decode code 842 = .ok (.iload_n 3, 1) := by decide +kernel
theorem d_L_843 : decode code 843 = .ok (.iconst 2, 1) := by decide +kernel
theorem d_L_844 : decode code 844 = .ok (.iadd, 1) := by decide +kernel
theorem d_L_845 : decode code 845 = .ok (.iaload, 1) := by decide +kernel
theorem d_L_846 : decode code 846 = .ok (.ifCond .eq 7, 3) := by decide +kernel
theorem d_L_849 : decode code 849 = .ok (.iconst 1, 1) := by decide +kernel
theorem d_L_850 : decode code 850 = .ok (.goto 4, 3) := by decide +kernel
theorem d_L_853 : decode code 853 = .ok (.iconst 0, 1) := by decide +kernel
theorem d_L_854 : decode code 854 = .ok (.invokevirtual 82, 3) := by decide +kernel
theorem d_L_857 : decode code 857 = .ok (.if_icmp .eq 836, 3) := by decide +kernel
theorem d_L_860 : decode code 860 = .ok (.iconst 0, 1) := by decide +kernel
theorem d_L_861 : decode code 861 = .ok (.ireturn, 1) := by decide +kernel
theorem d_L_862 : decode code 862 = .ok (.aload_n 1, 1) := by decide +kernel
theorem d_L_863 : decode code 863 = .ok (.aload_n 0, 1) := by decide +kernel
theorem d_L_864 : decode code 864 = .ok (.iload_n 3, 1) := by decide +kernel
theorem d_L_865 : decode code 865 = .ok (.iconst 1, 1) := by decide +kernel
theorem d_L_866 : decode code 866 = .ok (.iadd, 1) := by decide +kernel
theorem d_L_867 : decode code 867 = .ok (.iaload, 1) := by decide +kernel
theorem d_L_868 : decode code 868 = .ok (.aload_n 0, 1) := by decide +kernel
theorem d_L_869 : decode code 869 = .ok (.iload_n 3, 1) := by decide +kernel
theorem d_L_870 : decode code 870 = .ok (.iconst 2, 1) := by decide +kernel
theorem d_L_871 : decode code 871 = .ok (.iadd, 1) := by decide +kernel
theorem d_L_872 : decode code 872 = .ok (.iaload, 1) := by decide +kernel
theorem d_L_873 : decode code 873 = .ok (.invokevirtual 83, 3) := by decide +kernel
theorem d_L_876 : decode code 876 = .ok (.aload_n 2, 1) := by decide +kernel
theorem d_L_877 : decode code 877 = .ok (.aload_n 0, 1) := by decide +kernel
theorem d_L_878 : decode code 878 = .ok (.iload_n 3, 1) := by decide +kernel
theorem d_L_879 : decode code 879 = .ok (.iconst 1, 1) := by decide +kernel
theorem d_L_880 : decode code 880 = .ok (.iadd, 1) := by decide +kernel
theorem d_L_881 : decode code 881 = .ok (.iaload, 1) := by decide +kernel
theorem d_L_882 : decode code 882 = .ok (.aload_n 0, 1) := by decide +kernel
theorem d_L_883 : decode code 883 = .ok (.iload_n 3, 1) := by decide +kernel
theorem d_L_884 : decode code 884 = .ok (.iconst 2, 1) := by decide +kernel
theorem d_L_885 : decode code 885 = .ok (.iadd, 1) := by decide +kernel
theorem d_L_886 : decode code 886 = .ok (.iaload, 1) := by decide +kernel
theorem d_L_887 : decode code 887 = .ok (.invokevirtual 86, 3) := by decide +kernel
theorem d_L_890 : decode code 890 = .ok (.if_icmp .eq 803, 3) := by decide +kernel
theorem d_L_893 : decode code 893 = .ok (.iconst 0, 1) := by decide +kernel
theorem d_L_894 : decode code 894 = .ok (.ireturn, 1) := by decide +kernel
theorem d_L_895 : decode code 895 = .ok (.aload_n 1, 1) := by decide +kernel
theorem d_L_896 : decode code 896 = .ok (.aload_n 0, 1) := by decide +kernel
theorem d_L_897 : decode code 897 = .ok (.iload_n 3, 1) := by decide +kernel
theorem d_L_898 : decode code 898 = .ok (.iconst 1, 1) := by decide +kernel
theorem d_L_899 : decode code 899 = .ok (.iadd, 1) := by decide +kernel
theorem d_L_900 : decode code 900 = .ok (.iaload, 1) := by decide +kernel
theorem d_L_901 : decode code 901 = .ok (.aload_n 0, 1) := by decide +kernel
theorem d_L_902 : decode code 902 = .ok (.iload_n 3, 1) := by decide +kernel
theorem d_L_903 : decode code 903 = .ok (.iconst 2, 1) := by decide +kernel
theorem d_L_904 : decode code 904 = .ok (.iadd, 1) := by decide +kernel
theorem d_L_905 : decode code 905 = .ok (.iaload, 1) := by decide +kernel
theorem d_L_906 : decode code 906 = .ok (.invokevirtual 87, 3) := by decide +kernel
theorem d_L_909 : decode code 909 = .ok (.aload_n 2, 1) := by decide +kernel
theorem d_L_910 : decode code 910 = .ok (.aload_n 0, 1) := by decide +kernel
theorem d_L_911 : decode code 911 = .ok (.iload_n 3, 1) := by decide +kernel
theorem d_L_912 : decode code 912 = .ok (.iconst 1, 1) := by decide +kernel
theorem d_L_913 : decode code 913 = .ok (.iadd, 1) := by decide +kernel
theorem d_L_914 : decode code 914 = .ok (.iaload, 1) := by decide +kernel
theorem d_L_915 : decode code 915 = .ok (.aload_n 0, 1) := by decide +kernel
theorem d_L_916 : decode code 916 = .ok (.iload_n 3, 1) := by decide +kernel
theorem d_L_917 : decode code 917 = .ok (.iconst 2, 1) := by decide +kernel
theorem d_L_918 : decode code 918 = .ok (.iadd, 1) := by decide +kernel
theorem d_L_919 : decode code 919 = .ok (.iaload, 1) := by decide +kernel
theorem d_L_920 : decode code 920 = .ok (.invokevirtual 90, 3) := by decide +kernel
theorem d_L_923 : decode code 923 = .ok (.if_icmp .eq 770, 3) := by decide +kernel
theorem d_L_926 : decode code 926 = .ok (.iconst 0, 1) := by decide +kernel
theorem d_L_927 : decode code 927 = .ok (.ireturn, 1) := by decide +kernel
theorem d_L_928 : decode code 928 = .ok (.aload_n 1, 1) := by decide +kernel
theorem d_L_929 : decode code 929 = .ok (.aload_n 0, 1) := by decide +kernel
theorem d_L_930 : decode code 930 = .ok (.iload_n 3, 1) := by decide +kernel
theorem d_L_931 : decode code 931 = .ok (.iconst 1, 1) := by decide +kernel
theorem d_L_932 : decode code 932 = .ok (.iadd, 1) := by decide +kernel
theorem d_L_933 : decode code 933 = .ok (.iaload, 1) := by decide +kernel
theorem d_L_934 : decode code 934 = .ok (.aload_n 0, 1) := by decide +kernel
theorem d_L_935 : decode code 935 = .ok (.iload_n 3, 1) := by decide +kernel
theorem d_L_936 : decode code 936 = .ok (.iconst 2, 1) := by decide +kernel
theorem d_L_937 : decode code 937 = .ok (.iadd, 1) := by decide +kernel
theorem d_L_938 : decode code 938 = .ok (.iaload, 1) := by decide +kernel
theorem d_L_939 : decode code 939 = .ok (.aload_n 0, 1) := by decide +kernel
theorem d_L_940 : decode code 940 = .ok (.iload_n 3, 1) := by decide +kernel
theorem d_L_941 : decode code 941 = .ok (.iconst 3, 1) := by decide +kernel
theorem d_L_942 : decode code 942 = .ok (.iadd, 1) := by decide +kernel
theorem d_L_943 : decode code 943 = .ok (.iaload, 1) := by decide +kernel
theorem d_L_944 : decode code 944 = .ok (.aload_n 0, 1) := by decide +kernel
theorem d_L_945 : decode code 945 = .ok (.iload_n 3, 1) := by decide +kernel
theorem d_L_946 : decode code 946 = .ok (.iconst 4, 1) := by decide +kernel
theorem d_L_947 : decode code 947 = .ok (.iadd, 1) := by decide +kernel
theorem d_L_948 : decode code 948 = .ok (.iaload, 1) := by decide +kernel
theorem d_L_949 : decode code 949 = .ok (.invokevirtual 91, 3) := by decide +kernel
theorem d_L_952 : decode code 952 = .ok (.aload_n 2, 1) := by decide +kernel
theorem d_L_953 : decode code 953 = .ok (.aload_n 0, 1) := by decide +kernel
theorem d_L_954 : decode code 954 = .ok (.iload_n 3, 1) := by decide +kernel
theorem d_L_955 : decode code 955 = .ok (.iconst 1, 1) := by decide +kernel
theorem d_L_956 : decode code 956 = .ok (.iadd, 1) := by decide +kernel
theorem d_L_957 : decode code 957 = .ok (.iaload, 1) := by decide +kernel
theorem d_L_958 : decode code 958 = .ok (.aload_n 0, 1) := by decide +kernel
theorem d_L_959 : decode code 959 = .ok (.iload_n 3, 1) := by decide +kernel
