theorem dL_act_682 : decode cL_act 682 = .ok (.invokevirtual 105, 3) := by decide +kernel
theorem dL_act_685 : decode cL_act 685 = .ok (.invokevirtual 51, 3) := by decide +kernel
theorem dL_act_688 : decode cL_act 688 = .ok (.iload 11, 2) := by decide +kernel
theorem dL_act_690 : decode cL_act 690 = .ok (.if_icmp .ne 18, 3) := by decide +kernel
theorem dL_act_693 : decode cL_act 693 = .ok (.aload_n 0, 1) := by decide +kernel
theorem dL_act_694 : decode cL_act 694 = .ok (.invokevirtual 96, 3) := by decide +kernel
theorem dL_act_697 : decode cL_act 697 = .ok (.iload 10, 2) := by decide +kernel
theorem dL_act_699 : decode cL_act 699 = .ok (.iconst 1, 1) := by decide +kernel
theorem dL_act_700 : decode cL_act 700 = .ok (.isub, 1) := by decide +kernel
theorem dL_act_701 : decode cL_act 701 = .ok (.if_icmp .ne 7, 3) := by decide +kernel
theorem dL_act_704 : decode cL_act 704 = .ok (.iconst 1, 1) := by decide +kernel
theorem dL_act_705 : decode cL_act 705 = .ok (.goto 4, 3) := by decide +kernel
theorem dL_act_708 : decode cL_act 708 = .ok (.iconst 0, 1) := by decide +kernel
theorem dL_act_709 : decode cL_act 709 = .ok (.ireturn, 1) := by decide +kernel
theorem dL_act_710 : decode cL_act 710 = .ok (.iload_n 1, 1) := by decide +kernel
theorem dL_act_711 : decode cL_act 711 = .ok (.bipush 7, 2) := by decide +kernel
theorem dL_act_713 : decode cL_act 713 = .ok (.ishr, 1) := by decide +kernel
theorem dL_act_714 : decode cL_act 714 = .ok (.iconst 5, 1) := by decide +kernel
theorem dL_act_715 : decode cL_act 715 = .ok (.invokestatic 18, 3) := by decide +kernel
theorem dL_act_718 : decode cL_act 718 = .ok (.ifCond .ne 33, 3) := by decide +kernel
theorem dL_act_721 : decode cL_act 721 = .ok (.aload_n 0, 1) := by decide +kernel
theorem dL_act_722 : decode cL_act 722 = .ok (.invokevirtual 108, 3) := by decide +kernel
theorem dL_act_725 : decode cL_act 725 = .ok (.aload_n 0, 1) := by decide +kernel
theorem dL_act_726 : decode cL_act 726 = .ok (.invokevirtual 48, 3) := by decide +kernel
theorem dL_act_729 : decode cL_act 729 = .ok (.if_icmp .ne 20, 3) := by decide +kernel
theorem dL_act_732 : decode cL_act 732 = .ok (.aload_n 0, 1) := by decide +kernel
theorem dL_act_733 : decode cL_act 733 = .ok (.invokevirtual 41, 3) := by decide +kernel
theorem dL_act_736 : decode cL_act 736 = .ok (.iload_n 2, 1) := by decide +kernel
theorem dL_act_737 : decode cL_act 737 = .ok (.iload_n 3, 1) := by decide +kernel
theorem dL_act_738 : decode cL_act 738 = .ok (.iadd, 1) := by decide +kernel
theorem dL_act_739 : decode cL_act 739 = .ok (.iload 4, 2) := by decide +kernel
theorem dL_act_741 : decode cL_act 741 = .ok (.iadd, 1) := by decide +kernel
theorem dL_act_742 : decode cL_act 742 = .ok (.if_icmp .ne 7, 3) := by decide +kernel
theorem dL_act_745 : decode cL_act 745 = .ok (.iconst 1, 1) := by decide +kernel
theorem dL_act_746 : decode cL_act 746 = .ok (.goto 4, 3) := by decide +kernel
theorem dL_act_749 : decode cL_act 749 = .ok (.iconst 0, 1) := by decide +kernel
theorem dL_act_750 : decode cL_act 750 = .ok (.ireturn, 1) := by decide +kernel
theorem dL_act_751 : decode cL_act 751 = .ok (.aload_n 0, 1) := by decide +kernel
theorem dL_act_752 : decode cL_act 752 = .ok (.invokevirtual 111, 3) := by decide +kernel
theorem dL_act_755 : decode cL_act 755 = .ok (.iload 4, 2) := by decide +kernel
theorem dL_act_757 : decode cL_act 757 = .ok (.if_icmp .ne 7, 3) := by decide +kernel
theorem dL_act_760 : decode cL_act 760 = .ok (.iconst 1, 1) := by decide +kernel
theorem dL_act_761 : decode cL_act 761 = .ok (.goto 4, 3) := by decide +kernel
theorem dL_act_764 : decode cL_act 764 = .ok (.iconst 0, 1) := by decide +kernel
theorem dL_act_765 : decode cL_act 765 = .ok (.ireturn, 1) := by decide +kernel
theorem dL_act_766 : decode cL_act 766 = .ok (.aload_n 0, 1) := by decide +kernel
theorem dL_act_767 : decode cL_act 767 = .ok (.iload 5, 2) := by decide +kernel
theorem dL_act_769 : decode cL_act 769 = .ok (.invokevirtual 114, 3) := by decide +kernel
theorem dL_act_772 : decode cL_act 772 = .ok (.istore 12, 2) := by decide +kernel
theorem dL_act_774 : decode cL_act 774 = .ok (.aload_n 0, 1) := by decide +kernel
theorem dL_act_775 : decode cL_act 775 = .ok (.iload 5, 2) := by decide +kernel
theorem dL_act_777 : decode cL_act 777 = .ok (.invokevirtual 117, 3) := by decide +kernel
theorem dL_act_780 : decode cL_act 780 = .ok (.iload 4, 2) := by decide +kernel
theorem dL_act_782 : decode cL_act 782 = .ok (.iconst 1, 1) := by decide +kernel
theorem dL_act_783 : decode cL_act 783 = .ok (.isub, 1) := by decide +kernel
theorem dL_act_784 : decode cL_act 784 = .ok (.if_icmp .ne 16, 3) := by decide +kernel
theorem dL_act_787 : decode cL_act 787 = .ok (.aload_n 0, 1) := by decide +kernel
theorem dL_act_788 : decode cL_act 788 = .ok (.invokevirtual 96, 3) := by decide +kernel
theorem dL_act_791 : decode cL_act 791 = .ok (.iload 12, 2) := by decide +kernel
theorem dL_act_793 : decode cL_act 793 = .ok (.if_icmp .ne 7, 3) := by decide +kernel
theorem dL_act_796 : decode cL_act 796 = .ok (.iconst 1, 1) := by decide +kernel
theorem dL_act_797 : decode cL_act 797 = .ok (.goto 4, 3) := by decide +kernel
theorem dL_act_800 : decode cL_act 800 = .ok (.iconst 0, 1) := by decide +kernel
theorem dL_act_801 : decode cL_act 801 = .ok (.ireturn, 1) := by decide +kernel
theorem dL_act_802 : decode cL_act 802 = .ok (.aload_n 0, 1) := by decide +kernel
theorem dL_act_803 : decode cL_act 803 = .ok (.iload_n 1, 1) := by decide +kernel
theorem dL_act_804 : decode cL_act 804 = .ok (.iconst 4, 1) := by decide +kernel
theorem dL_act_805 : decode cL_act 805 = .ok (.ishr, 1) := by decide +kernel
theorem dL_act_806 : decode cL_act 806 = .ok (.bipush 90, 2) := by decide +kernel
theorem dL_act_808 : decode cL_act 808 = .ok (.invokestatic 18, 3) := by decide +kernel
theorem dL_act_811 : decode cL_act 811 = .ok (.iload_n 1, 1) := by decide +kernel
theorem dL_act_812 : decode cL_act 812 = .ok (.bipush 6, 2) := by decide +kernel
theorem dL_act_814 : decode cL_act 814 = .ok (.ishr, 1) := by decide +kernel
theorem dL_act_815 : decode cL_act 815 = .ok (.bipush 90, 2) := by decide +kernel
theorem dL_act_817 : decode cL_act 817 = .ok (.invokestatic 18, 3) := by decide +kernel
theorem dL_act_820 : decode cL_act 820 = .ok (.iconst 5, 1) := by decide +kernel
theorem dL_act_821 : decode cL_act 821 = .ok (.invokevirtual 22, 3) := by decide +kernel
theorem dL_act_824 : decode cL_act 824 = .ok (.iload_n 2, 1) := by decide +kernel
theorem dL_act_825 : decode cL_act 825 = .ok (.if_icmp .lt 7, 3) := by decide +kernel
theorem dL_act_828 : decode cL_act 828 = .ok (.iconst 1, 1) := by decide +kernel
theorem dL_act_829 : decode cL_act 829 = .ok (.goto 4, 3) := by decide +kernel
theorem dL_act_832 : decode cL_act 832 = .ok (.iconst 0, 1) := by decide +kernel
theorem dL_act_833 : decode cL_act 833 = .ok (.ireturn, 1) := by decide +kernel
theorem dL_act_834 : decode cL_act 834 = .ok (.astore 8, 2) := by decide +kernel
theorem dL_act_836 : decode cL_act 836 = .ok (.aload_n 0, 1) := by decide +kernel
theorem dL_act_837 : decode cL_act 837 = .ok (.invokevirtual 41, 3) := by decide +kernel
theorem dL_act_840 : decode cL_act 840 = .ok (.iload_n 2, 1) := by decide +kernel
theorem dL_act_841 : decode cL_act 841 = .ok (.if_icmp .ne 24, 3) := by decide +kernel
theorem dL_act_844 : decode cL_act 844 = .ok (.aload_n 0, 1) := by decide +kernel
theorem dL_act_845 : decode cL_act 845 = .ok (.invokevirtual 45, 3) := by decide +kernel
