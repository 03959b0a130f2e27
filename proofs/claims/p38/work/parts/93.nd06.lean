theorem dL_act_848 : decode cL_act 848 = .ok (.iload_n 3, 1) := by decide +kernel
theorem dL_act_849 : decode cL_act 849 = .ok (.if_icmp .ne 16, 3) := by decide +kernel
theorem dL_act_852 : decode cL_act 852 = .ok (.aload_n 0, 1) := by decide +kernel
theorem dL_act_853 : decode cL_act 853 = .ok (.invokevirtual 48, 3) := by decide +kernel
theorem dL_act_856 : decode cL_act 856 = .ok (.iload 4, 2) := by decide +kernel
theorem dL_act_858 : decode cL_act 858 = .ok (.if_icmp .ne 7, 3) := by decide +kernel
theorem dL_act_861 : decode cL_act 861 = .ok (.iconst 1, 1) := by decide +kernel
theorem dL_act_862 : decode cL_act 862 = .ok (.goto 4, 3) := by decide +kernel
theorem dL_act_865 : decode cL_act 865 = .ok (.iconst 0, 1) := by decide +kernel
theorem dL_act_866 : decode cL_act 866 = .ok (.ireturn, 1) := by decide +kernel
theorem dL_act_867 : decode cL_act 867 = .ok (.astore 8, 2) := by decide +kernel
theorem dL_act_869 : decode cL_act 869 = .ok (.aload_n 0, 1) := by decide +kernel
theorem dL_act_870 : decode cL_act 870 = .ok (.invokevirtual 41, 3) := by decide +kernel
theorem dL_act_873 : decode cL_act 873 = .ok (.iload_n 2, 1) := by decide +kernel
theorem dL_act_874 : decode cL_act 874 = .ok (.if_icmp .ne 24, 3) := by decide +kernel
theorem dL_act_877 : decode cL_act 877 = .ok (.aload_n 0, 1) := by decide +kernel
theorem dL_act_878 : decode cL_act 878 = .ok (.invokevirtual 45, 3) := by decide +kernel
theorem dL_act_881 : decode cL_act 881 = .ok (.iload_n 3, 1) := by decide +kernel
theorem dL_act_882 : decode cL_act 882 = .ok (.if_icmp .ne 16, 3) := by decide +kernel
theorem dL_act_885 : decode cL_act 885 = .ok (.aload_n 0, 1) := by decide +kernel
theorem dL_act_886 : decode cL_act 886 = .ok (.invokevirtual 48, 3) := by decide +kernel
theorem dL_act_889 : decode cL_act 889 = .ok (.iload 4, 2) := by decide +kernel
theorem dL_act_891 : decode cL_act 891 = .ok (.if_icmp .ne 7, 3) := by decide +kernel
theorem dL_act_894 : decode cL_act 894 = .ok (.iconst 1, 1) := by decide +kernel
theorem dL_act_895 : decode cL_act 895 = .ok (.goto 4, 3) := by decide +kernel
theorem dL_act_898 : decode cL_act 898 = .ok (.iconst 0, 1) := by decide +kernel
theorem dL_act_899 : decode cL_act 899 = .ok (.ireturn, 1) := by decide +kernel
theorem dL_act_900 : decode cL_act 900 = .ok (.astore 8, 2) := by decide +kernel
theorem dL_act_902 : decode cL_act 902 = .ok (.aload_n 0, 1) := by decide +kernel
theorem dL_act_903 : decode cL_act 903 = .ok (.invokevirtual 41, 3) := by decide +kernel
theorem dL_act_906 : decode cL_act 906 = .ok (.iload_n 2, 1) := by decide +kernel
theorem dL_act_907 : decode cL_act 907 = .ok (.if_icmp .ne 24, 3) := by decide +kernel
theorem dL_act_910 : decode cL_act 910 = .ok (.aload_n 0, 1) := by decide +kernel
theorem dL_act_911 : decode cL_act 911 = .ok (.invokevirtual 45, 3) := by decide +kernel
theorem dL_act_914 : decode cL_act 914 = .ok (.iload_n 3, 1) := by decide +kernel
theorem dL_act_915 : decode cL_act 915 = .ok (.if_icmp .ne 16, 3) := by decide +kernel
theorem dL_act_918 : decode cL_act 918 = .ok (.aload_n 0, 1) := by decide +kernel
theorem dL_act_919 : decode cL_act 919 = .ok (.invokevirtual 48, 3) := by decide +kernel
theorem dL_act_922 : decode cL_act 922 = .ok (.iload 4, 2) := by decide +kernel
theorem dL_act_924 : decode cL_act 924 = .ok (.if_icmp .ne 7, 3) := by decide +kernel
theorem dL_act_927 : decode cL_act 927 = .ok (.iconst 1, 1) := by decide +kernel
theorem dL_act_928 : decode cL_act 928 = .ok (.goto 4, 3) := by decide +kernel
theorem dL_act_931 : decode cL_act 931 = .ok (.iconst 0, 1) := by decide +kernel
theorem dL_act_932 : decode cL_act 932 = .ok (.ireturn, 1) := by decide +kernel
theorem dL_sizeOf_0 : decode cL_sizeOf 0 = .ok (.aload_n 0, 1) := by decide +kernel
theorem dL_sizeOf_1 : decode cL_sizeOf 1 = .ok (.iload_n 1, 1) := by decide +kernel
theorem dL_sizeOf_2 : decode cL_sizeOf 2 = .ok (.invokevirtual 51, 3) := by decide +kernel
theorem dL_sizeOf_5 : decode cL_sizeOf 5 = .ok (.ireturn, 1) := by decide +kernel
theorem dL_sizeOf_6 : decode cL_sizeOf 6 = .ok (.astore_n 2, 1) := by decide +kernel
theorem dL_sizeOf_7 : decode cL_sizeOf 7 = .ok (.iconst 0, 1) := by decide +kernel
theorem dL_sizeOf_8 : decode cL_sizeOf 8 = .ok (.ireturn, 1) := by decide +kernel
theorem dL_areRingsRight_0 : decode cL_areRingsRight 0 = .ok (.bipush 100, 2) := by decide +kernel
theorem dL_areRingsRight_2 : decode cL_areRingsRight 2 = .ok (.bipush 100, 2) := by decide +kernel
theorem dL_areRingsRight_4 : decode cL_areRingsRight 4 = .ok (.multianewarray 124 2, 4) := by decide +kernel
theorem dL_areRingsRight_8 : decode cL_areRingsRight 8 = .ok (.astore_n 1, 1) := by decide +kernel
theorem dL_areRingsRight_9 : decode cL_areRingsRight 9 = .ok (.iconst 0, 1) := by decide +kernel
theorem dL_areRingsRight_10 : decode cL_areRingsRight 10 = .ok (.istore_n 2, 1) := by decide +kernel
theorem dL_areRingsRight_11 : decode cL_areRingsRight 11 = .ok (.iconst 0, 1) := by decide +kernel
theorem dL_areRingsRight_12 : decode cL_areRingsRight 12 = .ok (.istore_n 3, 1) := by decide +kernel
theorem dL_areRingsRight_13 : decode cL_areRingsRight 13 = .ok (.iconst 0, 1) := by decide +kernel
theorem dL_areRingsRight_14 : decode cL_areRingsRight 14 = .ok (.istore 4, 2) := by decide +kernel
theorem dL_areRingsRight_16 : decode cL_areRingsRight 16 = .ok (.iload 4, 2) := by decide +kernel
theorem dL_areRingsRight_18 : decode cL_areRingsRight 18 = .ok (.sipush 160, 3) := by decide +kernel
theorem dL_areRingsRight_21 : decode cL_areRingsRight 21 = .ok (.if_icmp .ge 198, 3) := by decide +kernel
theorem dL_areRingsRight_24 : decode cL_areRingsRight 24 = .ok (.aload_n 0, 1) := by decide +kernel
theorem dL_areRingsRight_25 : decode cL_areRingsRight 25 = .ok (.iload 4, 2) := by decide +kernel
theorem dL_areRingsRight_27 : decode cL_areRingsRight 27 = .ok (.invokestatic 126, 3) := by decide +kernel
theorem dL_areRingsRight_30 : decode cL_areRingsRight 30 = .ok (.istore 5, 2) := by decide +kernel
theorem dL_areRingsRight_32 : decode cL_areRingsRight 32 = .ok (.iload_n 2, 1) := by decide +kernel
theorem dL_areRingsRight_33 : decode cL_areRingsRight 33 = .ok (.iload 5, 2) := by decide +kernel
theorem dL_areRingsRight_35 : decode cL_areRingsRight 35 = .ok (.ifCond .le 7, 3) := by decide +kernel
theorem dL_areRingsRight_38 : decode cL_areRingsRight 38 = .ok (.iconst 1, 1) := by decide +kernel
theorem dL_areRingsRight_39 : decode cL_areRingsRight 39 = .ok (.goto 4, 3) := by decide +kernel
theorem dL_areRingsRight_42 : decode cL_areRingsRight 42 = .ok (.iconst 0, 1) := by decide +kernel
theorem dL_areRingsRight_43 : decode cL_areRingsRight 43 = .ok (.iadd, 1) := by decide +kernel
theorem dL_areRingsRight_44 : decode cL_areRingsRight 44 = .ok (.istore_n 2, 1) := by decide +kernel
theorem dL_areRingsRight_45 : decode cL_areRingsRight 45 = .ok (.iload_n 3, 1) := by decide +kernel
theorem dL_areRingsRight_46 : decode cL_areRingsRight 46 = .ok (.iload 5, 2) := by decide +kernel
theorem dL_areRingsRight_48 : decode cL_areRingsRight 48 = .ok (.iadd, 1) := by decide +kernel
theorem dL_areRingsRight_49 : decode cL_areRingsRight 49 = .ok (.istore_n 3, 1) := by decide +kernel
theorem dL_areRingsRight_50 : decode cL_areRingsRight 50 = .ok (.iload 5, 2) := by decide +kernel
theorem dL_areRingsRight_52 : decode cL_areRingsRight 52 = .ok (.ifCond .le 18, 3) := by decide +kernel
theorem dL_areRingsRight_55 : decode cL_areRingsRight 55 = .ok (.iload 5, 2) := by decide +kernel
theorem dL_areRingsRight_57 : decode cL_areRingsRight 57 = .ok (.iconst 3, 1) := by decide +kernel
theorem dL_areRingsRight_58 : decode cL_areRingsRight 58 = .ok (.if_icmp .lt 10, 3) := by decide +kernel
theorem dL_areRingsRight_61 : decode cL_areRingsRight 61 = .ok (.iload 5, 2) := by decide +kernel
theorem dL_areRingsRight_63 : decode cL_areRingsRight 63 = .ok (.bipush 12, 2) := by decide +kernel
theorem dL_areRingsRight_65 : decode cL_areRingsRight 65 = .ok (.if_icmp .le 5, 3) := by decide +kernel
theorem dL_areRingsRight_68 : decode cL_areRingsRight 68 = .ok (.iconst 0, 1) := by decide +kernel
theorem dL_areRingsRight_69 : decode cL_areRingsRight 69 = .ok (.ireturn, 1) := by decide +kernel
