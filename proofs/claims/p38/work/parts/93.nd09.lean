theorem dL_isMayRight_55 : decode cL_isMayRight 55 = .ok (.istore 4, 2) := by decide +kernel
theorem dL_isMayRight_57 : decode cL_isMayRight 57 = .ok (.iload 4, 2) := by decide +kernel
theorem dL_isMayRight_59 : decode cL_isMayRight 59 = .ok (.ifCond .le 13, 3) := by decide +kernel
theorem dL_isMayRight_62 : decode cL_isMayRight 62 = .ok (.aload_n 0, 1) := by decide +kernel
theorem dL_isMayRight_63 : decode cL_isMayRight 63 = .ok (.iload_n 3, 1) := by decide +kernel
theorem dL_isMayRight_64 : decode cL_isMayRight 64 = .ok (.invokevirtual 114, 3) := by decide +kernel
theorem dL_isMayRight_67 : decode cL_isMayRight 67 = .ok (.ifCond .ge 5, 3) := by decide +kernel
theorem dL_isMayRight_70 : decode cL_isMayRight 70 = .ok (.iconst 0, 1) := by decide +kernel
theorem dL_isMayRight_71 : decode cL_isMayRight 71 = .ok (.ireturn, 1) := by decide +kernel
theorem dL_isMayRight_72 : decode cL_isMayRight 72 = .ok (.iconst 0, 1) := by decide +kernel
theorem dL_isMayRight_73 : decode cL_isMayRight 73 = .ok (.istore 5, 2) := by decide +kernel
theorem dL_isMayRight_75 : decode cL_isMayRight 75 = .ok (.iload 5, 2) := by decide +kernel
theorem dL_isMayRight_77 : decode cL_isMayRight 77 = .ok (.iload 4, 2) := by decide +kernel
theorem dL_isMayRight_79 : decode cL_isMayRight 79 = .ok (.if_icmp .ge 38, 3) := by decide +kernel
theorem dL_isMayRight_82 : decode cL_isMayRight 82 = .ok (.aload_n 0, 1) := by decide +kernel
theorem dL_isMayRight_83 : decode cL_isMayRight 83 = .ok (.aload_n 0, 1) := by decide +kernel
theorem dL_isMayRight_84 : decode cL_isMayRight 84 = .ok (.iload_n 3, 1) := by decide +kernel
theorem dL_isMayRight_85 : decode cL_isMayRight 85 = .ok (.iload 5, 2) := by decide +kernel
theorem dL_isMayRight_87 : decode cL_isMayRight 87 = .ok (.iconst 1, 1) := by decide +kernel
theorem dL_isMayRight_88 : decode cL_isMayRight 88 = .ok (.iadd, 1) := by decide +kernel
theorem dL_isMayRight_89 : decode cL_isMayRight 89 = .ok (.iload 4, 2) := by decide +kernel
theorem dL_isMayRight_91 : decode cL_isMayRight 91 = .ok (.irem, 1) := by decide +kernel
theorem dL_isMayRight_92 : decode cL_isMayRight 92 = .ok (.invokevirtual 55, 3) := by decide +kernel
theorem dL_isMayRight_95 : decode cL_isMayRight 95 = .ok (.aload_n 0, 1) := by decide +kernel
theorem dL_isMayRight_96 : decode cL_isMayRight 96 = .ok (.iload_n 3, 1) := by decide +kernel
theorem dL_isMayRight_97 : decode cL_isMayRight 97 = .ok (.iload 5, 2) := by decide +kernel
theorem dL_isMayRight_99 : decode cL_isMayRight 99 = .ok (.invokevirtual 55, 3) := by decide +kernel
theorem dL_isMayRight_102 : decode cL_isMayRight 102 = .ok (.invokevirtual 102, 3) := by decide +kernel
theorem dL_isMayRight_105 : decode cL_isMayRight 105 = .ok (.iconst 1, 1) := by decide +kernel
theorem dL_isMayRight_106 : decode cL_isMayRight 106 = .ok (.if_icmp .ne 5, 3) := by decide +kernel
theorem dL_isMayRight_109 : decode cL_isMayRight 109 = .ok (.iconst 0, 1) := by decide +kernel
theorem dL_isMayRight_110 : decode cL_isMayRight 110 = .ok (.ireturn, 1) := by decide +kernel
theorem dL_isMayRight_111 : decode cL_isMayRight 111 = .ok (.iinc 5 1, 3) := by decide +kernel
theorem dL_isMayRight_114 : decode cL_isMayRight 114 = .ok (.goto (-39), 3) := by decide +kernel
theorem dL_isMayRight_117 : decode cL_isMayRight 117 = .ok (.iinc 3 7, 3) := by decide +kernel
theorem dL_isMayRight_120 : decode cL_isMayRight 120 = .ok (.goto (-77), 3) := by decide +kernel
theorem dL_isMayRight_123 : decode cL_isMayRight 123 = .ok (.aload_n 0, 1) := by decide +kernel
theorem dL_isMayRight_124 : decode cL_isMayRight 124 = .ok (.invokevirtual 139, 3) := by decide +kernel
theorem dL_isMayRight_127 : decode cL_isMayRight 127 = .ok (.dconst 0, 1) := by decide +kernel
theorem dL_isMayRight_128 : decode cL_isMayRight 128 = .ok (.dcmp .l, 1) := by decide +kernel
theorem dL_isMayRight_129 : decode cL_isMayRight 129 = .ok (.ifCond .lt 7, 3) := by decide +kernel
theorem dL_isMayRight_132 : decode cL_isMayRight 132 = .ok (.iconst 1, 1) := by decide +kernel
theorem dL_isMayRight_133 : decode cL_isMayRight 133 = .ok (.goto 4, 3) := by decide +kernel
theorem dL_isMayRight_136 : decode cL_isMayRight 136 = .ok (.iconst 0, 1) := by decide +kernel
theorem dL_isMayRight_137 : decode cL_isMayRight 137 = .ok (.ireturn, 1) := by decide +kernel
