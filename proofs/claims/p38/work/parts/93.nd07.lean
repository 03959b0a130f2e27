theorem dL_areRingsRight_70 : decode cL_areRingsRight 70 = .ok (.iconst 0, 1) := by decide +kernel
theorem dL_areRingsRight_71 : decode cL_areRingsRight 71 = .ok (.istore 6, 2) := by decide +kernel
theorem dL_areRingsRight_73 : decode cL_areRingsRight 73 = .ok (.iload 6, 2) := by decide +kernel
theorem dL_areRingsRight_75 : decode cL_areRingsRight 75 = .ok (.iload 5, 2) := by decide +kernel
theorem dL_areRingsRight_77 : decode cL_areRingsRight 77 = .ok (.if_icmp .ge 136, 3) := by decide +kernel
theorem dL_areRingsRight_80 : decode cL_areRingsRight 80 = .ok (.aload_n 0, 1) := by decide +kernel
theorem dL_areRingsRight_81 : decode cL_areRingsRight 81 = .ok (.iload 4, 2) := by decide +kernel
theorem dL_areRingsRight_83 : decode cL_areRingsRight 83 = .ok (.iload 6, 2) := by decide +kernel
theorem dL_areRingsRight_85 : decode cL_areRingsRight 85 = .ok (.invokevirtual 55, 3) := by decide +kernel
theorem dL_areRingsRight_88 : decode cL_areRingsRight 88 = .ok (.istore 7, 2) := by decide +kernel
theorem dL_areRingsRight_90 : decode cL_areRingsRight 90 = .ok (.aload_n 0, 1) := by decide +kernel
theorem dL_areRingsRight_91 : decode cL_areRingsRight 91 = .ok (.iload 4, 2) := by decide +kernel
theorem dL_areRingsRight_93 : decode cL_areRingsRight 93 = .ok (.iload 6, 2) := by decide +kernel
theorem dL_areRingsRight_95 : decode cL_areRingsRight 95 = .ok (.iconst 1, 1) := by decide +kernel
theorem dL_areRingsRight_96 : decode cL_areRingsRight 96 = .ok (.iadd, 1) := by decide +kernel
theorem dL_areRingsRight_97 : decode cL_areRingsRight 97 = .ok (.iload 5, 2) := by decide +kernel
theorem dL_areRingsRight_99 : decode cL_areRingsRight 99 = .ok (.irem, 1) := by decide +kernel
theorem dL_areRingsRight_100 : decode cL_areRingsRight 100 = .ok (.invokevirtual 55, 3) := by decide +kernel
theorem dL_areRingsRight_103 : decode cL_areRingsRight 103 = .ok (.istore 8, 2) := by decide +kernel
theorem dL_areRingsRight_105 : decode cL_areRingsRight 105 = .ok (.aload_n 1, 1) := by decide +kernel
theorem dL_areRingsRight_106 : decode cL_areRingsRight 106 = .ok (.iload 7, 2) := by decide +kernel
theorem dL_areRingsRight_108 : decode cL_areRingsRight 108 = .ok (.aaload, 1) := by decide +kernel
theorem dL_areRingsRight_109 : decode cL_areRingsRight 109 = .ok (.iload 8, 2) := by decide +kernel
theorem dL_areRingsRight_111 : decode cL_areRingsRight 111 = .ok (.baload, 1) := by decide +kernel
theorem dL_areRingsRight_112 : decode cL_areRingsRight 112 = .ok (.ifCond .ne 54, 3) := by decide +kernel
theorem dL_areRingsRight_115 : decode cL_areRingsRight 115 = .ok (.aload_n 0, 1) := by decide +kernel
theorem dL_areRingsRight_116 : decode cL_areRingsRight 116 = .ok (.iload 7, 2) := by decide +kernel
theorem dL_areRingsRight_118 : decode cL_areRingsRight 118 = .ok (.iload 8, 2) := by decide +kernel
theorem dL_areRingsRight_120 : decode cL_areRingsRight 120 = .ok (.invokevirtual 64, 3) := by decide +kernel
theorem dL_areRingsRight_123 : decode cL_areRingsRight 123 = .ok (.iload 4, 2) := by decide +kernel
theorem dL_areRingsRight_125 : decode cL_areRingsRight 125 = .ok (.if_icmp .ne 41, 3) := by decide +kernel
theorem dL_areRingsRight_128 : decode cL_areRingsRight 128 = .ok (.aload_n 0, 1) := by decide +kernel
theorem dL_areRingsRight_129 : decode cL_areRingsRight 129 = .ok (.iload 7, 2) := by decide +kernel
theorem dL_areRingsRight_131 : decode cL_areRingsRight 131 = .ok (.iconst 0, 1) := by decide +kernel
theorem dL_areRingsRight_132 : decode cL_areRingsRight 132 = .ok (.invokevirtual 73, 3) := by decide +kernel
theorem dL_areRingsRight_135 : decode cL_areRingsRight 135 = .ok (.sipush (-500), 3) := by decide +kernel
theorem dL_areRingsRight_138 : decode cL_areRingsRight 138 = .ok (.if_icmp .lt 28, 3) := by decide +kernel
theorem dL_areRingsRight_141 : decode cL_areRingsRight 141 = .ok (.aload_n 0, 1) := by decide +kernel
theorem dL_areRingsRight_142 : decode cL_areRingsRight 142 = .ok (.iload 7, 2) := by decide +kernel
theorem dL_areRingsRight_144 : decode cL_areRingsRight 144 = .ok (.iconst 2, 1) := by decide +kernel
theorem dL_areRingsRight_145 : decode cL_areRingsRight 145 = .ok (.invokevirtual 73, 3) := by decide +kernel
theorem dL_areRingsRight_148 : decode cL_areRingsRight 148 = .ok (.sipush 500, 3) := by decide +kernel
theorem dL_areRingsRight_151 : decode cL_areRingsRight 151 = .ok (.if_icmp .gt 15, 3) := by decide +kernel
theorem dL_areRingsRight_154 : decode cL_areRingsRight 154 = .ok (.aload_n 0, 1) := by decide +kernel
theorem dL_areRingsRight_155 : decode cL_areRingsRight 155 = .ok (.iload 7, 2) := by decide +kernel
theorem dL_areRingsRight_157 : decode cL_areRingsRight 157 = .ok (.iload 8, 2) := by decide +kernel
theorem dL_areRingsRight_159 : decode cL_areRingsRight 159 = .ok (.invokevirtual 130, 3) := by decide +kernel
theorem dL_areRingsRight_162 : decode cL_areRingsRight 162 = .ok (.iconst 1, 1) := by decide +kernel
theorem dL_areRingsRight_163 : decode cL_areRingsRight 163 = .ok (.if_icmp .eq 5, 3) := by decide +kernel
theorem dL_areRingsRight_166 : decode cL_areRingsRight 166 = .ok (.iconst 0, 1) := by decide +kernel
theorem dL_areRingsRight_167 : decode cL_areRingsRight 167 = .ok (.ireturn, 1) := by decide +kernel
theorem dL_areRingsRight_168 : decode cL_areRingsRight 168 = .ok (.aload_n 1, 1) := by decide +kernel
theorem dL_areRingsRight_169 : decode cL_areRingsRight 169 = .ok (.iload 7, 2) := by decide +kernel
theorem dL_areRingsRight_171 : decode cL_areRingsRight 171 = .ok (.aaload, 1) := by decide +kernel
theorem dL_areRingsRight_172 : decode cL_areRingsRight 172 = .ok (.iload 8, 2) := by decide +kernel
theorem dL_areRingsRight_174 : decode cL_areRingsRight 174 = .ok (.iconst 1, 1) := by decide +kernel
theorem dL_areRingsRight_175 : decode cL_areRingsRight 175 = .ok (.bastore, 1) := by decide +kernel
theorem dL_areRingsRight_176 : decode cL_areRingsRight 176 = .ok (.iconst 0, 1) := by decide +kernel
theorem dL_areRingsRight_177 : decode cL_areRingsRight 177 = .ok (.istore 9, 2) := by decide +kernel
theorem dL_areRingsRight_179 : decode cL_areRingsRight 179 = .ok (.iload 9, 2) := by decide +kernel
theorem dL_areRingsRight_181 : decode cL_areRingsRight 181 = .ok (.iload 6, 2) := by decide +kernel
theorem dL_areRingsRight_183 : decode cL_areRingsRight 183 = .ok (.if_icmp .ge 24, 3) := by decide +kernel
theorem dL_areRingsRight_186 : decode cL_areRingsRight 186 = .ok (.aload_n 0, 1) := by decide +kernel
theorem dL_areRingsRight_187 : decode cL_areRingsRight 187 = .ok (.iload 4, 2) := by decide +kernel
theorem dL_areRingsRight_189 : decode cL_areRingsRight 189 = .ok (.iload 9, 2) := by decide +kernel
theorem dL_areRingsRight_191 : decode cL_areRingsRight 191 = .ok (.invokevirtual 55, 3) := by decide +kernel
theorem dL_areRingsRight_194 : decode cL_areRingsRight 194 = .ok (.iload 7, 2) := by decide +kernel
theorem dL_areRingsRight_196 : decode cL_areRingsRight 196 = .ok (.if_icmp .ne 5, 3) := by decide +kernel
theorem dL_areRingsRight_199 : decode cL_areRingsRight 199 = .ok (.iconst 0, 1) := by decide +kernel
theorem dL_areRingsRight_200 : decode cL_areRingsRight 200 = .ok (.ireturn, 1) := by decide +kernel
theorem dL_areRingsRight_201 : decode cL_areRingsRight 201 = .ok (.iinc 9 1, 3) := by decide +kernel
theorem dL_areRingsRight_204 : decode cL_areRingsRight 204 = .ok (.goto (-25), 3) := by decide +kernel
theorem dL_areRingsRight_207 : decode cL_areRingsRight 207 = .ok (.iinc 6 1, 3) := by decide +kernel
theorem dL_areRingsRight_210 : decode cL_areRingsRight 210 = .ok (.goto (-137), 3) := by decide +kernel
theorem dL_areRingsRight_213 : decode cL_areRingsRight 213 = .ok (.iinc 4 1, 3) := by decide +kernel
theorem dL_areRingsRight_216 : decode cL_areRingsRight 216 = .ok (.goto (-200), 3) := by decide +kernel
theorem dL_areRingsRight_219 : decode cL_areRingsRight 219 = .ok (.iconst 0, 1) := by decide +kernel
theorem dL_areRingsRight_220 : decode cL_areRingsRight 220 = .ok (.istore 4, 2) := by decide +kernel
theorem dL_areRingsRight_222 : decode cL_areRingsRight 222 = .ok (.iconst 0, 1) := by decide +kernel
theorem dL_areRingsRight_223 : decode cL_areRingsRight 223 = .ok (.istore 5, 2) := by decide +kernel
theorem dL_areRingsRight_225 : decode cL_areRingsRight 225 = .ok (.iload 5, 2) := by decide +kernel
theorem dL_areRingsRight_227 : decode cL_areRingsRight 227 = .ok (.bipush 100, 2) := by decide +kernel
theorem dL_areRingsRight_229 : decode cL_areRingsRight 229 = .ok (.if_icmp .ge 55, 3) := by decide +kernel
theorem dL_areRingsRight_232 : decode cL_areRingsRight 232 = .ok (.iconst 0, 1) := by decide +kernel
theorem dL_areRingsRight_233 : decode cL_areRingsRight 233 = .ok (.istore 6, 2) := by decide +kernel
theorem dL_areRingsRight_235 : decode cL_areRingsRight 235 = .ok (.iload 6, 2) := by decide +kernel
theorem dL_areRingsRight_237 : decode cL_areRingsRight 237 = .ok (.bipush 100, 2) := by decide +kernel
theorem dL_areRingsRight_239 : decode cL_areRingsRight 239 = .ok (.if_icmp .ge 39, 3) := by decide +kernel
theorem dL_areRingsRight_242 : decode cL_areRingsRight 242 = .ok (.iload 4, 2) := by decide +kernel
theorem dL_areRingsRight_244 : decode cL_areRingsRight 244 = .ok (.aload_n 1, 1) := by decide +kernel
