theorem dL_law_2078 : decode cL_law 2078 = .ok (.invokevirtual 226, 3) := by decide +kernel
theorem dL_law_2081 : decode cL_law 2081 = .ok (.lcmp, 1) := by decide +kernel
theorem dL_law_2082 : decode cL_law 2082 = .ok (.ifCond .eq 5, 3) := by decide +kernel
theorem dL_law_2085 : decode cL_law 2085 = .ok (.iconst 0, 1) := by decide +kernel
theorem dL_law_2086 : decode cL_law 2086 = .ok (.ireturn, 1) := by decide +kernel
theorem dL_law_2087 : decode cL_law 2087 = .ok (.iinc 4 5, 3) := by decide +kernel
theorem dL_law_2090 : decode cL_law 2090 = .ok (.goto (-2067), 3) := by decide +kernel
theorem dL_law_2093 : decode cL_law 2093 = .ok (.iconst 1, 1) := by decide +kernel
theorem dL_law_2094 : decode cL_law 2094 = .ok (.ireturn, 1) := by decide +kernel
