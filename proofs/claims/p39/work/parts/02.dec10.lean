theorem dL_law_69 : decode cL_law 69 = .ok (.goto 30, 3) := by decide +kernel
theorem dL_law_72 : decode cL_law 72 = .ok (.aload_n 1, 1) := by decide +kernel
theorem dL_law_73 : decode cL_law 73 = .ok (.bipush 14, 2) := by decide +kernel
theorem dL_law_75 : decode cL_law 75 = .ok (.invokevirtual 15, 3) := by decide +kernel
theorem dL_law_78 : decode cL_law 78 = .ok (.iconst 1, 1) := by decide +kernel
theorem dL_law_79 : decode cL_law 79 = .ok (.if_icmp .ne 13, 3) := by decide +kernel
theorem dL_law_82 : decode cL_law 82 = .ok (.aload_n 1, 1) := by decide +kernel
theorem dL_law_83 : decode cL_law 83 = .ok (.iload_n 3, 1) := by decide +kernel
theorem dL_law_84 : decode cL_law 84 = .ok (.iload 4, 2) := by decide +kernel
theorem dL_law_86 : decode cL_law 86 = .ok (.invokestatic 152, 3) := by decide +kernel
theorem dL_law_89 : decode cL_law 89 = .ok (.goto 10, 3) := by decide +kernel
theorem dL_law_92 : decode cL_law 92 = .ok (.aload_n 1, 1) := by decide +kernel
theorem dL_law_93 : decode cL_law 93 = .ok (.iload_n 3, 1) := by decide +kernel
theorem dL_law_94 : decode cL_law 94 = .ok (.iload 4, 2) := by decide +kernel
theorem dL_law_96 : decode cL_law 96 = .ok (.invokestatic 155, 3) := by decide +kernel
theorem dL_law_99 : decode cL_law 99 = .ok (.istore 5, 2) := by decide +kernel
theorem dL_law_101 : decode cL_law 101 = .ok (.iload 5, 2) := by decide +kernel
theorem dL_law_103 : decode cL_law 103 = .ok (.ifCond .eq 31, 3) := by decide +kernel
theorem dL_law_106 : decode cL_law 106 = .ok (.aload_n 1, 1) := by decide +kernel
theorem dL_law_107 : decode cL_law 107 = .ok (.invokestatic 158, 3) := by decide +kernel
theorem dL_law_110 : decode cL_law 110 = .ok (.ifCond .eq 24, 3) := by decide +kernel
theorem dL_law_113 : decode cL_law 113 = .ok (.aload_n 1, 1) := by decide +kernel
theorem dL_law_114 : decode cL_law 114 = .ok (.invokestatic 162, 3) := by decide +kernel
theorem dL_law_117 : decode cL_law 117 = .ok (.ifCond .eq 17, 3) := by decide +kernel
theorem dL_law_120 : decode cL_law 120 = .ok (.aload_n 1, 1) := by decide +kernel
theorem dL_law_121 : decode cL_law 121 = .ok (.invokestatic 165, 3) := by decide +kernel
theorem dL_law_124 : decode cL_law 124 = .ok (.ifCond .eq 10, 3) := by decide +kernel
theorem dL_law_127 : decode cL_law 127 = .ok (.aload_n 1, 1) := by decide +kernel
theorem dL_law_128 : decode cL_law 128 = .ok (.invokestatic 168, 3) := by decide +kernel
theorem dL_law_131 : decode cL_law 131 = .ok (.ifCond .ne 5, 3) := by decide +kernel
theorem dL_law_134 : decode cL_law 134 = .ok (.iconst 0, 1) := by decide +kernel
theorem dL_law_135 : decode cL_law 135 = .ok (.ireturn, 1) := by decide +kernel
theorem dL_law_136 : decode cL_law 136 = .ok (.iinc 2 1, 3) := by decide +kernel
theorem dL_law_139 : decode cL_law 139 = .ok (.goto (-108), 3) := by decide +kernel
theorem dL_law_142 : decode cL_law 142 = .ok (.aload_n 1, 1) := by decide +kernel
theorem dL_law_143 : decode cL_law 143 = .ok (.invokestatic 171, 3) := by decide +kernel
theorem dL_law_146 : decode cL_law 146 = .ok (.ireturn, 1) := by decide +kernel
