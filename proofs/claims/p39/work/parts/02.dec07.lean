theorem dX7_keep_10 : decode cX7_keep 10 = .ok (.iload_n 1, 1) := by decide +kernel
theorem dX7_keep_11 : decode cX7_keep 11 = .ok (.invokevirtual 293, 3) := by decide +kernel
theorem dX7_keep_14 : decode cX7_keep 14 = .ok (.aload_n 0, 1) := by decide +kernel
theorem dX7_keep_15 : decode cX7_keep 15 = .ok (.getfield 19, 3) := by decide +kernel
theorem dX7_keep_18 : decode cX7_keep 18 = .ok (.invokevirtual 297, 3) := by decide +kernel
theorem dX7_keep_21 : decode cX7_keep 21 = .ok (.aload_n 0, 1) := by decide +kernel
theorem dX7_keep_22 : decode cX7_keep 22 = .ok (.dup, 1) := by decide +kernel
theorem dX7_keep_23 : decode cX7_keep 23 = .ok (.getfield 36, 3) := by decide +kernel
theorem dX7_keep_26 : decode cX7_keep 26 = .ok (.iconst 1, 1) := by decide +kernel
theorem dX7_keep_27 : decode cX7_keep 27 = .ok (.iload_n 1, 1) := by decide +kernel
theorem dX7_keep_28 : decode cX7_keep 28 = .ok (.ishl, 1) := by decide +kernel
theorem dX7_keep_29 : decode cX7_keep 29 = .ok (.ior, 1) := by decide +kernel
theorem dX7_keep_30 : decode cX7_keep 30 = .ok (.putfield 36, 3) := by decide +kernel
theorem dX7_keep_33 : decode cX7_keep 33 = .ok (.aload_n 0, 1) := by decide +kernel
theorem dX7_keep_34 : decode cX7_keep 34 = .ok (.getfield 19, 3) := by decide +kernel
theorem dX7_keep_37 : decode cX7_keep 37 = .ok (.getfield 269, 3) := by decide +kernel
theorem dX7_keep_40 : decode cX7_keep 40 = .ok (.ireturn, 1) := by decide +kernel
theorem dX7_restore_0 : decode cX7_restore 0 = .ok (.iload_n 1, 1) := by decide +kernel
theorem dX7_restore_1 : decode cX7_restore 1 = .ok (.invokestatic 290, 3) := by decide +kernel
theorem dX7_restore_4 : decode cX7_restore 4 = .ok (.ifCond .ne 5, 3) := by decide +kernel
theorem dX7_restore_7 : decode cX7_restore 7 = .ok (.iconst (-1), 1) := by decide +kernel
theorem dX7_restore_8 : decode cX7_restore 8 = .ok (.ireturn, 1) := by decide +kernel
theorem dX7_restore_9 : decode cX7_restore 9 = .ok (.aload_n 0, 1) := by decide +kernel
theorem dX7_restore_10 : decode cX7_restore 10 = .ok (.getfield 36, 3) := by decide +kernel
theorem dX7_restore_13 : decode cX7_restore 13 = .ok (.iload_n 1, 1) := by decide +kernel
theorem dX7_restore_14 : decode cX7_restore 14 = .ok (.ishr, 1) := by decide +kernel
theorem dX7_restore_15 : decode cX7_restore 15 = .ok (.iconst 1, 1) := by decide +kernel
theorem dX7_restore_16 : decode cX7_restore 16 = .ok (.iand, 1) := by decide +kernel
theorem dX7_restore_17 : decode cX7_restore 17 = .ok (.ifCond .ne 6, 3) := by decide +kernel
theorem dX7_restore_20 : decode cX7_restore 20 = .ok (.bipush (-5), 2) := by decide +kernel
theorem dX7_restore_22 : decode cX7_restore 22 = .ok (.ireturn, 1) := by decide +kernel
theorem dX7_restore_23 : decode cX7_restore 23 = .ok (.aload_n 0, 1) := by decide +kernel
theorem dX7_restore_24 : decode cX7_restore 24 = .ok (.getfield 19, 3) := by decide +kernel
theorem dX7_restore_27 : decode cX7_restore 27 = .ok (.aload_n 0, 1) := by decide +kernel
theorem dX7_restore_28 : decode cX7_restore 28 = .ok (.iload_n 1, 1) := by decide +kernel
theorem dX7_restore_29 : decode cX7_restore 29 = .ok (.invokevirtual 293, 3) := by decide +kernel
theorem dX7_restore_32 : decode cX7_restore 32 = .ok (.invokevirtual 297, 3) := by decide +kernel
theorem dX7_restore_35 : decode cX7_restore 35 = .ok (.aload_n 0, 1) := by decide +kernel
theorem dX7_restore_36 : decode cX7_restore 36 = .ok (.getfield 19, 3) := by decide +kernel
theorem dX7_restore_39 : decode cX7_restore 39 = .ok (.getfield 269, 3) := by decide +kernel
theorem dX7_restore_42 : decode cX7_restore 42 = .ok (.ireturn, 1) := by decide +kernel
theorem dX7_box_0 : decode cX7_box 0 = .ok (.aload_n 0, 1) := by decide +kernel
theorem dX7_box_1 : decode cX7_box 1 = .ok (.getfield 19, 3) := by decide +kernel
theorem dX7_box_4 : decode cX7_box 4 = .ok (.getfield 51, 3) := by decide +kernel
theorem dX7_box_7 : decode cX7_box 7 = .ok (.astore_n 3, 1) := by decide +kernel
theorem dX7_box_8 : decode cX7_box 8 = .ok (.aload_n 3, 1) := by decide +kernel
theorem dX7_box_9 : decode cX7_box 9 = .ok (.iload_n 1, 1) := by decide +kernel
theorem dX7_box_10 : decode cX7_box 10 = .ok (.invokevirtual 64, 3) := by decide +kernel
theorem dX7_box_13 : decode cX7_box 13 = .ok (.ifCond .ne 5, 3) := by decide +kernel
theorem dX7_box_16 : decode cX7_box 16 = .ok (.iconst (-1), 1) := by decide +kernel
theorem dX7_box_17 : decode cX7_box 17 = .ok (.ireturn, 1) := by decide +kernel
theorem dX7_box_18 : decode cX7_box 18 = .ok (.iload_n 2, 1) := by decide +kernel
theorem dX7_box_19 : decode cX7_box 19 = .ok (.tableswitch 147 0 7 #[45, 63, 81, 90, 99, 105, 111, 138], 45) := by decide +kernel
theorem dX7_box_64 : decode cX7_box 64 = .ok (.iload_n 1, 1) := by decide +kernel
theorem dX7_box_65 : decode cX7_box 65 = .ok (.ifCond .ne 8, 3) := by decide +kernel
theorem dX7_box_68 : decode cX7_box 68 = .ok (.bipush (-5), 2) := by decide +kernel
theorem dX7_box_70 : decode cX7_box 70 = .ok (.goto 11, 3) := by decide +kernel
theorem dX7_box_73 : decode cX7_box 73 = .ok (.aload_n 3, 1) := by decide +kernel
theorem dX7_box_74 : decode cX7_box 74 = .ok (.getfield 301, 3) := by decide +kernel
theorem dX7_box_77 : decode cX7_box 77 = .ok (.iload_n 1, 1) := by decide +kernel
theorem dX7_box_78 : decode cX7_box 78 = .ok (.invokestatic 136, 3) := by decide +kernel
theorem dX7_box_81 : decode cX7_box 81 = .ok (.ireturn, 1) := by decide +kernel
theorem dX7_box_82 : decode cX7_box 82 = .ok (.iload_n 1, 1) := by decide +kernel
theorem dX7_box_83 : decode cX7_box 83 = .ok (.ifCond .ne 8, 3) := by decide +kernel
theorem dX7_box_86 : decode cX7_box 86 = .ok (.bipush (-5), 2) := by decide +kernel
theorem dX7_box_88 : decode cX7_box 88 = .ok (.goto 11, 3) := by decide +kernel
theorem dX7_box_91 : decode cX7_box 91 = .ok (.aload_n 3, 1) := by decide +kernel
theorem dX7_box_92 : decode cX7_box 92 = .ok (.getfield 303, 3) := by decide +kernel
theorem dX7_box_95 : decode cX7_box 95 = .ok (.iload_n 1, 1) := by decide +kernel
theorem dX7_box_96 : decode cX7_box 96 = .ok (.invokestatic 136, 3) := by decide +kernel
theorem dX7_box_99 : decode cX7_box 99 = .ok (.ireturn, 1) := by decide +kernel
theorem dX7_box_100 : decode cX7_box 100 = .ok (.aload_n 3, 1) := by decide +kernel
theorem dX7_box_101 : decode cX7_box 101 = .ok (.getfield 215, 3) := by decide +kernel
theorem dX7_box_104 : decode cX7_box 104 = .ok (.iload_n 1, 1) := by decide +kernel
theorem dX7_box_105 : decode cX7_box 105 = .ok (.invokestatic 136, 3) := by decide +kernel
theorem dX7_box_108 : decode cX7_box 108 = .ok (.ireturn, 1) := by decide +kernel
theorem dX7_box_109 : decode cX7_box 109 = .ok (.aload_n 3, 1) := by decide +kernel
theorem dX7_box_110 : decode cX7_box 110 = .ok (.iload_n 1, 1) := by decide +kernel
theorem dX7_box_111 : decode cX7_box 111 = .ok (.invokevirtual 305, 3) := by decide +kernel
theorem dX7_box_114 : decode cX7_box 114 = .ok (.invokestatic 308, 3) := by decide +kernel
theorem dX7_box_117 : decode cX7_box 117 = .ok (.ireturn, 1) := by decide +kernel
theorem dX7_box_118 : decode cX7_box 118 = .ok (.aload_n 3, 1) := by decide +kernel
theorem dX7_box_119 : decode cX7_box 119 = .ok (.iload_n 1, 1) := by decide +kernel
theorem dX7_box_120 : decode cX7_box 120 = .ok (.invokevirtual 312, 3) := by decide +kernel
theorem dX7_box_123 : decode cX7_box 123 = .ok (.ireturn, 1) := by decide +kernel
theorem dX7_box_124 : decode cX7_box 124 = .ok (.aload_n 3, 1) := by decide +kernel
theorem dX7_box_125 : decode cX7_box 125 = .ok (.iload_n 1, 1) := by decide +kernel
theorem dX7_box_126 : decode cX7_box 126 = .ok (.invokevirtual 315, 3) := by decide +kernel
theorem dX7_box_129 : decode cX7_box 129 = .ok (.ireturn, 1) := by decide +kernel
theorem dX7_box_130 : decode cX7_box 130 = .ok (.iload_n 1, 1) := by decide +kernel
theorem dX7_box_131 : decode cX7_box 131 = .ok (.ifCond .eq 12, 3) := by decide +kernel
theorem dX7_box_134 : decode cX7_box 134 = .ok (.aload_n 3, 1) := by decide +kernel
theorem dX7_box_135 : decode cX7_box 135 = .ok (.iload_n 1, 1) := by decide +kernel
theorem dX7_box_136 : decode cX7_box 136 = .ok (.iconst 0, 1) := by decide +kernel
theorem dX7_box_137 : decode cX7_box 137 = .ok (.invokevirtual 98, 3) := by decide +kernel
theorem dX7_box_140 : decode cX7_box 140 = .ok (.ifCond .eq 8, 3) := by decide +kernel
theorem dX7_box_143 : decode cX7_box 143 = .ok (.bipush (-5), 2) := by decide +kernel
theorem dX7_box_145 : decode cX7_box 145 = .ok (.goto 11, 3) := by decide +kernel
theorem dX7_box_148 : decode cX7_box 148 = .ok (.aload_n 3, 1) := by decide +kernel
theorem dX7_box_149 : decode cX7_box 149 = .ok (.getfield 208, 3) := by decide +kernel
theorem dX7_box_152 : decode cX7_box 152 = .ok (.iload_n 1, 1) := by decide +kernel
theorem dX7_box_153 : decode cX7_box 153 = .ok (.invokestatic 136, 3) := by decide +kernel
theorem dX7_box_156 : decode cX7_box 156 = .ok (.ireturn, 1) := by decide +kernel
theorem dX7_box_157 : decode cX7_box 157 = .ok (.aload_n 3, 1) := by decide +kernel
theorem dX7_box_158 : decode cX7_box 158 = .ok (.getfield 318, 3) := by decide +kernel
theorem dX7_box_161 : decode cX7_box 161 = .ok (.iload_n 1, 1) := by decide +kernel
theorem dX7_box_162 : decode cX7_box 162 = .ok (.invokestatic 136, 3) := by decide +kernel
theorem dX7_box_165 : decode cX7_box 165 = .ok (.ireturn, 1) := by decide +kernel
theorem dX7_box_166 : decode cX7_box 166 = .ok (.bipush (-2), 2) := by decide +kernel
theorem dX7_box_168 : decode cX7_box 168 = .ok (.ireturn, 1) := by decide +kernel
theorem dX7_prop_0 : decode cX7_prop 0 = .ok (.aload_n 0, 1) := by decide +kernel
theorem dX7_prop_1 : decode cX7_prop 1 = .ok (.getfield 19, 3) := by decide +kernel
theorem dX7_prop_4 : decode cX7_prop 4 = .ok (.getfield 51, 3) := by decide +kernel
theorem dX7_prop_7 : decode cX7_prop 7 = .ok (.astore_n 3, 1) := by decide +kernel
theorem dX7_prop_8 : decode cX7_prop 8 = .ok (.aload_n 3, 1) := by decide +kernel
theorem dX7_prop_9 : decode cX7_prop 9 = .ok (.iload_n 1, 1) := by decide +kernel
theorem dX7_prop_10 : decode cX7_prop 10 = .ok (.invokevirtual 71, 3) := by decide +kernel
theorem dX7_prop_13 : decode cX7_prop 13 = .ok (.ifCond .ne 5, 3) := by decide +kernel
theorem dX7_prop_16 : decode cX7_prop 16 = .ok (.iconst (-1), 1) := by decide +kernel
theorem dX7_prop_17 : decode cX7_prop 17 = .ok (.ireturn, 1) := by decide +kernel
theorem dX7_prop_18 : decode cX7_prop 18 = .ok (.iload_n 2, 1) := by decide +kernel
theorem dX7_prop_19 : decode cX7_prop 19 = .ok (.tableswitch 85 0 4 #[33, 42, 64, 73, 79], 33) := by decide +kernel
theorem dX7_prop_52 : decode cX7_prop 52 = .ok (.aload_n 3, 1) := by decide +kernel
theorem dX7_prop_53 : decode cX7_prop 53 = .ok (.getfield 272, 3) := by decide +kernel
theorem dX7_prop_56 : decode cX7_prop 56 = .ok (.iload_n 1, 1) := by decide +kernel
theorem dX7_prop_57 : decode cX7_prop 57 = .ok (.invokestatic 136, 3) := by decide +kernel
theorem dX7_prop_60 : decode cX7_prop 60 = .ok (.ireturn, 1) := by decide +kernel
theorem dX7_prop_61 : decode cX7_prop 61 = .ok (.aload_n 3, 1) := by decide +kernel
theorem dX7_prop_62 : decode cX7_prop 62 = .ok (.iload_n 1, 1) := by decide +kernel
theorem dX7_prop_63 : decode cX7_prop 63 = .ok (.invokevirtual 166, 3) := by decide +kernel
theorem dX7_prop_66 : decode cX7_prop 66 = .ok (.ifCond .eq 8, 3) := by decide +kernel
theorem dX7_prop_69 : decode cX7_prop 69 = .ok (.bipush (-5), 2) := by decide +kernel
theorem dX7_prop_71 : decode cX7_prop 71 = .ok (.goto 11, 3) := by decide +kernel
theorem dX7_prop_74 : decode cX7_prop 74 = .ok (.aload_n 3, 1) := by decide +kernel
theorem dX7_prop_75 : decode cX7_prop 75 = .ok (.getfield 194, 3) := by decide +kernel
theorem dX7_prop_78 : decode cX7_prop 78 = .ok (.iload_n 1, 1) := by decide +kernel
theorem dX7_prop_79 : decode cX7_prop 79 = .ok (.invokestatic 136, 3) := by decide +kernel
theorem dX7_prop_82 : decode cX7_prop 82 = .ok (.ireturn, 1) := by decide +kernel
theorem dX7_prop_83 : decode cX7_prop 83 = .ok (.aload_n 3, 1) := by decide +kernel
theorem dX7_prop_84 : decode cX7_prop 84 = .ok (.iload_n 1, 1) := by decide +kernel
theorem dX7_prop_85 : decode cX7_prop 85 = .ok (.invokevirtual 169, 3) := by decide +kernel
theorem dX7_prop_88 : decode cX7_prop 88 = .ok (.invokestatic 308, 3) := by decide +kernel
theorem dX7_prop_91 : decode cX7_prop 91 = .ok (.ireturn, 1) := by decide +kernel
theorem dX7_prop_92 : decode cX7_prop 92 = .ok (.aload_n 3, 1) := by decide +kernel
theorem dX7_prop_93 : decode cX7_prop 93 = .ok (.iload_n 1, 1) := by decide +kernel
theorem dX7_prop_94 : decode cX7_prop 94 = .ok (.invokevirtual 321, 3) := by decide +kernel
theorem dX7_prop_97 : decode cX7_prop 97 = .ok (.ireturn, 1) := by decide +kernel
theorem dX7_prop_98 : decode cX7_prop 98 = .ok (.aload_n 3, 1) := by decide +kernel
theorem dX7_prop_99 : decode cX7_prop 99 = .ok (.iload_n 1, 1) := by decide +kernel
theorem dX7_prop_100 : decode cX7_prop 100 = .ok (.invokevirtual 324, 3) := by decide +kernel
theorem dX7_prop_103 : decode cX7_prop 103 = .ok (.ireturn, 1) := by decide +kernel
theorem dX7_prop_104 : decode cX7_prop 104 = .ok (.bipush (-2), 2) := by decide +kernel
theorem dX7_prop_106 : decode cX7_prop 106 = .ok (.ireturn, 1) := by decide +kernel
theorem dX7_clue_0 : decode cX7_clue 0 = .ok (.aload_n 0, 1) := by decide +kernel
theorem dX7_clue_1 : decode cX7_clue 1 = .ok (.getfield 19, 3) := by decide +kernel
theorem dX7_clue_4 : decode cX7_clue 4 = .ok (.getfield 51, 3) := by decide +kernel
theorem dX7_clue_7 : decode cX7_clue 7 = .ok (.astore_n 3, 1) := by decide +kernel
theorem dX7_clue_8 : decode cX7_clue 8 = .ok (.aload_n 3, 1) := by decide +kernel
theorem dX7_clue_9 : decode cX7_clue 9 = .ok (.iload_n 1, 1) := by decide +kernel
theorem dX7_clue_10 : decode cX7_clue 10 = .ok (.invokevirtual 222, 3) := by decide +kernel
theorem dX7_clue_13 : decode cX7_clue 13 = .ok (.ifCond .ne 5, 3) := by decide +kernel
theorem dX7_clue_16 : decode cX7_clue 16 = .ok (.iconst (-1), 1) := by decide +kernel
theorem dX7_clue_17 : decode cX7_clue 17 = .ok (.ireturn, 1) := by decide +kernel
theorem dX7_clue_18 : decode cX7_clue 18 = .ok (.iload_n 2, 1) := by decide +kernel
theorem dX7_clue_19 : decode cX7_clue 19 = .ok (.tableswitch 88 0 5 #[37, 46, 55, 64, 73, 79], 37) := by decide +kernel
theorem dX7_clue_56 : decode cX7_clue 56 = .ok (.aload_n 3, 1) := by decide +kernel
theorem dX7_clue_57 : decode cX7_clue 57 = .ok (.getfield 327, 3) := by decide +kernel
theorem dX7_clue_60 : decode cX7_clue 60 = .ok (.iload_n 1, 1) := by decide +kernel
theorem dX7_clue_61 : decode cX7_clue 61 = .ok (.invokestatic 136, 3) := by decide +kernel
theorem dX7_clue_64 : decode cX7_clue 64 = .ok (.ireturn, 1) := by decide +kernel
theorem dX7_clue_65 : decode cX7_clue 65 = .ok (.aload_n 3, 1) := by decide +kernel
theorem dX7_clue_66 : decode cX7_clue 66 = .ok (.getfield 330, 3) := by decide +kernel
theorem dX7_clue_69 : decode cX7_clue 69 = .ok (.iload_n 1, 1) := by decide +kernel
theorem dX7_clue_70 : decode cX7_clue 70 = .ok (.invokestatic 136, 3) := by decide +kernel
theorem dX7_clue_73 : decode cX7_clue 73 = .ok (.ireturn, 1) := by decide +kernel
theorem dX7_clue_74 : decode cX7_clue 74 = .ok (.aload_n 3, 1) := by decide +kernel
theorem dX7_clue_75 : decode cX7_clue 75 = .ok (.getfield 333, 3) := by decide +kernel
theorem dX7_clue_78 : decode cX7_clue 78 = .ok (.iload_n 1, 1) := by decide +kernel
theorem dX7_clue_79 : decode cX7_clue 79 = .ok (.invokestatic 136, 3) := by decide +kernel
theorem dX7_clue_82 : decode cX7_clue 82 = .ok (.ireturn, 1) := by decide +kernel
theorem dX7_clue_83 : decode cX7_clue 83 = .ok (.aload_n 3, 1) := by decide +kernel
theorem dX7_clue_84 : decode cX7_clue 84 = .ok (.getfield 228, 3) := by decide +kernel
theorem dX7_clue_87 : decode cX7_clue 87 = .ok (.iload_n 1, 1) := by decide +kernel
theorem dX7_clue_88 : decode cX7_clue 88 = .ok (.invokestatic 136, 3) := by decide +kernel
theorem dX7_clue_91 : decode cX7_clue 91 = .ok (.ireturn, 1) := by decide +kernel
theorem dX7_clue_92 : decode cX7_clue 92 = .ok (.aload_n 3, 1) := by decide +kernel
theorem dX7_clue_93 : decode cX7_clue 93 = .ok (.iload_n 1, 1) := by decide +kernel
theorem dX7_clue_94 : decode cX7_clue 94 = .ok (.invokevirtual 239, 3) := by decide +kernel
theorem dX7_clue_97 : decode cX7_clue 97 = .ok (.ireturn, 1) := by decide +kernel
theorem dX7_clue_98 : decode cX7_clue 98 = .ok (.aload_n 3, 1) := by decide +kernel
theorem dX7_clue_99 : decode cX7_clue 99 = .ok (.iload_n 1, 1) := by decide +kernel
theorem dX7_clue_100 : decode cX7_clue 100 = .ok (.invokevirtual 225, 3) := by decide +kernel
theorem dX7_clue_103 : decode cX7_clue 103 = .ok (.invokestatic 308, 3) := by decide +kernel
theorem dX7_clue_106 : decode cX7_clue 106 = .ok (.ireturn, 1) := by decide +kernel
theorem dX7_clue_107 : decode cX7_clue 107 = .ok (.bipush (-2), 2) := by decide +kernel
theorem dX7_clue_109 : decode cX7_clue 109 = .ok (.ireturn, 1) := by decide +kernel
theorem dX7_game_0 : decode cX7_game 0 = .ok (.iload_n 1, 1) := by decide +kernel
theorem dX7_game_1 : decode cX7_game 1 = .ok (.ifCond .lt 8, 3) := by decide +kernel
theorem dX7_game_4 : decode cX7_game 4 = .ok (.iload_n 1, 1) := by decide +kernel
theorem dX7_game_5 : decode cX7_game 5 = .ok (.iconst 5, 1) := by decide +kernel
theorem dX7_game_6 : decode cX7_game 6 = .ok (.if_icmp .le 6, 3) := by decide +kernel
theorem dX7_game_9 : decode cX7_game 9 = .ok (.bipush (-2), 2) := by decide +kernel
theorem dX7_game_11 : decode cX7_game 11 = .ok (.ireturn, 1) := by decide +kernel
theorem dX7_game_12 : decode cX7_game 12 = .ok (.aload_n 0, 1) := by decide +kernel
theorem dX7_game_13 : decode cX7_game 13 = .ok (.getfield 19, 3) := by decide +kernel
theorem dX7_game_16 : decode cX7_game 16 = .ok (.getfield 74, 3) := by decide +kernel
theorem dX7_game_19 : decode cX7_game 19 = .ok (.getfield 78, 3) := by decide +kernel
theorem dX7_game_22 : decode cX7_game 22 = .ok (.ifCond .ne 6, 3) := by decide +kernel
theorem dX7_game_25 : decode cX7_game 25 = .ok (.bipush (-4), 2) := by decide +kernel
theorem dX7_game_27 : decode cX7_game 27 = .ok (.ireturn, 1) := by decide +kernel
theorem dX7_game_28 : decode cX7_game 28 = .ok (.iload_n 1, 1) := by decide +kernel
theorem dX7_game_29 : decode cX7_game 29 = .ok (.tableswitch 87 0 4 #[35, 46, 57, 65, 76], 35) := by decide +kernel
theorem dX7_game_64 : decode cX7_game 64 = .ok (.aload_n 0, 1) := by decide +kernel
theorem dX7_game_65 : decode cX7_game 65 = .ok (.getfield 19, 3) := by decide +kernel
theorem dX7_game_68 : decode cX7_game 68 = .ok (.getfield 74, 3) := by decide +kernel
theorem dX7_game_71 : decode cX7_game 71 = .ok (.getfield 336, 3) := by decide +kernel
theorem dX7_game_74 : decode cX7_game 74 = .ok (.ireturn, 1) := by decide +kernel
theorem dX7_game_75 : decode cX7_game 75 = .ok (.aload_n 0, 1) := by decide +kernel
theorem dX7_game_76 : decode cX7_game 76 = .ok (.getfield 19, 3) := by decide +kernel
theorem dX7_game_79 : decode cX7_game 79 = .ok (.getfield 74, 3) := by decide +kernel
theorem dX7_game_82 : decode cX7_game 82 = .ok (.getfield 339, 3) := by decide +kernel
theorem dX7_game_85 : decode cX7_game 85 = .ok (.ireturn, 1) := by decide +kernel
theorem dX7_game_86 : decode cX7_game 86 = .ok (.aload_n 0, 1) := by decide +kernel
theorem dX7_game_87 : decode cX7_game 87 = .ok (.getfield 19, 3) := by decide +kernel
theorem dX7_game_90 : decode cX7_game 90 = .ok (.invokevirtual 244, 3) := by decide +kernel
theorem dX7_game_93 : decode cX7_game 93 = .ok (.ireturn, 1) := by decide +kernel
theorem dX7_game_94 : decode cX7_game 94 = .ok (.aload_n 0, 1) := by decide +kernel
theorem dX7_game_95 : decode cX7_game 95 = .ok (.getfield 19, 3) := by decide +kernel
theorem dX7_game_98 : decode cX7_game 98 = .ok (.getfield 74, 3) := by decide +kernel
theorem dX7_game_101 : decode cX7_game 101 = .ok (.getfield 247, 3) := by decide +kernel
theorem dX7_game_104 : decode cX7_game 104 = .ok (.ireturn, 1) := by decide +kernel
theorem dX7_game_105 : decode cX7_game 105 = .ok (.aload_n 0, 1) := by decide +kernel
theorem dX7_game_106 : decode cX7_game 106 = .ok (.getfield 19, 3) := by decide +kernel
theorem dX7_game_109 : decode cX7_game 109 = .ok (.getfield 51, 3) := by decide +kernel
theorem dX7_game_112 : decode cX7_game 112 = .ok (.invokevirtual 342, 3) := by decide +kernel
theorem dX7_game_115 : decode cX7_game 115 = .ok (.ireturn, 1) := by decide +kernel
theorem dX7_game_116 : decode cX7_game 116 = .ok (.aload_n 0, 1) := by decide +kernel
theorem dX7_game_117 : decode cX7_game 117 = .ok (.getfield 19, 3) := by decide +kernel
theorem dX7_game_120 : decode cX7_game 120 = .ok (.getfield 74, 3) := by decide +kernel
theorem dX7_game_123 : decode cX7_game 123 = .ok (.getfield 212, 3) := by decide +kernel
theorem dX7_game_126 : decode cX7_game 126 = .ok (.ireturn, 1) := by decide +kernel
theorem dX7_group_0 : decode cX7_group 0 = .ok (.aload_n 0, 1) := by decide +kernel
theorem dX7_group_1 : decode cX7_group 1 = .ok (.getfield 19, 3) := by decide +kernel
theorem dX7_group_4 : decode cX7_group 4 = .ok (.getfield 120, 3) := by decide +kernel
theorem dX7_group_7 : decode cX7_group 7 = .ok (.iload_n 1, 1) := by decide +kernel
theorem dX7_group_8 : decode cX7_group 8 = .ok (.invokevirtual 144, 3) := by decide +kernel
theorem dX7_group_11 : decode cX7_group 11 = .ok (.ifCond .ne 5, 3) := by decide +kernel
theorem dX7_group_14 : decode cX7_group 14 = .ok (.iconst (-1), 1) := by decide +kernel
theorem dX7_group_15 : decode cX7_group 15 = .ok (.ireturn, 1) := by decide +kernel
theorem dX7_group_16 : decode cX7_group 16 = .ok (.iload_n 2, 1) := by decide +kernel
theorem dX7_group_17 : decode cX7_group 17 = .ok (.tableswitch 66 0 2 #[27, 42, 57], 27) := by decide +kernel
theorem dX7_group_44 : decode cX7_group 44 = .ok (.aload_n 0, 1) := by decide +kernel
theorem dX7_group_45 : decode cX7_group 45 = .ok (.getfield 19, 3) := by decide +kernel
theorem dX7_group_48 : decode cX7_group 48 = .ok (.getfield 120, 3) := by decide +kernel
theorem dX7_group_51 : decode cX7_group 51 = .ok (.getfield 345, 3) := by decide +kernel
theorem dX7_group_54 : decode cX7_group 54 = .ok (.iload_n 1, 1) := by decide +kernel
theorem dX7_group_55 : decode cX7_group 55 = .ok (.invokestatic 136, 3) := by decide +kernel
theorem dX7_group_58 : decode cX7_group 58 = .ok (.ireturn, 1) := by decide +kernel
theorem dX7_group_59 : decode cX7_group 59 = .ok (.aload_n 0, 1) := by decide +kernel
theorem dX7_group_60 : decode cX7_group 60 = .ok (.getfield 19, 3) := by decide +kernel
theorem dX7_group_63 : decode cX7_group 63 = .ok (.getfield 120, 3) := by decide +kernel
theorem dX7_group_66 : decode cX7_group 66 = .ok (.getfield 133, 3) := by decide +kernel
theorem dX7_group_69 : decode cX7_group 69 = .ok (.iload_n 1, 1) := by decide +kernel
theorem dX7_group_70 : decode cX7_group 70 = .ok (.invokestatic 136, 3) := by decide +kernel
theorem dX7_group_73 : decode cX7_group 73 = .ok (.ireturn, 1) := by decide +kernel
theorem dX7_group_74 : decode cX7_group 74 = .ok (.aload_n 0, 1) := by decide +kernel
theorem dX7_group_75 : decode cX7_group 75 = .ok (.getfield 19, 3) := by decide +kernel
theorem dX7_group_78 : decode cX7_group 78 = .ok (.iload_n 1, 1) := by decide +kernel
theorem dX7_group_79 : decode cX7_group 79 = .ok (.invokevirtual 347, 3) := by decide +kernel
theorem dX7_group_82 : decode cX7_group 82 = .ok (.ireturn, 1) := by decide +kernel
theorem dX7_group_83 : decode cX7_group 83 = .ok (.bipush (-2), 2) := by decide +kernel
theorem dX7_group_85 : decode cX7_group 85 = .ok (.ireturn, 1) := by decide +kernel
theorem dX7_result_0 : decode cX7_result 0 = .ok (.iload_n 1, 1) := by decide +kernel
theorem dX7_result_1 : decode cX7_result 1 = .ok (.ifCond .lt 17, 3) := by decide +kernel
theorem dX7_result_4 : decode cX7_result 4 = .ok (.iload_n 1, 1) := by decide +kernel
theorem dX7_result_5 : decode cX7_result 5 = .ok (.aload_n 0, 1) := by decide +kernel
theorem dX7_result_6 : decode cX7_result 6 = .ok (.getfield 19, 3) := by decide +kernel
theorem dX7_result_9 : decode cX7_result 9 = .ok (.getfield 154, 3) := by decide +kernel
theorem dX7_result_12 : decode cX7_result 12 = .ok (.getfield 158, 3) := by decide +kernel
theorem dX7_result_15 : decode cX7_result 15 = .ok (.if_icmp .lt 5, 3) := by decide +kernel
theorem dX7_result_18 : decode cX7_result 18 = .ok (.iconst (-1), 1) := by decide +kernel
theorem dX7_result_19 : decode cX7_result 19 = .ok (.ireturn, 1) := by decide +kernel
theorem dX7_result_20 : decode cX7_result 20 = .ok (.iload_n 2, 1) := by decide +kernel
theorem dX7_result_21 : decode cX7_result 21 = .ok (.ifCond .lt 9, 3) := by decide +kernel
theorem dX7_result_24 : decode cX7_result 24 = .ok (.iload_n 2, 1) := by decide +kernel
theorem dX7_result_25 : decode cX7_result 25 = .ok (.bipush 7, 2) := by decide +kernel
theorem dX7_result_27 : decode cX7_result 27 = .ok (.if_icmp .lt 6, 3) := by decide +kernel
theorem dX7_result_30 : decode cX7_result 30 = .ok (.bipush (-2), 2) := by decide +kernel
theorem dX7_result_32 : decode cX7_result 32 = .ok (.ireturn, 1) := by decide +kernel
theorem dX7_result_33 : decode cX7_result 33 = .ok (.aload_n 0, 1) := by decide +kernel
theorem dX7_result_34 : decode cX7_result 34 = .ok (.getfield 19, 3) := by decide +kernel
theorem dX7_result_37 : decode cX7_result 37 = .ok (.getfield 154, 3) := by decide +kernel
theorem dX7_result_40 : decode cX7_result 40 = .ok (.getfield 350, 3) := by decide +kernel
theorem dX7_result_43 : decode cX7_result 43 = .ok (.iload_n 1, 1) := by decide +kernel
theorem dX7_result_44 : decode cX7_result 44 = .ok (.bipush 7, 2) := by decide +kernel
theorem dX7_result_46 : decode cX7_result 46 = .ok (.imul, 1) := by decide +kernel
theorem dX7_result_47 : decode cX7_result 47 = .ok (.iload_n 2, 1) := by decide +kernel
theorem dX7_result_48 : decode cX7_result 48 = .ok (.iadd, 1) := by decide +kernel
theorem dX7_result_49 : decode cX7_result 49 = .ok (.invokestatic 136, 3) := by decide +kernel
theorem dX7_result_52 : decode cX7_result 52 = .ok (.ireturn, 1) := by decide +kernel
theorem dX7_nextStep_0 : decode cX7_nextStep 0 = .ok (.aload_n 0, 1) := by decide +kernel
theorem dX7_nextStep_1 : decode cX7_nextStep 1 = .ok (.getfield 19, 3) := by decide +kernel
theorem dX7_nextStep_4 : decode cX7_nextStep 4 = .ok (.getfield 74, 3) := by decide +kernel
theorem dX7_nextStep_7 : decode cX7_nextStep 7 = .ok (.getfield 78, 3) := by decide +kernel
theorem dX7_nextStep_10 : decode cX7_nextStep 10 = .ok (.ifCond .ne 6, 3) := by decide +kernel
theorem dX7_nextStep_13 : decode cX7_nextStep 13 = .ok (.bipush (-4), 2) := by decide +kernel
theorem dX7_nextStep_15 : decode cX7_nextStep 15 = .ok (.ireturn, 1) := by decide +kernel
theorem dX7_nextStep_16 : decode cX7_nextStep 16 = .ok (.aload_n 0, 1) := by decide +kernel
theorem dX7_nextStep_17 : decode cX7_nextStep 17 = .ok (.getfield 19, 3) := by decide +kernel
theorem dX7_nextStep_20 : decode cX7_nextStep 20 = .ok (.getfield 51, 3) := by decide +kernel
theorem dX7_nextStep_23 : decode cX7_nextStep 23 = .ok (.aload_n 0, 1) := by decide +kernel
theorem dX7_nextStep_24 : decode cX7_nextStep 24 = .ok (.getfield 19, 3) := by decide +kernel
theorem dX7_nextStep_27 : decode cX7_nextStep 27 = .ok (.getfield 51, 3) := by decide +kernel
theorem dX7_nextStep_30 : decode cX7_nextStep 30 = .ok (.getfield 108, 3) := by decide +kernel
theorem dX7_nextStep_33 : decode cX7_nextStep 33 = .ok (.invokevirtual 250, 3) := by decide +kernel
theorem dX7_nextStep_36 : decode cX7_nextStep 36 = .ok (.invokestatic 255, 3) := by decide +kernel
theorem dX7_nextStep_39 : decode cX7_nextStep 39 = .ok (.ireturn, 1) := by decide +kernel
theorem dX7_plan_0 : decode cX7_plan 0 = .ok (.iload_n 1, 1) := by decide +kernel
theorem dX7_plan_1 : decode cX7_plan 1 = .ok (.invokestatic 124, 3) := by decide +kernel
theorem dX7_plan_4 : decode cX7_plan 4 = .ok (.ifCond .ne 6, 3) := by decide +kernel
theorem dX7_plan_7 : decode cX7_plan 7 = .ok (.bipush (-2), 2) := by decide +kernel
theorem dX7_plan_9 : decode cX7_plan 9 = .ok (.ireturn, 1) := by decide +kernel
theorem dX7_plan_10 : decode cX7_plan 10 = .ok (.aload_n 0, 1) := by decide +kernel
theorem dX7_plan_11 : decode cX7_plan 11 = .ok (.getfield 19, 3) := by decide +kernel
theorem dX7_plan_14 : decode cX7_plan 14 = .ok (.getfield 74, 3) := by decide +kernel
theorem dX7_plan_17 : decode cX7_plan 17 = .ok (.getfield 78, 3) := by decide +kernel
theorem dX7_plan_20 : decode cX7_plan 20 = .ok (.ifCond .ne 16, 3) := by decide +kernel
theorem dX7_plan_23 : decode cX7_plan 23 = .ok (.aload_n 0, 1) := by decide +kernel
theorem dX7_plan_24 : decode cX7_plan 24 = .ok (.getfield 19, 3) := by decide +kernel
theorem dX7_plan_27 : decode cX7_plan 27 = .ok (.getfield 51, 3) := by decide +kernel
theorem dX7_plan_30 : decode cX7_plan 30 = .ok (.getfield 108, 3) := by decide +kernel
theorem dX7_plan_33 : decode cX7_plan 33 = .ok (.ifCond .ne 6, 3) := by decide +kernel
theorem dX7_plan_36 : decode cX7_plan 36 = .ok (.bipush (-4), 2) := by decide +kernel
theorem dX7_plan_38 : decode cX7_plan 38 = .ok (.ireturn, 1) := by decide +kernel
theorem dX7_plan_39 : decode cX7_plan 39 = .ok (.aload_n 0, 1) := by decide +kernel
theorem dX7_plan_40 : decode cX7_plan 40 = .ok (.getfield 32, 3) := by decide +kernel
theorem dX7_plan_43 : decode cX7_plan 43 = .ok (.aload_n 0, 1) := by decide +kernel
theorem dX7_plan_44 : decode cX7_plan 44 = .ok (.getfield 19, 3) := by decide +kernel
theorem dX7_plan_47 : decode cX7_plan 47 = .ok (.getfield 51, 3) := by decide +kernel
theorem dX7_plan_50 : decode cX7_plan 50 = .ok (.invokevirtual 353, 3) := by decide +kernel
theorem dX7_plan_53 : decode cX7_plan 53 = .ok (.aload_n 0, 1) := by decide +kernel
theorem dX7_plan_54 : decode cX7_plan 54 = .ok (.getfield 32, 3) := by decide +kernel
theorem dX7_plan_57 : decode cX7_plan 57 = .ok (.iload_n 1, 1) := by decide +kernel
theorem dX7_plan_58 : decode cX7_plan 58 = .ok (.putfield 175, 3) := by decide +kernel
theorem dX7_plan_61 : decode cX7_plan 61 = .ok (.aload_n 0, 1) := by decide +kernel
theorem dX7_plan_62 : decode cX7_plan 62 = .ok (.getfield 32, 3) := by decide +kernel
theorem dX7_plan_65 : decode cX7_plan 65 = .ok (.invokevirtual 356, 3) := by decide +kernel
theorem dX7_plan_68 : decode cX7_plan 68 = .ok (.ireturn, 1) := by decide +kernel
theorem dX7_differences_0 : decode cX7_differences 0 = .ok (.iload_n 1, 1) := by decide +kernel
theorem dX7_differences_1 : decode cX7_differences 1 = .ok (.tableswitch 84 0 4 #[35, 46, 57, 68, 76], 35) := by decide +kernel
theorem dX7_differences_36 : decode cX7_differences 36 = .ok (.aload_n 0, 1) := by decide +kernel
theorem dX7_differences_37 : decode cX7_differences 37 = .ok (.getfield 19, 3) := by decide +kernel
theorem dX7_differences_40 : decode cX7_differences 40 = .ok (.getfield 51, 3) := by decide +kernel
theorem dX7_differences_43 : decode cX7_differences 43 = .ok (.invokevirtual 359, 3) := by decide +kernel
theorem dX7_differences_46 : decode cX7_differences 46 = .ok (.ireturn, 1) := by decide +kernel
theorem dX7_differences_47 : decode cX7_differences 47 = .ok (.aload_n 0, 1) := by decide +kernel
theorem dX7_differences_48 : decode cX7_differences 48 = .ok (.getfield 19, 3) := by decide +kernel
theorem dX7_differences_51 : decode cX7_differences 51 = .ok (.getfield 51, 3) := by decide +kernel
theorem dX7_differences_54 : decode cX7_differences 54 = .ok (.invokevirtual 275, 3) := by decide +kernel
theorem dX7_differences_57 : decode cX7_differences 57 = .ok (.ireturn, 1) := by decide +kernel
theorem dX7_differences_58 : decode cX7_differences 58 = .ok (.aload_n 0, 1) := by decide +kernel
theorem dX7_differences_59 : decode cX7_differences 59 = .ok (.getfield 19, 3) := by decide +kernel
theorem dX7_differences_62 : decode cX7_differences 62 = .ok (.getfield 51, 3) := by decide +kernel
theorem dX7_differences_65 : decode cX7_differences 65 = .ok (.invokevirtual 362, 3) := by decide +kernel
theorem dX7_differences_68 : decode cX7_differences 68 = .ok (.ireturn, 1) := by decide +kernel
theorem dX7_differences_69 : decode cX7_differences 69 = .ok (.aload_n 0, 1) := by decide +kernel
theorem dX7_differences_70 : decode cX7_differences 70 = .ok (.getfield 19, 3) := by decide +kernel
theorem dX7_differences_73 : decode cX7_differences 73 = .ok (.invokevirtual 284, 3) := by decide +kernel
theorem dX7_differences_76 : decode cX7_differences 76 = .ok (.ireturn, 1) := by decide +kernel
theorem dX7_differences_77 : decode cX7_differences 77 = .ok (.aload_n 0, 1) := by decide +kernel
theorem dX7_differences_78 : decode cX7_differences 78 = .ok (.getfield 19, 3) := by decide +kernel
theorem dX7_differences_81 : decode cX7_differences 81 = .ok (.invokevirtual 365, 3) := by decide +kernel
theorem dX7_differences_84 : decode cX7_differences 84 = .ok (.ireturn, 1) := by decide +kernel
theorem dX7_differences_85 : decode cX7_differences 85 = .ok (.bipush (-2), 2) := by decide +kernel
theorem dX7_differences_87 : decode cX7_differences 87 = .ok (.ireturn, 1) := by decide +kernel
theorem dX7_logAt_0 : decode cX7_logAt 0 = .ok (.iload_n 1, 1) := by decide +kernel
theorem dX7_logAt_1 : decode cX7_logAt 1 = .ok (.ifCond .ge 6, 3) := by decide +kernel
theorem dX7_logAt_4 : decode cX7_logAt 4 = .ok (.bipush (-2), 2) := by decide +kernel
theorem dX7_logAt_6 : decode cX7_logAt 6 = .ok (.ireturn, 1) := by decide +kernel
theorem dX7_logAt_7 : decode cX7_logAt 7 = .ok (.iload_n 1, 1) := by decide +kernel
theorem dX7_logAt_8 : decode cX7_logAt 8 = .ok (.aload_n 0, 1) := by decide +kernel
theorem dX7_logAt_9 : decode cX7_logAt 9 = .ok (.getfield 19, 3) := by decide +kernel
theorem dX7_logAt_12 : decode cX7_logAt 12 = .ok (.getfield 368, 3) := by decide +kernel
theorem dX7_logAt_15 : decode cX7_logAt 15 = .ok (.getfield 372, 3) := by decide +kernel
theorem dX7_logAt_18 : decode cX7_logAt 18 = .ok (.if_icmp .lt 6, 3) := by decide +kernel
theorem dX7_logAt_21 : decode cX7_logAt 21 = .ok (.bipush (-5), 2) := by decide +kernel
theorem dX7_logAt_23 : decode cX7_logAt 23 = .ok (.ireturn, 1) := by decide +kernel
theorem dX7_logAt_24 : decode cX7_logAt 24 = .ok (.aload_n 0, 1) := by decide +kernel
theorem dX7_logAt_25 : decode cX7_logAt 25 = .ok (.getfield 19, 3) := by decide +kernel
theorem dX7_logAt_28 : decode cX7_logAt 28 = .ok (.getfield 368, 3) := by decide +kernel
theorem dX7_logAt_31 : decode cX7_logAt 31 = .ok (.getfield 375, 3) := by decide +kernel
theorem dX7_logAt_34 : decode cX7_logAt 34 = .ok (.iload_n 1, 1) := by decide +kernel
theorem dX7_logAt_35 : decode cX7_logAt 35 = .ok (.invokestatic 136, 3) := by decide +kernel
theorem dX7_logAt_38 : decode cX7_logAt 38 = .ok (.ireturn, 1) := by decide +kernel
theorem dX7_count_0 : decode cX7_count 0 = .ok (.iload_n 1, 1) := by decide +kernel
theorem dX7_count_1 : decode cX7_count 1 = .ok (.tableswitch 253 0 14 #[75, 86, 97, 108, 119, 137, 145, 153, 164, 175, 204, 215, 223, 231, 239], 75) := by decide +kernel
theorem dX7_count_76 : decode cX7_count 76 = .ok (.aload_n 0, 1) := by decide +kernel
theorem dX7_count_77 : decode cX7_count 77 = .ok (.getfield 19, 3) := by decide +kernel
theorem dX7_count_80 : decode cX7_count 80 = .ok (.getfield 51, 3) := by decide +kernel
theorem dX7_count_83 : decode cX7_count 83 = .ok (.getfield 84, 3) := by decide +kernel
theorem dX7_count_86 : decode cX7_count 86 = .ok (.ireturn, 1) := by decide +kernel
theorem dX7_count_87 : decode cX7_count 87 = .ok (.aload_n 0, 1) := by decide +kernel
theorem dX7_count_88 : decode cX7_count 88 = .ok (.getfield 19, 3) := by decide +kernel
theorem dX7_count_91 : decode cX7_count 91 = .ok (.getfield 51, 3) := by decide +kernel
theorem dX7_count_94 : decode cX7_count 94 = .ok (.getfield 91, 3) := by decide +kernel
theorem dX7_count_97 : decode cX7_count 97 = .ok (.ireturn, 1) := by decide +kernel
theorem dX7_count_98 : decode cX7_count 98 = .ok (.aload_n 0, 1) := by decide +kernel
theorem dX7_count_99 : decode cX7_count 99 = .ok (.getfield 19, 3) := by decide +kernel
theorem dX7_count_102 : decode cX7_count 102 = .ok (.getfield 51, 3) := by decide +kernel
theorem dX7_count_105 : decode cX7_count 105 = .ok (.getfield 102, 3) := by decide +kernel
theorem dX7_count_108 : decode cX7_count 108 = .ok (.ireturn, 1) := by decide +kernel
theorem dX7_count_109 : decode cX7_count 109 = .ok (.aload_n 0, 1) := by decide +kernel
theorem dX7_count_110 : decode cX7_count 110 = .ok (.getfield 19, 3) := by decide +kernel
theorem dX7_count_113 : decode cX7_count 113 = .ok (.getfield 120, 3) := by decide +kernel
theorem dX7_count_116 : decode cX7_count 116 = .ok (.getfield 128, 3) := by decide +kernel
theorem dX7_count_119 : decode cX7_count 119 = .ok (.ireturn, 1) := by decide +kernel
theorem dX7_count_120 : decode cX7_count 120 = .ok (.aload_n 0, 1) := by decide +kernel
theorem dX7_count_121 : decode cX7_count 121 = .ok (.getfield 19, 3) := by decide +kernel
theorem dX7_count_124 : decode cX7_count 124 = .ok (.getfield 120, 3) := by decide +kernel
theorem dX7_count_127 : decode cX7_count 127 = .ok (.aload_n 0, 1) := by decide +kernel
theorem dX7_count_128 : decode cX7_count 128 = .ok (.getfield 19, 3) := by decide +kernel
theorem dX7_count_131 : decode cX7_count 131 = .ok (.getfield 269, 3) := by decide +kernel
theorem dX7_count_134 : decode cX7_count 134 = .ok (.invokevirtual 376, 3) := by decide +kernel
theorem dX7_count_137 : decode cX7_count 137 = .ok (.ireturn, 1) := by decide +kernel
theorem dX7_count_138 : decode cX7_count 138 = .ok (.aload_n 0, 1) := by decide +kernel
theorem dX7_count_139 : decode cX7_count 139 = .ok (.getfield 19, 3) := by decide +kernel
theorem dX7_count_142 : decode cX7_count 142 = .ok (.getfield 269, 3) := by decide +kernel
theorem dX7_count_145 : decode cX7_count 145 = .ok (.ireturn, 1) := by decide +kernel
theorem dX7_count_146 : decode cX7_count 146 = .ok (.aload_n 0, 1) := by decide +kernel
theorem dX7_count_147 : decode cX7_count 147 = .ok (.getfield 19, 3) := by decide +kernel
theorem dX7_count_150 : decode cX7_count 150 = .ok (.getfield 117, 3) := by decide +kernel
theorem dX7_count_153 : decode cX7_count 153 = .ok (.ireturn, 1) := by decide +kernel
theorem dX7_count_154 : decode cX7_count 154 = .ok (.aload_n 0, 1) := by decide +kernel
theorem dX7_count_155 : decode cX7_count 155 = .ok (.getfield 19, 3) := by decide +kernel
theorem dX7_count_158 : decode cX7_count 158 = .ok (.getfield 154, 3) := by decide +kernel
theorem dX7_count_161 : decode cX7_count 161 = .ok (.getfield 158, 3) := by decide +kernel
theorem dX7_count_164 : decode cX7_count 164 = .ok (.ireturn, 1) := by decide +kernel
theorem dX7_count_165 : decode cX7_count 165 = .ok (.aload_n 0, 1) := by decide +kernel
theorem dX7_count_166 : decode cX7_count 166 = .ok (.getfield 19, 3) := by decide +kernel
theorem dX7_count_169 : decode cX7_count 169 = .ok (.getfield 154, 3) := by decide +kernel
theorem dX7_count_172 : decode cX7_count 172 = .ok (.invokevirtual 379, 3) := by decide +kernel
theorem dX7_count_175 : decode cX7_count 175 = .ok (.ireturn, 1) := by decide +kernel
theorem dX7_count_176 : decode cX7_count 176 = .ok (.aload_n 0, 1) := by decide +kernel
theorem dX7_count_177 : decode cX7_count 177 = .ok (.getfield 19, 3) := by decide +kernel
theorem dX7_count_180 : decode cX7_count 180 = .ok (.getfield 51, 3) := by decide +kernel
theorem dX7_count_183 : decode cX7_count 183 = .ok (.getfield 108, 3) := by decide +kernel
theorem dX7_count_186 : decode cX7_count 186 = .ok (.ifCond .ne 8, 3) := by decide +kernel
theorem dX7_count_189 : decode cX7_count 189 = .ok (.bipush (-5), 2) := by decide +kernel
theorem dX7_count_191 : decode cX7_count 191 = .ok (.goto 13, 3) := by decide +kernel
theorem dX7_count_194 : decode cX7_count 194 = .ok (.aload_n 0, 1) := by decide +kernel
theorem dX7_count_195 : decode cX7_count 195 = .ok (.getfield 19, 3) := by decide +kernel
theorem dX7_count_198 : decode cX7_count 198 = .ok (.getfield 51, 3) := by decide +kernel
theorem dX7_count_201 : decode cX7_count 201 = .ok (.getfield 108, 3) := by decide +kernel
theorem dX7_count_204 : decode cX7_count 204 = .ok (.ireturn, 1) := by decide +kernel
theorem dX7_count_205 : decode cX7_count 205 = .ok (.aload_n 0, 1) := by decide +kernel
theorem dX7_count_206 : decode cX7_count 206 = .ok (.getfield 19, 3) := by decide +kernel
theorem dX7_count_209 : decode cX7_count 209 = .ok (.getfield 368, 3) := by decide +kernel
theorem dX7_count_212 : decode cX7_count 212 = .ok (.getfield 372, 3) := by decide +kernel
theorem dX7_count_215 : decode cX7_count 215 = .ok (.ireturn, 1) := by decide +kernel
theorem dX7_count_216 : decode cX7_count 216 = .ok (.aload_n 0, 1) := by decide +kernel
theorem dX7_count_217 : decode cX7_count 217 = .ok (.getfield 10, 3) := by decide +kernel
theorem dX7_count_220 : decode cX7_count 220 = .ok (.getfield 40, 3) := by decide +kernel
theorem dX7_count_223 : decode cX7_count 223 = .ok (.ireturn, 1) := by decide +kernel
theorem dX7_count_224 : decode cX7_count 224 = .ok (.aload_n 0, 1) := by decide +kernel
theorem dX7_count_225 : decode cX7_count 225 = .ok (.getfield 19, 3) := by decide +kernel
theorem dX7_count_228 : decode cX7_count 228 = .ok (.getfield 111, 3) := by decide +kernel
theorem dX7_count_231 : decode cX7_count 231 = .ok (.ireturn, 1) := by decide +kernel
theorem dX7_count_232 : decode cX7_count 232 = .ok (.aload_n 0, 1) := by decide +kernel
theorem dX7_count_233 : decode cX7_count 233 = .ok (.getfield 19, 3) := by decide +kernel
theorem dX7_count_236 : decode cX7_count 236 = .ok (.getfield 114, 3) := by decide +kernel
theorem dX7_count_239 : decode cX7_count 239 = .ok (.ireturn, 1) := by decide +kernel
theorem dX7_count_240 : decode cX7_count 240 = .ok (.aload_n 0, 1) := by decide +kernel
theorem dX7_count_241 : decode cX7_count 241 = .ok (.getfield 19, 3) := by decide +kernel
theorem dX7_count_244 : decode cX7_count 244 = .ok (.getfield 74, 3) := by decide +kernel
theorem dX7_count_247 : decode cX7_count 247 = .ok (.getfield 78, 3) := by decide +kernel
theorem dX7_count_250 : decode cX7_count 250 = .ok (.invokestatic 308, 3) := by decide +kernel
theorem dX7_count_253 : decode cX7_count 253 = .ok (.ireturn, 1) := by decide +kernel
theorem dX7_count_254 : decode cX7_count 254 = .ok (.bipush (-2), 2) := by decide +kernel
theorem dX7_count_256 : decode cX7_count 256 = .ok (.ireturn, 1) := by decide +kernel
theorem dX7_slotState_0 : decode cX7_slotState 0 = .ok (.iload_n 1, 1) := by decide +kernel
theorem dX7_slotState_1 : decode cX7_slotState 1 = .ok (.ifCond .ne 10, 3) := by decide +kernel
theorem dX7_slotState_4 : decode cX7_slotState 4 = .ok (.aload_n 0, 1) := by decide +kernel
theorem dX7_slotState_5 : decode cX7_slotState 5 = .ok (.getfield 23, 3) := by decide +kernel
theorem dX7_slotState_8 : decode cX7_slotState 8 = .ok (.goto 7, 3) := by decide +kernel
theorem dX7_slotState_11 : decode cX7_slotState 11 = .ok (.aload_n 0, 1) := by decide +kernel
theorem dX7_slotState_12 : decode cX7_slotState 12 = .ok (.getfield 26, 3) := by decide +kernel
theorem dX7_slotState_15 : decode cX7_slotState 15 = .ok (.areturn, 1) := by decide +kernel
theorem dX7_isSlot_0 : decode cX7_isSlot 0 = .ok (.iload_n 0, 1) := by decide +kernel
theorem dX7_isSlot_1 : decode cX7_isSlot 1 = .ok (.ifCond .eq 8, 3) := by decide +kernel
theorem dX7_isSlot_4 : decode cX7_isSlot 4 = .ok (.iload_n 0, 1) := by decide +kernel
theorem dX7_isSlot_5 : decode cX7_isSlot 5 = .ok (.iconst 1, 1) := by decide +kernel
theorem dX7_isSlot_6 : decode cX7_isSlot 6 = .ok (.if_icmp .ne 7, 3) := by decide +kernel
theorem dX7_isSlot_9 : decode cX7_isSlot 9 = .ok (.iconst 1, 1) := by decide +kernel
theorem dX7_isSlot_10 : decode cX7_isSlot 10 = .ok (.goto 4, 3) := by decide +kernel
theorem dX7_isSlot_13 : decode cX7_isSlot 13 = .ok (.iconst 0, 1) := by decide +kernel
theorem dX7_isSlot_14 : decode cX7_isSlot 14 = .ok (.ireturn, 1) := by decide +kernel
theorem dX7_isGroupSize_0 : decode cX7_isGroupSize 0 = .ok (.iload_n 0, 1) := by decide +kernel
theorem dX7_isGroupSize_1 : decode cX7_isGroupSize 1 = .ok (.iconst 1, 1) := by decide +kernel
theorem dX7_isGroupSize_2 : decode cX7_isGroupSize 2 = .ok (.if_icmp .lt 13, 3) := by decide +kernel
theorem dX7_isGroupSize_5 : decode cX7_isGroupSize 5 = .ok (.iload_n 0, 1) := by decide +kernel
theorem dX7_isGroupSize_6 : decode cX7_isGroupSize 6 = .ok (.bipush 6, 2) := by decide +kernel
theorem dX7_isGroupSize_8 : decode cX7_isGroupSize 8 = .ok (.if_icmp .gt 7, 3) := by decide +kernel
theorem dX7_isGroupSize_11 : decode cX7_isGroupSize 11 = .ok (.iconst 1, 1) := by decide +kernel
theorem dX7_isGroupSize_12 : decode cX7_isGroupSize 12 = .ok (.goto 4, 3) := by decide +kernel
theorem dX7_isGroupSize_15 : decode cX7_isGroupSize 15 = .ok (.iconst 0, 1) := by decide +kernel
theorem dX7_isGroupSize_16 : decode cX7_isGroupSize 16 = .ok (.ireturn, 1) := by decide +kernel
theorem dX7_asNumber_0 : decode cX7_asNumber 0 = .ok (.iload_n 0, 1) := by decide +kernel
theorem dX7_asNumber_1 : decode cX7_asNumber 1 = .ok (.ifCond .eq 7, 3) := by decide +kernel
theorem dX7_asNumber_4 : decode cX7_asNumber 4 = .ok (.iconst 1, 1) := by decide +kernel
theorem dX7_asNumber_5 : decode cX7_asNumber 5 = .ok (.goto 4, 3) := by decide +kernel
theorem dX7_asNumber_8 : decode cX7_asNumber 8 = .ok (.iconst 0, 1) := by decide +kernel
theorem dX7_asNumber_9 : decode cX7_asNumber 9 = .ok (.ireturn, 1) := by decide +kernel
theorem dX7_actMinutes_0 : decode cX7_actMinutes 0 = .ok (.iconst 1, 1) := by decide +kernel
theorem dX7_actMinutes_1 : decode cX7_actMinutes 1 = .ok (.iload_n 0, 1) := by decide +kernel
theorem dX7_actMinutes_2 : decode cX7_actMinutes 2 = .ok (.iload_n 1, 1) := by decide +kernel
theorem dX7_actMinutes_3 : decode cX7_actMinutes 3 = .ok (.iconst 2, 1) := by decide +kernel
theorem dX7_actMinutes_4 : decode cX7_actMinutes 4 = .ok (.idiv, 1) := by decide +kernel
theorem dX7_actMinutes_5 : decode cX7_actMinutes 5 = .ok (.isub, 1) := by decide +kernel
theorem dX7_actMinutes_6 : decode cX7_actMinutes 6 = .ok (.invokestatic 382, 3) := by decide +kernel
theorem dX7_actMinutes_9 : decode cX7_actMinutes 9 = .ok (.ireturn, 1) := by decide +kernel
theorem dX7_toldStep_0 : decode cX7_toldStep 0 = .ok (.iload_n 0, 1) := by decide +kernel
theorem dX7_toldStep_1 : decode cX7_toldStep 1 = .ok (.invokestatic 258, 3) := by decide +kernel
theorem dX7_toldStep_4 : decode cX7_toldStep 4 = .ok (.sipush 500, 3) := by decide +kernel
theorem dX7_toldStep_7 : decode cX7_toldStep 7 = .ok (.if_icmp .ne 11, 3) := by decide +kernel
theorem dX7_toldStep_10 : decode cX7_toldStep 10 = .ok (.iload_n 0, 1) := by decide +kernel
theorem dX7_toldStep_11 : decode cX7_toldStep 11 = .ok (.sipush 1000, 3) := by decide +kernel
theorem dX7_toldStep_14 : decode cX7_toldStep 14 = .ok (.irem, 1) := by decide +kernel
theorem dX7_toldStep_15 : decode cX7_toldStep 15 = .ok (.goto 4, 3) := by decide +kernel
theorem dX7_toldStep_18 : decode cX7_toldStep 18 = .ok (.iload_n 0, 1) := by decide +kernel
theorem dX7_toldStep_19 : decode cX7_toldStep 19 = .ok (.ireturn, 1) := by decide +kernel
theorem dX7_stepKind_0 : decode cX7_stepKind 0 = .ok (.iload_n 0, 1) := by decide +kernel
theorem dX7_stepKind_1 : decode cX7_stepKind 1 = .ok (.sipush 1000, 3) := by decide +kernel
theorem dX7_stepKind_4 : decode cX7_stepKind 4 = .ok (.irem, 1) := by decide +kernel
theorem dX7_stepKind_5 : decode cX7_stepKind 5 = .ok (.bipush 100, 2) := by decide +kernel
theorem dX7_stepKind_7 : decode cX7_stepKind 7 = .ok (.idiv, 1) := by decide +kernel
theorem dX7_stepKind_8 : decode cX7_stepKind 8 = .ok (.bipush 100, 2) := by decide +kernel
theorem dX7_stepKind_10 : decode cX7_stepKind 10 = .ok (.imul, 1) := by decide +kernel
theorem dX7_stepKind_11 : decode cX7_stepKind 11 = .ok (.ireturn, 1) := by decide +kernel
theorem dX7_at_0 : decode cX7_at 0 = .ok (.aload_n 0, 1) := by decide +kernel
theorem dX7_at_1 : decode cX7_at 1 = .ok (.ifnull 19, 3) := by decide +kernel
theorem dX7_at_4 : decode cX7_at 4 = .ok (.iload_n 1, 1) := by decide +kernel
theorem dX7_at_5 : decode cX7_at 5 = .ok (.ifCond .lt 15, 3) := by decide +kernel
theorem dX7_at_8 : decode cX7_at 8 = .ok (.iload_n 1, 1) := by decide +kernel
theorem dX7_at_9 : decode cX7_at 9 = .ok (.aload_n 0, 1) := by decide +kernel
theorem dX7_at_10 : decode cX7_at 10 = .ok (.arraylength, 1) := by decide +kernel
theorem dX7_at_11 : decode cX7_at 11 = .ok (.if_icmp .ge 9, 3) := by decide +kernel
theorem dX7_at_14 : decode cX7_at 14 = .ok (.aload_n 0, 1) := by decide +kernel
theorem dX7_at_15 : decode cX7_at 15 = .ok (.iload_n 1, 1) := by decide +kernel
theorem dX7_at_16 : decode cX7_at 16 = .ok (.iaload, 1) := by decide +kernel
theorem dX7_at_17 : decode cX7_at 17 = .ok (.goto 4, 3) := by decide +kernel
theorem dX7_at_20 : decode cX7_at 20 = .ok (.iconst 0, 1) := by decide +kernel
theorem dX7_at_21 : decode cX7_at 21 = .ok (.ireturn, 1) := by decide +kernel
theorem dX7_put_0 : decode cX7_put 0 = .ok (.aload_n 0, 1) := by decide +kernel
theorem dX7_put_1 : decode cX7_put 1 = .ok (.ifnull 17, 3) := by decide +kernel
theorem dX7_put_4 : decode cX7_put 4 = .ok (.iload_n 1, 1) := by decide +kernel
theorem dX7_put_5 : decode cX7_put 5 = .ok (.ifCond .lt 13, 3) := by decide +kernel
theorem dX7_put_8 : decode cX7_put 8 = .ok (.iload_n 1, 1) := by decide +kernel
theorem dX7_put_9 : decode cX7_put 9 = .ok (.aload_n 0, 1) := by decide +kernel
theorem dX7_put_10 : decode cX7_put 10 = .ok (.arraylength, 1) := by decide +kernel
theorem dX7_put_11 : decode cX7_put 11 = .ok (.if_icmp .ge 7, 3) := by decide +kernel
theorem dX7_put_14 : decode cX7_put 14 = .ok (.aload_n 0, 1) := by decide +kernel
theorem dX7_put_15 : decode cX7_put 15 = .ok (.iload_n 1, 1) := by decide +kernel
theorem dX7_put_16 : decode cX7_put 16 = .ok (.iload_n 2, 1) := by decide +kernel
theorem dX7_put_17 : decode cX7_put 17 = .ok (.iastore, 1) := by decide +kernel
theorem dX7_put_18 : decode cX7_put 18 = .ok (.return_, 1) := by decide +kernel
theorem dX7_copyRow_0 : decode cX7_copyRow 0 = .ok (.aload_n 0, 1) := by decide +kernel
theorem dX7_copyRow_1 : decode cX7_copyRow 1 = .ok (.ifnull 7, 3) := by decide +kernel
theorem dX7_copyRow_4 : decode cX7_copyRow 4 = .ok (.aload_n 1, 1) := by decide +kernel
theorem dX7_copyRow_5 : decode cX7_copyRow 5 = .ok (.ifnonnull 4, 3) := by decide +kernel
theorem dX7_copyRow_8 : decode cX7_copyRow 8 = .ok (.return_, 1) := by decide +kernel
theorem dX7_copyRow_9 : decode cX7_copyRow 9 = .ok (.iconst 0, 1) := by decide +kernel
theorem dX7_copyRow_10 : decode cX7_copyRow 10 = .ok (.istore_n 2, 1) := by decide +kernel
theorem dX7_copyRow_11 : decode cX7_copyRow 11 = .ok (.iload_n 2, 1) := by decide +kernel
theorem dX7_copyRow_12 : decode cX7_copyRow 12 = .ok (.aload_n 0, 1) := by decide +kernel
theorem dX7_copyRow_13 : decode cX7_copyRow 13 = .ok (.arraylength, 1) := by decide +kernel
theorem dX7_copyRow_14 : decode cX7_copyRow 14 = .ok (.if_icmp .ge 21, 3) := by decide +kernel
theorem dX7_copyRow_17 : decode cX7_copyRow 17 = .ok (.iload_n 2, 1) := by decide +kernel
theorem dX7_copyRow_18 : decode cX7_copyRow 18 = .ok (.aload_n 1, 1) := by decide +kernel
theorem dX7_copyRow_19 : decode cX7_copyRow 19 = .ok (.arraylength, 1) := by decide +kernel
theorem dX7_copyRow_20 : decode cX7_copyRow 20 = .ok (.if_icmp .ge 15, 3) := by decide +kernel
theorem dX7_copyRow_23 : decode cX7_copyRow 23 = .ok (.aload_n 1, 1) := by decide +kernel
theorem dX7_copyRow_24 : decode cX7_copyRow 24 = .ok (.iload_n 2, 1) := by decide +kernel
theorem dX7_copyRow_25 : decode cX7_copyRow 25 = .ok (.aload_n 0, 1) := by decide +kernel
theorem dX7_copyRow_26 : decode cX7_copyRow 26 = .ok (.iload_n 2, 1) := by decide +kernel
theorem dX7_copyRow_27 : decode cX7_copyRow 27 = .ok (.iaload, 1) := by decide +kernel
theorem dX7_copyRow_28 : decode cX7_copyRow 28 = .ok (.iastore, 1) := by decide +kernel
theorem dX7_copyRow_29 : decode cX7_copyRow 29 = .ok (.iinc 2 1, 3) := by decide +kernel
theorem dX7_copyRow_32 : decode cX7_copyRow 32 = .ok (.goto (-21), 3) := by decide +kernel
theorem dX7_copyRow_35 : decode cX7_copyRow 35 = .ok (.return_, 1) := by decide +kernel
