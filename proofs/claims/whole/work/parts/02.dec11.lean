theorem dX8_cluesOn_11 : decode cX8_cluesOn 11 = .ok (.if_icmp .ge 31, 3) := by decide +kernel
theorem dX8_cluesOn_14 : decode cX8_cluesOn 14 = .ok (.iload_n 2, 1) := by decide +kernel
theorem dX8_cluesOn_15 : decode cX8_cluesOn 15 = .ok (.aload_n 0, 1) := by decide +kernel
theorem dX8_cluesOn_16 : decode cX8_cluesOn 16 = .ok (.getfield 7, 3) := by decide +kernel
theorem dX8_cluesOn_19 : decode cX8_cluesOn 19 = .ok (.sipush 128, 3) := by decide +kernel
theorem dX8_cluesOn_22 : decode cX8_cluesOn 22 = .ok (.iload_n 3, 1) := by decide +kernel
theorem dX8_cluesOn_23 : decode cX8_cluesOn 23 = .ok (.iadd, 1) := by decide +kernel
theorem dX8_cluesOn_24 : decode cX8_cluesOn 24 = .ok (.iaload, 1) := by decide +kernel
theorem dX8_cluesOn_25 : decode cX8_cluesOn 25 = .ok (.iload_n 1, 1) := by decide +kernel
theorem dX8_cluesOn_26 : decode cX8_cluesOn 26 = .ok (.if_icmp .ne 7, 3) := by decide +kernel
theorem dX8_cluesOn_29 : decode cX8_cluesOn 29 = .ok (.iconst 1, 1) := by decide +kernel
theorem dX8_cluesOn_30 : decode cX8_cluesOn 30 = .ok (.goto 4, 3) := by decide +kernel
theorem dX8_cluesOn_33 : decode cX8_cluesOn 33 = .ok (.iconst 0, 1) := by decide +kernel
theorem dX8_cluesOn_34 : decode cX8_cluesOn 34 = .ok (.iadd, 1) := by decide +kernel
theorem dX8_cluesOn_35 : decode cX8_cluesOn 35 = .ok (.istore_n 2, 1) := by decide +kernel
theorem dX8_cluesOn_36 : decode cX8_cluesOn 36 = .ok (.iinc 3 1, 3) := by decide +kernel
theorem dX8_cluesOn_39 : decode cX8_cluesOn 39 = .ok (.goto (-35), 3) := by decide +kernel
theorem dX8_cluesOn_42 : decode cX8_cluesOn 42 = .ok (.iload_n 2, 1) := by decide +kernel
theorem dX8_cluesOn_43 : decode cX8_cluesOn 43 = .ok (.ireturn, 1) := by decide +kernel
theorem dX8_locksWith_0 : decode cX8_locksWith 0 = .ok (.iconst 0, 1) := by decide +kernel
theorem dX8_locksWith_1 : decode cX8_locksWith 1 = .ok (.istore_n 2, 1) := by decide +kernel
theorem dX8_locksWith_2 : decode cX8_locksWith 2 = .ok (.iconst 1, 1) := by decide +kernel
theorem dX8_locksWith_3 : decode cX8_locksWith 3 = .ok (.istore_n 3, 1) := by decide +kernel
theorem dX8_locksWith_4 : decode cX8_locksWith 4 = .ok (.iload_n 3, 1) := by decide +kernel
theorem dX8_locksWith_5 : decode cX8_locksWith 5 = .ok (.aload_n 0, 1) := by decide +kernel
theorem dX8_locksWith_6 : decode cX8_locksWith 6 = .ok (.getfield 7, 3) := by decide +kernel
theorem dX8_locksWith_9 : decode cX8_locksWith 9 = .ok (.iconst 0, 1) := by decide +kernel
theorem dX8_locksWith_10 : decode cX8_locksWith 10 = .ok (.iaload, 1) := by decide +kernel
theorem dX8_locksWith_11 : decode cX8_locksWith 11 = .ok (.if_icmp .ge 68, 3) := by decide +kernel
theorem dX8_locksWith_14 : decode cX8_locksWith 14 = .ok (.aload_n 0, 1) := by decide +kernel
theorem dX8_locksWith_15 : decode cX8_locksWith 15 = .ok (.getfield 7, 3) := by decide +kernel
theorem dX8_locksWith_18 : decode cX8_locksWith 18 = .ok (.bipush 32, 2) := by decide +kernel
theorem dX8_locksWith_20 : decode cX8_locksWith 20 = .ok (.iload_n 3, 1) := by decide +kernel
theorem dX8_locksWith_21 : decode cX8_locksWith 21 = .ok (.iadd, 1) := by decide +kernel
theorem dX8_locksWith_22 : decode cX8_locksWith 22 = .ok (.iaload, 1) := by decide +kernel
theorem dX8_locksWith_23 : decode cX8_locksWith 23 = .ok (.iconst 1, 1) := by decide +kernel
theorem dX8_locksWith_24 : decode cX8_locksWith 24 = .ok (.if_icmp .eq 16, 3) := by decide +kernel
theorem dX8_locksWith_27 : decode cX8_locksWith 27 = .ok (.aload_n 0, 1) := by decide +kernel
theorem dX8_locksWith_28 : decode cX8_locksWith 28 = .ok (.getfield 7, 3) := by decide +kernel
theorem dX8_locksWith_31 : decode cX8_locksWith 31 = .ok (.bipush 32, 2) := by decide +kernel
theorem dX8_locksWith_33 : decode cX8_locksWith 33 = .ok (.iload_n 3, 1) := by decide +kernel
theorem dX8_locksWith_34 : decode cX8_locksWith 34 = .ok (.iadd, 1) := by decide +kernel
theorem dX8_locksWith_35 : decode cX8_locksWith 35 = .ok (.iaload, 1) := by decide +kernel
theorem dX8_locksWith_36 : decode cX8_locksWith 36 = .ok (.iconst 2, 1) := by decide +kernel
theorem dX8_locksWith_37 : decode cX8_locksWith 37 = .ok (.if_icmp .le 7, 3) := by decide +kernel
theorem dX8_locksWith_40 : decode cX8_locksWith 40 = .ok (.iconst 1, 1) := by decide +kernel
theorem dX8_locksWith_41 : decode cX8_locksWith 41 = .ok (.goto 4, 3) := by decide +kernel
theorem dX8_locksWith_44 : decode cX8_locksWith 44 = .ok (.iconst 0, 1) := by decide +kernel
theorem dX8_locksWith_45 : decode cX8_locksWith 45 = .ok (.istore 4, 2) := by decide +kernel
theorem dX8_locksWith_47 : decode cX8_locksWith 47 = .ok (.iload_n 2, 1) := by decide +kernel
theorem dX8_locksWith_48 : decode cX8_locksWith 48 = .ok (.iload 4, 2) := by decide +kernel
theorem dX8_locksWith_50 : decode cX8_locksWith 50 = .ok (.ifCond .eq 20, 3) := by decide +kernel
theorem dX8_locksWith_53 : decode cX8_locksWith 53 = .ok (.aload_n 0, 1) := by decide +kernel
theorem dX8_locksWith_54 : decode cX8_locksWith 54 = .ok (.getfield 7, 3) := by decide +kernel
theorem dX8_locksWith_57 : decode cX8_locksWith 57 = .ok (.bipush 44, 2) := by decide +kernel
theorem dX8_locksWith_59 : decode cX8_locksWith 59 = .ok (.iload_n 3, 1) := by decide +kernel
theorem dX8_locksWith_60 : decode cX8_locksWith 60 = .ok (.iadd, 1) := by decide +kernel
theorem dX8_locksWith_61 : decode cX8_locksWith 61 = .ok (.iaload, 1) := by decide +kernel
theorem dX8_locksWith_62 : decode cX8_locksWith 62 = .ok (.iload_n 1, 1) := by decide +kernel
theorem dX8_locksWith_63 : decode cX8_locksWith 63 = .ok (.if_icmp .ne 7, 3) := by decide +kernel
theorem dX8_locksWith_66 : decode cX8_locksWith 66 = .ok (.iconst 1, 1) := by decide +kernel
theorem dX8_locksWith_67 : decode cX8_locksWith 67 = .ok (.goto 4, 3) := by decide +kernel
theorem dX8_locksWith_70 : decode cX8_locksWith 70 = .ok (.iconst 0, 1) := by decide +kernel
theorem dX8_locksWith_71 : decode cX8_locksWith 71 = .ok (.iadd, 1) := by decide +kernel
theorem dX8_locksWith_72 : decode cX8_locksWith 72 = .ok (.istore_n 2, 1) := by decide +kernel
theorem dX8_locksWith_73 : decode cX8_locksWith 73 = .ok (.iinc 3 1, 3) := by decide +kernel
theorem dX8_locksWith_76 : decode cX8_locksWith 76 = .ok (.goto (-72), 3) := by decide +kernel
theorem dX8_locksWith_79 : decode cX8_locksWith 79 = .ok (.iload_n 2, 1) := by decide +kernel
theorem dX8_locksWith_80 : decode cX8_locksWith 80 = .ok (.ireturn, 1) := by decide +kernel
theorem dX8_prop_0 : decode cX8_prop 0 = .ok (.aload_n 0, 1) := by decide +kernel
theorem dX8_prop_1 : decode cX8_prop 1 = .ok (.iload_n 1, 1) := by decide +kernel
theorem dX8_prop_2 : decode cX8_prop 2 = .ok (.invokevirtual 102, 3) := by decide +kernel
theorem dX8_prop_5 : decode cX8_prop 5 = .ok (.ifCond .eq 5, 3) := by decide +kernel
theorem dX8_prop_8 : decode cX8_prop 8 = .ok (.iconst (-1), 1) := by decide +kernel
theorem dX8_prop_9 : decode cX8_prop 9 = .ok (.ireturn, 1) := by decide +kernel
theorem dX8_prop_10 : decode cX8_prop 10 = .ok (.iload_n 2, 1) := by decide +kernel
theorem dX8_prop_11 : decode cX8_prop 11 = .ok (.tableswitch 92 0 4 #[33, 43, 66, 80, 86], 33) := by decide +kernel
theorem dX8_prop_44 : decode cX8_prop 44 = .ok (.aload_n 0, 1) := by decide +kernel
theorem dX8_prop_45 : decode cX8_prop 45 = .ok (.getfield 7, 3) := by decide +kernel
theorem dX8_prop_48 : decode cX8_prop 48 = .ok (.bipush 80, 2) := by decide +kernel
theorem dX8_prop_50 : decode cX8_prop 50 = .ok (.iload_n 1, 1) := by decide +kernel
theorem dX8_prop_51 : decode cX8_prop 51 = .ok (.iadd, 1) := by decide +kernel
theorem dX8_prop_52 : decode cX8_prop 52 = .ok (.iaload, 1) := by decide +kernel
theorem dX8_prop_53 : decode cX8_prop 53 = .ok (.ireturn, 1) := by decide +kernel
theorem dX8_prop_54 : decode cX8_prop 54 = .ok (.aload_n 0, 1) := by decide +kernel
theorem dX8_prop_55 : decode cX8_prop 55 = .ok (.iload_n 1, 1) := by decide +kernel
theorem dX8_prop_56 : decode cX8_prop 56 = .ok (.invokevirtual 45, 3) := by decide +kernel
theorem dX8_prop_59 : decode cX8_prop 59 = .ok (.ifCond .eq 8, 3) := by decide +kernel
theorem dX8_prop_62 : decode cX8_prop 62 = .ok (.bipush (-5), 2) := by decide +kernel
theorem dX8_prop_64 : decode cX8_prop 64 = .ok (.goto 12, 3) := by decide +kernel
theorem dX8_prop_67 : decode cX8_prop 67 = .ok (.aload_n 0, 1) := by decide +kernel
theorem dX8_prop_68 : decode cX8_prop 68 = .ok (.getfield 7, 3) := by decide +kernel
theorem dX8_prop_71 : decode cX8_prop 71 = .ok (.bipush 104, 2) := by decide +kernel
theorem dX8_prop_73 : decode cX8_prop 73 = .ok (.iload_n 1, 1) := by decide +kernel
theorem dX8_prop_74 : decode cX8_prop 74 = .ok (.iadd, 1) := by decide +kernel
theorem dX8_prop_75 : decode cX8_prop 75 = .ok (.iaload, 1) := by decide +kernel
theorem dX8_prop_76 : decode cX8_prop 76 = .ok (.ireturn, 1) := by decide +kernel
theorem dX8_prop_77 : decode cX8_prop 77 = .ok (.aload_n 0, 1) := by decide +kernel
theorem dX8_prop_78 : decode cX8_prop 78 = .ok (.iload_n 1, 1) := by decide +kernel
theorem dX8_prop_79 : decode cX8_prop 79 = .ok (.invokevirtual 48, 3) := by decide +kernel
theorem dX8_prop_82 : decode cX8_prop 82 = .ok (.ifCond .eq 7, 3) := by decide +kernel
theorem dX8_prop_85 : decode cX8_prop 85 = .ok (.iconst 1, 1) := by decide +kernel
theorem dX8_prop_86 : decode cX8_prop 86 = .ok (.goto 4, 3) := by decide +kernel
theorem dX8_prop_89 : decode cX8_prop 89 = .ok (.iconst 0, 1) := by decide +kernel
theorem dX8_prop_90 : decode cX8_prop 90 = .ok (.ireturn, 1) := by decide +kernel
theorem dX8_prop_91 : decode cX8_prop 91 = .ok (.aload_n 0, 1) := by decide +kernel
theorem dX8_prop_92 : decode cX8_prop 92 = .ok (.iload_n 1, 1) := by decide +kernel
theorem dX8_prop_93 : decode cX8_prop 93 = .ok (.invokevirtual 199, 3) := by decide +kernel
theorem dX8_prop_96 : decode cX8_prop 96 = .ok (.ireturn, 1) := by decide +kernel
theorem dX8_prop_97 : decode cX8_prop 97 = .ok (.aload_n 0, 1) := by decide +kernel
theorem dX8_prop_98 : decode cX8_prop 98 = .ok (.iload_n 1, 1) := by decide +kernel
theorem dX8_prop_99 : decode cX8_prop 99 = .ok (.invokevirtual 202, 3) := by decide +kernel
theorem dX8_prop_102 : decode cX8_prop 102 = .ok (.ireturn, 1) := by decide +kernel
theorem dX8_prop_103 : decode cX8_prop 103 = .ok (.bipush (-2), 2) := by decide +kernel
theorem dX8_prop_105 : decode cX8_prop 105 = .ok (.ireturn, 1) := by decide +kernel
theorem dX8_clue_0 : decode cX8_clue 0 = .ok (.aload_n 0, 1) := by decide +kernel
theorem dX8_clue_1 : decode cX8_clue 1 = .ok (.iload_n 1, 1) := by decide +kernel
theorem dX8_clue_2 : decode cX8_clue 2 = .ok (.invokevirtual 149, 3) := by decide +kernel
theorem dX8_clue_5 : decode cX8_clue 5 = .ok (.ifCond .eq 5, 3) := by decide +kernel
theorem dX8_clue_8 : decode cX8_clue 8 = .ok (.iconst (-1), 1) := by decide +kernel
theorem dX8_clue_9 : decode cX8_clue 9 = .ok (.ireturn, 1) := by decide +kernel
theorem dX8_clue_10 : decode cX8_clue 10 = .ok (.iload_n 2, 1) := by decide +kernel
theorem dX8_clue_11 : decode cX8_clue 11 = .ok (.tableswitch 101 0 5 #[37, 48, 59, 70, 81, 87], 37) := by decide +kernel
theorem dX8_clue_48 : decode cX8_clue 48 = .ok (.aload_n 0, 1) := by decide +kernel
theorem dX8_clue_49 : decode cX8_clue 49 = .ok (.getfield 7, 3) := by decide +kernel
theorem dX8_clue_52 : decode cX8_clue 52 = .ok (.sipush 128, 3) := by decide +kernel
theorem dX8_clue_55 : decode cX8_clue 55 = .ok (.iload_n 1, 1) := by decide +kernel
theorem dX8_clue_56 : decode cX8_clue 56 = .ok (.iadd, 1) := by decide +kernel
theorem dX8_clue_57 : decode cX8_clue 57 = .ok (.iaload, 1) := by decide +kernel
theorem dX8_clue_58 : decode cX8_clue 58 = .ok (.ireturn, 1) := by decide +kernel
theorem dX8_clue_59 : decode cX8_clue 59 = .ok (.aload_n 0, 1) := by decide +kernel
theorem dX8_clue_60 : decode cX8_clue 60 = .ok (.getfield 7, 3) := by decide +kernel
theorem dX8_clue_63 : decode cX8_clue 63 = .ok (.sipush 140, 3) := by decide +kernel
theorem dX8_clue_66 : decode cX8_clue 66 = .ok (.iload_n 1, 1) := by decide +kernel
theorem dX8_clue_67 : decode cX8_clue 67 = .ok (.iadd, 1) := by decide +kernel
theorem dX8_clue_68 : decode cX8_clue 68 = .ok (.iaload, 1) := by decide +kernel
theorem dX8_clue_69 : decode cX8_clue 69 = .ok (.ireturn, 1) := by decide +kernel
theorem dX8_clue_70 : decode cX8_clue 70 = .ok (.aload_n 0, 1) := by decide +kernel
theorem dX8_clue_71 : decode cX8_clue 71 = .ok (.getfield 7, 3) := by decide +kernel
theorem dX8_clue_74 : decode cX8_clue 74 = .ok (.sipush 152, 3) := by decide +kernel
theorem dX8_clue_77 : decode cX8_clue 77 = .ok (.iload_n 1, 1) := by decide +kernel
theorem dX8_clue_78 : decode cX8_clue 78 = .ok (.iadd, 1) := by decide +kernel
theorem dX8_clue_79 : decode cX8_clue 79 = .ok (.iaload, 1) := by decide +kernel
theorem dX8_clue_80 : decode cX8_clue 80 = .ok (.ireturn, 1) := by decide +kernel
theorem dX8_clue_81 : decode cX8_clue 81 = .ok (.aload_n 0, 1) := by decide +kernel
theorem dX8_clue_82 : decode cX8_clue 82 = .ok (.getfield 7, 3) := by decide +kernel
theorem dX8_clue_85 : decode cX8_clue 85 = .ok (.sipush 164, 3) := by decide +kernel
theorem dX8_clue_88 : decode cX8_clue 88 = .ok (.iload_n 1, 1) := by decide +kernel
theorem dX8_clue_89 : decode cX8_clue 89 = .ok (.iadd, 1) := by decide +kernel
theorem dX8_clue_90 : decode cX8_clue 90 = .ok (.iaload, 1) := by decide +kernel
theorem dX8_clue_91 : decode cX8_clue 91 = .ok (.ireturn, 1) := by decide +kernel
theorem dX8_clue_92 : decode cX8_clue 92 = .ok (.aload_n 0, 1) := by decide +kernel
theorem dX8_clue_93 : decode cX8_clue 93 = .ok (.iload_n 1, 1) := by decide +kernel
theorem dX8_clue_94 : decode cX8_clue 94 = .ok (.invokevirtual 158, 3) := by decide +kernel
theorem dX8_clue_97 : decode cX8_clue 97 = .ok (.ireturn, 1) := by decide +kernel
theorem dX8_clue_98 : decode cX8_clue 98 = .ok (.aload_n 0, 1) := by decide +kernel
theorem dX8_clue_99 : decode cX8_clue 99 = .ok (.iload_n 1, 1) := by decide +kernel
theorem dX8_clue_100 : decode cX8_clue 100 = .ok (.invokevirtual 51, 3) := by decide +kernel
theorem dX8_clue_103 : decode cX8_clue 103 = .ok (.ifCond .eq 7, 3) := by decide +kernel
theorem dX8_clue_106 : decode cX8_clue 106 = .ok (.iconst 1, 1) := by decide +kernel
theorem dX8_clue_107 : decode cX8_clue 107 = .ok (.goto 4, 3) := by decide +kernel
theorem dX8_clue_110 : decode cX8_clue 110 = .ok (.iconst 0, 1) := by decide +kernel
theorem dX8_clue_111 : decode cX8_clue 111 = .ok (.ireturn, 1) := by decide +kernel
theorem dX8_clue_112 : decode cX8_clue 112 = .ok (.bipush (-2), 2) := by decide +kernel
theorem dX8_clue_114 : decode cX8_clue 114 = .ok (.ireturn, 1) := by decide +kernel
theorem dX8_heldSet_0 : decode cX8_heldSet 0 = .ok (.iconst 0, 1) := by decide +kernel
theorem dX8_heldSet_1 : decode cX8_heldSet 1 = .ok (.istore_n 1, 1) := by decide +kernel
theorem dX8_heldSet_2 : decode cX8_heldSet 2 = .ok (.iconst 0, 1) := by decide +kernel
theorem dX8_heldSet_3 : decode cX8_heldSet 3 = .ok (.istore_n 2, 1) := by decide +kernel
theorem dX8_heldSet_4 : decode cX8_heldSet 4 = .ok (.iload_n 2, 1) := by decide +kernel
theorem dX8_heldSet_5 : decode cX8_heldSet 5 = .ok (.aload_n 0, 1) := by decide +kernel
theorem dX8_heldSet_6 : decode cX8_heldSet 6 = .ok (.getfield 7, 3) := by decide +kernel
theorem dX8_heldSet_9 : decode cX8_heldSet 9 = .ok (.iconst 1, 1) := by decide +kernel
theorem dX8_heldSet_10 : decode cX8_heldSet 10 = .ok (.iaload, 1) := by decide +kernel
theorem dX8_heldSet_11 : decode cX8_heldSet 11 = .ok (.if_icmp .ge 27, 3) := by decide +kernel
theorem dX8_heldSet_14 : decode cX8_heldSet 14 = .ok (.iload_n 1, 1) := by decide +kernel
theorem dX8_heldSet_15 : decode cX8_heldSet 15 = .ok (.aload_n 0, 1) := by decide +kernel
theorem dX8_heldSet_16 : decode cX8_heldSet 16 = .ok (.iload_n 2, 1) := by decide +kernel
theorem dX8_heldSet_17 : decode cX8_heldSet 17 = .ok (.invokevirtual 45, 3) := by decide +kernel
theorem dX8_heldSet_20 : decode cX8_heldSet 20 = .ok (.ifCond .eq 9, 3) := by decide +kernel
theorem dX8_heldSet_23 : decode cX8_heldSet 23 = .ok (.iconst 1, 1) := by decide +kernel
theorem dX8_heldSet_24 : decode cX8_heldSet 24 = .ok (.iload_n 2, 1) := by decide +kernel
theorem dX8_heldSet_25 : decode cX8_heldSet 25 = .ok (.ishl, 1) := by decide +kernel
theorem dX8_heldSet_26 : decode cX8_heldSet 26 = .ok (.goto 4, 3) := by decide +kernel
theorem dX8_heldSet_29 : decode cX8_heldSet 29 = .ok (.iconst 0, 1) := by decide +kernel
theorem dX8_heldSet_30 : decode cX8_heldSet 30 = .ok (.ior, 1) := by decide +kernel
theorem dX8_heldSet_31 : decode cX8_heldSet 31 = .ok (.istore_n 1, 1) := by decide +kernel
theorem dX8_heldSet_32 : decode cX8_heldSet 32 = .ok (.iinc 2 1, 3) := by decide +kernel
theorem dX8_heldSet_35 : decode cX8_heldSet 35 = .ok (.goto (-31), 3) := by decide +kernel
theorem dX8_heldSet_38 : decode cX8_heldSet 38 = .ok (.iload_n 1, 1) := by decide +kernel
theorem dX8_heldSet_39 : decode cX8_heldSet 39 = .ok (.ireturn, 1) := by decide +kernel
theorem dX8_game_0 : decode cX8_game 0 = .ok (.iload_n 1, 1) := by decide +kernel
theorem dX8_game_1 : decode cX8_game 1 = .ok (.iconst 0, 1) := by decide +kernel
theorem dX8_game_2 : decode cX8_game 2 = .ok (.iconst 5, 1) := by decide +kernel
theorem dX8_game_3 : decode cX8_game 3 = .ok (.invokestatic 30, 3) := by decide +kernel
theorem dX8_game_6 : decode cX8_game 6 = .ok (.ifCond .ne 6, 3) := by decide +kernel
theorem dX8_game_9 : decode cX8_game 9 = .ok (.bipush (-2), 2) := by decide +kernel
theorem dX8_game_11 : decode cX8_game 11 = .ok (.ireturn, 1) := by decide +kernel
theorem dX8_game_12 : decode cX8_game 12 = .ok (.aload_n 0, 1) := by decide +kernel
theorem dX8_game_13 : decode cX8_game 13 = .ok (.invokevirtual 105, 3) := by decide +kernel
theorem dX8_game_16 : decode cX8_game 16 = .ok (.ifCond .ne 6, 3) := by decide +kernel
theorem dX8_game_19 : decode cX8_game 19 = .ok (.bipush (-4), 2) := by decide +kernel
theorem dX8_game_21 : decode cX8_game 21 = .ok (.ireturn, 1) := by decide +kernel
theorem dX8_game_22 : decode cX8_game 22 = .ok (.iload_n 1, 1) := by decide +kernel
theorem dX8_game_23 : decode cX8_game 23 = .ok (.tableswitch 67 0 4 #[33, 41, 49, 54, 62], 33) := by decide +kernel
theorem dX8_game_56 : decode cX8_game 56 = .ok (.aload_n 0, 1) := by decide +kernel
theorem dX8_game_57 : decode cX8_game 57 = .ok (.getfield 7, 3) := by decide +kernel
theorem dX8_game_60 : decode cX8_game 60 = .ok (.bipush 11, 2) := by decide +kernel
theorem dX8_game_62 : decode cX8_game 62 = .ok (.iaload, 1) := by decide +kernel
theorem dX8_game_63 : decode cX8_game 63 = .ok (.ireturn, 1) := by decide +kernel
theorem dX8_game_64 : decode cX8_game 64 = .ok (.aload_n 0, 1) := by decide +kernel
theorem dX8_game_65 : decode cX8_game 65 = .ok (.getfield 7, 3) := by decide +kernel
theorem dX8_game_68 : decode cX8_game 68 = .ok (.bipush 13, 2) := by decide +kernel
theorem dX8_game_70 : decode cX8_game 70 = .ok (.iaload, 1) := by decide +kernel
theorem dX8_game_71 : decode cX8_game 71 = .ok (.ireturn, 1) := by decide +kernel
theorem dX8_game_72 : decode cX8_game 72 = .ok (.aload_n 0, 1) := by decide +kernel
theorem dX8_game_73 : decode cX8_game 73 = .ok (.invokevirtual 127, 3) := by decide +kernel
theorem dX8_game_76 : decode cX8_game 76 = .ok (.ireturn, 1) := by decide +kernel
theorem dX8_game_77 : decode cX8_game 77 = .ok (.aload_n 0, 1) := by decide +kernel
theorem dX8_game_78 : decode cX8_game 78 = .ok (.getfield 7, 3) := by decide +kernel
theorem dX8_game_81 : decode cX8_game 81 = .ok (.bipush 14, 2) := by decide +kernel
theorem dX8_game_83 : decode cX8_game 83 = .ok (.iaload, 1) := by decide +kernel
theorem dX8_game_84 : decode cX8_game 84 = .ok (.ireturn, 1) := by decide +kernel
theorem dX8_game_85 : decode cX8_game 85 = .ok (.aload_n 0, 1) := by decide +kernel
theorem dX8_game_86 : decode cX8_game 86 = .ok (.invokevirtual 205, 3) := by decide +kernel
theorem dX8_game_89 : decode cX8_game 89 = .ok (.ireturn, 1) := by decide +kernel
theorem dX8_game_90 : decode cX8_game 90 = .ok (.aload_n 0, 1) := by decide +kernel
theorem dX8_game_91 : decode cX8_game 91 = .ok (.getfield 7, 3) := by decide +kernel
theorem dX8_game_94 : decode cX8_game 94 = .ok (.bipush 15, 2) := by decide +kernel
theorem dX8_game_96 : decode cX8_game 96 = .ok (.iaload, 1) := by decide +kernel
theorem dX8_game_97 : decode cX8_game 97 = .ok (.ireturn, 1) := by decide +kernel
theorem dX8_startOf_0 : decode cX8_startOf 0 = .ok (.aload_n 0, 1) := by decide +kernel
theorem dX8_startOf_1 : decode cX8_startOf 1 = .ok (.invokevirtual 105, 3) := by decide +kernel
theorem dX8_startOf_4 : decode cX8_startOf 4 = .ok (.ifCond .eq 24, 3) := by decide +kernel
theorem dX8_startOf_7 : decode cX8_startOf 7 = .ok (.aload_n 0, 1) := by decide +kernel
theorem dX8_startOf_8 : decode cX8_startOf 8 = .ok (.getfield 7, 3) := by decide +kernel
theorem dX8_startOf_11 : decode cX8_startOf 11 = .ok (.bipush 13, 2) := by decide +kernel
theorem dX8_startOf_13 : decode cX8_startOf 13 = .ok (.iaload, 1) := by decide +kernel
theorem dX8_startOf_14 : decode cX8_startOf 14 = .ok (.aload_n 0, 1) := by decide +kernel
theorem dX8_startOf_15 : decode cX8_startOf 15 = .ok (.getfield 7, 3) := by decide +kernel
theorem dX8_startOf_18 : decode cX8_startOf 18 = .ok (.bipush 6, 2) := by decide +kernel
theorem dX8_startOf_20 : decode cX8_startOf 20 = .ok (.iaload, 1) := by decide +kernel
theorem dX8_startOf_21 : decode cX8_startOf 21 = .ok (.iadd, 1) := by decide +kernel
theorem dX8_startOf_22 : decode cX8_startOf 22 = .ok (.bipush 10, 2) := by decide +kernel
theorem dX8_startOf_24 : decode cX8_startOf 24 = .ok (.iadd, 1) := by decide +kernel
theorem dX8_startOf_25 : decode cX8_startOf 25 = .ok (.goto 10, 3) := by decide +kernel
theorem dX8_startOf_28 : decode cX8_startOf 28 = .ok (.aload_n 0, 1) := by decide +kernel
theorem dX8_startOf_29 : decode cX8_startOf 29 = .ok (.getfield 7, 3) := by decide +kernel
theorem dX8_startOf_32 : decode cX8_startOf 32 = .ok (.bipush 9, 2) := by decide +kernel
theorem dX8_startOf_34 : decode cX8_startOf 34 = .ok (.iaload, 1) := by decide +kernel
theorem dX8_startOf_35 : decode cX8_startOf 35 = .ok (.istore_n 2, 1) := by decide +kernel
theorem dX8_startOf_36 : decode cX8_startOf 36 = .ok (.iconst 0, 1) := by decide +kernel
theorem dX8_startOf_37 : decode cX8_startOf 37 = .ok (.istore_n 3, 1) := by decide +kernel
theorem dX8_startOf_38 : decode cX8_startOf 38 = .ok (.iload_n 3, 1) := by decide +kernel
theorem dX8_startOf_39 : decode cX8_startOf 39 = .ok (.iload_n 1, 1) := by decide +kernel
theorem dX8_startOf_40 : decode cX8_startOf 40 = .ok (.if_icmp .ge 49, 3) := by decide +kernel
theorem dX8_startOf_43 : decode cX8_startOf 43 = .ok (.iload_n 2, 1) := by decide +kernel
theorem dX8_startOf_44 : decode cX8_startOf 44 = .ok (.aload_n 0, 1) := by decide +kernel
theorem dX8_startOf_45 : decode cX8_startOf 45 = .ok (.getfield 7, 3) := by decide +kernel
theorem dX8_startOf_48 : decode cX8_startOf 48 = .ok (.sipush 184, 3) := by decide +kernel
theorem dX8_startOf_51 : decode cX8_startOf 51 = .ok (.iload_n 3, 1) := by decide +kernel
theorem dX8_startOf_52 : decode cX8_startOf 52 = .ok (.iadd, 1) := by decide +kernel
theorem dX8_startOf_53 : decode cX8_startOf 53 = .ok (.iaload, 1) := by decide +kernel
theorem dX8_startOf_54 : decode cX8_startOf 54 = .ok (.if_icmp .le 7, 3) := by decide +kernel
theorem dX8_startOf_57 : decode cX8_startOf 57 = .ok (.iload_n 2, 1) := by decide +kernel
theorem dX8_startOf_58 : decode cX8_startOf 58 = .ok (.goto 13, 3) := by decide +kernel
theorem dX8_startOf_61 : decode cX8_startOf 61 = .ok (.aload_n 0, 1) := by decide +kernel
theorem dX8_startOf_62 : decode cX8_startOf 62 = .ok (.getfield 7, 3) := by decide +kernel
theorem dX8_startOf_65 : decode cX8_startOf 65 = .ok (.sipush 184, 3) := by decide +kernel
theorem dX8_startOf_68 : decode cX8_startOf 68 = .ok (.iload_n 3, 1) := by decide +kernel
theorem dX8_startOf_69 : decode cX8_startOf 69 = .ok (.iadd, 1) := by decide +kernel
theorem dX8_startOf_70 : decode cX8_startOf 70 = .ok (.iaload, 1) := by decide +kernel
theorem dX8_startOf_71 : decode cX8_startOf 71 = .ok (.aload_n 0, 1) := by decide +kernel
theorem dX8_startOf_72 : decode cX8_startOf 72 = .ok (.getfield 7, 3) := by decide +kernel
theorem dX8_startOf_75 : decode cX8_startOf 75 = .ok (.bipush 6, 2) := by decide +kernel
theorem dX8_startOf_77 : decode cX8_startOf 77 = .ok (.iaload, 1) := by decide +kernel
theorem dX8_startOf_78 : decode cX8_startOf 78 = .ok (.iadd, 1) := by decide +kernel
theorem dX8_startOf_79 : decode cX8_startOf 79 = .ok (.bipush 10, 2) := by decide +kernel
theorem dX8_startOf_81 : decode cX8_startOf 81 = .ok (.iadd, 1) := by decide +kernel
theorem dX8_startOf_82 : decode cX8_startOf 82 = .ok (.istore_n 2, 1) := by decide +kernel
theorem dX8_startOf_83 : decode cX8_startOf 83 = .ok (.iinc 3 1, 3) := by decide +kernel
theorem dX8_startOf_86 : decode cX8_startOf 86 = .ok (.goto (-48), 3) := by decide +kernel
theorem dX8_startOf_89 : decode cX8_startOf 89 = .ok (.iload_n 2, 1) := by decide +kernel
theorem dX8_startOf_90 : decode cX8_startOf 90 = .ok (.aload_n 0, 1) := by decide +kernel
theorem dX8_startOf_91 : decode cX8_startOf 91 = .ok (.getfield 7, 3) := by decide +kernel
theorem dX8_startOf_94 : decode cX8_startOf 94 = .ok (.sipush 184, 3) := by decide +kernel
theorem dX8_startOf_97 : decode cX8_startOf 97 = .ok (.iload_n 1, 1) := by decide +kernel
theorem dX8_startOf_98 : decode cX8_startOf 98 = .ok (.iadd, 1) := by decide +kernel
theorem dX8_startOf_99 : decode cX8_startOf 99 = .ok (.iaload, 1) := by decide +kernel
theorem dX8_startOf_100 : decode cX8_startOf 100 = .ok (.if_icmp .le 7, 3) := by decide +kernel
theorem dX8_startOf_103 : decode cX8_startOf 103 = .ok (.iload_n 2, 1) := by decide +kernel
theorem dX8_startOf_104 : decode cX8_startOf 104 = .ok (.goto 13, 3) := by decide +kernel
theorem dX8_startOf_107 : decode cX8_startOf 107 = .ok (.aload_n 0, 1) := by decide +kernel
theorem dX8_startOf_108 : decode cX8_startOf 108 = .ok (.getfield 7, 3) := by decide +kernel
theorem dX8_startOf_111 : decode cX8_startOf 111 = .ok (.sipush 184, 3) := by decide +kernel
theorem dX8_startOf_114 : decode cX8_startOf 114 = .ok (.iload_n 1, 1) := by decide +kernel
theorem dX8_startOf_115 : decode cX8_startOf 115 = .ok (.iadd, 1) := by decide +kernel
theorem dX8_startOf_116 : decode cX8_startOf 116 = .ok (.iaload, 1) := by decide +kernel
theorem dX8_startOf_117 : decode cX8_startOf 117 = .ok (.ireturn, 1) := by decide +kernel
theorem dX8_group_0 : decode cX8_group 0 = .ok (.aload_n 0, 1) := by decide +kernel
theorem dX8_group_1 : decode cX8_group 1 = .ok (.iload_n 1, 1) := by decide +kernel
theorem dX8_group_2 : decode cX8_group 2 = .ok (.invokevirtual 109, 3) := by decide +kernel
theorem dX8_group_5 : decode cX8_group 5 = .ok (.ifCond .eq 5, 3) := by decide +kernel
theorem dX8_group_8 : decode cX8_group 8 = .ok (.iconst (-1), 1) := by decide +kernel
theorem dX8_group_9 : decode cX8_group 9 = .ok (.ireturn, 1) := by decide +kernel
theorem dX8_group_10 : decode cX8_group 10 = .ok (.iload_n 2, 1) := by decide +kernel
theorem dX8_group_11 : decode cX8_group 11 = .ok (.ifCond .ne 16, 3) := by decide +kernel
theorem dX8_group_14 : decode cX8_group 14 = .ok (.aload_n 0, 1) := by decide +kernel
theorem dX8_group_15 : decode cX8_group 15 = .ok (.getfield 7, 3) := by decide +kernel
theorem dX8_group_18 : decode cX8_group 18 = .ok (.sipush 176, 3) := by decide +kernel
theorem dX8_group_21 : decode cX8_group 21 = .ok (.iload_n 1, 1) := by decide +kernel
theorem dX8_group_22 : decode cX8_group 22 = .ok (.iadd, 1) := by decide +kernel
theorem dX8_group_23 : decode cX8_group 23 = .ok (.iaload, 1) := by decide +kernel
theorem dX8_group_24 : decode cX8_group 24 = .ok (.goto 36, 3) := by decide +kernel
theorem dX8_group_27 : decode cX8_group 27 = .ok (.iload_n 2, 1) := by decide +kernel
theorem dX8_group_28 : decode cX8_group 28 = .ok (.iconst 1, 1) := by decide +kernel
theorem dX8_group_29 : decode cX8_group 29 = .ok (.if_icmp .ne 16, 3) := by decide +kernel
theorem dX8_group_32 : decode cX8_group 32 = .ok (.aload_n 0, 1) := by decide +kernel
theorem dX8_group_33 : decode cX8_group 33 = .ok (.getfield 7, 3) := by decide +kernel
theorem dX8_group_36 : decode cX8_group 36 = .ok (.sipush 184, 3) := by decide +kernel
theorem dX8_group_39 : decode cX8_group 39 = .ok (.iload_n 1, 1) := by decide +kernel
theorem dX8_group_40 : decode cX8_group 40 = .ok (.iadd, 1) := by decide +kernel
theorem dX8_group_41 : decode cX8_group 41 = .ok (.iaload, 1) := by decide +kernel
theorem dX8_group_42 : decode cX8_group 42 = .ok (.goto 18, 3) := by decide +kernel
theorem dX8_group_45 : decode cX8_group 45 = .ok (.iload_n 2, 1) := by decide +kernel
theorem dX8_group_46 : decode cX8_group 46 = .ok (.iconst 2, 1) := by decide +kernel
theorem dX8_group_47 : decode cX8_group 47 = .ok (.if_icmp .ne 11, 3) := by decide +kernel
theorem dX8_group_50 : decode cX8_group 50 = .ok (.aload_n 0, 1) := by decide +kernel
theorem dX8_group_51 : decode cX8_group 51 = .ok (.iload_n 1, 1) := by decide +kernel
theorem dX8_group_52 : decode cX8_group 52 = .ok (.invokevirtual 208, 3) := by decide +kernel
theorem dX8_group_55 : decode cX8_group 55 = .ok (.goto 5, 3) := by decide +kernel
theorem dX8_group_58 : decode cX8_group 58 = .ok (.bipush (-2), 2) := by decide +kernel
theorem dX8_group_60 : decode cX8_group 60 = .ok (.ireturn, 1) := by decide +kernel
theorem dX8_result_0 : decode cX8_result 0 = .ok (.iload_n 1, 1) := by decide +kernel
theorem dX8_result_1 : decode cX8_result 1 = .ok (.iconst 0, 1) := by decide +kernel
theorem dX8_result_2 : decode cX8_result 2 = .ok (.aload_n 0, 1) := by decide +kernel
theorem dX8_result_3 : decode cX8_result 3 = .ok (.getfield 7, 3) := by decide +kernel
theorem dX8_result_6 : decode cX8_result 6 = .ok (.iconst 4, 1) := by decide +kernel
theorem dX8_result_7 : decode cX8_result 7 = .ok (.iaload, 1) := by decide +kernel
theorem dX8_result_8 : decode cX8_result 8 = .ok (.iconst 1, 1) := by decide +kernel
theorem dX8_result_9 : decode cX8_result 9 = .ok (.isub, 1) := by decide +kernel
theorem dX8_result_10 : decode cX8_result 10 = .ok (.invokestatic 30, 3) := by decide +kernel
theorem dX8_result_13 : decode cX8_result 13 = .ok (.ifCond .ne 5, 3) := by decide +kernel
theorem dX8_result_16 : decode cX8_result 16 = .ok (.iconst (-1), 1) := by decide +kernel
theorem dX8_result_17 : decode cX8_result 17 = .ok (.ireturn, 1) := by decide +kernel
theorem dX8_result_18 : decode cX8_result 18 = .ok (.iload_n 2, 1) := by decide +kernel
theorem dX8_result_19 : decode cX8_result 19 = .ok (.iconst 0, 1) := by decide +kernel
theorem dX8_result_20 : decode cX8_result 20 = .ok (.bipush 6, 2) := by decide +kernel
theorem dX8_result_22 : decode cX8_result 22 = .ok (.invokestatic 30, 3) := by decide +kernel
theorem dX8_result_25 : decode cX8_result 25 = .ok (.ifCond .eq 21, 3) := by decide +kernel
theorem dX8_result_28 : decode cX8_result 28 = .ok (.aload_n 0, 1) := by decide +kernel
theorem dX8_result_29 : decode cX8_result 29 = .ok (.getfield 7, 3) := by decide +kernel
theorem dX8_result_32 : decode cX8_result 32 = .ok (.sipush 192, 3) := by decide +kernel
theorem dX8_result_35 : decode cX8_result 35 = .ok (.bipush 7, 2) := by decide +kernel
theorem dX8_result_37 : decode cX8_result 37 = .ok (.iload_n 1, 1) := by decide +kernel
theorem dX8_result_38 : decode cX8_result 38 = .ok (.imul, 1) := by decide +kernel
theorem dX8_result_39 : decode cX8_result 39 = .ok (.iadd, 1) := by decide +kernel
theorem dX8_result_40 : decode cX8_result 40 = .ok (.iload_n 2, 1) := by decide +kernel
theorem dX8_result_41 : decode cX8_result 41 = .ok (.iadd, 1) := by decide +kernel
theorem dX8_result_42 : decode cX8_result 42 = .ok (.iaload, 1) := by decide +kernel
theorem dX8_result_43 : decode cX8_result 43 = .ok (.goto 5, 3) := by decide +kernel
theorem dX8_result_46 : decode cX8_result 46 = .ok (.bipush (-2), 2) := by decide +kernel
theorem dX8_result_48 : decode cX8_result 48 = .ok (.ireturn, 1) := by decide +kernel
theorem dX8_faded_0 : decode cX8_faded 0 = .ok (.iconst 0, 1) := by decide +kernel
theorem dX8_faded_1 : decode cX8_faded 1 = .ok (.istore_n 1, 1) := by decide +kernel
theorem dX8_faded_2 : decode cX8_faded 2 = .ok (.iconst 0, 1) := by decide +kernel
theorem dX8_faded_3 : decode cX8_faded 3 = .ok (.istore_n 2, 1) := by decide +kernel
theorem dX8_faded_4 : decode cX8_faded 4 = .ok (.iload_n 2, 1) := by decide +kernel
theorem dX8_faded_5 : decode cX8_faded 5 = .ok (.aload_n 0, 1) := by decide +kernel
theorem dX8_faded_6 : decode cX8_faded 6 = .ok (.getfield 7, 3) := by decide +kernel
theorem dX8_faded_9 : decode cX8_faded 9 = .ok (.iconst 2, 1) := by decide +kernel
theorem dX8_faded_10 : decode cX8_faded 10 = .ok (.iaload, 1) := by decide +kernel
theorem dX8_faded_11 : decode cX8_faded 11 = .ok (.if_icmp .ge 31, 3) := by decide +kernel
theorem dX8_faded_14 : decode cX8_faded 14 = .ok (.iload_n 1, 1) := by decide +kernel
theorem dX8_faded_15 : decode cX8_faded 15 = .ok (.aload_n 0, 1) := by decide +kernel
theorem dX8_faded_16 : decode cX8_faded 16 = .ok (.getfield 7, 3) := by decide +kernel
theorem dX8_faded_19 : decode cX8_faded 19 = .ok (.sipush 164, 3) := by decide +kernel
theorem dX8_faded_22 : decode cX8_faded 22 = .ok (.iload_n 2, 1) := by decide +kernel
theorem dX8_faded_23 : decode cX8_faded 23 = .ok (.iadd, 1) := by decide +kernel
theorem dX8_faded_24 : decode cX8_faded 24 = .ok (.iaload, 1) := by decide +kernel
theorem dX8_faded_25 : decode cX8_faded 25 = .ok (.iconst 4, 1) := by decide +kernel
theorem dX8_faded_26 : decode cX8_faded 26 = .ok (.if_icmp .ge 7, 3) := by decide +kernel
theorem dX8_faded_29 : decode cX8_faded 29 = .ok (.iconst 1, 1) := by decide +kernel
theorem dX8_faded_30 : decode cX8_faded 30 = .ok (.goto 4, 3) := by decide +kernel
theorem dX8_faded_33 : decode cX8_faded 33 = .ok (.iconst 0, 1) := by decide +kernel
theorem dX8_faded_34 : decode cX8_faded 34 = .ok (.iadd, 1) := by decide +kernel
theorem dX8_faded_35 : decode cX8_faded 35 = .ok (.istore_n 1, 1) := by decide +kernel
theorem dX8_faded_36 : decode cX8_faded 36 = .ok (.iinc 2 1, 3) := by decide +kernel
theorem dX8_faded_39 : decode cX8_faded 39 = .ok (.goto (-35), 3) := by decide +kernel
theorem dX8_faded_42 : decode cX8_faded 42 = .ok (.iload_n 1, 1) := by decide +kernel
theorem dX8_faded_43 : decode cX8_faded 43 = .ok (.ireturn, 1) := by decide +kernel
theorem dX8_differences_0 : decode cX8_differences 0 = .ok (.iload_n 1, 1) := by decide +kernel
theorem dX8_differences_1 : decode cX8_differences 1 = .ok (.tableswitch 62 0 4 #[35, 40, 45, 50, 55], 35) := by decide +kernel
theorem dX8_differences_36 : decode cX8_differences 36 = .ok (.aload_n 0, 1) := by decide +kernel
theorem dX8_differences_37 : decode cX8_differences 37 = .ok (.invokevirtual 118, 3) := by decide +kernel
theorem dX8_differences_40 : decode cX8_differences 40 = .ok (.ireturn, 1) := by decide +kernel
theorem dX8_differences_41 : decode cX8_differences 41 = .ok (.aload_n 0, 1) := by decide +kernel
theorem dX8_differences_42 : decode cX8_differences 42 = .ok (.invokevirtual 121, 3) := by decide +kernel
theorem dX8_differences_45 : decode cX8_differences 45 = .ok (.ireturn, 1) := by decide +kernel
theorem dX8_differences_46 : decode cX8_differences 46 = .ok (.aload_n 0, 1) := by decide +kernel
theorem dX8_differences_47 : decode cX8_differences 47 = .ok (.invokevirtual 211, 3) := by decide +kernel
theorem dX8_differences_50 : decode cX8_differences 50 = .ok (.ireturn, 1) := by decide +kernel
theorem dX8_differences_51 : decode cX8_differences 51 = .ok (.aload_n 0, 1) := by decide +kernel
theorem dX8_differences_52 : decode cX8_differences 52 = .ok (.invokevirtual 190, 3) := by decide +kernel
theorem dX8_differences_55 : decode cX8_differences 55 = .ok (.ireturn, 1) := by decide +kernel
theorem dX8_differences_56 : decode cX8_differences 56 = .ok (.aload_n 0, 1) := by decide +kernel
theorem dX8_differences_57 : decode cX8_differences 57 = .ok (.iconst 1, 1) := by decide +kernel
theorem dX8_differences_58 : decode cX8_differences 58 = .ok (.iconst 0, 1) := by decide +kernel
theorem dX8_differences_59 : decode cX8_differences 59 = .ok (.invokevirtual 186, 3) := by decide +kernel
theorem dX8_differences_62 : decode cX8_differences 62 = .ok (.ireturn, 1) := by decide +kernel
theorem dX8_differences_63 : decode cX8_differences 63 = .ok (.bipush (-2), 2) := by decide +kernel
theorem dX8_differences_65 : decode cX8_differences 65 = .ok (.ireturn, 1) := by decide +kernel
theorem dX8_wordLetter_0 : decode cX8_wordLetter 0 = .ok (.iload_n 0, 1) := by decide +kernel
theorem dX8_wordLetter_1 : decode cX8_wordLetter 1 = .ok (.tableswitch 267 0 6 #[43, 75, 97, 129, 161, 203, 235], 43) := by decide +kernel
theorem dX8_wordLetter_44 : decode cX8_wordLetter 44 = .ok (.iload_n 1, 1) := by decide +kernel
theorem dX8_wordLetter_45 : decode cX8_wordLetter 45 = .ok (.ifCond .ne 8, 3) := by decide +kernel
theorem dX8_wordLetter_48 : decode cX8_wordLetter 48 = .ok (.bipush 116, 2) := by decide +kernel
theorem dX8_wordLetter_50 : decode cX8_wordLetter 50 = .ok (.goto 25, 3) := by decide +kernel
theorem dX8_wordLetter_53 : decode cX8_wordLetter 53 = .ok (.iload_n 1, 1) := by decide +kernel
theorem dX8_wordLetter_54 : decode cX8_wordLetter 54 = .ok (.iconst 1, 1) := by decide +kernel
theorem dX8_wordLetter_55 : decode cX8_wordLetter 55 = .ok (.if_icmp .ne 8, 3) := by decide +kernel
theorem dX8_wordLetter_58 : decode cX8_wordLetter 58 = .ok (.bipush 97, 2) := by decide +kernel
theorem dX8_wordLetter_60 : decode cX8_wordLetter 60 = .ok (.goto 15, 3) := by decide +kernel
theorem dX8_wordLetter_63 : decode cX8_wordLetter 63 = .ok (.iload_n 1, 1) := by decide +kernel
theorem dX8_wordLetter_64 : decode cX8_wordLetter 64 = .ok (.iconst 2, 1) := by decide +kernel
theorem dX8_wordLetter_65 : decode cX8_wordLetter 65 = .ok (.if_icmp .ne 8, 3) := by decide +kernel
theorem dX8_wordLetter_68 : decode cX8_wordLetter 68 = .ok (.bipush 107, 2) := by decide +kernel
theorem dX8_wordLetter_70 : decode cX8_wordLetter 70 = .ok (.goto 5, 3) := by decide +kernel
theorem dX8_wordLetter_73 : decode cX8_wordLetter 73 = .ok (.bipush 101, 2) := by decide +kernel
theorem dX8_wordLetter_75 : decode cX8_wordLetter 75 = .ok (.ireturn, 1) := by decide +kernel
theorem dX8_wordLetter_76 : decode cX8_wordLetter 76 = .ok (.iload_n 1, 1) := by decide +kernel
theorem dX8_wordLetter_77 : decode cX8_wordLetter 77 = .ok (.ifCond .ne 8, 3) := by decide +kernel
theorem dX8_wordLetter_80 : decode cX8_wordLetter 80 = .ok (.bipush 108, 2) := by decide +kernel
theorem dX8_wordLetter_82 : decode cX8_wordLetter 82 = .ok (.goto 15, 3) := by decide +kernel
theorem dX8_wordLetter_85 : decode cX8_wordLetter 85 = .ok (.iload_n 1, 1) := by decide +kernel
theorem dX8_wordLetter_86 : decode cX8_wordLetter 86 = .ok (.iconst 1, 1) := by decide +kernel
theorem dX8_wordLetter_87 : decode cX8_wordLetter 87 = .ok (.if_icmp .ne 8, 3) := by decide +kernel
theorem dX8_wordLetter_90 : decode cX8_wordLetter 90 = .ok (.bipush 97, 2) := by decide +kernel
theorem dX8_wordLetter_92 : decode cX8_wordLetter 92 = .ok (.goto 5, 3) := by decide +kernel
theorem dX8_wordLetter_95 : decode cX8_wordLetter 95 = .ok (.bipush 121, 2) := by decide +kernel
theorem dX8_wordLetter_97 : decode cX8_wordLetter 97 = .ok (.ireturn, 1) := by decide +kernel
theorem dX8_wordLetter_98 : decode cX8_wordLetter 98 = .ok (.iload_n 1, 1) := by decide +kernel
theorem dX8_wordLetter_99 : decode cX8_wordLetter 99 = .ok (.ifCond .ne 8, 3) := by decide +kernel
theorem dX8_wordLetter_102 : decode cX8_wordLetter 102 = .ok (.bipush 111, 2) := by decide +kernel
theorem dX8_wordLetter_104 : decode cX8_wordLetter 104 = .ok (.goto 25, 3) := by decide +kernel
theorem dX8_wordLetter_107 : decode cX8_wordLetter 107 = .ok (.iload_n 1, 1) := by decide +kernel
theorem dX8_wordLetter_108 : decode cX8_wordLetter 108 = .ok (.iconst 1, 1) := by decide +kernel
theorem dX8_wordLetter_109 : decode cX8_wordLetter 109 = .ok (.if_icmp .ne 8, 3) := by decide +kernel
theorem dX8_wordLetter_112 : decode cX8_wordLetter 112 = .ok (.bipush 112, 2) := by decide +kernel
theorem dX8_wordLetter_114 : decode cX8_wordLetter 114 = .ok (.goto 15, 3) := by decide +kernel
theorem dX8_wordLetter_117 : decode cX8_wordLetter 117 = .ok (.iload_n 1, 1) := by decide +kernel
theorem dX8_wordLetter_118 : decode cX8_wordLetter 118 = .ok (.iconst 2, 1) := by decide +kernel
theorem dX8_wordLetter_119 : decode cX8_wordLetter 119 = .ok (.if_icmp .ne 8, 3) := by decide +kernel
theorem dX8_wordLetter_122 : decode cX8_wordLetter 122 = .ok (.bipush 101, 2) := by decide +kernel
theorem dX8_wordLetter_124 : decode cX8_wordLetter 124 = .ok (.goto 5, 3) := by decide +kernel
theorem dX8_wordLetter_127 : decode cX8_wordLetter 127 = .ok (.bipush 110, 2) := by decide +kernel
theorem dX8_wordLetter_129 : decode cX8_wordLetter 129 = .ok (.ireturn, 1) := by decide +kernel
theorem dX8_wordLetter_130 : decode cX8_wordLetter 130 = .ok (.iload_n 1, 1) := by decide +kernel
theorem dX8_wordLetter_131 : decode cX8_wordLetter 131 = .ok (.ifCond .ne 8, 3) := by decide +kernel
theorem dX8_wordLetter_134 : decode cX8_wordLetter 134 = .ok (.bipush 114, 2) := by decide +kernel
theorem dX8_wordLetter_136 : decode cX8_wordLetter 136 = .ok (.goto 25, 3) := by decide +kernel
theorem dX8_wordLetter_139 : decode cX8_wordLetter 139 = .ok (.iload_n 1, 1) := by decide +kernel
theorem dX8_wordLetter_140 : decode cX8_wordLetter 140 = .ok (.iconst 1, 1) := by decide +kernel
theorem dX8_wordLetter_141 : decode cX8_wordLetter 141 = .ok (.if_icmp .ne 8, 3) := by decide +kernel
theorem dX8_wordLetter_144 : decode cX8_wordLetter 144 = .ok (.bipush 101, 2) := by decide +kernel
theorem dX8_wordLetter_146 : decode cX8_wordLetter 146 = .ok (.goto 15, 3) := by decide +kernel
theorem dX8_wordLetter_149 : decode cX8_wordLetter 149 = .ok (.iload_n 1, 1) := by decide +kernel
theorem dX8_wordLetter_150 : decode cX8_wordLetter 150 = .ok (.iconst 2, 1) := by decide +kernel
theorem dX8_wordLetter_151 : decode cX8_wordLetter 151 = .ok (.if_icmp .ne 8, 3) := by decide +kernel
theorem dX8_wordLetter_154 : decode cX8_wordLetter 154 = .ok (.bipush 97, 2) := by decide +kernel
theorem dX8_wordLetter_156 : decode cX8_wordLetter 156 = .ok (.goto 5, 3) := by decide +kernel
theorem dX8_wordLetter_159 : decode cX8_wordLetter 159 = .ok (.bipush 100, 2) := by decide +kernel
theorem dX8_wordLetter_161 : decode cX8_wordLetter 161 = .ok (.ireturn, 1) := by decide +kernel
theorem dX8_wordLetter_162 : decode cX8_wordLetter 162 = .ok (.iload_n 1, 1) := by decide +kernel
theorem dX8_wordLetter_163 : decode cX8_wordLetter 163 = .ok (.ifCond .ne 8, 3) := by decide +kernel
theorem dX8_wordLetter_166 : decode cX8_wordLetter 166 = .ok (.bipush 110, 2) := by decide +kernel
theorem dX8_wordLetter_168 : decode cX8_wordLetter 168 = .ok (.goto 35, 3) := by decide +kernel
theorem dX8_wordLetter_171 : decode cX8_wordLetter 171 = .ok (.iload_n 1, 1) := by decide +kernel
theorem dX8_wordLetter_172 : decode cX8_wordLetter 172 = .ok (.iconst 1, 1) := by decide +kernel
theorem dX8_wordLetter_173 : decode cX8_wordLetter 173 = .ok (.if_icmp .ne 8, 3) := by decide +kernel
theorem dX8_wordLetter_176 : decode cX8_wordLetter 176 = .ok (.bipush 117, 2) := by decide +kernel
theorem dX8_wordLetter_178 : decode cX8_wordLetter 178 = .ok (.goto 25, 3) := by decide +kernel
theorem dX8_wordLetter_181 : decode cX8_wordLetter 181 = .ok (.iload_n 1, 1) := by decide +kernel
theorem dX8_wordLetter_182 : decode cX8_wordLetter 182 = .ok (.iconst 2, 1) := by decide +kernel
theorem dX8_wordLetter_183 : decode cX8_wordLetter 183 = .ok (.if_icmp .ne 8, 3) := by decide +kernel
theorem dX8_wordLetter_186 : decode cX8_wordLetter 186 = .ok (.bipush 100, 2) := by decide +kernel
theorem dX8_wordLetter_188 : decode cX8_wordLetter 188 = .ok (.goto 15, 3) := by decide +kernel
theorem dX8_wordLetter_191 : decode cX8_wordLetter 191 = .ok (.iload_n 1, 1) := by decide +kernel
theorem dX8_wordLetter_192 : decode cX8_wordLetter 192 = .ok (.iconst 3, 1) := by decide +kernel
theorem dX8_wordLetter_193 : decode cX8_wordLetter 193 = .ok (.if_icmp .ne 8, 3) := by decide +kernel
theorem dX8_wordLetter_196 : decode cX8_wordLetter 196 = .ok (.bipush 103, 2) := by decide +kernel
theorem dX8_wordLetter_198 : decode cX8_wordLetter 198 = .ok (.goto 5, 3) := by decide +kernel
theorem dX8_wordLetter_201 : decode cX8_wordLetter 201 = .ok (.bipush 101, 2) := by decide +kernel
theorem dX8_wordLetter_203 : decode cX8_wordLetter 203 = .ok (.ireturn, 1) := by decide +kernel
theorem dX8_wordLetter_204 : decode cX8_wordLetter 204 = .ok (.iload_n 1, 1) := by decide +kernel
theorem dX8_wordLetter_205 : decode cX8_wordLetter 205 = .ok (.ifCond .ne 8, 3) := by decide +kernel
theorem dX8_wordLetter_208 : decode cX8_wordLetter 208 = .ok (.bipush 114, 2) := by decide +kernel
theorem dX8_wordLetter_210 : decode cX8_wordLetter 210 = .ok (.goto 25, 3) := by decide +kernel
theorem dX8_wordLetter_213 : decode cX8_wordLetter 213 = .ok (.iload_n 1, 1) := by decide +kernel
theorem dX8_wordLetter_214 : decode cX8_wordLetter 214 = .ok (.iconst 1, 1) := by decide +kernel
theorem dX8_wordLetter_215 : decode cX8_wordLetter 215 = .ok (.if_icmp .ne 8, 3) := by decide +kernel
theorem dX8_wordLetter_218 : decode cX8_wordLetter 218 = .ok (.bipush 101, 2) := by decide +kernel
theorem dX8_wordLetter_220 : decode cX8_wordLetter 220 = .ok (.goto 15, 3) := by decide +kernel
theorem dX8_wordLetter_223 : decode cX8_wordLetter 223 = .ok (.iload_n 1, 1) := by decide +kernel
theorem dX8_wordLetter_224 : decode cX8_wordLetter 224 = .ok (.iconst 2, 1) := by decide +kernel
theorem dX8_wordLetter_225 : decode cX8_wordLetter 225 = .ok (.if_icmp .ne 8, 3) := by decide +kernel
theorem dX8_wordLetter_228 : decode cX8_wordLetter 228 = .ok (.bipush 115, 2) := by decide +kernel
theorem dX8_wordLetter_230 : decode cX8_wordLetter 230 = .ok (.goto 5, 3) := by decide +kernel
theorem dX8_wordLetter_233 : decode cX8_wordLetter 233 = .ok (.bipush 116, 2) := by decide +kernel
theorem dX8_wordLetter_235 : decode cX8_wordLetter 235 = .ok (.ireturn, 1) := by decide +kernel
theorem dX8_wordLetter_236 : decode cX8_wordLetter 236 = .ok (.iload_n 1, 1) := by decide +kernel
theorem dX8_wordLetter_237 : decode cX8_wordLetter 237 = .ok (.ifCond .ne 8, 3) := by decide +kernel
theorem dX8_wordLetter_240 : decode cX8_wordLetter 240 = .ok (.bipush 111, 2) := by decide +kernel
theorem dX8_wordLetter_242 : decode cX8_wordLetter 242 = .ok (.goto 25, 3) := by decide +kernel
theorem dX8_wordLetter_245 : decode cX8_wordLetter 245 = .ok (.iload_n 1, 1) := by decide +kernel
theorem dX8_wordLetter_246 : decode cX8_wordLetter 246 = .ok (.iconst 1, 1) := by decide +kernel
theorem dX8_wordLetter_247 : decode cX8_wordLetter 247 = .ok (.if_icmp .ne 8, 3) := by decide +kernel
theorem dX8_wordLetter_250 : decode cX8_wordLetter 250 = .ok (.bipush 118, 2) := by decide +kernel
theorem dX8_wordLetter_252 : decode cX8_wordLetter 252 = .ok (.goto 15, 3) := by decide +kernel
theorem dX8_wordLetter_255 : decode cX8_wordLetter 255 = .ok (.iload_n 1, 1) := by decide +kernel
theorem dX8_wordLetter_256 : decode cX8_wordLetter 256 = .ok (.iconst 2, 1) := by decide +kernel
theorem dX8_wordLetter_257 : decode cX8_wordLetter 257 = .ok (.if_icmp .ne 8, 3) := by decide +kernel
theorem dX8_wordLetter_260 : decode cX8_wordLetter 260 = .ok (.bipush 101, 2) := by decide +kernel
theorem dX8_wordLetter_262 : decode cX8_wordLetter 262 = .ok (.goto 5, 3) := by decide +kernel
theorem dX8_wordLetter_265 : decode cX8_wordLetter 265 = .ok (.bipush 114, 2) := by decide +kernel
theorem dX8_wordLetter_267 : decode cX8_wordLetter 267 = .ok (.ireturn, 1) := by decide +kernel
theorem dX8_wordLetter_268 : decode cX8_wordLetter 268 = .ok (.iload_n 1, 1) := by decide +kernel
theorem dX8_wordLetter_269 : decode cX8_wordLetter 269 = .ok (.ifCond .ne 8, 3) := by decide +kernel
theorem dX8_wordLetter_272 : decode cX8_wordLetter 272 = .ok (.bipush 117, 2) := by decide +kernel
theorem dX8_wordLetter_274 : decode cX8_wordLetter 274 = .ok (.goto 5, 3) := by decide +kernel
theorem dX8_wordLetter_277 : decode cX8_wordLetter 277 = .ok (.bipush 112, 2) := by decide +kernel
theorem dX8_wordLetter_279 : decode cX8_wordLetter 279 = .ok (.ireturn, 1) := by decide +kernel
theorem dX8_lettersOf_0 : decode cX8_lettersOf 0 = .ok (.iload_n 0, 1) := by decide +kernel
theorem dX8_lettersOf_1 : decode cX8_lettersOf 1 = .ok (.iconst 1, 1) := by decide +kernel
theorem dX8_lettersOf_2 : decode cX8_lettersOf 2 = .ok (.if_icmp .ne 7, 3) := by decide +kernel
theorem dX8_lettersOf_5 : decode cX8_lettersOf 5 = .ok (.iconst 3, 1) := by decide +kernel
theorem dX8_lettersOf_6 : decode cX8_lettersOf 6 = .ok (.goto 23, 3) := by decide +kernel
theorem dX8_lettersOf_9 : decode cX8_lettersOf 9 = .ok (.iload_n 0, 1) := by decide +kernel
theorem dX8_lettersOf_10 : decode cX8_lettersOf 10 = .ok (.iconst 4, 1) := by decide +kernel
theorem dX8_lettersOf_11 : decode cX8_lettersOf 11 = .ok (.if_icmp .ne 7, 3) := by decide +kernel
theorem dX8_lettersOf_14 : decode cX8_lettersOf 14 = .ok (.iconst 5, 1) := by decide +kernel
theorem dX8_lettersOf_15 : decode cX8_lettersOf 15 = .ok (.goto 14, 3) := by decide +kernel
theorem dX8_lettersOf_18 : decode cX8_lettersOf 18 = .ok (.iload_n 0, 1) := by decide +kernel
theorem dX8_lettersOf_19 : decode cX8_lettersOf 19 = .ok (.bipush 7, 2) := by decide +kernel
theorem dX8_lettersOf_21 : decode cX8_lettersOf 21 = .ok (.if_icmp .ne 7, 3) := by decide +kernel
theorem dX8_lettersOf_24 : decode cX8_lettersOf 24 = .ok (.iconst 2, 1) := by decide +kernel
theorem dX8_lettersOf_25 : decode cX8_lettersOf 25 = .ok (.goto 4, 3) := by decide +kernel
theorem dX8_lettersOf_28 : decode cX8_lettersOf 28 = .ok (.iconst 4, 1) := by decide +kernel
theorem dX8_lettersOf_29 : decode cX8_lettersOf 29 = .ok (.ireturn, 1) := by decide +kernel
theorem dX8_argumentsOf_0 : decode cX8_argumentsOf 0 = .ok (.iload_n 0, 1) := by decide +kernel
theorem dX8_argumentsOf_1 : decode cX8_argumentsOf 1 = .ok (.iconst 1, 1) := by decide +kernel
theorem dX8_argumentsOf_2 : decode cX8_argumentsOf 2 = .ok (.if_icmp .ne 7, 3) := by decide +kernel
theorem dX8_argumentsOf_5 : decode cX8_argumentsOf 5 = .ok (.iconst 2, 1) := by decide +kernel
theorem dX8_argumentsOf_6 : decode cX8_argumentsOf 6 = .ok (.goto 14, 3) := by decide +kernel
theorem dX8_argumentsOf_9 : decode cX8_argumentsOf 9 = .ok (.iload_n 0, 1) := by decide +kernel
theorem dX8_argumentsOf_10 : decode cX8_argumentsOf 10 = .ok (.bipush 6, 2) := by decide +kernel
theorem dX8_argumentsOf_12 : decode cX8_argumentsOf 12 = .ok (.if_icmp .ge 7, 3) := by decide +kernel
theorem dX8_argumentsOf_15 : decode cX8_argumentsOf 15 = .ok (.iconst 1, 1) := by decide +kernel
theorem dX8_argumentsOf_16 : decode cX8_argumentsOf 16 = .ok (.goto 4, 3) := by decide +kernel
theorem dX8_argumentsOf_19 : decode cX8_argumentsOf 19 = .ok (.iconst 0, 1) := by decide +kernel
theorem dX8_argumentsOf_20 : decode cX8_argumentsOf 20 = .ok (.ireturn, 1) := by decide +kernel
theorem dX8_put_0 : decode cX8_put 0 = .ok (.aload_n 0, 1) := by decide +kernel
theorem dX8_put_1 : decode cX8_put 1 = .ok (.getfield 27, 3) := by decide +kernel
theorem dX8_put_4 : decode cX8_put 4 = .ok (.aload_n 0, 1) := by decide +kernel
theorem dX8_put_5 : decode cX8_put 5 = .ok (.getfield 214, 3) := by decide +kernel
theorem dX8_put_8 : decode cX8_put 8 = .ok (.iload_n 1, 1) := by decide +kernel
theorem dX8_put_9 : decode cX8_put 9 = .ok (.iastore, 1) := by decide +kernel
theorem dX8_put_10 : decode cX8_put 10 = .ok (.aload_n 0, 1) := by decide +kernel
theorem dX8_put_11 : decode cX8_put 11 = .ok (.dup, 1) := by decide +kernel
theorem dX8_put_12 : decode cX8_put 12 = .ok (.getfield 214, 3) := by decide +kernel
theorem dX8_put_15 : decode cX8_put 15 = .ok (.iconst 1, 1) := by decide +kernel
theorem dX8_put_16 : decode cX8_put 16 = .ok (.iadd, 1) := by decide +kernel
theorem dX8_put_17 : decode cX8_put 17 = .ok (.putfield 214, 3) := by decide +kernel
theorem dX8_put_20 : decode cX8_put 20 = .ok (.return_, 1) := by decide +kernel
theorem dX8_putNumber_0 : decode cX8_putNumber 0 = .ok (.iconst 1, 1) := by decide +kernel
theorem dX8_putNumber_1 : decode cX8_putNumber 1 = .ok (.istore_n 2, 1) := by decide +kernel
theorem dX8_putNumber_2 : decode cX8_putNumber 2 = .ok (.iload_n 1, 1) := by decide +kernel
theorem dX8_putNumber_3 : decode cX8_putNumber 3 = .ok (.iload_n 2, 1) := by decide +kernel
theorem dX8_putNumber_4 : decode cX8_putNumber 4 = .ok (.idiv, 1) := by decide +kernel
theorem dX8_putNumber_5 : decode cX8_putNumber 5 = .ok (.bipush 9, 2) := by decide +kernel
theorem dX8_putNumber_7 : decode cX8_putNumber 7 = .ok (.if_icmp .le 11, 3) := by decide +kernel
theorem dX8_putNumber_10 : decode cX8_putNumber 10 = .ok (.iload_n 2, 1) := by decide +kernel
theorem dX8_putNumber_11 : decode cX8_putNumber 11 = .ok (.bipush 10, 2) := by decide +kernel
theorem dX8_putNumber_13 : decode cX8_putNumber 13 = .ok (.imul, 1) := by decide +kernel
theorem dX8_putNumber_14 : decode cX8_putNumber 14 = .ok (.istore_n 2, 1) := by decide +kernel
theorem dX8_putNumber_15 : decode cX8_putNumber 15 = .ok (.goto (-13), 3) := by decide +kernel
theorem dX8_putNumber_18 : decode cX8_putNumber 18 = .ok (.iload_n 2, 1) := by decide +kernel
theorem dX8_putNumber_19 : decode cX8_putNumber 19 = .ok (.ifCond .le 24, 3) := by decide +kernel
theorem dX8_putNumber_22 : decode cX8_putNumber 22 = .ok (.aload_n 0, 1) := by decide +kernel
theorem dX8_putNumber_23 : decode cX8_putNumber 23 = .ok (.bipush 48, 2) := by decide +kernel
theorem dX8_putNumber_25 : decode cX8_putNumber 25 = .ok (.iload_n 1, 1) := by decide +kernel
theorem dX8_putNumber_26 : decode cX8_putNumber 26 = .ok (.iload_n 2, 1) := by decide +kernel
theorem dX8_putNumber_27 : decode cX8_putNumber 27 = .ok (.idiv, 1) := by decide +kernel
theorem dX8_putNumber_28 : decode cX8_putNumber 28 = .ok (.bipush 10, 2) := by decide +kernel
theorem dX8_putNumber_30 : decode cX8_putNumber 30 = .ok (.irem, 1) := by decide +kernel
theorem dX8_putNumber_31 : decode cX8_putNumber 31 = .ok (.iadd, 1) := by decide +kernel
theorem dX8_putNumber_32 : decode cX8_putNumber 32 = .ok (.invokevirtual 217, 3) := by decide +kernel
theorem dX8_putNumber_35 : decode cX8_putNumber 35 = .ok (.iload_n 2, 1) := by decide +kernel
theorem dX8_putNumber_36 : decode cX8_putNumber 36 = .ok (.bipush 10, 2) := by decide +kernel
theorem dX8_putNumber_38 : decode cX8_putNumber 38 = .ok (.idiv, 1) := by decide +kernel
theorem dX8_putNumber_39 : decode cX8_putNumber 39 = .ok (.istore_n 2, 1) := by decide +kernel
theorem dX8_putNumber_40 : decode cX8_putNumber 40 = .ok (.goto (-22), 3) := by decide +kernel
theorem dX8_putNumber_43 : decode cX8_putNumber 43 = .ok (.return_, 1) := by decide +kernel
theorem dX8_spell_0 : decode cX8_spell 0 = .ok (.sipush 402, 3) := by decide +kernel
theorem dX8_spell_3 : decode cX8_spell 3 = .ok (.iconst 4, 1) := by decide +kernel
theorem dX8_spell_4 : decode cX8_spell 4 = .ok (.iload_n 1, 1) := by decide +kernel
theorem dX8_spell_5 : decode cX8_spell 5 = .ok (.imul, 1) := by decide +kernel
theorem dX8_spell_6 : decode cX8_spell 6 = .ok (.iadd, 1) := by decide +kernel
theorem dX8_spell_7 : decode cX8_spell 7 = .ok (.istore_n 2, 1) := by decide +kernel
theorem dX8_spell_8 : decode cX8_spell 8 = .ok (.aload_n 0, 1) := by decide +kernel
theorem dX8_spell_9 : decode cX8_spell 9 = .ok (.getfield 7, 3) := by decide +kernel
theorem dX8_spell_12 : decode cX8_spell 12 = .ok (.iload_n 2, 1) := by decide +kernel
theorem dX8_spell_13 : decode cX8_spell 13 = .ok (.iconst 1, 1) := by decide +kernel
theorem dX8_spell_14 : decode cX8_spell 14 = .ok (.iadd, 1) := by decide +kernel
theorem dX8_spell_15 : decode cX8_spell 15 = .ok (.iaload, 1) := by decide +kernel
theorem dX8_spell_16 : decode cX8_spell 16 = .ok (.istore_n 3, 1) := by decide +kernel
theorem dX8_spell_17 : decode cX8_spell 17 = .ok (.aload_n 0, 1) := by decide +kernel
theorem dX8_spell_18 : decode cX8_spell 18 = .ok (.iconst 0, 1) := by decide +kernel
theorem dX8_spell_19 : decode cX8_spell 19 = .ok (.putfield 214, 3) := by decide +kernel
theorem dX8_spell_22 : decode cX8_spell 22 = .ok (.aload_n 0, 1) := by decide +kernel
theorem dX8_spell_23 : decode cX8_spell 23 = .ok (.aload_n 0, 1) := by decide +kernel
theorem dX8_spell_24 : decode cX8_spell 24 = .ok (.getfield 7, 3) := by decide +kernel
theorem dX8_spell_27 : decode cX8_spell 27 = .ok (.iload_n 2, 1) := by decide +kernel
theorem dX8_spell_28 : decode cX8_spell 28 = .ok (.iaload, 1) := by decide +kernel
theorem dX8_spell_29 : decode cX8_spell 29 = .ok (.invokevirtual 220, 3) := by decide +kernel
theorem dX8_spell_32 : decode cX8_spell 32 = .ok (.aload_n 0, 1) := by decide +kernel
theorem dX8_spell_33 : decode cX8_spell 33 = .ok (.bipush 58, 2) := by decide +kernel
theorem dX8_spell_35 : decode cX8_spell 35 = .ok (.invokevirtual 217, 3) := by decide +kernel
theorem dX8_spell_38 : decode cX8_spell 38 = .ok (.iconst 0, 1) := by decide +kernel
theorem dX8_spell_39 : decode cX8_spell 39 = .ok (.istore 4, 2) := by decide +kernel
theorem dX8_spell_41 : decode cX8_spell 41 = .ok (.iload 4, 2) := by decide +kernel
theorem dX8_spell_43 : decode cX8_spell 43 = .ok (.iload_n 3, 1) := by decide +kernel
theorem dX8_spell_44 : decode cX8_spell 44 = .ok (.invokestatic 223, 3) := by decide +kernel
theorem dX8_spell_47 : decode cX8_spell 47 = .ok (.if_icmp .ge 19, 3) := by decide +kernel
theorem dX8_spell_50 : decode cX8_spell 50 = .ok (.aload_n 0, 1) := by decide +kernel
theorem dX8_spell_51 : decode cX8_spell 51 = .ok (.iload_n 3, 1) := by decide +kernel
theorem dX8_spell_52 : decode cX8_spell 52 = .ok (.iload 4, 2) := by decide +kernel
theorem dX8_spell_54 : decode cX8_spell 54 = .ok (.invokestatic 226, 3) := by decide +kernel
theorem dX8_spell_57 : decode cX8_spell 57 = .ok (.invokevirtual 217, 3) := by decide +kernel
theorem dX8_spell_60 : decode cX8_spell 60 = .ok (.iinc 4 1, 3) := by decide +kernel
theorem dX8_spell_63 : decode cX8_spell 63 = .ok (.goto (-22), 3) := by decide +kernel
theorem dX8_spell_66 : decode cX8_spell 66 = .ok (.iconst 0, 1) := by decide +kernel
theorem dX8_spell_67 : decode cX8_spell 67 = .ok (.istore 4, 2) := by decide +kernel
theorem dX8_spell_69 : decode cX8_spell 69 = .ok (.iload 4, 2) := by decide +kernel
theorem dX8_spell_71 : decode cX8_spell 71 = .ok (.iload_n 3, 1) := by decide +kernel
theorem dX8_spell_72 : decode cX8_spell 72 = .ok (.invokestatic 229, 3) := by decide +kernel
theorem dX8_spell_75 : decode cX8_spell 75 = .ok (.if_icmp .ge 30, 3) := by decide +kernel
theorem dX8_spell_78 : decode cX8_spell 78 = .ok (.aload_n 0, 1) := by decide +kernel
theorem dX8_spell_79 : decode cX8_spell 79 = .ok (.bipush 32, 2) := by decide +kernel
theorem dX8_spell_81 : decode cX8_spell 81 = .ok (.invokevirtual 217, 3) := by decide +kernel
theorem dX8_spell_84 : decode cX8_spell 84 = .ok (.aload_n 0, 1) := by decide +kernel
theorem dX8_spell_85 : decode cX8_spell 85 = .ok (.aload_n 0, 1) := by decide +kernel
theorem dX8_spell_86 : decode cX8_spell 86 = .ok (.getfield 7, 3) := by decide +kernel
theorem dX8_spell_89 : decode cX8_spell 89 = .ok (.iload_n 2, 1) := by decide +kernel
theorem dX8_spell_90 : decode cX8_spell 90 = .ok (.iconst 2, 1) := by decide +kernel
theorem dX8_spell_91 : decode cX8_spell 91 = .ok (.iadd, 1) := by decide +kernel
theorem dX8_spell_92 : decode cX8_spell 92 = .ok (.iload 4, 2) := by decide +kernel
theorem dX8_spell_94 : decode cX8_spell 94 = .ok (.iadd, 1) := by decide +kernel
theorem dX8_spell_95 : decode cX8_spell 95 = .ok (.iaload, 1) := by decide +kernel
theorem dX8_spell_96 : decode cX8_spell 96 = .ok (.invokevirtual 220, 3) := by decide +kernel
theorem dX8_spell_99 : decode cX8_spell 99 = .ok (.iinc 4 1, 3) := by decide +kernel
theorem dX8_spell_102 : decode cX8_spell 102 = .ok (.goto (-33), 3) := by decide +kernel
theorem dX8_spell_105 : decode cX8_spell 105 = .ok (.aload_n 0, 1) := by decide +kernel
theorem dX8_spell_106 : decode cX8_spell 106 = .ok (.bipush 47, 2) := by decide +kernel
theorem dX8_spell_108 : decode cX8_spell 108 = .ok (.invokevirtual 217, 3) := by decide +kernel
theorem dX8_spell_111 : decode cX8_spell 111 = .ok (.return_, 1) := by decide +kernel
theorem dX8_logAt_0 : decode cX8_logAt 0 = .ok (.iload_n 1, 1) := by decide +kernel
theorem dX8_logAt_1 : decode cX8_logAt 1 = .ok (.ifCond .ge 6, 3) := by decide +kernel
theorem dX8_logAt_4 : decode cX8_logAt 4 = .ok (.bipush (-2), 2) := by decide +kernel
theorem dX8_logAt_6 : decode cX8_logAt 6 = .ok (.ireturn, 1) := by decide +kernel
theorem dX8_logAt_7 : decode cX8_logAt 7 = .ok (.iload_n 1, 1) := by decide +kernel
theorem dX8_logAt_8 : decode cX8_logAt 8 = .ok (.istore_n 2, 1) := by decide +kernel
theorem dX8_logAt_9 : decode cX8_logAt 9 = .ok (.iconst 0, 1) := by decide +kernel
theorem dX8_logAt_10 : decode cX8_logAt 10 = .ok (.istore_n 3, 1) := by decide +kernel
theorem dX8_logAt_11 : decode cX8_logAt 11 = .ok (.iload_n 3, 1) := by decide +kernel
theorem dX8_logAt_12 : decode cX8_logAt 12 = .ok (.aload_n 0, 1) := by decide +kernel
theorem dX8_logAt_13 : decode cX8_logAt 13 = .ok (.getfield 7, 3) := by decide +kernel
theorem dX8_logAt_16 : decode cX8_logAt 16 = .ok (.bipush 17, 2) := by decide +kernel
theorem dX8_logAt_18 : decode cX8_logAt 18 = .ok (.iaload, 1) := by decide +kernel
theorem dX8_logAt_19 : decode cX8_logAt 19 = .ok (.if_icmp .ge 36, 3) := by decide +kernel
theorem dX8_logAt_22 : decode cX8_logAt 22 = .ok (.aload_n 0, 1) := by decide +kernel
theorem dX8_logAt_23 : decode cX8_logAt 23 = .ok (.iload_n 3, 1) := by decide +kernel
theorem dX8_logAt_24 : decode cX8_logAt 24 = .ok (.invokevirtual 232, 3) := by decide +kernel
theorem dX8_logAt_27 : decode cX8_logAt 27 = .ok (.iload_n 2, 1) := by decide +kernel
theorem dX8_logAt_28 : decode cX8_logAt 28 = .ok (.aload_n 0, 1) := by decide +kernel
theorem dX8_logAt_29 : decode cX8_logAt 29 = .ok (.getfield 214, 3) := by decide +kernel
theorem dX8_logAt_32 : decode cX8_logAt 32 = .ok (.if_icmp .ge 10, 3) := by decide +kernel
theorem dX8_logAt_35 : decode cX8_logAt 35 = .ok (.aload_n 0, 1) := by decide +kernel
theorem dX8_logAt_36 : decode cX8_logAt 36 = .ok (.getfield 27, 3) := by decide +kernel
theorem dX8_logAt_39 : decode cX8_logAt 39 = .ok (.iload_n 2, 1) := by decide +kernel
theorem dX8_logAt_40 : decode cX8_logAt 40 = .ok (.iaload, 1) := by decide +kernel
theorem dX8_logAt_41 : decode cX8_logAt 41 = .ok (.ireturn, 1) := by decide +kernel
theorem dX8_logAt_42 : decode cX8_logAt 42 = .ok (.iload_n 2, 1) := by decide +kernel
theorem dX8_logAt_43 : decode cX8_logAt 43 = .ok (.aload_n 0, 1) := by decide +kernel
theorem dX8_logAt_44 : decode cX8_logAt 44 = .ok (.getfield 214, 3) := by decide +kernel
theorem dX8_logAt_47 : decode cX8_logAt 47 = .ok (.isub, 1) := by decide +kernel
theorem dX8_logAt_48 : decode cX8_logAt 48 = .ok (.istore_n 2, 1) := by decide +kernel
theorem dX8_logAt_49 : decode cX8_logAt 49 = .ok (.iinc 3 1, 3) := by decide +kernel
theorem dX8_logAt_52 : decode cX8_logAt 52 = .ok (.goto (-41), 3) := by decide +kernel
theorem dX8_logAt_55 : decode cX8_logAt 55 = .ok (.bipush (-5), 2) := by decide +kernel
theorem dX8_logAt_57 : decode cX8_logAt 57 = .ok (.ireturn, 1) := by decide +kernel
theorem dX8_logLength_0 : decode cX8_logLength 0 = .ok (.iconst 0, 1) := by decide +kernel
theorem dX8_logLength_1 : decode cX8_logLength 1 = .ok (.istore_n 1, 1) := by decide +kernel
theorem dX8_logLength_2 : decode cX8_logLength 2 = .ok (.iconst 0, 1) := by decide +kernel
theorem dX8_logLength_3 : decode cX8_logLength 3 = .ok (.istore_n 2, 1) := by decide +kernel
theorem dX8_logLength_4 : decode cX8_logLength 4 = .ok (.iload_n 2, 1) := by decide +kernel
theorem dX8_logLength_5 : decode cX8_logLength 5 = .ok (.aload_n 0, 1) := by decide +kernel
theorem dX8_logLength_6 : decode cX8_logLength 6 = .ok (.getfield 7, 3) := by decide +kernel
theorem dX8_logLength_9 : decode cX8_logLength 9 = .ok (.bipush 17, 2) := by decide +kernel
theorem dX8_logLength_11 : decode cX8_logLength 11 = .ok (.iaload, 1) := by decide +kernel
theorem dX8_logLength_12 : decode cX8_logLength 12 = .ok (.if_icmp .ge 21, 3) := by decide +kernel
theorem dX8_logLength_15 : decode cX8_logLength 15 = .ok (.aload_n 0, 1) := by decide +kernel
theorem dX8_logLength_16 : decode cX8_logLength 16 = .ok (.iload_n 2, 1) := by decide +kernel
theorem dX8_logLength_17 : decode cX8_logLength 17 = .ok (.invokevirtual 232, 3) := by decide +kernel
theorem dX8_logLength_20 : decode cX8_logLength 20 = .ok (.iload_n 1, 1) := by decide +kernel
theorem dX8_logLength_21 : decode cX8_logLength 21 = .ok (.aload_n 0, 1) := by decide +kernel
theorem dX8_logLength_22 : decode cX8_logLength 22 = .ok (.getfield 214, 3) := by decide +kernel
theorem dX8_logLength_25 : decode cX8_logLength 25 = .ok (.iadd, 1) := by decide +kernel
theorem dX8_logLength_26 : decode cX8_logLength 26 = .ok (.istore_n 1, 1) := by decide +kernel
theorem dX8_logLength_27 : decode cX8_logLength 27 = .ok (.iinc 2 1, 3) := by decide +kernel
theorem dX8_logLength_30 : decode cX8_logLength 30 = .ok (.goto (-26), 3) := by decide +kernel
theorem dX8_logLength_33 : decode cX8_logLength 33 = .ok (.iload_n 1, 1) := by decide +kernel
theorem dX8_logLength_34 : decode cX8_logLength 34 = .ok (.ireturn, 1) := by decide +kernel
theorem dX8_behind_0 : decode cX8_behind 0 = .ok (.iconst 0, 1) := by decide +kernel
theorem dX8_behind_1 : decode cX8_behind 1 = .ok (.istore_n 1, 1) := by decide +kernel
theorem dX8_behind_2 : decode cX8_behind 2 = .ok (.iconst 0, 1) := by decide +kernel
theorem dX8_behind_3 : decode cX8_behind 3 = .ok (.istore_n 2, 1) := by decide +kernel
theorem dX8_behind_4 : decode cX8_behind 4 = .ok (.iload_n 2, 1) := by decide +kernel
theorem dX8_behind_5 : decode cX8_behind 5 = .ok (.aload_n 0, 1) := by decide +kernel
theorem dX8_behind_6 : decode cX8_behind 6 = .ok (.getfield 7, 3) := by decide +kernel
theorem dX8_behind_9 : decode cX8_behind 9 = .ok (.iconst 3, 1) := by decide +kernel
theorem dX8_behind_10 : decode cX8_behind 10 = .ok (.iaload, 1) := by decide +kernel
theorem dX8_behind_11 : decode cX8_behind 11 = .ok (.if_icmp .ge 37, 3) := by decide +kernel
theorem dX8_behind_14 : decode cX8_behind 14 = .ok (.iload_n 1, 1) := by decide +kernel
theorem dX8_behind_15 : decode cX8_behind 15 = .ok (.aload_n 0, 1) := by decide +kernel
theorem dX8_behind_16 : decode cX8_behind 16 = .ok (.getfield 7, 3) := by decide +kernel
theorem dX8_behind_19 : decode cX8_behind 19 = .ok (.sipush 184, 3) := by decide +kernel
theorem dX8_behind_22 : decode cX8_behind 22 = .ok (.iload_n 2, 1) := by decide +kernel
theorem dX8_behind_23 : decode cX8_behind 23 = .ok (.iadd, 1) := by decide +kernel
theorem dX8_behind_24 : decode cX8_behind 24 = .ok (.iaload, 1) := by decide +kernel
theorem dX8_behind_25 : decode cX8_behind 25 = .ok (.aload_n 0, 1) := by decide +kernel
theorem dX8_behind_26 : decode cX8_behind 26 = .ok (.getfield 7, 3) := by decide +kernel
theorem dX8_behind_29 : decode cX8_behind 29 = .ok (.bipush 9, 2) := by decide +kernel
theorem dX8_behind_31 : decode cX8_behind 31 = .ok (.iaload, 1) := by decide +kernel
theorem dX8_behind_32 : decode cX8_behind 32 = .ok (.if_icmp .ge 7, 3) := by decide +kernel
theorem dX8_behind_35 : decode cX8_behind 35 = .ok (.iconst 1, 1) := by decide +kernel
theorem dX8_behind_36 : decode cX8_behind 36 = .ok (.goto 4, 3) := by decide +kernel
theorem dX8_behind_39 : decode cX8_behind 39 = .ok (.iconst 0, 1) := by decide +kernel
theorem dX8_behind_40 : decode cX8_behind 40 = .ok (.iadd, 1) := by decide +kernel
theorem dX8_behind_41 : decode cX8_behind 41 = .ok (.istore_n 1, 1) := by decide +kernel
theorem dX8_behind_42 : decode cX8_behind 42 = .ok (.iinc 2 1, 3) := by decide +kernel
theorem dX8_behind_45 : decode cX8_behind 45 = .ok (.goto (-41), 3) := by decide +kernel
theorem dX8_behind_48 : decode cX8_behind 48 = .ok (.iload_n 1, 1) := by decide +kernel
theorem dX8_behind_49 : decode cX8_behind 49 = .ok (.ireturn, 1) := by decide +kernel
theorem dX8_wins_0 : decode cX8_wins 0 = .ok (.iconst 0, 1) := by decide +kernel
theorem dX8_wins_1 : decode cX8_wins 1 = .ok (.istore_n 1, 1) := by decide +kernel
theorem dX8_wins_2 : decode cX8_wins 2 = .ok (.iconst 0, 1) := by decide +kernel
theorem dX8_wins_3 : decode cX8_wins 3 = .ok (.istore_n 2, 1) := by decide +kernel
theorem dX8_wins_4 : decode cX8_wins 4 = .ok (.iload_n 2, 1) := by decide +kernel
theorem dX8_wins_5 : decode cX8_wins 5 = .ok (.aload_n 0, 1) := by decide +kernel
theorem dX8_wins_6 : decode cX8_wins 6 = .ok (.getfield 7, 3) := by decide +kernel
theorem dX8_wins_9 : decode cX8_wins 9 = .ok (.iconst 4, 1) := by decide +kernel
theorem dX8_wins_10 : decode cX8_wins 10 = .ok (.iaload, 1) := by decide +kernel
theorem dX8_wins_11 : decode cX8_wins 11 = .ok (.if_icmp .ge 27, 3) := by decide +kernel
theorem dX8_wins_14 : decode cX8_wins 14 = .ok (.iload_n 1, 1) := by decide +kernel
theorem dX8_wins_15 : decode cX8_wins 15 = .ok (.aload_n 0, 1) := by decide +kernel
theorem dX8_wins_16 : decode cX8_wins 16 = .ok (.getfield 7, 3) := by decide +kernel
theorem dX8_wins_19 : decode cX8_wins 19 = .ok (.sipush 192, 3) := by decide +kernel
theorem dX8_wins_22 : decode cX8_wins 22 = .ok (.bipush 7, 2) := by decide +kernel
theorem dX8_wins_24 : decode cX8_wins 24 = .ok (.iload_n 2, 1) := by decide +kernel
theorem dX8_wins_25 : decode cX8_wins 25 = .ok (.imul, 1) := by decide +kernel
theorem dX8_wins_26 : decode cX8_wins 26 = .ok (.iadd, 1) := by decide +kernel
theorem dX8_wins_27 : decode cX8_wins 27 = .ok (.iconst 4, 1) := by decide +kernel
theorem dX8_wins_28 : decode cX8_wins 28 = .ok (.iadd, 1) := by decide +kernel
theorem dX8_wins_29 : decode cX8_wins 29 = .ok (.iaload, 1) := by decide +kernel
theorem dX8_wins_30 : decode cX8_wins 30 = .ok (.iadd, 1) := by decide +kernel
theorem dX8_wins_31 : decode cX8_wins 31 = .ok (.istore_n 1, 1) := by decide +kernel
theorem dX8_wins_32 : decode cX8_wins 32 = .ok (.iinc 2 1, 3) := by decide +kernel
theorem dX8_wins_35 : decode cX8_wins 35 = .ok (.goto (-31), 3) := by decide +kernel
theorem dX8_wins_38 : decode cX8_wins 38 = .ok (.iload_n 1, 1) := by decide +kernel
theorem dX8_wins_39 : decode cX8_wins 39 = .ok (.ireturn, 1) := by decide +kernel
theorem dX8_count_0 : decode cX8_count 0 = .ok (.iload_n 1, 1) := by decide +kernel
theorem dX8_count_1 : decode cX8_count 1 = .ok (.tableswitch 191 0 14 #[75, 82, 89, 96, 103, 108, 116, 124, 131, 136, 157, 162, 167, 175, 183], 75) := by decide +kernel
theorem dX8_count_76 : decode cX8_count 76 = .ok (.aload_n 0, 1) := by decide +kernel
theorem dX8_count_77 : decode cX8_count 77 = .ok (.getfield 7, 3) := by decide +kernel
theorem dX8_count_80 : decode cX8_count 80 = .ok (.iconst 0, 1) := by decide +kernel
theorem dX8_count_81 : decode cX8_count 81 = .ok (.iaload, 1) := by decide +kernel
theorem dX8_count_82 : decode cX8_count 82 = .ok (.ireturn, 1) := by decide +kernel
theorem dX8_count_83 : decode cX8_count 83 = .ok (.aload_n 0, 1) := by decide +kernel
theorem dX8_count_84 : decode cX8_count 84 = .ok (.getfield 7, 3) := by decide +kernel
theorem dX8_count_87 : decode cX8_count 87 = .ok (.iconst 1, 1) := by decide +kernel
theorem dX8_count_88 : decode cX8_count 88 = .ok (.iaload, 1) := by decide +kernel
theorem dX8_count_89 : decode cX8_count 89 = .ok (.ireturn, 1) := by decide +kernel
theorem dX8_count_90 : decode cX8_count 90 = .ok (.aload_n 0, 1) := by decide +kernel
theorem dX8_count_91 : decode cX8_count 91 = .ok (.getfield 7, 3) := by decide +kernel
theorem dX8_count_94 : decode cX8_count 94 = .ok (.iconst 2, 1) := by decide +kernel
theorem dX8_count_95 : decode cX8_count 95 = .ok (.iaload, 1) := by decide +kernel
theorem dX8_count_96 : decode cX8_count 96 = .ok (.ireturn, 1) := by decide +kernel
theorem dX8_count_97 : decode cX8_count 97 = .ok (.aload_n 0, 1) := by decide +kernel
theorem dX8_count_98 : decode cX8_count 98 = .ok (.getfield 7, 3) := by decide +kernel
theorem dX8_count_101 : decode cX8_count 101 = .ok (.iconst 3, 1) := by decide +kernel
theorem dX8_count_102 : decode cX8_count 102 = .ok (.iaload, 1) := by decide +kernel
theorem dX8_count_103 : decode cX8_count 103 = .ok (.ireturn, 1) := by decide +kernel
theorem dX8_count_104 : decode cX8_count 104 = .ok (.aload_n 0, 1) := by decide +kernel
theorem dX8_count_105 : decode cX8_count 105 = .ok (.invokevirtual 235, 3) := by decide +kernel
theorem dX8_count_108 : decode cX8_count 108 = .ok (.ireturn, 1) := by decide +kernel
theorem dX8_count_109 : decode cX8_count 109 = .ok (.aload_n 0, 1) := by decide +kernel
theorem dX8_count_110 : decode cX8_count 110 = .ok (.getfield 7, 3) := by decide +kernel
theorem dX8_count_113 : decode cX8_count 113 = .ok (.bipush 9, 2) := by decide +kernel
theorem dX8_count_115 : decode cX8_count 115 = .ok (.iaload, 1) := by decide +kernel
theorem dX8_count_116 : decode cX8_count 116 = .ok (.ireturn, 1) := by decide +kernel
theorem dX8_count_117 : decode cX8_count 117 = .ok (.aload_n 0, 1) := by decide +kernel
theorem dX8_count_118 : decode cX8_count 118 = .ok (.getfield 7, 3) := by decide +kernel
theorem dX8_count_121 : decode cX8_count 121 = .ok (.bipush 8, 2) := by decide +kernel
theorem dX8_count_123 : decode cX8_count 123 = .ok (.iaload, 1) := by decide +kernel
theorem dX8_count_124 : decode cX8_count 124 = .ok (.ireturn, 1) := by decide +kernel
theorem dX8_count_125 : decode cX8_count 125 = .ok (.aload_n 0, 1) := by decide +kernel
theorem dX8_count_126 : decode cX8_count 126 = .ok (.getfield 7, 3) := by decide +kernel
theorem dX8_count_129 : decode cX8_count 129 = .ok (.iconst 4, 1) := by decide +kernel
theorem dX8_count_130 : decode cX8_count 130 = .ok (.iaload, 1) := by decide +kernel
theorem dX8_count_131 : decode cX8_count 131 = .ok (.ireturn, 1) := by decide +kernel
theorem dX8_count_132 : decode cX8_count 132 = .ok (.aload_n 0, 1) := by decide +kernel
theorem dX8_count_133 : decode cX8_count 133 = .ok (.invokevirtual 238, 3) := by decide +kernel
theorem dX8_count_136 : decode cX8_count 136 = .ok (.ireturn, 1) := by decide +kernel
theorem dX8_count_137 : decode cX8_count 137 = .ok (.aload_n 0, 1) := by decide +kernel
theorem dX8_count_138 : decode cX8_count 138 = .ok (.getfield 7, 3) := by decide +kernel
theorem dX8_count_141 : decode cX8_count 141 = .ok (.iconst 5, 1) := by decide +kernel
theorem dX8_count_142 : decode cX8_count 142 = .ok (.iaload, 1) := by decide +kernel
theorem dX8_count_143 : decode cX8_count 143 = .ok (.ifCond .ne 8, 3) := by decide +kernel
theorem dX8_count_146 : decode cX8_count 146 = .ok (.bipush (-5), 2) := by decide +kernel
theorem dX8_count_148 : decode cX8_count 148 = .ok (.goto 9, 3) := by decide +kernel
theorem dX8_count_151 : decode cX8_count 151 = .ok (.aload_n 0, 1) := by decide +kernel
theorem dX8_count_152 : decode cX8_count 152 = .ok (.getfield 7, 3) := by decide +kernel
theorem dX8_count_155 : decode cX8_count 155 = .ok (.iconst 5, 1) := by decide +kernel
theorem dX8_count_156 : decode cX8_count 156 = .ok (.iaload, 1) := by decide +kernel
theorem dX8_count_157 : decode cX8_count 157 = .ok (.ireturn, 1) := by decide +kernel
theorem dX8_count_158 : decode cX8_count 158 = .ok (.aload_n 0, 1) := by decide +kernel
theorem dX8_count_159 : decode cX8_count 159 = .ok (.invokevirtual 241, 3) := by decide +kernel
theorem dX8_count_162 : decode cX8_count 162 = .ok (.ireturn, 1) := by decide +kernel
theorem dX8_count_163 : decode cX8_count 163 = .ok (.aload_n 0, 1) := by decide +kernel
theorem dX8_count_164 : decode cX8_count 164 = .ok (.getfield 54, 3) := by decide +kernel
theorem dX8_count_167 : decode cX8_count 167 = .ok (.ireturn, 1) := by decide +kernel
theorem dX8_count_168 : decode cX8_count 168 = .ok (.aload_n 0, 1) := by decide +kernel
theorem dX8_count_169 : decode cX8_count 169 = .ok (.getfield 7, 3) := by decide +kernel
theorem dX8_count_172 : decode cX8_count 172 = .ok (.bipush 6, 2) := by decide +kernel
theorem dX8_count_174 : decode cX8_count 174 = .ok (.iaload, 1) := by decide +kernel
theorem dX8_count_175 : decode cX8_count 175 = .ok (.ireturn, 1) := by decide +kernel
theorem dX8_count_176 : decode cX8_count 176 = .ok (.aload_n 0, 1) := by decide +kernel
theorem dX8_count_177 : decode cX8_count 177 = .ok (.getfield 7, 3) := by decide +kernel
theorem dX8_count_180 : decode cX8_count 180 = .ok (.bipush 7, 2) := by decide +kernel
theorem dX8_count_182 : decode cX8_count 182 = .ok (.iaload, 1) := by decide +kernel
theorem dX8_count_183 : decode cX8_count 183 = .ok (.ireturn, 1) := by decide +kernel
theorem dX8_count_184 : decode cX8_count 184 = .ok (.aload_n 0, 1) := by decide +kernel
theorem dX8_count_185 : decode cX8_count 185 = .ok (.getfield 7, 3) := by decide +kernel
theorem dX8_count_188 : decode cX8_count 188 = .ok (.bipush 10, 2) := by decide +kernel
theorem dX8_count_190 : decode cX8_count 190 = .ok (.iaload, 1) := by decide +kernel
theorem dX8_count_191 : decode cX8_count 191 = .ok (.ireturn, 1) := by decide +kernel
theorem dX8_count_192 : decode cX8_count 192 = .ok (.bipush (-2), 2) := by decide +kernel
theorem dX8_count_194 : decode cX8_count 194 = .ok (.ireturn, 1) := by decide +kernel
