theorem dX8_rest_35 : decode cX8_rest 35 = .ok (.iconst 5, 1) := by decide +kernel
theorem dX8_rest_36 : decode cX8_rest 36 = .ok (.iload_n 1, 1) := by decide +kernel
theorem dX8_rest_37 : decode cX8_rest 37 = .ok (.iconst 0, 1) := by decide +kernel
theorem dX8_rest_38 : decode cX8_rest 38 = .ok (.invokevirtual 130, 3) := by decide +kernel
theorem dX8_rest_41 : decode cX8_rest 41 = .ok (.aload_n 0, 1) := by decide +kernel
theorem dX8_rest_42 : decode cX8_rest 42 = .ok (.iload_n 1, 1) := by decide +kernel
theorem dX8_rest_43 : decode cX8_rest 43 = .ok (.invokevirtual 115, 3) := by decide +kernel
theorem dX8_rest_46 : decode cX8_rest 46 = .ok (.aload_n 0, 1) := by decide +kernel
theorem dX8_rest_47 : decode cX8_rest 47 = .ok (.invokevirtual 127, 3) := by decide +kernel
theorem dX8_rest_50 : decode cX8_rest 50 = .ok (.ireturn, 1) := by decide +kernel
theorem dX8_clueFor_0 : decode cX8_clueFor 0 = .ok (.bipush (-5), 2) := by decide +kernel
theorem dX8_clueFor_2 : decode cX8_clueFor 2 = .ok (.istore 4, 2) := by decide +kernel
theorem dX8_clueFor_4 : decode cX8_clueFor 4 = .ok (.aload_n 0, 1) := by decide +kernel
theorem dX8_clueFor_5 : decode cX8_clueFor 5 = .ok (.getfield 7, 3) := by decide +kernel
theorem dX8_clueFor_8 : decode cX8_clueFor 8 = .ok (.iconst 2, 1) := by decide +kernel
theorem dX8_clueFor_9 : decode cX8_clueFor 9 = .ok (.iaload, 1) := by decide +kernel
theorem dX8_clueFor_10 : decode cX8_clueFor 10 = .ok (.iconst 1, 1) := by decide +kernel
theorem dX8_clueFor_11 : decode cX8_clueFor 11 = .ok (.isub, 1) := by decide +kernel
theorem dX8_clueFor_12 : decode cX8_clueFor 12 = .ok (.istore 5, 2) := by decide +kernel
theorem dX8_clueFor_14 : decode cX8_clueFor 14 = .ok (.iload 5, 2) := by decide +kernel
theorem dX8_clueFor_16 : decode cX8_clueFor 16 = .ok (.ifCond .lt 118, 3) := by decide +kernel
theorem dX8_clueFor_19 : decode cX8_clueFor 19 = .ok (.aload_n 0, 1) := by decide +kernel
theorem dX8_clueFor_20 : decode cX8_clueFor 20 = .ok (.getfield 7, 3) := by decide +kernel
theorem dX8_clueFor_23 : decode cX8_clueFor 23 = .ok (.sipush 140, 3) := by decide +kernel
theorem dX8_clueFor_26 : decode cX8_clueFor 26 = .ok (.iload 5, 2) := by decide +kernel
theorem dX8_clueFor_28 : decode cX8_clueFor 28 = .ok (.iadd, 1) := by decide +kernel
theorem dX8_clueFor_29 : decode cX8_clueFor 29 = .ok (.iaload, 1) := by decide +kernel
theorem dX8_clueFor_30 : decode cX8_clueFor 30 = .ok (.iload_n 1, 1) := by decide +kernel
theorem dX8_clueFor_31 : decode cX8_clueFor 31 = .ok (.if_icmp .ne 46, 3) := by decide +kernel
theorem dX8_clueFor_34 : decode cX8_clueFor 34 = .ok (.aload_n 0, 1) := by decide +kernel
theorem dX8_clueFor_35 : decode cX8_clueFor 35 = .ok (.getfield 7, 3) := by decide +kernel
theorem dX8_clueFor_38 : decode cX8_clueFor 38 = .ok (.sipush 152, 3) := by decide +kernel
theorem dX8_clueFor_41 : decode cX8_clueFor 41 = .ok (.iload 5, 2) := by decide +kernel
theorem dX8_clueFor_43 : decode cX8_clueFor 43 = .ok (.iadd, 1) := by decide +kernel
theorem dX8_clueFor_44 : decode cX8_clueFor 44 = .ok (.iaload, 1) := by decide +kernel
theorem dX8_clueFor_45 : decode cX8_clueFor 45 = .ok (.iload_n 2, 1) := by decide +kernel
theorem dX8_clueFor_46 : decode cX8_clueFor 46 = .ok (.if_icmp .ne 31, 3) := by decide +kernel
theorem dX8_clueFor_49 : decode cX8_clueFor 49 = .ok (.aload_n 0, 1) := by decide +kernel
theorem dX8_clueFor_50 : decode cX8_clueFor 50 = .ok (.getfield 7, 3) := by decide +kernel
theorem dX8_clueFor_53 : decode cX8_clueFor 53 = .ok (.sipush 164, 3) := by decide +kernel
theorem dX8_clueFor_56 : decode cX8_clueFor 56 = .ok (.iload 5, 2) := by decide +kernel
theorem dX8_clueFor_58 : decode cX8_clueFor 58 = .ok (.iadd, 1) := by decide +kernel
theorem dX8_clueFor_59 : decode cX8_clueFor 59 = .ok (.iaload, 1) := by decide +kernel
theorem dX8_clueFor_60 : decode cX8_clueFor 60 = .ok (.ifCond .le 17, 3) := by decide +kernel
theorem dX8_clueFor_63 : decode cX8_clueFor 63 = .ok (.aload_n 0, 1) := by decide +kernel
theorem dX8_clueFor_64 : decode cX8_clueFor 64 = .ok (.iload 5, 2) := by decide +kernel
theorem dX8_clueFor_66 : decode cX8_clueFor 66 = .ok (.invokevirtual 51, 3) := by decide +kernel
theorem dX8_clueFor_69 : decode cX8_clueFor 69 = .ok (.iload_n 3, 1) := by decide +kernel
theorem dX8_clueFor_70 : decode cX8_clueFor 70 = .ok (.if_icmp .ne 7, 3) := by decide +kernel
theorem dX8_clueFor_73 : decode cX8_clueFor 73 = .ok (.iconst 1, 1) := by decide +kernel
theorem dX8_clueFor_74 : decode cX8_clueFor 74 = .ok (.goto 4, 3) := by decide +kernel
theorem dX8_clueFor_77 : decode cX8_clueFor 77 = .ok (.iconst 0, 1) := by decide +kernel
theorem dX8_clueFor_78 : decode cX8_clueFor 78 = .ok (.istore 6, 2) := by decide +kernel
theorem dX8_clueFor_80 : decode cX8_clueFor 80 = .ok (.iload 6, 2) := by decide +kernel
theorem dX8_clueFor_82 : decode cX8_clueFor 82 = .ok (.ifCond .eq 42, 3) := by decide +kernel
theorem dX8_clueFor_85 : decode cX8_clueFor 85 = .ok (.iload 4, 2) := by decide +kernel
theorem dX8_clueFor_87 : decode cX8_clueFor 87 = .ok (.ifCond .lt 32, 3) := by decide +kernel
theorem dX8_clueFor_90 : decode cX8_clueFor 90 = .ok (.iload_n 3, 1) := by decide +kernel
theorem dX8_clueFor_91 : decode cX8_clueFor 91 = .ok (.ifCond .eq 28, 3) := by decide +kernel
theorem dX8_clueFor_94 : decode cX8_clueFor 94 = .ok (.aload_n 0, 1) := by decide +kernel
theorem dX8_clueFor_95 : decode cX8_clueFor 95 = .ok (.getfield 7, 3) := by decide +kernel
theorem dX8_clueFor_98 : decode cX8_clueFor 98 = .ok (.sipush 164, 3) := by decide +kernel
theorem dX8_clueFor_101 : decode cX8_clueFor 101 = .ok (.iload 5, 2) := by decide +kernel
theorem dX8_clueFor_103 : decode cX8_clueFor 103 = .ok (.iadd, 1) := by decide +kernel
theorem dX8_clueFor_104 : decode cX8_clueFor 104 = .ok (.iaload, 1) := by decide +kernel
theorem dX8_clueFor_105 : decode cX8_clueFor 105 = .ok (.aload_n 0, 1) := by decide +kernel
theorem dX8_clueFor_106 : decode cX8_clueFor 106 = .ok (.getfield 7, 3) := by decide +kernel
theorem dX8_clueFor_109 : decode cX8_clueFor 109 = .ok (.sipush 164, 3) := by decide +kernel
theorem dX8_clueFor_112 : decode cX8_clueFor 112 = .ok (.iload 4, 2) := by decide +kernel
theorem dX8_clueFor_114 : decode cX8_clueFor 114 = .ok (.iadd, 1) := by decide +kernel
theorem dX8_clueFor_115 : decode cX8_clueFor 115 = .ok (.iaload, 1) := by decide +kernel
theorem dX8_clueFor_116 : decode cX8_clueFor 116 = .ok (.if_icmp .lt 8, 3) := by decide +kernel
theorem dX8_clueFor_119 : decode cX8_clueFor 119 = .ok (.iload 5, 2) := by decide +kernel
theorem dX8_clueFor_121 : decode cX8_clueFor 121 = .ok (.goto 5, 3) := by decide +kernel
theorem dX8_clueFor_124 : decode cX8_clueFor 124 = .ok (.iload 4, 2) := by decide +kernel
theorem dX8_clueFor_126 : decode cX8_clueFor 126 = .ok (.istore 4, 2) := by decide +kernel
theorem dX8_clueFor_128 : decode cX8_clueFor 128 = .ok (.iinc 5 (-1), 3) := by decide +kernel
theorem dX8_clueFor_131 : decode cX8_clueFor 131 = .ok (.goto (-117), 3) := by decide +kernel
theorem dX8_clueFor_134 : decode cX8_clueFor 134 = .ok (.iload 4, 2) := by decide +kernel
theorem dX8_clueFor_136 : decode cX8_clueFor 136 = .ok (.ireturn, 1) := by decide +kernel
theorem dX8_lowestUnknown_0 : decode cX8_lowestUnknown 0 = .ok (.iconst 0, 1) := by decide +kernel
theorem dX8_lowestUnknown_1 : decode cX8_lowestUnknown 1 = .ok (.istore_n 2, 1) := by decide +kernel
theorem dX8_lowestUnknown_2 : decode cX8_lowestUnknown 2 = .ok (.iload_n 2, 1) := by decide +kernel
theorem dX8_lowestUnknown_3 : decode cX8_lowestUnknown 3 = .ok (.iconst 4, 1) := by decide +kernel
theorem dX8_lowestUnknown_4 : decode cX8_lowestUnknown 4 = .ok (.if_icmp .ge 26, 3) := by decide +kernel
theorem dX8_lowestUnknown_7 : decode cX8_lowestUnknown 7 = .ok (.aload_n 0, 1) := by decide +kernel
theorem dX8_lowestUnknown_8 : decode cX8_lowestUnknown 8 = .ok (.getfield 7, 3) := by decide +kernel
theorem dX8_lowestUnknown_11 : decode cX8_lowestUnknown 11 = .ok (.bipush 68, 2) := by decide +kernel
theorem dX8_lowestUnknown_13 : decode cX8_lowestUnknown 13 = .ok (.iload_n 1, 1) := by decide +kernel
theorem dX8_lowestUnknown_14 : decode cX8_lowestUnknown 14 = .ok (.iadd, 1) := by decide +kernel
theorem dX8_lowestUnknown_15 : decode cX8_lowestUnknown 15 = .ok (.iaload, 1) := by decide +kernel
theorem dX8_lowestUnknown_16 : decode cX8_lowestUnknown 16 = .ok (.iload_n 2, 1) := by decide +kernel
theorem dX8_lowestUnknown_17 : decode cX8_lowestUnknown 17 = .ok (.ishr, 1) := by decide +kernel
theorem dX8_lowestUnknown_18 : decode cX8_lowestUnknown 18 = .ok (.iconst 1, 1) := by decide +kernel
theorem dX8_lowestUnknown_19 : decode cX8_lowestUnknown 19 = .ok (.iand, 1) := by decide +kernel
theorem dX8_lowestUnknown_20 : decode cX8_lowestUnknown 20 = .ok (.iconst 1, 1) := by decide +kernel
theorem dX8_lowestUnknown_21 : decode cX8_lowestUnknown 21 = .ok (.if_icmp .ne 9, 3) := by decide +kernel
theorem dX8_lowestUnknown_24 : decode cX8_lowestUnknown 24 = .ok (.iinc 2 1, 3) := by decide +kernel
theorem dX8_lowestUnknown_27 : decode cX8_lowestUnknown 27 = .ok (.goto (-25), 3) := by decide +kernel
theorem dX8_lowestUnknown_30 : decode cX8_lowestUnknown 30 = .ok (.iload_n 2, 1) := by decide +kernel
theorem dX8_lowestUnknown_31 : decode cX8_lowestUnknown 31 = .ok (.ireturn, 1) := by decide +kernel
theorem dX8_lowestHeld_0 : decode cX8_lowestHeld 0 = .ok (.iconst 0, 1) := by decide +kernel
theorem dX8_lowestHeld_1 : decode cX8_lowestHeld 1 = .ok (.istore_n 1, 1) := by decide +kernel
theorem dX8_lowestHeld_2 : decode cX8_lowestHeld 2 = .ok (.aload_n 0, 1) := by decide +kernel
theorem dX8_lowestHeld_3 : decode cX8_lowestHeld 3 = .ok (.iload_n 1, 1) := by decide +kernel
theorem dX8_lowestHeld_4 : decode cX8_lowestHeld 4 = .ok (.invokevirtual 45, 3) := by decide +kernel
theorem dX8_lowestHeld_7 : decode cX8_lowestHeld 7 = .ok (.ifCond .ne 9, 3) := by decide +kernel
theorem dX8_lowestHeld_10 : decode cX8_lowestHeld 10 = .ok (.iinc 1 1, 3) := by decide +kernel
theorem dX8_lowestHeld_13 : decode cX8_lowestHeld 13 = .ok (.goto (-11), 3) := by decide +kernel
theorem dX8_lowestHeld_16 : decode cX8_lowestHeld 16 = .ok (.iload_n 1, 1) := by decide +kernel
theorem dX8_lowestHeld_17 : decode cX8_lowestHeld 17 = .ok (.ireturn, 1) := by decide +kernel
theorem dX8_stepToHold_0 : decode cX8_stepToHold 0 = .ok (.aload_n 0, 1) := by decide +kernel
theorem dX8_stepToHold_1 : decode cX8_stepToHold 1 = .ok (.invokevirtual 137, 3) := by decide +kernel
theorem dX8_stepToHold_4 : decode cX8_stepToHold 4 = .ok (.aload_n 0, 1) := by decide +kernel
theorem dX8_stepToHold_5 : decode cX8_stepToHold 5 = .ok (.getfield 7, 3) := by decide +kernel
theorem dX8_stepToHold_8 : decode cX8_stepToHold 8 = .ok (.bipush 11, 2) := by decide +kernel
theorem dX8_stepToHold_10 : decode cX8_stepToHold 10 = .ok (.iaload, 1) := by decide +kernel
theorem dX8_stepToHold_11 : decode cX8_stepToHold 11 = .ok (.if_icmp .lt 14, 3) := by decide +kernel
theorem dX8_stepToHold_14 : decode cX8_stepToHold 14 = .ok (.sipush 200, 3) := by decide +kernel
theorem dX8_stepToHold_17 : decode cX8_stepToHold 17 = .ok (.aload_n 0, 1) := by decide +kernel
theorem dX8_stepToHold_18 : decode cX8_stepToHold 18 = .ok (.invokevirtual 161, 3) := by decide +kernel
theorem dX8_stepToHold_21 : decode cX8_stepToHold 21 = .ok (.iadd, 1) := by decide +kernel
theorem dX8_stepToHold_22 : decode cX8_stepToHold 22 = .ok (.goto 7, 3) := by decide +kernel
theorem dX8_stepToHold_25 : decode cX8_stepToHold 25 = .ok (.bipush 100, 2) := by decide +kernel
theorem dX8_stepToHold_27 : decode cX8_stepToHold 27 = .ok (.iload_n 1, 1) := by decide +kernel
theorem dX8_stepToHold_28 : decode cX8_stepToHold 28 = .ok (.iadd, 1) := by decide +kernel
theorem dX8_stepToHold_29 : decode cX8_stepToHold 29 = .ok (.ireturn, 1) := by decide +kernel
theorem dX8_stepFor_0 : decode cX8_stepFor 0 = .ok (.aload_n 0, 1) := by decide +kernel
theorem dX8_stepFor_1 : decode cX8_stepFor 1 = .ok (.getfield 7, 3) := by decide +kernel
theorem dX8_stepFor_4 : decode cX8_stepFor 4 = .ok (.bipush 32, 2) := by decide +kernel
theorem dX8_stepFor_6 : decode cX8_stepFor 6 = .ok (.iload_n 1, 1) := by decide +kernel
theorem dX8_stepFor_7 : decode cX8_stepFor 7 = .ok (.iadd, 1) := by decide +kernel
theorem dX8_stepFor_8 : decode cX8_stepFor 8 = .ok (.iaload, 1) := by decide +kernel
theorem dX8_stepFor_9 : decode cX8_stepFor 9 = .ok (.istore_n 2, 1) := by decide +kernel
theorem dX8_stepFor_10 : decode cX8_stepFor 10 = .ok (.aload_n 0, 1) := by decide +kernel
theorem dX8_stepFor_11 : decode cX8_stepFor 11 = .ok (.getfield 7, 3) := by decide +kernel
theorem dX8_stepFor_14 : decode cX8_stepFor 14 = .ok (.bipush 44, 2) := by decide +kernel
theorem dX8_stepFor_16 : decode cX8_stepFor 16 = .ok (.iload_n 1, 1) := by decide +kernel
theorem dX8_stepFor_17 : decode cX8_stepFor 17 = .ok (.iadd, 1) := by decide +kernel
theorem dX8_stepFor_18 : decode cX8_stepFor 18 = .ok (.iaload, 1) := by decide +kernel
theorem dX8_stepFor_19 : decode cX8_stepFor 19 = .ok (.istore_n 3, 1) := by decide +kernel
theorem dX8_stepFor_20 : decode cX8_stepFor 20 = .ok (.iload_n 2, 1) := by decide +kernel
theorem dX8_stepFor_21 : decode cX8_stepFor 21 = .ok (.iconst 2, 1) := by decide +kernel
theorem dX8_stepFor_22 : decode cX8_stepFor 22 = .ok (.if_icmp .ne 100, 3) := by decide +kernel
theorem dX8_stepFor_25 : decode cX8_stepFor 25 = .ok (.aload_n 0, 1) := by decide +kernel
theorem dX8_stepFor_26 : decode cX8_stepFor 26 = .ok (.iload_n 1, 1) := by decide +kernel
theorem dX8_stepFor_27 : decode cX8_stepFor 27 = .ok (.invokevirtual 164, 3) := by decide +kernel
theorem dX8_stepFor_30 : decode cX8_stepFor 30 = .ok (.istore 4, 2) := by decide +kernel
theorem dX8_stepFor_32 : decode cX8_stepFor 32 = .ok (.iload 4, 2) := by decide +kernel
theorem dX8_stepFor_34 : decode cX8_stepFor 34 = .ok (.iconst 4, 1) := by decide +kernel
theorem dX8_stepFor_35 : decode cX8_stepFor 35 = .ok (.if_icmp .ne 9, 3) := by decide +kernel
theorem dX8_stepFor_38 : decode cX8_stepFor 38 = .ok (.sipush 300, 3) := by decide +kernel
theorem dX8_stepFor_41 : decode cX8_stepFor 41 = .ok (.iload_n 1, 1) := by decide +kernel
theorem dX8_stepFor_42 : decode cX8_stepFor 42 = .ok (.iadd, 1) := by decide +kernel
theorem dX8_stepFor_43 : decode cX8_stepFor 43 = .ok (.ireturn, 1) := by decide +kernel
theorem dX8_stepFor_44 : decode cX8_stepFor 44 = .ok (.aload_n 0, 1) := by decide +kernel
theorem dX8_stepFor_45 : decode cX8_stepFor 45 = .ok (.iload_n 1, 1) := by decide +kernel
theorem dX8_stepFor_46 : decode cX8_stepFor 46 = .ok (.iload 4, 2) := by decide +kernel
theorem dX8_stepFor_48 : decode cX8_stepFor 48 = .ok (.iconst 1, 1) := by decide +kernel
theorem dX8_stepFor_49 : decode cX8_stepFor 49 = .ok (.invokevirtual 167, 3) := by decide +kernel
theorem dX8_stepFor_52 : decode cX8_stepFor 52 = .ok (.istore 5, 2) := by decide +kernel
theorem dX8_stepFor_54 : decode cX8_stepFor 54 = .ok (.iload 5, 2) := by decide +kernel
theorem dX8_stepFor_56 : decode cX8_stepFor 56 = .ok (.ifCond .lt 10, 3) := by decide +kernel
theorem dX8_stepFor_59 : decode cX8_stepFor 59 = .ok (.sipush 400, 3) := by decide +kernel
theorem dX8_stepFor_62 : decode cX8_stepFor 62 = .ok (.iload 5, 2) := by decide +kernel
theorem dX8_stepFor_64 : decode cX8_stepFor 64 = .ok (.iadd, 1) := by decide +kernel
theorem dX8_stepFor_65 : decode cX8_stepFor 65 = .ok (.ireturn, 1) := by decide +kernel
theorem dX8_stepFor_66 : decode cX8_stepFor 66 = .ok (.aload_n 0, 1) := by decide +kernel
theorem dX8_stepFor_67 : decode cX8_stepFor 67 = .ok (.iload_n 1, 1) := by decide +kernel
theorem dX8_stepFor_68 : decode cX8_stepFor 68 = .ok (.iload 4, 2) := by decide +kernel
theorem dX8_stepFor_70 : decode cX8_stepFor 70 = .ok (.iconst 0, 1) := by decide +kernel
theorem dX8_stepFor_71 : decode cX8_stepFor 71 = .ok (.invokevirtual 167, 3) := by decide +kernel
theorem dX8_stepFor_74 : decode cX8_stepFor 74 = .ok (.istore 5, 2) := by decide +kernel
theorem dX8_stepFor_76 : decode cX8_stepFor 76 = .ok (.aload_n 0, 1) := by decide +kernel
theorem dX8_stepFor_77 : decode cX8_stepFor 77 = .ok (.iload_n 1, 1) := by decide +kernel
theorem dX8_stepFor_78 : decode cX8_stepFor 78 = .ok (.putfield 171, 3) := by decide +kernel
theorem dX8_stepFor_81 : decode cX8_stepFor 81 = .ok (.iload 5, 2) := by decide +kernel
theorem dX8_stepFor_83 : decode cX8_stepFor 83 = .ok (.ifCond .ge 12, 3) := by decide +kernel
theorem dX8_stepFor_86 : decode cX8_stepFor 86 = .ok (.sipush 500, 3) := by decide +kernel
theorem dX8_stepFor_89 : decode cX8_stepFor 89 = .ok (.iload 4, 2) := by decide +kernel
theorem dX8_stepFor_91 : decode cX8_stepFor 91 = .ok (.iadd, 1) := by decide +kernel
theorem dX8_stepFor_92 : decode cX8_stepFor 92 = .ok (.goto 29, 3) := by decide +kernel
theorem dX8_stepFor_95 : decode cX8_stepFor 95 = .ok (.bipush (-10), 2) := by decide +kernel
theorem dX8_stepFor_97 : decode cX8_stepFor 97 = .ok (.aload_n 0, 1) := by decide +kernel
theorem dX8_stepFor_98 : decode cX8_stepFor 98 = .ok (.aload_n 0, 1) := by decide +kernel
theorem dX8_stepFor_99 : decode cX8_stepFor 99 = .ok (.getfield 7, 3) := by decide +kernel
theorem dX8_stepFor_102 : decode cX8_stepFor 102 = .ok (.bipush 104, 2) := by decide +kernel
theorem dX8_stepFor_104 : decode cX8_stepFor 104 = .ok (.aload_n 0, 1) := by decide +kernel
theorem dX8_stepFor_105 : decode cX8_stepFor 105 = .ok (.getfield 7, 3) := by decide +kernel
theorem dX8_stepFor_108 : decode cX8_stepFor 108 = .ok (.sipush 128, 3) := by decide +kernel
theorem dX8_stepFor_111 : decode cX8_stepFor 111 = .ok (.iload 5, 2) := by decide +kernel
theorem dX8_stepFor_113 : decode cX8_stepFor 113 = .ok (.iadd, 1) := by decide +kernel
theorem dX8_stepFor_114 : decode cX8_stepFor 114 = .ok (.iaload, 1) := by decide +kernel
theorem dX8_stepFor_115 : decode cX8_stepFor 115 = .ok (.iadd, 1) := by decide +kernel
theorem dX8_stepFor_116 : decode cX8_stepFor 116 = .ok (.iaload, 1) := by decide +kernel
theorem dX8_stepFor_117 : decode cX8_stepFor 117 = .ok (.invokevirtual 38, 3) := by decide +kernel
theorem dX8_stepFor_120 : decode cX8_stepFor 120 = .ok (.isub, 1) := by decide +kernel
theorem dX8_stepFor_121 : decode cX8_stepFor 121 = .ok (.ireturn, 1) := by decide +kernel
theorem dX8_stepFor_122 : decode cX8_stepFor 122 = .ok (.aload_n 0, 1) := by decide +kernel
theorem dX8_stepFor_123 : decode cX8_stepFor 123 = .ok (.iload_n 1, 1) := by decide +kernel
theorem dX8_stepFor_124 : decode cX8_stepFor 124 = .ok (.invokevirtual 146, 3) := by decide +kernel
theorem dX8_stepFor_127 : decode cX8_stepFor 127 = .ok (.ifCond .eq 9, 3) := by decide +kernel
theorem dX8_stepFor_130 : decode cX8_stepFor 130 = .ok (.sipush 300, 3) := by decide +kernel
theorem dX8_stepFor_133 : decode cX8_stepFor 133 = .ok (.iload_n 1, 1) := by decide +kernel
theorem dX8_stepFor_134 : decode cX8_stepFor 134 = .ok (.iadd, 1) := by decide +kernel
theorem dX8_stepFor_135 : decode cX8_stepFor 135 = .ok (.ireturn, 1) := by decide +kernel
theorem dX8_stepFor_136 : decode cX8_stepFor 136 = .ok (.iload_n 2, 1) := by decide +kernel
theorem dX8_stepFor_137 : decode cX8_stepFor 137 = .ok (.iconst 1, 1) := by decide +kernel
theorem dX8_stepFor_138 : decode cX8_stepFor 138 = .ok (.if_icmp .eq 31, 3) := by decide +kernel
theorem dX8_stepFor_141 : decode cX8_stepFor 141 = .ok (.aload_n 0, 1) := by decide +kernel
theorem dX8_stepFor_142 : decode cX8_stepFor 142 = .ok (.iload_n 3, 1) := by decide +kernel
theorem dX8_stepFor_143 : decode cX8_stepFor 143 = .ok (.invokevirtual 45, 3) := by decide +kernel
theorem dX8_stepFor_146 : decode cX8_stepFor 146 = .ok (.ifCond .eq 23, 3) := by decide +kernel
theorem dX8_stepFor_149 : decode cX8_stepFor 149 = .ok (.sipush 200, 3) := by decide +kernel
theorem dX8_stepFor_152 : decode cX8_stepFor 152 = .ok (.iload_n 3, 1) := by decide +kernel
theorem dX8_stepFor_153 : decode cX8_stepFor 153 = .ok (.iadd, 1) := by decide +kernel
theorem dX8_stepFor_154 : decode cX8_stepFor 154 = .ok (.sipush 1000, 3) := by decide +kernel
theorem dX8_stepFor_157 : decode cX8_stepFor 157 = .ok (.aload_n 0, 1) := by decide +kernel
theorem dX8_stepFor_158 : decode cX8_stepFor 158 = .ok (.getfield 7, 3) := by decide +kernel
theorem dX8_stepFor_161 : decode cX8_stepFor 161 = .ok (.bipush 20, 2) := by decide +kernel
theorem dX8_stepFor_163 : decode cX8_stepFor 163 = .ok (.iload_n 1, 1) := by decide +kernel
theorem dX8_stepFor_164 : decode cX8_stepFor 164 = .ok (.iadd, 1) := by decide +kernel
theorem dX8_stepFor_165 : decode cX8_stepFor 165 = .ok (.iaload, 1) := by decide +kernel
theorem dX8_stepFor_166 : decode cX8_stepFor 166 = .ok (.imul, 1) := by decide +kernel
theorem dX8_stepFor_167 : decode cX8_stepFor 167 = .ok (.iadd, 1) := by decide +kernel
theorem dX8_stepFor_168 : decode cX8_stepFor 168 = .ok (.ireturn, 1) := by decide +kernel
theorem dX8_stepFor_169 : decode cX8_stepFor 169 = .ok (.aload_n 0, 1) := by decide +kernel
theorem dX8_stepFor_170 : decode cX8_stepFor 170 = .ok (.iload_n 3, 1) := by decide +kernel
theorem dX8_stepFor_171 : decode cX8_stepFor 171 = .ok (.invokevirtual 48, 3) := by decide +kernel
theorem dX8_stepFor_174 : decode cX8_stepFor 174 = .ok (.ifCond .eq 11, 3) := by decide +kernel
theorem dX8_stepFor_177 : decode cX8_stepFor 177 = .ok (.aload_n 0, 1) := by decide +kernel
theorem dX8_stepFor_178 : decode cX8_stepFor 178 = .ok (.iload_n 3, 1) := by decide +kernel
theorem dX8_stepFor_179 : decode cX8_stepFor 179 = .ok (.invokevirtual 174, 3) := by decide +kernel
theorem dX8_stepFor_182 : decode cX8_stepFor 182 = .ok (.goto 19, 3) := by decide +kernel
theorem dX8_stepFor_185 : decode cX8_stepFor 185 = .ok (.bipush (-10), 2) := by decide +kernel
theorem dX8_stepFor_187 : decode cX8_stepFor 187 = .ok (.aload_n 0, 1) := by decide +kernel
theorem dX8_stepFor_188 : decode cX8_stepFor 188 = .ok (.aload_n 0, 1) := by decide +kernel
theorem dX8_stepFor_189 : decode cX8_stepFor 189 = .ok (.getfield 7, 3) := by decide +kernel
theorem dX8_stepFor_192 : decode cX8_stepFor 192 = .ok (.bipush 104, 2) := by decide +kernel
theorem dX8_stepFor_194 : decode cX8_stepFor 194 = .ok (.iload_n 3, 1) := by decide +kernel
theorem dX8_stepFor_195 : decode cX8_stepFor 195 = .ok (.iadd, 1) := by decide +kernel
theorem dX8_stepFor_196 : decode cX8_stepFor 196 = .ok (.iaload, 1) := by decide +kernel
theorem dX8_stepFor_197 : decode cX8_stepFor 197 = .ok (.invokevirtual 38, 3) := by decide +kernel
theorem dX8_stepFor_200 : decode cX8_stepFor 200 = .ok (.isub, 1) := by decide +kernel
theorem dX8_stepFor_201 : decode cX8_stepFor 201 = .ok (.ireturn, 1) := by decide +kernel
theorem dX8_step_0 : decode cX8_step 0 = .ok (.iconst 0, 1) := by decide +kernel
theorem dX8_step_1 : decode cX8_step 1 = .ok (.istore_n 1, 1) := by decide +kernel
theorem dX8_step_2 : decode cX8_step 2 = .ok (.aload_n 0, 1) := by decide +kernel
theorem dX8_step_3 : decode cX8_step 3 = .ok (.getfield 7, 3) := by decide +kernel
theorem dX8_step_6 : decode cX8_step 6 = .ok (.iconst 5, 1) := by decide +kernel
theorem dX8_step_7 : decode cX8_step 7 = .ok (.iaload, 1) := by decide +kernel
theorem dX8_step_8 : decode cX8_step 8 = .ok (.istore_n 2, 1) := by decide +kernel
theorem dX8_step_9 : decode cX8_step 9 = .ok (.iload_n 1, 1) := by decide +kernel
theorem dX8_step_10 : decode cX8_step 10 = .ok (.iload_n 2, 1) := by decide +kernel
theorem dX8_step_11 : decode cX8_step 11 = .ok (.ishr, 1) := by decide +kernel
theorem dX8_step_12 : decode cX8_step 12 = .ok (.iconst 1, 1) := by decide +kernel
theorem dX8_step_13 : decode cX8_step 13 = .ok (.iand, 1) := by decide +kernel
theorem dX8_step_14 : decode cX8_step 14 = .ok (.ifCond .ne 50, 3) := by decide +kernel
theorem dX8_step_17 : decode cX8_step 17 = .ok (.iload_n 1, 1) := by decide +kernel
theorem dX8_step_18 : decode cX8_step 18 = .ok (.iconst 1, 1) := by decide +kernel
theorem dX8_step_19 : decode cX8_step 19 = .ok (.iload_n 2, 1) := by decide +kernel
theorem dX8_step_20 : decode cX8_step 20 = .ok (.ishl, 1) := by decide +kernel
theorem dX8_step_21 : decode cX8_step 21 = .ok (.ior, 1) := by decide +kernel
theorem dX8_step_22 : decode cX8_step 22 = .ok (.istore_n 1, 1) := by decide +kernel
theorem dX8_step_23 : decode cX8_step 23 = .ok (.aload_n 0, 1) := by decide +kernel
theorem dX8_step_24 : decode cX8_step 24 = .ok (.iload_n 2, 1) := by decide +kernel
theorem dX8_step_25 : decode cX8_step 25 = .ok (.invokevirtual 42, 3) := by decide +kernel
theorem dX8_step_28 : decode cX8_step 28 = .ok (.istore_n 3, 1) := by decide +kernel
theorem dX8_step_29 : decode cX8_step 29 = .ok (.iload_n 3, 1) := by decide +kernel
theorem dX8_step_30 : decode cX8_step 30 = .ok (.ifCond .lt 10, 3) := by decide +kernel
theorem dX8_step_33 : decode cX8_step 33 = .ok (.bipush (-10), 2) := by decide +kernel
theorem dX8_step_35 : decode cX8_step 35 = .ok (.iload_n 3, 1) := by decide +kernel
theorem dX8_step_36 : decode cX8_step 36 = .ok (.isub, 1) := by decide +kernel
theorem dX8_step_37 : decode cX8_step 37 = .ok (.goto 8, 3) := by decide +kernel
theorem dX8_step_40 : decode cX8_step 40 = .ok (.aload_n 0, 1) := by decide +kernel
theorem dX8_step_41 : decode cX8_step 41 = .ok (.iload_n 2, 1) := by decide +kernel
theorem dX8_step_42 : decode cX8_step 42 = .ok (.invokevirtual 177, 3) := by decide +kernel
theorem dX8_step_45 : decode cX8_step 45 = .ok (.istore 4, 2) := by decide +kernel
theorem dX8_step_47 : decode cX8_step 47 = .ok (.iload 4, 2) := by decide +kernel
theorem dX8_step_49 : decode cX8_step 49 = .ok (.ifCond .lt 6, 3) := by decide +kernel
theorem dX8_step_52 : decode cX8_step 52 = .ok (.iload 4, 2) := by decide +kernel
theorem dX8_step_54 : decode cX8_step 54 = .ok (.ireturn, 1) := by decide +kernel
theorem dX8_step_55 : decode cX8_step 55 = .ok (.bipush (-10), 2) := by decide +kernel
theorem dX8_step_57 : decode cX8_step 57 = .ok (.iload 4, 2) := by decide +kernel
theorem dX8_step_59 : decode cX8_step 59 = .ok (.isub, 1) := by decide +kernel
theorem dX8_step_60 : decode cX8_step 60 = .ok (.istore_n 2, 1) := by decide +kernel
theorem dX8_step_61 : decode cX8_step 61 = .ok (.goto (-52), 3) := by decide +kernel
theorem dX8_step_64 : decode cX8_step 64 = .ok (.bipush (-5), 2) := by decide +kernel
theorem dX8_step_66 : decode cX8_step 66 = .ok (.ireturn, 1) := by decide +kernel
theorem dX8_nextStep_0 : decode cX8_nextStep 0 = .ok (.aload_n 0, 1) := by decide +kernel
theorem dX8_nextStep_1 : decode cX8_nextStep 1 = .ok (.invokevirtual 105, 3) := by decide +kernel
theorem dX8_nextStep_4 : decode cX8_nextStep 4 = .ok (.ifCond .eq 10, 3) := by decide +kernel
theorem dX8_nextStep_7 : decode cX8_nextStep 7 = .ok (.aload_n 0, 1) := by decide +kernel
theorem dX8_nextStep_8 : decode cX8_nextStep 8 = .ok (.invokevirtual 180, 3) := by decide +kernel
theorem dX8_nextStep_11 : decode cX8_nextStep 11 = .ok (.goto 5, 3) := by decide +kernel
theorem dX8_nextStep_14 : decode cX8_nextStep 14 = .ok (.bipush (-4), 2) := by decide +kernel
theorem dX8_nextStep_16 : decode cX8_nextStep 16 = .ok (.ireturn, 1) := by decide +kernel
theorem dX8_nudge_0 : decode cX8_nudge 0 = .ok (.aload_n 0, 1) := by decide +kernel
theorem dX8_nudge_1 : decode cX8_nudge 1 = .ok (.invokevirtual 105, 3) := by decide +kernel
theorem dX8_nudge_4 : decode cX8_nudge 4 = .ok (.ifCond .ne 6, 3) := by decide +kernel
theorem dX8_nudge_7 : decode cX8_nudge 7 = .ok (.bipush (-4), 2) := by decide +kernel
theorem dX8_nudge_9 : decode cX8_nudge 9 = .ok (.ireturn, 1) := by decide +kernel
theorem dX8_nudge_10 : decode cX8_nudge 10 = .ok (.aload_n 0, 1) := by decide +kernel
theorem dX8_nudge_11 : decode cX8_nudge 11 = .ok (.getfield 7, 3) := by decide +kernel
theorem dX8_nudge_14 : decode cX8_nudge 14 = .ok (.bipush 14, 2) := by decide +kernel
theorem dX8_nudge_16 : decode cX8_nudge 16 = .ok (.iaload, 1) := by decide +kernel
theorem dX8_nudge_17 : decode cX8_nudge 17 = .ok (.aload_n 0, 1) := by decide +kernel
theorem dX8_nudge_18 : decode cX8_nudge 18 = .ok (.getfield 7, 3) := by decide +kernel
theorem dX8_nudge_21 : decode cX8_nudge 21 = .ok (.bipush 7, 2) := by decide +kernel
theorem dX8_nudge_23 : decode cX8_nudge 23 = .ok (.iaload, 1) := by decide +kernel
theorem dX8_nudge_24 : decode cX8_nudge 24 = .ok (.if_icmp .ne 6, 3) := by decide +kernel
theorem dX8_nudge_27 : decode cX8_nudge 27 = .ok (.bipush (-3), 2) := by decide +kernel
theorem dX8_nudge_29 : decode cX8_nudge 29 = .ok (.ireturn, 1) := by decide +kernel
theorem dX8_nudge_30 : decode cX8_nudge 30 = .ok (.aload_n 0, 1) := by decide +kernel
theorem dX8_nudge_31 : decode cX8_nudge 31 = .ok (.invokevirtual 180, 3) := by decide +kernel
theorem dX8_nudge_34 : decode cX8_nudge 34 = .ok (.istore_n 1, 1) := by decide +kernel
theorem dX8_nudge_35 : decode cX8_nudge 35 = .ok (.iload_n 1, 1) := by decide +kernel
theorem dX8_nudge_36 : decode cX8_nudge 36 = .ok (.ifCond .ge 6, 3) := by decide +kernel
theorem dX8_nudge_39 : decode cX8_nudge 39 = .ok (.bipush (-5), 2) := by decide +kernel
theorem dX8_nudge_41 : decode cX8_nudge 41 = .ok (.ireturn, 1) := by decide +kernel
theorem dX8_nudge_42 : decode cX8_nudge 42 = .ok (.aload_n 0, 1) := by decide +kernel
theorem dX8_nudge_43 : decode cX8_nudge 43 = .ok (.iconst 2, 1) := by decide +kernel
theorem dX8_nudge_44 : decode cX8_nudge 44 = .ok (.invokevirtual 140, 3) := by decide +kernel
theorem dX8_nudge_47 : decode cX8_nudge 47 = .ok (.ifCond .eq 6, 3) := by decide +kernel
theorem dX8_nudge_50 : decode cX8_nudge 50 = .ok (.bipush (-6), 2) := by decide +kernel
theorem dX8_nudge_52 : decode cX8_nudge 52 = .ok (.ireturn, 1) := by decide +kernel
theorem dX8_nudge_53 : decode cX8_nudge 53 = .ok (.aload_n 0, 1) := by decide +kernel
theorem dX8_nudge_54 : decode cX8_nudge 54 = .ok (.iconst 4, 1) := by decide +kernel
theorem dX8_nudge_55 : decode cX8_nudge 55 = .ok (.iload_n 1, 1) := by decide +kernel
theorem dX8_nudge_56 : decode cX8_nudge 56 = .ok (.iconst 0, 1) := by decide +kernel
theorem dX8_nudge_57 : decode cX8_nudge 57 = .ok (.invokevirtual 130, 3) := by decide +kernel
theorem dX8_nudge_60 : decode cX8_nudge 60 = .ok (.iload_n 1, 1) := by decide +kernel
theorem dX8_nudge_61 : decode cX8_nudge 61 = .ok (.sipush 500, 3) := by decide +kernel
theorem dX8_nudge_64 : decode cX8_nudge 64 = .ok (.sipush 503, 3) := by decide +kernel
theorem dX8_nudge_67 : decode cX8_nudge 67 = .ok (.invokestatic 30, 3) := by decide +kernel
theorem dX8_nudge_70 : decode cX8_nudge 70 = .ok (.ifCond .eq 25, 3) := by decide +kernel
theorem dX8_nudge_73 : decode cX8_nudge 73 = .ok (.aload_n 0, 1) := by decide +kernel
theorem dX8_nudge_74 : decode cX8_nudge 74 = .ok (.getfield 7, 3) := by decide +kernel
theorem dX8_nudge_77 : decode cX8_nudge 77 = .ok (.bipush 68, 2) := by decide +kernel
theorem dX8_nudge_79 : decode cX8_nudge 79 = .ok (.aload_n 0, 1) := by decide +kernel
theorem dX8_nudge_80 : decode cX8_nudge 80 = .ok (.getfield 171, 3) := by decide +kernel
theorem dX8_nudge_83 : decode cX8_nudge 83 = .ok (.iadd, 1) := by decide +kernel
theorem dX8_nudge_84 : decode cX8_nudge 84 = .ok (.dup2, 1) := by decide +kernel
theorem dX8_nudge_85 : decode cX8_nudge 85 = .ok (.iaload, 1) := by decide +kernel
theorem dX8_nudge_86 : decode cX8_nudge 86 = .ok (.iconst 1, 1) := by decide +kernel
theorem dX8_nudge_87 : decode cX8_nudge 87 = .ok (.iload_n 1, 1) := by decide +kernel
theorem dX8_nudge_88 : decode cX8_nudge 88 = .ok (.sipush 500, 3) := by decide +kernel
theorem dX8_nudge_91 : decode cX8_nudge 91 = .ok (.isub, 1) := by decide +kernel
theorem dX8_nudge_92 : decode cX8_nudge 92 = .ok (.ishl, 1) := by decide +kernel
theorem dX8_nudge_93 : decode cX8_nudge 93 = .ok (.ior, 1) := by decide +kernel
theorem dX8_nudge_94 : decode cX8_nudge 94 = .ok (.iastore, 1) := by decide +kernel
theorem dX8_nudge_95 : decode cX8_nudge 95 = .ok (.aload_n 0, 1) := by decide +kernel
theorem dX8_nudge_96 : decode cX8_nudge 96 = .ok (.getfield 7, 3) := by decide +kernel
theorem dX8_nudge_99 : decode cX8_nudge 99 = .ok (.bipush 14, 2) := by decide +kernel
theorem dX8_nudge_101 : decode cX8_nudge 101 = .ok (.dup2, 1) := by decide +kernel
theorem dX8_nudge_102 : decode cX8_nudge 102 = .ok (.iaload, 1) := by decide +kernel
theorem dX8_nudge_103 : decode cX8_nudge 103 = .ok (.iconst 1, 1) := by decide +kernel
theorem dX8_nudge_104 : decode cX8_nudge 104 = .ok (.iadd, 1) := by decide +kernel
theorem dX8_nudge_105 : decode cX8_nudge 105 = .ok (.iastore, 1) := by decide +kernel
theorem dX8_nudge_106 : decode cX8_nudge 106 = .ok (.aload_n 0, 1) := by decide +kernel
theorem dX8_nudge_107 : decode cX8_nudge 107 = .ok (.iconst 2, 1) := by decide +kernel
theorem dX8_nudge_108 : decode cX8_nudge 108 = .ok (.invokevirtual 115, 3) := by decide +kernel
theorem dX8_nudge_111 : decode cX8_nudge 111 = .ok (.iload_n 1, 1) := by decide +kernel
theorem dX8_nudge_112 : decode cX8_nudge 112 = .ok (.ireturn, 1) := by decide +kernel
theorem dX8_giveUp_0 : decode cX8_giveUp 0 = .ok (.aload_n 0, 1) := by decide +kernel
theorem dX8_giveUp_1 : decode cX8_giveUp 1 = .ok (.invokevirtual 105, 3) := by decide +kernel
theorem dX8_giveUp_4 : decode cX8_giveUp 4 = .ok (.ifCond .ne 6, 3) := by decide +kernel
theorem dX8_giveUp_7 : decode cX8_giveUp 7 = .ok (.bipush (-4), 2) := by decide +kernel
theorem dX8_giveUp_9 : decode cX8_giveUp 9 = .ok (.ireturn, 1) := by decide +kernel
theorem dX8_giveUp_10 : decode cX8_giveUp 10 = .ok (.aload_n 0, 1) := by decide +kernel
theorem dX8_giveUp_11 : decode cX8_giveUp 11 = .ok (.bipush 7, 2) := by decide +kernel
theorem dX8_giveUp_13 : decode cX8_giveUp 13 = .ok (.iconst 0, 1) := by decide +kernel
theorem dX8_giveUp_14 : decode cX8_giveUp 14 = .ok (.iconst 0, 1) := by decide +kernel
theorem dX8_giveUp_15 : decode cX8_giveUp 15 = .ok (.invokevirtual 130, 3) := by decide +kernel
theorem dX8_giveUp_18 : decode cX8_giveUp 18 = .ok (.aload_n 0, 1) := by decide +kernel
theorem dX8_giveUp_19 : decode cX8_giveUp 19 = .ok (.getfield 7, 3) := by decide +kernel
theorem dX8_giveUp_22 : decode cX8_giveUp 22 = .ok (.bipush 9, 2) := by decide +kernel
theorem dX8_giveUp_24 : decode cX8_giveUp 24 = .ok (.iaload, 1) := by decide +kernel
theorem dX8_giveUp_25 : decode cX8_giveUp 25 = .ok (.aload_n 0, 1) := by decide +kernel
theorem dX8_giveUp_26 : decode cX8_giveUp 26 = .ok (.getfield 7, 3) := by decide +kernel
theorem dX8_giveUp_29 : decode cX8_giveUp 29 = .ok (.bipush 13, 2) := by decide +kernel
theorem dX8_giveUp_31 : decode cX8_giveUp 31 = .ok (.iaload, 1) := by decide +kernel
theorem dX8_giveUp_32 : decode cX8_giveUp 32 = .ok (.isub, 1) := by decide +kernel
theorem dX8_giveUp_33 : decode cX8_giveUp 33 = .ok (.istore_n 1, 1) := by decide +kernel
theorem dX8_giveUp_34 : decode cX8_giveUp 34 = .ok (.aload_n 0, 1) := by decide +kernel
theorem dX8_giveUp_35 : decode cX8_giveUp 35 = .ok (.iconst 0, 1) := by decide +kernel
theorem dX8_giveUp_36 : decode cX8_giveUp 36 = .ok (.invokevirtual 134, 3) := by decide +kernel
theorem dX8_giveUp_39 : decode cX8_giveUp 39 = .ok (.iload_n 1, 1) := by decide +kernel
theorem dX8_giveUp_40 : decode cX8_giveUp 40 = .ok (.ireturn, 1) := by decide +kernel
theorem dX8_planned_0 : decode cX8_planned 0 = .ok (.iload_n 1, 1) := by decide +kernel
theorem dX8_planned_1 : decode cX8_planned 1 = .ok (.sipush 1000, 3) := by decide +kernel
theorem dX8_planned_4 : decode cX8_planned 4 = .ok (.irem, 1) := by decide +kernel
theorem dX8_planned_5 : decode cX8_planned 5 = .ok (.bipush 100, 2) := by decide +kernel
theorem dX8_planned_7 : decode cX8_planned 7 = .ok (.idiv, 1) := by decide +kernel
theorem dX8_planned_8 : decode cX8_planned 8 = .ok (.istore_n 2, 1) := by decide +kernel
theorem dX8_planned_9 : decode cX8_planned 9 = .ok (.iload_n 1, 1) := by decide +kernel
theorem dX8_planned_10 : decode cX8_planned 10 = .ok (.bipush 100, 2) := by decide +kernel
theorem dX8_planned_12 : decode cX8_planned 12 = .ok (.irem, 1) := by decide +kernel
theorem dX8_planned_13 : decode cX8_planned 13 = .ok (.istore_n 3, 1) := by decide +kernel
theorem dX8_planned_14 : decode cX8_planned 14 = .ok (.iload_n 2, 1) := by decide +kernel
theorem dX8_planned_15 : decode cX8_planned 15 = .ok (.tableswitch 110 1 4 #[29, 45, 65, 81], 29) := by decide +kernel
theorem dX8_planned_44 : decode cX8_planned 44 = .ok (.aload_n 0, 1) := by decide +kernel
theorem dX8_planned_45 : decode cX8_planned 45 = .ok (.getfield 7, 3) := by decide +kernel
theorem dX8_planned_48 : decode cX8_planned 48 = .ok (.bipush 104, 2) := by decide +kernel
theorem dX8_planned_50 : decode cX8_planned 50 = .ok (.iload_n 3, 1) := by decide +kernel
theorem dX8_planned_51 : decode cX8_planned 51 = .ok (.iadd, 1) := by decide +kernel
theorem dX8_planned_52 : decode cX8_planned 52 = .ok (.iconst (-1), 1) := by decide +kernel
theorem dX8_planned_53 : decode cX8_planned 53 = .ok (.iastore, 1) := by decide +kernel
theorem dX8_planned_54 : decode cX8_planned 54 = .ok (.aload_n 0, 1) := by decide +kernel
theorem dX8_planned_55 : decode cX8_planned 55 = .ok (.iconst 3, 1) := by decide +kernel
theorem dX8_planned_56 : decode cX8_planned 56 = .ok (.invokevirtual 124, 3) := by decide +kernel
theorem dX8_planned_59 : decode cX8_planned 59 = .ok (.ireturn, 1) := by decide +kernel
theorem dX8_planned_60 : decode cX8_planned 60 = .ok (.aload_n 0, 1) := by decide +kernel
theorem dX8_planned_61 : decode cX8_planned 61 = .ok (.getfield 7, 3) := by decide +kernel
theorem dX8_planned_64 : decode cX8_planned 64 = .ok (.bipush 104, 2) := by decide +kernel
theorem dX8_planned_66 : decode cX8_planned 66 = .ok (.iload_n 3, 1) := by decide +kernel
theorem dX8_planned_67 : decode cX8_planned 67 = .ok (.iadd, 1) := by decide +kernel
theorem dX8_planned_68 : decode cX8_planned 68 = .ok (.iload_n 1, 1) := by decide +kernel
theorem dX8_planned_69 : decode cX8_planned 69 = .ok (.sipush 1000, 3) := by decide +kernel
theorem dX8_planned_72 : decode cX8_planned 72 = .ok (.idiv, 1) := by decide +kernel
theorem dX8_planned_73 : decode cX8_planned 73 = .ok (.iastore, 1) := by decide +kernel
theorem dX8_planned_74 : decode cX8_planned 74 = .ok (.aload_n 0, 1) := by decide +kernel
theorem dX8_planned_75 : decode cX8_planned 75 = .ok (.iconst 2, 1) := by decide +kernel
theorem dX8_planned_76 : decode cX8_planned 76 = .ok (.invokevirtual 124, 3) := by decide +kernel
theorem dX8_planned_79 : decode cX8_planned 79 = .ok (.ireturn, 1) := by decide +kernel
theorem dX8_planned_80 : decode cX8_planned 80 = .ok (.aload_n 0, 1) := by decide +kernel
theorem dX8_planned_81 : decode cX8_planned 81 = .ok (.getfield 7, 3) := by decide +kernel
theorem dX8_planned_84 : decode cX8_planned 84 = .ok (.bipush 56, 2) := by decide +kernel
theorem dX8_planned_86 : decode cX8_planned 86 = .ok (.iload_n 3, 1) := by decide +kernel
theorem dX8_planned_87 : decode cX8_planned 87 = .ok (.iadd, 1) := by decide +kernel
theorem dX8_planned_88 : decode cX8_planned 88 = .ok (.iconst 1, 1) := by decide +kernel
theorem dX8_planned_89 : decode cX8_planned 89 = .ok (.iastore, 1) := by decide +kernel
theorem dX8_planned_90 : decode cX8_planned 90 = .ok (.aload_n 0, 1) := by decide +kernel
theorem dX8_planned_91 : decode cX8_planned 91 = .ok (.iconst 4, 1) := by decide +kernel
theorem dX8_planned_92 : decode cX8_planned 92 = .ok (.invokevirtual 124, 3) := by decide +kernel
theorem dX8_planned_95 : decode cX8_planned 95 = .ok (.ireturn, 1) := by decide +kernel
theorem dX8_planned_96 : decode cX8_planned 96 = .ok (.aload_n 0, 1) := by decide +kernel
theorem dX8_planned_97 : decode cX8_planned 97 = .ok (.iload_n 3, 1) := by decide +kernel
theorem dX8_planned_98 : decode cX8_planned 98 = .ok (.invokevirtual 152, 3) := by decide +kernel
theorem dX8_planned_101 : decode cX8_planned 101 = .ok (.istore 4, 2) := by decide +kernel
theorem dX8_planned_103 : decode cX8_planned 103 = .ok (.aload_n 0, 1) := by decide +kernel
theorem dX8_planned_104 : decode cX8_planned 104 = .ok (.iload_n 3, 1) := by decide +kernel
theorem dX8_planned_105 : decode cX8_planned 105 = .ok (.invokevirtual 155, 3) := by decide +kernel
theorem dX8_planned_108 : decode cX8_planned 108 = .ok (.aload_n 0, 1) := by decide +kernel
theorem dX8_planned_109 : decode cX8_planned 109 = .ok (.getfield 7, 3) := by decide +kernel
theorem dX8_planned_112 : decode cX8_planned 112 = .ok (.sipush 164, 3) := by decide +kernel
theorem dX8_planned_115 : decode cX8_planned 115 = .ok (.iload_n 3, 1) := by decide +kernel
theorem dX8_planned_116 : decode cX8_planned 116 = .ok (.iadd, 1) := by decide +kernel
theorem dX8_planned_117 : decode cX8_planned 117 = .ok (.dup2, 1) := by decide +kernel
theorem dX8_planned_118 : decode cX8_planned 118 = .ok (.iaload, 1) := by decide +kernel
theorem dX8_planned_119 : decode cX8_planned 119 = .ok (.iconst 1, 1) := by decide +kernel
theorem dX8_planned_120 : decode cX8_planned 120 = .ok (.isub, 1) := by decide +kernel
theorem dX8_planned_121 : decode cX8_planned 121 = .ok (.iastore, 1) := by decide +kernel
theorem dX8_planned_122 : decode cX8_planned 122 = .ok (.iload 4, 2) := by decide +kernel
theorem dX8_planned_124 : decode cX8_planned 124 = .ok (.ireturn, 1) := by decide +kernel
theorem dX8_planned_125 : decode cX8_planned 125 = .ok (.aload_n 0, 1) := by decide +kernel
theorem dX8_planned_126 : decode cX8_planned 126 = .ok (.getfield 7, 3) := by decide +kernel
theorem dX8_planned_129 : decode cX8_planned 129 = .ok (.bipush 68, 2) := by decide +kernel
theorem dX8_planned_131 : decode cX8_planned 131 = .ok (.aload_n 0, 1) := by decide +kernel
theorem dX8_planned_132 : decode cX8_planned 132 = .ok (.getfield 171, 3) := by decide +kernel
theorem dX8_planned_135 : decode cX8_planned 135 = .ok (.iadd, 1) := by decide +kernel
theorem dX8_planned_136 : decode cX8_planned 136 = .ok (.dup2, 1) := by decide +kernel
theorem dX8_planned_137 : decode cX8_planned 137 = .ok (.iaload, 1) := by decide +kernel
theorem dX8_planned_138 : decode cX8_planned 138 = .ok (.iconst 1, 1) := by decide +kernel
theorem dX8_planned_139 : decode cX8_planned 139 = .ok (.iload_n 3, 1) := by decide +kernel
theorem dX8_planned_140 : decode cX8_planned 140 = .ok (.ishl, 1) := by decide +kernel
theorem dX8_planned_141 : decode cX8_planned 141 = .ok (.ior, 1) := by decide +kernel
theorem dX8_planned_142 : decode cX8_planned 142 = .ok (.iastore, 1) := by decide +kernel
theorem dX8_planned_143 : decode cX8_planned 143 = .ok (.iconst 2, 1) := by decide +kernel
theorem dX8_planned_144 : decode cX8_planned 144 = .ok (.ireturn, 1) := by decide +kernel
theorem dX8_plan_0 : decode cX8_plan 0 = .ok (.iload_n 1, 1) := by decide +kernel
theorem dX8_plan_1 : decode cX8_plan 1 = .ok (.iconst 1, 1) := by decide +kernel
theorem dX8_plan_2 : decode cX8_plan 2 = .ok (.bipush 6, 2) := by decide +kernel
theorem dX8_plan_4 : decode cX8_plan 4 = .ok (.invokestatic 30, 3) := by decide +kernel
theorem dX8_plan_7 : decode cX8_plan 7 = .ok (.ifCond .ne 6, 3) := by decide +kernel
theorem dX8_plan_10 : decode cX8_plan 10 = .ok (.bipush (-2), 2) := by decide +kernel
theorem dX8_plan_12 : decode cX8_plan 12 = .ok (.ireturn, 1) := by decide +kernel
theorem dX8_plan_13 : decode cX8_plan 13 = .ok (.aload_n 0, 1) := by decide +kernel
theorem dX8_plan_14 : decode cX8_plan 14 = .ok (.invokevirtual 105, 3) := by decide +kernel
theorem dX8_plan_17 : decode cX8_plan 17 = .ok (.ifCond .ne 12, 3) := by decide +kernel
theorem dX8_plan_20 : decode cX8_plan 20 = .ok (.aload_n 0, 1) := by decide +kernel
theorem dX8_plan_21 : decode cX8_plan 21 = .ok (.getfield 7, 3) := by decide +kernel
theorem dX8_plan_24 : decode cX8_plan 24 = .ok (.iconst 5, 1) := by decide +kernel
theorem dX8_plan_25 : decode cX8_plan 25 = .ok (.iaload, 1) := by decide +kernel
theorem dX8_plan_26 : decode cX8_plan 26 = .ok (.ifCond .ne 6, 3) := by decide +kernel
theorem dX8_plan_29 : decode cX8_plan 29 = .ok (.bipush (-4), 2) := by decide +kernel
theorem dX8_plan_31 : decode cX8_plan 31 = .ok (.ireturn, 1) := by decide +kernel
theorem dX8_plan_32 : decode cX8_plan 32 = .ok (.iconst 0, 1) := by decide +kernel
theorem dX8_plan_33 : decode cX8_plan 33 = .ok (.istore_n 2, 1) := by decide +kernel
theorem dX8_plan_34 : decode cX8_plan 34 = .ok (.iload_n 2, 1) := by decide +kernel
theorem dX8_plan_35 : decode cX8_plan 35 = .ok (.sipush 902, 3) := by decide +kernel
theorem dX8_plan_38 : decode cX8_plan 38 = .ok (.if_icmp .ge 21, 3) := by decide +kernel
theorem dX8_plan_41 : decode cX8_plan 41 = .ok (.aload_n 0, 1) := by decide +kernel
theorem dX8_plan_42 : decode cX8_plan 42 = .ok (.getfield 13, 3) := by decide +kernel
theorem dX8_plan_45 : decode cX8_plan 45 = .ok (.iload_n 2, 1) := by decide +kernel
theorem dX8_plan_46 : decode cX8_plan 46 = .ok (.aload_n 0, 1) := by decide +kernel
theorem dX8_plan_47 : decode cX8_plan 47 = .ok (.getfield 7, 3) := by decide +kernel
theorem dX8_plan_50 : decode cX8_plan 50 = .ok (.iload_n 2, 1) := by decide +kernel
theorem dX8_plan_51 : decode cX8_plan 51 = .ok (.iaload, 1) := by decide +kernel
theorem dX8_plan_52 : decode cX8_plan 52 = .ok (.iastore, 1) := by decide +kernel
theorem dX8_plan_53 : decode cX8_plan 53 = .ok (.iinc 2 1, 3) := by decide +kernel
theorem dX8_plan_56 : decode cX8_plan 56 = .ok (.goto (-22), 3) := by decide +kernel
theorem dX8_plan_59 : decode cX8_plan 59 = .ok (.aload_n 0, 1) := by decide +kernel
theorem dX8_plan_60 : decode cX8_plan 60 = .ok (.getfield 7, 3) := by decide +kernel
theorem dX8_plan_63 : decode cX8_plan 63 = .ok (.bipush 11, 2) := by decide +kernel
theorem dX8_plan_65 : decode cX8_plan 65 = .ok (.iload_n 1, 1) := by decide +kernel
theorem dX8_plan_66 : decode cX8_plan 66 = .ok (.iastore, 1) := by decide +kernel
theorem dX8_plan_67 : decode cX8_plan 67 = .ok (.iconst 0, 1) := by decide +kernel
theorem dX8_plan_68 : decode cX8_plan 68 = .ok (.istore_n 2, 1) := by decide +kernel
theorem dX8_plan_69 : decode cX8_plan 69 = .ok (.iload_n 2, 1) := by decide +kernel
theorem dX8_plan_70 : decode cX8_plan 70 = .ok (.bipush 12, 2) := by decide +kernel
theorem dX8_plan_72 : decode cX8_plan 72 = .ok (.if_icmp .ge 19, 3) := by decide +kernel
theorem dX8_plan_75 : decode cX8_plan 75 = .ok (.aload_n 0, 1) := by decide +kernel
theorem dX8_plan_76 : decode cX8_plan 76 = .ok (.getfield 7, 3) := by decide +kernel
theorem dX8_plan_79 : decode cX8_plan 79 = .ok (.bipush 68, 2) := by decide +kernel
theorem dX8_plan_81 : decode cX8_plan 81 = .ok (.iload_n 2, 1) := by decide +kernel
theorem dX8_plan_82 : decode cX8_plan 82 = .ok (.iadd, 1) := by decide +kernel
theorem dX8_plan_83 : decode cX8_plan 83 = .ok (.iconst 0, 1) := by decide +kernel
theorem dX8_plan_84 : decode cX8_plan 84 = .ok (.iastore, 1) := by decide +kernel
theorem dX8_plan_85 : decode cX8_plan 85 = .ok (.iinc 2 1, 3) := by decide +kernel
theorem dX8_plan_88 : decode cX8_plan 88 = .ok (.goto (-19), 3) := by decide +kernel
theorem dX8_plan_91 : decode cX8_plan 91 = .ok (.iconst 0, 1) := by decide +kernel
theorem dX8_plan_92 : decode cX8_plan 92 = .ok (.istore_n 2, 1) := by decide +kernel
theorem dX8_plan_93 : decode cX8_plan 93 = .ok (.iload_n 2, 1) := by decide +kernel
theorem dX8_plan_94 : decode cX8_plan 94 = .ok (.ifCond .lt 41, 3) := by decide +kernel
theorem dX8_plan_97 : decode cX8_plan 97 = .ok (.aload_n 0, 1) := by decide +kernel
theorem dX8_plan_98 : decode cX8_plan 98 = .ok (.aload_n 0, 1) := by decide +kernel
theorem dX8_plan_99 : decode cX8_plan 99 = .ok (.getfield 7, 3) := by decide +kernel
theorem dX8_plan_102 : decode cX8_plan 102 = .ok (.iconst 5, 1) := by decide +kernel
theorem dX8_plan_103 : decode cX8_plan 103 = .ok (.iaload, 1) := by decide +kernel
theorem dX8_plan_104 : decode cX8_plan 104 = .ok (.invokevirtual 34, 3) := by decide +kernel
theorem dX8_plan_107 : decode cX8_plan 107 = .ok (.ifCond .ne 28, 3) := by decide +kernel
theorem dX8_plan_110 : decode cX8_plan 110 = .ok (.aload_n 0, 1) := by decide +kernel
theorem dX8_plan_111 : decode cX8_plan 111 = .ok (.invokevirtual 180, 3) := by decide +kernel
theorem dX8_plan_114 : decode cX8_plan 114 = .ok (.istore_n 3, 1) := by decide +kernel
theorem dX8_plan_115 : decode cX8_plan 115 = .ok (.iload_n 3, 1) := by decide +kernel
theorem dX8_plan_116 : decode cX8_plan 116 = .ok (.ifCond .ge 8, 3) := by decide +kernel
theorem dX8_plan_119 : decode cX8_plan 119 = .ok (.bipush (-5), 2) := by decide +kernel
theorem dX8_plan_121 : decode cX8_plan 121 = .ok (.goto 10, 3) := by decide +kernel
theorem dX8_plan_124 : decode cX8_plan 124 = .ok (.iload_n 2, 1) := by decide +kernel
theorem dX8_plan_125 : decode cX8_plan 125 = .ok (.aload_n 0, 1) := by decide +kernel
theorem dX8_plan_126 : decode cX8_plan 126 = .ok (.iload_n 3, 1) := by decide +kernel
theorem dX8_plan_127 : decode cX8_plan 127 = .ok (.invokevirtual 183, 3) := by decide +kernel
theorem dX8_plan_130 : decode cX8_plan 130 = .ok (.iadd, 1) := by decide +kernel
theorem dX8_plan_131 : decode cX8_plan 131 = .ok (.istore_n 2, 1) := by decide +kernel
theorem dX8_plan_132 : decode cX8_plan 132 = .ok (.goto (-39), 3) := by decide +kernel
theorem dX8_plan_135 : decode cX8_plan 135 = .ok (.iconst 0, 1) := by decide +kernel
theorem dX8_plan_136 : decode cX8_plan 136 = .ok (.istore_n 3, 1) := by decide +kernel
theorem dX8_plan_137 : decode cX8_plan 137 = .ok (.iload_n 3, 1) := by decide +kernel
theorem dX8_plan_138 : decode cX8_plan 138 = .ok (.sipush 902, 3) := by decide +kernel
theorem dX8_plan_141 : decode cX8_plan 141 = .ok (.if_icmp .ge 21, 3) := by decide +kernel
theorem dX8_plan_144 : decode cX8_plan 144 = .ok (.aload_n 0, 1) := by decide +kernel
theorem dX8_plan_145 : decode cX8_plan 145 = .ok (.getfield 7, 3) := by decide +kernel
theorem dX8_plan_148 : decode cX8_plan 148 = .ok (.iload_n 3, 1) := by decide +kernel
theorem dX8_plan_149 : decode cX8_plan 149 = .ok (.aload_n 0, 1) := by decide +kernel
theorem dX8_plan_150 : decode cX8_plan 150 = .ok (.getfield 13, 3) := by decide +kernel
theorem dX8_plan_153 : decode cX8_plan 153 = .ok (.iload_n 3, 1) := by decide +kernel
theorem dX8_plan_154 : decode cX8_plan 154 = .ok (.iaload, 1) := by decide +kernel
theorem dX8_plan_155 : decode cX8_plan 155 = .ok (.iastore, 1) := by decide +kernel
theorem dX8_plan_156 : decode cX8_plan 156 = .ok (.iinc 3 1, 3) := by decide +kernel
theorem dX8_plan_159 : decode cX8_plan 159 = .ok (.goto (-22), 3) := by decide +kernel
theorem dX8_plan_162 : decode cX8_plan 162 = .ok (.iload_n 2, 1) := by decide +kernel
theorem dX8_plan_163 : decode cX8_plan 163 = .ok (.ireturn, 1) := by decide +kernel
theorem dX8_idle_0 : decode cX8_idle 0 = .ok (.iload_n 1, 1) := by decide +kernel
theorem dX8_idle_1 : decode cX8_idle 1 = .ok (.iconst 1, 1) := by decide +kernel
theorem dX8_idle_2 : decode cX8_idle 2 = .ok (.sipush 1000, 3) := by decide +kernel
theorem dX8_idle_5 : decode cX8_idle 5 = .ok (.invokestatic 30, 3) := by decide +kernel
theorem dX8_idle_8 : decode cX8_idle 8 = .ok (.ifCond .ne 6, 3) := by decide +kernel
theorem dX8_idle_11 : decode cX8_idle 11 = .ok (.bipush (-2), 2) := by decide +kernel
theorem dX8_idle_13 : decode cX8_idle 13 = .ok (.ireturn, 1) := by decide +kernel
theorem dX8_idle_14 : decode cX8_idle 14 = .ok (.aload_n 0, 1) := by decide +kernel
theorem dX8_idle_15 : decode cX8_idle 15 = .ok (.invokevirtual 105, 3) := by decide +kernel
theorem dX8_idle_18 : decode cX8_idle 18 = .ok (.ifCond .eq 6, 3) := by decide +kernel
theorem dX8_idle_21 : decode cX8_idle 21 = .ok (.bipush (-4), 2) := by decide +kernel
theorem dX8_idle_23 : decode cX8_idle 23 = .ok (.ireturn, 1) := by decide +kernel
theorem dX8_idle_24 : decode cX8_idle 24 = .ok (.aload_n 0, 1) := by decide +kernel
theorem dX8_idle_25 : decode cX8_idle 25 = .ok (.iload_n 1, 1) := by decide +kernel
theorem dX8_idle_26 : decode cX8_idle 26 = .ok (.invokevirtual 115, 3) := by decide +kernel
theorem dX8_idle_29 : decode cX8_idle 29 = .ok (.aload_n 0, 1) := by decide +kernel
theorem dX8_idle_30 : decode cX8_idle 30 = .ok (.getfield 7, 3) := by decide +kernel
theorem dX8_idle_33 : decode cX8_idle 33 = .ok (.bipush 9, 2) := by decide +kernel
theorem dX8_idle_35 : decode cX8_idle 35 = .ok (.iaload, 1) := by decide +kernel
theorem dX8_idle_36 : decode cX8_idle 36 = .ok (.ireturn, 1) := by decide +kernel
theorem dX8_putHome_0 : decode cX8_putHome 0 = .ok (.aload_n 0, 1) := by decide +kernel
theorem dX8_putHome_1 : decode cX8_putHome 1 = .ok (.iload_n 1, 1) := by decide +kernel
theorem dX8_putHome_2 : decode cX8_putHome 2 = .ok (.invokevirtual 102, 3) := by decide +kernel
theorem dX8_putHome_5 : decode cX8_putHome 5 = .ok (.ifCond .eq 5, 3) := by decide +kernel
theorem dX8_putHome_8 : decode cX8_putHome 8 = .ok (.iconst (-1), 1) := by decide +kernel
theorem dX8_putHome_9 : decode cX8_putHome 9 = .ok (.ireturn, 1) := by decide +kernel
theorem dX8_putHome_10 : decode cX8_putHome 10 = .ok (.aload_n 0, 1) := by decide +kernel
theorem dX8_putHome_11 : decode cX8_putHome 11 = .ok (.invokevirtual 105, 3) := by decide +kernel
theorem dX8_putHome_14 : decode cX8_putHome 14 = .ok (.ifCond .eq 6, 3) := by decide +kernel
theorem dX8_putHome_17 : decode cX8_putHome 17 = .ok (.bipush (-4), 2) := by decide +kernel
theorem dX8_putHome_19 : decode cX8_putHome 19 = .ok (.ireturn, 1) := by decide +kernel
theorem dX8_putHome_20 : decode cX8_putHome 20 = .ok (.aload_n 0, 1) := by decide +kernel
theorem dX8_putHome_21 : decode cX8_putHome 21 = .ok (.getfield 7, 3) := by decide +kernel
theorem dX8_putHome_24 : decode cX8_putHome 24 = .ok (.bipush 104, 2) := by decide +kernel
theorem dX8_putHome_26 : decode cX8_putHome 26 = .ok (.iload_n 1, 1) := by decide +kernel
theorem dX8_putHome_27 : decode cX8_putHome 27 = .ok (.iadd, 1) := by decide +kernel
theorem dX8_putHome_28 : decode cX8_putHome 28 = .ok (.iaload, 1) := by decide +kernel
theorem dX8_putHome_29 : decode cX8_putHome 29 = .ok (.istore_n 2, 1) := by decide +kernel
theorem dX8_putHome_30 : decode cX8_putHome 30 = .ok (.iload_n 2, 1) := by decide +kernel
theorem dX8_putHome_31 : decode cX8_putHome 31 = .ok (.aload_n 0, 1) := by decide +kernel
theorem dX8_putHome_32 : decode cX8_putHome 32 = .ok (.getfield 7, 3) := by decide +kernel
theorem dX8_putHome_35 : decode cX8_putHome 35 = .ok (.bipush 80, 2) := by decide +kernel
theorem dX8_putHome_37 : decode cX8_putHome 37 = .ok (.iload_n 1, 1) := by decide +kernel
theorem dX8_putHome_38 : decode cX8_putHome 38 = .ok (.iadd, 1) := by decide +kernel
theorem dX8_putHome_39 : decode cX8_putHome 39 = .ok (.iaload, 1) := by decide +kernel
theorem dX8_putHome_40 : decode cX8_putHome 40 = .ok (.if_icmp .ne 6, 3) := by decide +kernel
theorem dX8_putHome_43 : decode cX8_putHome 43 = .ok (.bipush (-5), 2) := by decide +kernel
theorem dX8_putHome_45 : decode cX8_putHome 45 = .ok (.ireturn, 1) := by decide +kernel
theorem dX8_putHome_46 : decode cX8_putHome 46 = .ok (.aload_n 0, 1) := by decide +kernel
theorem dX8_putHome_47 : decode cX8_putHome 47 = .ok (.getfield 7, 3) := by decide +kernel
theorem dX8_putHome_50 : decode cX8_putHome 50 = .ok (.bipush 104, 2) := by decide +kernel
theorem dX8_putHome_52 : decode cX8_putHome 52 = .ok (.iload_n 1, 1) := by decide +kernel
theorem dX8_putHome_53 : decode cX8_putHome 53 = .ok (.iadd, 1) := by decide +kernel
theorem dX8_putHome_54 : decode cX8_putHome 54 = .ok (.aload_n 0, 1) := by decide +kernel
theorem dX8_putHome_55 : decode cX8_putHome 55 = .ok (.getfield 7, 3) := by decide +kernel
theorem dX8_putHome_58 : decode cX8_putHome 58 = .ok (.bipush 80, 2) := by decide +kernel
theorem dX8_putHome_60 : decode cX8_putHome 60 = .ok (.iload_n 1, 1) := by decide +kernel
theorem dX8_putHome_61 : decode cX8_putHome 61 = .ok (.iadd, 1) := by decide +kernel
theorem dX8_putHome_62 : decode cX8_putHome 62 = .ok (.iaload, 1) := by decide +kernel
theorem dX8_putHome_63 : decode cX8_putHome 63 = .ok (.iastore, 1) := by decide +kernel
theorem dX8_putHome_64 : decode cX8_putHome 64 = .ok (.aload_n 0, 1) := by decide +kernel
theorem dX8_putHome_65 : decode cX8_putHome 65 = .ok (.iconst 1, 1) := by decide +kernel
theorem dX8_putHome_66 : decode cX8_putHome 66 = .ok (.invokevirtual 115, 3) := by decide +kernel
theorem dX8_putHome_69 : decode cX8_putHome 69 = .ok (.iload_n 2, 1) := by decide +kernel
theorem dX8_putHome_70 : decode cX8_putHome 70 = .ok (.ireturn, 1) := by decide +kernel
theorem dX8_close_0 : decode cX8_close 0 = .ok (.aload_n 0, 1) := by decide +kernel
theorem dX8_close_1 : decode cX8_close 1 = .ok (.iload_n 1, 1) := by decide +kernel
theorem dX8_close_2 : decode cX8_close 2 = .ok (.invokevirtual 99, 3) := by decide +kernel
theorem dX8_close_5 : decode cX8_close 5 = .ok (.ifCond .eq 5, 3) := by decide +kernel
theorem dX8_close_8 : decode cX8_close 8 = .ok (.iconst (-1), 1) := by decide +kernel
theorem dX8_close_9 : decode cX8_close 9 = .ok (.ireturn, 1) := by decide +kernel
theorem dX8_close_10 : decode cX8_close 10 = .ok (.iload_n 1, 1) := by decide +kernel
theorem dX8_close_11 : decode cX8_close 11 = .ok (.ifCond .ne 6, 3) := by decide +kernel
theorem dX8_close_14 : decode cX8_close 14 = .ok (.bipush (-2), 2) := by decide +kernel
theorem dX8_close_16 : decode cX8_close 16 = .ok (.ireturn, 1) := by decide +kernel
theorem dX8_close_17 : decode cX8_close 17 = .ok (.aload_n 0, 1) := by decide +kernel
theorem dX8_close_18 : decode cX8_close 18 = .ok (.invokevirtual 105, 3) := by decide +kernel
theorem dX8_close_21 : decode cX8_close 21 = .ok (.ifCond .eq 6, 3) := by decide +kernel
theorem dX8_close_24 : decode cX8_close 24 = .ok (.bipush (-4), 2) := by decide +kernel
theorem dX8_close_26 : decode cX8_close 26 = .ok (.ireturn, 1) := by decide +kernel
theorem dX8_close_27 : decode cX8_close 27 = .ok (.aload_n 0, 1) := by decide +kernel
theorem dX8_close_28 : decode cX8_close 28 = .ok (.iload_n 1, 1) := by decide +kernel
theorem dX8_close_29 : decode cX8_close 29 = .ok (.invokevirtual 34, 3) := by decide +kernel
theorem dX8_close_32 : decode cX8_close 32 = .ok (.ifCond .ne 6, 3) := by decide +kernel
theorem dX8_close_35 : decode cX8_close 35 = .ok (.bipush (-5), 2) := by decide +kernel
theorem dX8_close_37 : decode cX8_close 37 = .ok (.ireturn, 1) := by decide +kernel
theorem dX8_close_38 : decode cX8_close 38 = .ok (.aload_n 0, 1) := by decide +kernel
theorem dX8_close_39 : decode cX8_close 39 = .ok (.getfield 7, 3) := by decide +kernel
theorem dX8_close_42 : decode cX8_close 42 = .ok (.bipush 56, 2) := by decide +kernel
theorem dX8_close_44 : decode cX8_close 44 = .ok (.iload_n 1, 1) := by decide +kernel
theorem dX8_close_45 : decode cX8_close 45 = .ok (.iadd, 1) := by decide +kernel
theorem dX8_close_46 : decode cX8_close 46 = .ok (.iconst 0, 1) := by decide +kernel
theorem dX8_close_47 : decode cX8_close 47 = .ok (.iastore, 1) := by decide +kernel
theorem dX8_close_48 : decode cX8_close 48 = .ok (.aload_n 0, 1) := by decide +kernel
theorem dX8_close_49 : decode cX8_close 49 = .ok (.iconst 1, 1) := by decide +kernel
theorem dX8_close_50 : decode cX8_close 50 = .ok (.invokevirtual 115, 3) := by decide +kernel
theorem dX8_close_53 : decode cX8_close 53 = .ok (.aload_n 0, 1) := by decide +kernel
theorem dX8_close_54 : decode cX8_close 54 = .ok (.invokevirtual 121, 3) := by decide +kernel
theorem dX8_close_57 : decode cX8_close 57 = .ok (.ireturn, 1) := by decide +kernel
theorem dX8_writeOver_0 : decode cX8_writeOver 0 = .ok (.aload_n 0, 1) := by decide +kernel
theorem dX8_writeOver_1 : decode cX8_writeOver 1 = .ok (.iload_n 1, 1) := by decide +kernel
theorem dX8_writeOver_2 : decode cX8_writeOver 2 = .ok (.invokevirtual 149, 3) := by decide +kernel
theorem dX8_writeOver_5 : decode cX8_writeOver 5 = .ok (.ifCond .eq 5, 3) := by decide +kernel
theorem dX8_writeOver_8 : decode cX8_writeOver 8 = .ok (.iconst (-1), 1) := by decide +kernel
theorem dX8_writeOver_9 : decode cX8_writeOver 9 = .ok (.ireturn, 1) := by decide +kernel
theorem dX8_writeOver_10 : decode cX8_writeOver 10 = .ok (.bipush 9, 2) := by decide +kernel
theorem dX8_writeOver_12 : decode cX8_writeOver 12 = .ok (.aload_n 0, 1) := by decide +kernel
theorem dX8_writeOver_13 : decode cX8_writeOver 13 = .ok (.getfield 7, 3) := by decide +kernel
theorem dX8_writeOver_16 : decode cX8_writeOver 16 = .ok (.sipush 164, 3) := by decide +kernel
theorem dX8_writeOver_19 : decode cX8_writeOver 19 = .ok (.iload_n 1, 1) := by decide +kernel
theorem dX8_writeOver_20 : decode cX8_writeOver 20 = .ok (.iadd, 1) := by decide +kernel
theorem dX8_writeOver_21 : decode cX8_writeOver 21 = .ok (.iaload, 1) := by decide +kernel
theorem dX8_writeOver_22 : decode cX8_writeOver 22 = .ok (.isub, 1) := by decide +kernel
theorem dX8_writeOver_23 : decode cX8_writeOver 23 = .ok (.istore_n 2, 1) := by decide +kernel
theorem dX8_writeOver_24 : decode cX8_writeOver 24 = .ok (.aload_n 0, 1) := by decide +kernel
theorem dX8_writeOver_25 : decode cX8_writeOver 25 = .ok (.invokevirtual 105, 3) := by decide +kernel
theorem dX8_writeOver_28 : decode cX8_writeOver 28 = .ok (.ifCond .ne 14, 3) := by decide +kernel
theorem dX8_writeOver_31 : decode cX8_writeOver 31 = .ok (.iload_n 2, 1) := by decide +kernel
theorem dX8_writeOver_32 : decode cX8_writeOver 32 = .ok (.aload_n 0, 1) := by decide +kernel
theorem dX8_writeOver_33 : decode cX8_writeOver 33 = .ok (.getfield 7, 3) := by decide +kernel
theorem dX8_writeOver_36 : decode cX8_writeOver 36 = .ok (.bipush 8, 2) := by decide +kernel
theorem dX8_writeOver_38 : decode cX8_writeOver 38 = .ok (.iaload, 1) := by decide +kernel
theorem dX8_writeOver_39 : decode cX8_writeOver 39 = .ok (.if_icmp .le 6, 3) := by decide +kernel
theorem dX8_writeOver_42 : decode cX8_writeOver 42 = .ok (.bipush (-4), 2) := by decide +kernel
theorem dX8_writeOver_44 : decode cX8_writeOver 44 = .ok (.ireturn, 1) := by decide +kernel
theorem dX8_writeOver_45 : decode cX8_writeOver 45 = .ok (.iload_n 2, 1) := by decide +kernel
theorem dX8_writeOver_46 : decode cX8_writeOver 46 = .ok (.ifCond .ne 6, 3) := by decide +kernel
theorem dX8_writeOver_49 : decode cX8_writeOver 49 = .ok (.bipush (-5), 2) := by decide +kernel
theorem dX8_writeOver_51 : decode cX8_writeOver 51 = .ok (.ireturn, 1) := by decide +kernel
theorem dX8_writeOver_52 : decode cX8_writeOver 52 = .ok (.aload_n 0, 1) := by decide +kernel
theorem dX8_writeOver_53 : decode cX8_writeOver 53 = .ok (.getfield 7, 3) := by decide +kernel
theorem dX8_writeOver_56 : decode cX8_writeOver 56 = .ok (.sipush 164, 3) := by decide +kernel
theorem dX8_writeOver_59 : decode cX8_writeOver 59 = .ok (.iload_n 1, 1) := by decide +kernel
theorem dX8_writeOver_60 : decode cX8_writeOver 60 = .ok (.iadd, 1) := by decide +kernel
theorem dX8_writeOver_61 : decode cX8_writeOver 61 = .ok (.bipush 9, 2) := by decide +kernel
theorem dX8_writeOver_63 : decode cX8_writeOver 63 = .ok (.iastore, 1) := by decide +kernel
theorem dX8_writeOver_64 : decode cX8_writeOver 64 = .ok (.aload_n 0, 1) := by decide +kernel
theorem dX8_writeOver_65 : decode cX8_writeOver 65 = .ok (.getfield 7, 3) := by decide +kernel
theorem dX8_writeOver_68 : decode cX8_writeOver 68 = .ok (.bipush 8, 2) := by decide +kernel
theorem dX8_writeOver_70 : decode cX8_writeOver 70 = .ok (.dup2, 1) := by decide +kernel
theorem dX8_writeOver_71 : decode cX8_writeOver 71 = .ok (.iaload, 1) := by decide +kernel
theorem dX8_writeOver_72 : decode cX8_writeOver 72 = .ok (.iload_n 2, 1) := by decide +kernel
theorem dX8_writeOver_73 : decode cX8_writeOver 73 = .ok (.isub, 1) := by decide +kernel
theorem dX8_writeOver_74 : decode cX8_writeOver 74 = .ok (.iastore, 1) := by decide +kernel
theorem dX8_writeOver_75 : decode cX8_writeOver 75 = .ok (.aload_n 0, 1) := by decide +kernel
theorem dX8_writeOver_76 : decode cX8_writeOver 76 = .ok (.iconst 1, 1) := by decide +kernel
theorem dX8_writeOver_77 : decode cX8_writeOver 77 = .ok (.invokevirtual 115, 3) := by decide +kernel
theorem dX8_writeOver_80 : decode cX8_writeOver 80 = .ok (.iload_n 2, 1) := by decide +kernel
theorem dX8_writeOver_81 : decode cX8_writeOver 81 = .ok (.ireturn, 1) := by decide +kernel
theorem dX8_written_0 : decode cX8_written 0 = .ok (.iconst 0, 1) := by decide +kernel
theorem dX8_written_1 : decode cX8_written 1 = .ok (.istore_n 3, 1) := by decide +kernel
theorem dX8_written_2 : decode cX8_written 2 = .ok (.iconst 0, 1) := by decide +kernel
theorem dX8_written_3 : decode cX8_written 3 = .ok (.istore 4, 2) := by decide +kernel
theorem dX8_written_5 : decode cX8_written 5 = .ok (.iconst 0, 1) := by decide +kernel
theorem dX8_written_6 : decode cX8_written 6 = .ok (.istore 5, 2) := by decide +kernel
theorem dX8_written_8 : decode cX8_written 8 = .ok (.iload 5, 2) := by decide +kernel
theorem dX8_written_10 : decode cX8_written 10 = .ok (.aload_n 0, 1) := by decide +kernel
theorem dX8_written_11 : decode cX8_written 11 = .ok (.getfield 7, 3) := by decide +kernel
theorem dX8_written_14 : decode cX8_written 14 = .ok (.iconst 2, 1) := by decide +kernel
theorem dX8_written_15 : decode cX8_written 15 = .ok (.iaload, 1) := by decide +kernel
theorem dX8_written_16 : decode cX8_written 16 = .ok (.if_icmp .ge 87, 3) := by decide +kernel
theorem dX8_written_19 : decode cX8_written 19 = .ok (.bipush 9, 2) := by decide +kernel
theorem dX8_written_21 : decode cX8_written 21 = .ok (.aload_n 0, 1) := by decide +kernel
theorem dX8_written_22 : decode cX8_written 22 = .ok (.getfield 7, 3) := by decide +kernel
theorem dX8_written_25 : decode cX8_written 25 = .ok (.sipush 164, 3) := by decide +kernel
theorem dX8_written_28 : decode cX8_written 28 = .ok (.iload 5, 2) := by decide +kernel
theorem dX8_written_30 : decode cX8_written 30 = .ok (.iadd, 1) := by decide +kernel
theorem dX8_written_31 : decode cX8_written 31 = .ok (.iaload, 1) := by decide +kernel
theorem dX8_written_32 : decode cX8_written 32 = .ok (.isub, 1) := by decide +kernel
theorem dX8_written_33 : decode cX8_written 33 = .ok (.istore 6, 2) := by decide +kernel
theorem dX8_written_35 : decode cX8_written 35 = .ok (.iload 6, 2) := by decide +kernel
theorem dX8_written_37 : decode cX8_written 37 = .ok (.iconst 5, 1) := by decide +kernel
theorem dX8_written_38 : decode cX8_written 38 = .ok (.if_icmp .le 59, 3) := by decide +kernel
theorem dX8_written_41 : decode cX8_written 41 = .ok (.iload 6, 2) := by decide +kernel
theorem dX8_written_43 : decode cX8_written 43 = .ok (.aload_n 0, 1) := by decide +kernel
theorem dX8_written_44 : decode cX8_written 44 = .ok (.getfield 7, 3) := by decide +kernel
theorem dX8_written_47 : decode cX8_written 47 = .ok (.bipush 8, 2) := by decide +kernel
theorem dX8_written_49 : decode cX8_written 49 = .ok (.iaload, 1) := by decide +kernel
theorem dX8_written_50 : decode cX8_written 50 = .ok (.iload 4, 2) := by decide +kernel
theorem dX8_written_52 : decode cX8_written 52 = .ok (.isub, 1) := by decide +kernel
theorem dX8_written_53 : decode cX8_written 53 = .ok (.if_icmp .gt 44, 3) := by decide +kernel
theorem dX8_written_56 : decode cX8_written 56 = .ok (.iinc 3 1, 3) := by decide +kernel
theorem dX8_written_59 : decode cX8_written 59 = .ok (.iload 4, 2) := by decide +kernel
theorem dX8_written_61 : decode cX8_written 61 = .ok (.iload 6, 2) := by decide +kernel
theorem dX8_written_63 : decode cX8_written 63 = .ok (.iadd, 1) := by decide +kernel
theorem dX8_written_64 : decode cX8_written 64 = .ok (.istore 4, 2) := by decide +kernel
theorem dX8_written_66 : decode cX8_written 66 = .ok (.aload_n 0, 1) := by decide +kernel
theorem dX8_written_67 : decode cX8_written 67 = .ok (.getfield 7, 3) := by decide +kernel
theorem dX8_written_70 : decode cX8_written 70 = .ok (.sipush 164, 3) := by decide +kernel
theorem dX8_written_73 : decode cX8_written 73 = .ok (.iload 5, 2) := by decide +kernel
theorem dX8_written_75 : decode cX8_written 75 = .ok (.iadd, 1) := by decide +kernel
theorem dX8_written_76 : decode cX8_written 76 = .ok (.iload_n 2, 1) := by decide +kernel
theorem dX8_written_77 : decode cX8_written 77 = .ok (.ifCond .eq 8, 3) := by decide +kernel
theorem dX8_written_80 : decode cX8_written 80 = .ok (.bipush 9, 2) := by decide +kernel
theorem dX8_written_82 : decode cX8_written 82 = .ok (.goto 14, 3) := by decide +kernel
theorem dX8_written_85 : decode cX8_written 85 = .ok (.aload_n 0, 1) := by decide +kernel
theorem dX8_written_86 : decode cX8_written 86 = .ok (.getfield 7, 3) := by decide +kernel
theorem dX8_written_89 : decode cX8_written 89 = .ok (.sipush 164, 3) := by decide +kernel
theorem dX8_written_92 : decode cX8_written 92 = .ok (.iload 5, 2) := by decide +kernel
theorem dX8_written_94 : decode cX8_written 94 = .ok (.iadd, 1) := by decide +kernel
theorem dX8_written_95 : decode cX8_written 95 = .ok (.iaload, 1) := by decide +kernel
theorem dX8_written_96 : decode cX8_written 96 = .ok (.iastore, 1) := by decide +kernel
theorem dX8_written_97 : decode cX8_written 97 = .ok (.iinc 5 1, 3) := by decide +kernel
theorem dX8_written_100 : decode cX8_written 100 = .ok (.goto (-92), 3) := by decide +kernel
theorem dX8_written_103 : decode cX8_written 103 = .ok (.aload_n 0, 1) := by decide +kernel
theorem dX8_written_104 : decode cX8_written 104 = .ok (.getfield 7, 3) := by decide +kernel
theorem dX8_written_107 : decode cX8_written 107 = .ok (.bipush 8, 2) := by decide +kernel
theorem dX8_written_109 : decode cX8_written 109 = .ok (.dup2, 1) := by decide +kernel
theorem dX8_written_110 : decode cX8_written 110 = .ok (.iaload, 1) := by decide +kernel
theorem dX8_written_111 : decode cX8_written 111 = .ok (.iload_n 2, 1) := by decide +kernel
theorem dX8_written_112 : decode cX8_written 112 = .ok (.ifCond .eq 8, 3) := by decide +kernel
theorem dX8_written_115 : decode cX8_written 115 = .ok (.iload 4, 2) := by decide +kernel
theorem dX8_written_117 : decode cX8_written 117 = .ok (.goto 4, 3) := by decide +kernel
theorem dX8_written_120 : decode cX8_written 120 = .ok (.iconst 0, 1) := by decide +kernel
theorem dX8_written_121 : decode cX8_written 121 = .ok (.isub, 1) := by decide +kernel
theorem dX8_written_122 : decode cX8_written 122 = .ok (.iastore, 1) := by decide +kernel
theorem dX8_written_123 : decode cX8_written 123 = .ok (.iload_n 1, 1) := by decide +kernel
theorem dX8_written_124 : decode cX8_written 124 = .ok (.ifCond .eq 8, 3) := by decide +kernel
theorem dX8_written_127 : decode cX8_written 127 = .ok (.iload 4, 2) := by decide +kernel
theorem dX8_written_129 : decode cX8_written 129 = .ok (.goto 4, 3) := by decide +kernel
theorem dX8_written_132 : decode cX8_written 132 = .ok (.iload_n 3, 1) := by decide +kernel
theorem dX8_written_133 : decode cX8_written 133 = .ok (.ireturn, 1) := by decide +kernel
theorem dX8_resetMinutes_0 : decode cX8_resetMinutes 0 = .ok (.aload_n 0, 1) := by decide +kernel
theorem dX8_resetMinutes_1 : decode cX8_resetMinutes 1 = .ok (.invokevirtual 118, 3) := by decide +kernel
theorem dX8_resetMinutes_4 : decode cX8_resetMinutes 4 = .ok (.aload_n 0, 1) := by decide +kernel
theorem dX8_resetMinutes_5 : decode cX8_resetMinutes 5 = .ok (.invokevirtual 121, 3) := by decide +kernel
theorem dX8_resetMinutes_8 : decode cX8_resetMinutes 8 = .ok (.iadd, 1) := by decide +kernel
theorem dX8_resetMinutes_9 : decode cX8_resetMinutes 9 = .ok (.aload_n 0, 1) := by decide +kernel
theorem dX8_resetMinutes_10 : decode cX8_resetMinutes 10 = .ok (.iconst 0, 1) := by decide +kernel
theorem dX8_resetMinutes_11 : decode cX8_resetMinutes 11 = .ok (.iconst 0, 1) := by decide +kernel
theorem dX8_resetMinutes_12 : decode cX8_resetMinutes 12 = .ok (.invokevirtual 186, 3) := by decide +kernel
theorem dX8_resetMinutes_15 : decode cX8_resetMinutes 15 = .ok (.iadd, 1) := by decide +kernel
theorem dX8_resetMinutes_16 : decode cX8_resetMinutes 16 = .ok (.ireturn, 1) := by decide +kernel
theorem dX8_reset_0 : decode cX8_reset 0 = .ok (.aload_n 0, 1) := by decide +kernel
theorem dX8_reset_1 : decode cX8_reset 1 = .ok (.invokevirtual 105, 3) := by decide +kernel
theorem dX8_reset_4 : decode cX8_reset 4 = .ok (.ifCond .eq 6, 3) := by decide +kernel
theorem dX8_reset_7 : decode cX8_reset 7 = .ok (.bipush (-4), 2) := by decide +kernel
theorem dX8_reset_9 : decode cX8_reset 9 = .ok (.ireturn, 1) := by decide +kernel
theorem dX8_reset_10 : decode cX8_reset 10 = .ok (.aload_n 0, 1) := by decide +kernel
theorem dX8_reset_11 : decode cX8_reset 11 = .ok (.invokevirtual 190, 3) := by decide +kernel
theorem dX8_reset_14 : decode cX8_reset 14 = .ok (.istore_n 1, 1) := by decide +kernel
theorem dX8_reset_15 : decode cX8_reset 15 = .ok (.iload_n 1, 1) := by decide +kernel
theorem dX8_reset_16 : decode cX8_reset 16 = .ok (.ifCond .ne 6, 3) := by decide +kernel
theorem dX8_reset_19 : decode cX8_reset 19 = .ok (.bipush (-5), 2) := by decide +kernel
theorem dX8_reset_21 : decode cX8_reset 21 = .ok (.ireturn, 1) := by decide +kernel
theorem dX8_reset_22 : decode cX8_reset 22 = .ok (.iconst 0, 1) := by decide +kernel
theorem dX8_reset_23 : decode cX8_reset 23 = .ok (.istore_n 2, 1) := by decide +kernel
theorem dX8_reset_24 : decode cX8_reset 24 = .ok (.iload_n 2, 1) := by decide +kernel
theorem dX8_reset_25 : decode cX8_reset 25 = .ok (.aload_n 0, 1) := by decide +kernel
theorem dX8_reset_26 : decode cX8_reset 26 = .ok (.getfield 7, 3) := by decide +kernel
theorem dX8_reset_29 : decode cX8_reset 29 = .ok (.iconst 1, 1) := by decide +kernel
theorem dX8_reset_30 : decode cX8_reset 30 = .ok (.iaload, 1) := by decide +kernel
theorem dX8_reset_31 : decode cX8_reset 31 = .ok (.if_icmp .ge 27, 3) := by decide +kernel
theorem dX8_reset_34 : decode cX8_reset 34 = .ok (.aload_n 0, 1) := by decide +kernel
theorem dX8_reset_35 : decode cX8_reset 35 = .ok (.getfield 7, 3) := by decide +kernel
theorem dX8_reset_38 : decode cX8_reset 38 = .ok (.bipush 104, 2) := by decide +kernel
theorem dX8_reset_40 : decode cX8_reset 40 = .ok (.iload_n 2, 1) := by decide +kernel
theorem dX8_reset_41 : decode cX8_reset 41 = .ok (.iadd, 1) := by decide +kernel
theorem dX8_reset_42 : decode cX8_reset 42 = .ok (.aload_n 0, 1) := by decide +kernel
theorem dX8_reset_43 : decode cX8_reset 43 = .ok (.getfield 7, 3) := by decide +kernel
theorem dX8_reset_46 : decode cX8_reset 46 = .ok (.bipush 80, 2) := by decide +kernel
theorem dX8_reset_48 : decode cX8_reset 48 = .ok (.iload_n 2, 1) := by decide +kernel
theorem dX8_reset_49 : decode cX8_reset 49 = .ok (.iadd, 1) := by decide +kernel
theorem dX8_reset_50 : decode cX8_reset 50 = .ok (.iaload, 1) := by decide +kernel
theorem dX8_reset_51 : decode cX8_reset 51 = .ok (.iastore, 1) := by decide +kernel
theorem dX8_reset_52 : decode cX8_reset 52 = .ok (.iinc 2 1, 3) := by decide +kernel
theorem dX8_reset_55 : decode cX8_reset 55 = .ok (.goto (-31), 3) := by decide +kernel
theorem dX8_reset_58 : decode cX8_reset 58 = .ok (.iconst 1, 1) := by decide +kernel
theorem dX8_reset_59 : decode cX8_reset 59 = .ok (.istore_n 2, 1) := by decide +kernel
theorem dX8_reset_60 : decode cX8_reset 60 = .ok (.iload_n 2, 1) := by decide +kernel
theorem dX8_reset_61 : decode cX8_reset 61 = .ok (.aload_n 0, 1) := by decide +kernel
theorem dX8_reset_62 : decode cX8_reset 62 = .ok (.getfield 7, 3) := by decide +kernel
theorem dX8_reset_65 : decode cX8_reset 65 = .ok (.iconst 0, 1) := by decide +kernel
theorem dX8_reset_66 : decode cX8_reset 66 = .ok (.iaload, 1) := by decide +kernel
theorem dX8_reset_67 : decode cX8_reset 67 = .ok (.if_icmp .ge 19, 3) := by decide +kernel
theorem dX8_reset_70 : decode cX8_reset 70 = .ok (.aload_n 0, 1) := by decide +kernel
theorem dX8_reset_71 : decode cX8_reset 71 = .ok (.getfield 7, 3) := by decide +kernel
theorem dX8_reset_74 : decode cX8_reset 74 = .ok (.bipush 56, 2) := by decide +kernel
theorem dX8_reset_76 : decode cX8_reset 76 = .ok (.iload_n 2, 1) := by decide +kernel
theorem dX8_reset_77 : decode cX8_reset 77 = .ok (.iadd, 1) := by decide +kernel
theorem dX8_reset_78 : decode cX8_reset 78 = .ok (.iconst 0, 1) := by decide +kernel
theorem dX8_reset_79 : decode cX8_reset 79 = .ok (.iastore, 1) := by decide +kernel
theorem dX8_reset_80 : decode cX8_reset 80 = .ok (.iinc 2 1, 3) := by decide +kernel
theorem dX8_reset_83 : decode cX8_reset 83 = .ok (.goto (-23), 3) := by decide +kernel
theorem dX8_reset_86 : decode cX8_reset 86 = .ok (.aload_n 0, 1) := by decide +kernel
theorem dX8_reset_87 : decode cX8_reset 87 = .ok (.iconst 0, 1) := by decide +kernel
theorem dX8_reset_88 : decode cX8_reset 88 = .ok (.iconst 1, 1) := by decide +kernel
theorem dX8_reset_89 : decode cX8_reset 89 = .ok (.invokevirtual 186, 3) := by decide +kernel
theorem dX8_reset_92 : decode cX8_reset 92 = .ok (.pop, 1) := by decide +kernel
theorem dX8_reset_93 : decode cX8_reset 93 = .ok (.aload_n 0, 1) := by decide +kernel
theorem dX8_reset_94 : decode cX8_reset 94 = .ok (.iload_n 1, 1) := by decide +kernel
theorem dX8_reset_95 : decode cX8_reset 95 = .ok (.invokevirtual 115, 3) := by decide +kernel
theorem dX8_reset_98 : decode cX8_reset 98 = .ok (.iload_n 1, 1) := by decide +kernel
theorem dX8_reset_99 : decode cX8_reset 99 = .ok (.ireturn, 1) := by decide +kernel
theorem dX8_propsIn_0 : decode cX8_propsIn 0 = .ok (.iconst 0, 1) := by decide +kernel
theorem dX8_propsIn_1 : decode cX8_propsIn 1 = .ok (.istore_n 2, 1) := by decide +kernel
theorem dX8_propsIn_2 : decode cX8_propsIn 2 = .ok (.iconst 0, 1) := by decide +kernel
theorem dX8_propsIn_3 : decode cX8_propsIn 3 = .ok (.istore_n 3, 1) := by decide +kernel
theorem dX8_propsIn_4 : decode cX8_propsIn 4 = .ok (.iload_n 3, 1) := by decide +kernel
theorem dX8_propsIn_5 : decode cX8_propsIn 5 = .ok (.aload_n 0, 1) := by decide +kernel
theorem dX8_propsIn_6 : decode cX8_propsIn 6 = .ok (.getfield 7, 3) := by decide +kernel
theorem dX8_propsIn_9 : decode cX8_propsIn 9 = .ok (.iconst 1, 1) := by decide +kernel
theorem dX8_propsIn_10 : decode cX8_propsIn 10 = .ok (.iaload, 1) := by decide +kernel
theorem dX8_propsIn_11 : decode cX8_propsIn 11 = .ok (.if_icmp .ge 30, 3) := by decide +kernel
theorem dX8_propsIn_14 : decode cX8_propsIn 14 = .ok (.iload_n 2, 1) := by decide +kernel
theorem dX8_propsIn_15 : decode cX8_propsIn 15 = .ok (.aload_n 0, 1) := by decide +kernel
theorem dX8_propsIn_16 : decode cX8_propsIn 16 = .ok (.getfield 7, 3) := by decide +kernel
theorem dX8_propsIn_19 : decode cX8_propsIn 19 = .ok (.bipush 104, 2) := by decide +kernel
theorem dX8_propsIn_21 : decode cX8_propsIn 21 = .ok (.iload_n 3, 1) := by decide +kernel
theorem dX8_propsIn_22 : decode cX8_propsIn 22 = .ok (.iadd, 1) := by decide +kernel
theorem dX8_propsIn_23 : decode cX8_propsIn 23 = .ok (.iaload, 1) := by decide +kernel
theorem dX8_propsIn_24 : decode cX8_propsIn 24 = .ok (.iload_n 1, 1) := by decide +kernel
theorem dX8_propsIn_25 : decode cX8_propsIn 25 = .ok (.if_icmp .ne 7, 3) := by decide +kernel
theorem dX8_propsIn_28 : decode cX8_propsIn 28 = .ok (.iconst 1, 1) := by decide +kernel
theorem dX8_propsIn_29 : decode cX8_propsIn 29 = .ok (.goto 4, 3) := by decide +kernel
theorem dX8_propsIn_32 : decode cX8_propsIn 32 = .ok (.iconst 0, 1) := by decide +kernel
theorem dX8_propsIn_33 : decode cX8_propsIn 33 = .ok (.iadd, 1) := by decide +kernel
theorem dX8_propsIn_34 : decode cX8_propsIn 34 = .ok (.istore_n 2, 1) := by decide +kernel
theorem dX8_propsIn_35 : decode cX8_propsIn 35 = .ok (.iinc 3 1, 3) := by decide +kernel
theorem dX8_propsIn_38 : decode cX8_propsIn 38 = .ok (.goto (-34), 3) := by decide +kernel
theorem dX8_propsIn_41 : decode cX8_propsIn 41 = .ok (.iload_n 2, 1) := by decide +kernel
theorem dX8_propsIn_42 : decode cX8_propsIn 42 = .ok (.ireturn, 1) := by decide +kernel
theorem dX8_boxesIn_0 : decode cX8_boxesIn 0 = .ok (.iconst 0, 1) := by decide +kernel
theorem dX8_boxesIn_1 : decode cX8_boxesIn 1 = .ok (.istore_n 2, 1) := by decide +kernel
theorem dX8_boxesIn_2 : decode cX8_boxesIn 2 = .ok (.iconst 1, 1) := by decide +kernel
theorem dX8_boxesIn_3 : decode cX8_boxesIn 3 = .ok (.istore_n 3, 1) := by decide +kernel
theorem dX8_boxesIn_4 : decode cX8_boxesIn 4 = .ok (.iload_n 3, 1) := by decide +kernel
theorem dX8_boxesIn_5 : decode cX8_boxesIn 5 = .ok (.aload_n 0, 1) := by decide +kernel
theorem dX8_boxesIn_6 : decode cX8_boxesIn 6 = .ok (.getfield 7, 3) := by decide +kernel
theorem dX8_boxesIn_9 : decode cX8_boxesIn 9 = .ok (.iconst 0, 1) := by decide +kernel
theorem dX8_boxesIn_10 : decode cX8_boxesIn 10 = .ok (.iaload, 1) := by decide +kernel
theorem dX8_boxesIn_11 : decode cX8_boxesIn 11 = .ok (.if_icmp .ge 30, 3) := by decide +kernel
theorem dX8_boxesIn_14 : decode cX8_boxesIn 14 = .ok (.iload_n 2, 1) := by decide +kernel
theorem dX8_boxesIn_15 : decode cX8_boxesIn 15 = .ok (.aload_n 0, 1) := by decide +kernel
theorem dX8_boxesIn_16 : decode cX8_boxesIn 16 = .ok (.getfield 7, 3) := by decide +kernel
theorem dX8_boxesIn_19 : decode cX8_boxesIn 19 = .ok (.bipush 20, 2) := by decide +kernel
theorem dX8_boxesIn_21 : decode cX8_boxesIn 21 = .ok (.iload_n 3, 1) := by decide +kernel
theorem dX8_boxesIn_22 : decode cX8_boxesIn 22 = .ok (.iadd, 1) := by decide +kernel
theorem dX8_boxesIn_23 : decode cX8_boxesIn 23 = .ok (.iaload, 1) := by decide +kernel
theorem dX8_boxesIn_24 : decode cX8_boxesIn 24 = .ok (.iload_n 1, 1) := by decide +kernel
theorem dX8_boxesIn_25 : decode cX8_boxesIn 25 = .ok (.if_icmp .ne 7, 3) := by decide +kernel
theorem dX8_boxesIn_28 : decode cX8_boxesIn 28 = .ok (.iconst 1, 1) := by decide +kernel
theorem dX8_boxesIn_29 : decode cX8_boxesIn 29 = .ok (.goto 4, 3) := by decide +kernel
theorem dX8_boxesIn_32 : decode cX8_boxesIn 32 = .ok (.iconst 0, 1) := by decide +kernel
theorem dX8_boxesIn_33 : decode cX8_boxesIn 33 = .ok (.iadd, 1) := by decide +kernel
theorem dX8_boxesIn_34 : decode cX8_boxesIn 34 = .ok (.istore_n 2, 1) := by decide +kernel
theorem dX8_boxesIn_35 : decode cX8_boxesIn 35 = .ok (.iinc 3 1, 3) := by decide +kernel
theorem dX8_boxesIn_38 : decode cX8_boxesIn 38 = .ok (.goto (-34), 3) := by decide +kernel
theorem dX8_boxesIn_41 : decode cX8_boxesIn 41 = .ok (.iload_n 2, 1) := by decide +kernel
theorem dX8_boxesIn_42 : decode cX8_boxesIn 42 = .ok (.ireturn, 1) := by decide +kernel
theorem dX8_box_0 : decode cX8_box 0 = .ok (.aload_n 0, 1) := by decide +kernel
theorem dX8_box_1 : decode cX8_box 1 = .ok (.iload_n 1, 1) := by decide +kernel
theorem dX8_box_2 : decode cX8_box 2 = .ok (.invokevirtual 99, 3) := by decide +kernel
theorem dX8_box_5 : decode cX8_box 5 = .ok (.ifCond .eq 5, 3) := by decide +kernel
theorem dX8_box_8 : decode cX8_box 8 = .ok (.iconst (-1), 1) := by decide +kernel
theorem dX8_box_9 : decode cX8_box 9 = .ok (.ireturn, 1) := by decide +kernel
theorem dX8_box_10 : decode cX8_box 10 = .ok (.iload_n 2, 1) := by decide +kernel
theorem dX8_box_11 : decode cX8_box 11 = .ok (.tableswitch 159 0 7 #[45, 64, 83, 93, 107, 113, 119, 138], 45) := by decide +kernel
theorem dX8_box_56 : decode cX8_box 56 = .ok (.iload_n 1, 1) := by decide +kernel
theorem dX8_box_57 : decode cX8_box 57 = .ok (.ifCond .ne 8, 3) := by decide +kernel
theorem dX8_box_60 : decode cX8_box 60 = .ok (.bipush (-5), 2) := by decide +kernel
theorem dX8_box_62 : decode cX8_box 62 = .ok (.goto 12, 3) := by decide +kernel
theorem dX8_box_65 : decode cX8_box 65 = .ok (.aload_n 0, 1) := by decide +kernel
theorem dX8_box_66 : decode cX8_box 66 = .ok (.getfield 7, 3) := by decide +kernel
theorem dX8_box_69 : decode cX8_box 69 = .ok (.bipush 20, 2) := by decide +kernel
theorem dX8_box_71 : decode cX8_box 71 = .ok (.iload_n 1, 1) := by decide +kernel
theorem dX8_box_72 : decode cX8_box 72 = .ok (.iadd, 1) := by decide +kernel
theorem dX8_box_73 : decode cX8_box 73 = .ok (.iaload, 1) := by decide +kernel
theorem dX8_box_74 : decode cX8_box 74 = .ok (.ireturn, 1) := by decide +kernel
theorem dX8_box_75 : decode cX8_box 75 = .ok (.iload_n 1, 1) := by decide +kernel
theorem dX8_box_76 : decode cX8_box 76 = .ok (.ifCond .ne 8, 3) := by decide +kernel
theorem dX8_box_79 : decode cX8_box 79 = .ok (.bipush (-5), 2) := by decide +kernel
theorem dX8_box_81 : decode cX8_box 81 = .ok (.goto 12, 3) := by decide +kernel
theorem dX8_box_84 : decode cX8_box 84 = .ok (.aload_n 0, 1) := by decide +kernel
theorem dX8_box_85 : decode cX8_box 85 = .ok (.getfield 7, 3) := by decide +kernel
theorem dX8_box_88 : decode cX8_box 88 = .ok (.bipush 32, 2) := by decide +kernel
theorem dX8_box_90 : decode cX8_box 90 = .ok (.iload_n 1, 1) := by decide +kernel
theorem dX8_box_91 : decode cX8_box 91 = .ok (.iadd, 1) := by decide +kernel
theorem dX8_box_92 : decode cX8_box 92 = .ok (.iaload, 1) := by decide +kernel
theorem dX8_box_93 : decode cX8_box 93 = .ok (.ireturn, 1) := by decide +kernel
theorem dX8_box_94 : decode cX8_box 94 = .ok (.aload_n 0, 1) := by decide +kernel
theorem dX8_box_95 : decode cX8_box 95 = .ok (.getfield 7, 3) := by decide +kernel
theorem dX8_box_98 : decode cX8_box 98 = .ok (.bipush 56, 2) := by decide +kernel
theorem dX8_box_100 : decode cX8_box 100 = .ok (.iload_n 1, 1) := by decide +kernel
theorem dX8_box_101 : decode cX8_box 101 = .ok (.iadd, 1) := by decide +kernel
theorem dX8_box_102 : decode cX8_box 102 = .ok (.iaload, 1) := by decide +kernel
theorem dX8_box_103 : decode cX8_box 103 = .ok (.ireturn, 1) := by decide +kernel
theorem dX8_box_104 : decode cX8_box 104 = .ok (.aload_n 0, 1) := by decide +kernel
theorem dX8_box_105 : decode cX8_box 105 = .ok (.iload_n 1, 1) := by decide +kernel
theorem dX8_box_106 : decode cX8_box 106 = .ok (.invokevirtual 143, 3) := by decide +kernel
theorem dX8_box_109 : decode cX8_box 109 = .ok (.ifCond .eq 7, 3) := by decide +kernel
theorem dX8_box_112 : decode cX8_box 112 = .ok (.iconst 1, 1) := by decide +kernel
theorem dX8_box_113 : decode cX8_box 113 = .ok (.goto 4, 3) := by decide +kernel
theorem dX8_box_116 : decode cX8_box 116 = .ok (.iconst 0, 1) := by decide +kernel
theorem dX8_box_117 : decode cX8_box 117 = .ok (.ireturn, 1) := by decide +kernel
theorem dX8_box_118 : decode cX8_box 118 = .ok (.aload_n 0, 1) := by decide +kernel
theorem dX8_box_119 : decode cX8_box 119 = .ok (.iload_n 1, 1) := by decide +kernel
theorem dX8_box_120 : decode cX8_box 120 = .ok (.invokevirtual 193, 3) := by decide +kernel
theorem dX8_box_123 : decode cX8_box 123 = .ok (.ireturn, 1) := by decide +kernel
theorem dX8_box_124 : decode cX8_box 124 = .ok (.aload_n 0, 1) := by decide +kernel
theorem dX8_box_125 : decode cX8_box 125 = .ok (.iload_n 1, 1) := by decide +kernel
theorem dX8_box_126 : decode cX8_box 126 = .ok (.invokevirtual 196, 3) := by decide +kernel
theorem dX8_box_129 : decode cX8_box 129 = .ok (.ireturn, 1) := by decide +kernel
theorem dX8_box_130 : decode cX8_box 130 = .ok (.iload_n 1, 1) := by decide +kernel
theorem dX8_box_131 : decode cX8_box 131 = .ok (.ifCond .ne 8, 3) := by decide +kernel
theorem dX8_box_134 : decode cX8_box 134 = .ok (.bipush (-5), 2) := by decide +kernel
theorem dX8_box_136 : decode cX8_box 136 = .ok (.goto 12, 3) := by decide +kernel
theorem dX8_box_139 : decode cX8_box 139 = .ok (.aload_n 0, 1) := by decide +kernel
theorem dX8_box_140 : decode cX8_box 140 = .ok (.getfield 7, 3) := by decide +kernel
theorem dX8_box_143 : decode cX8_box 143 = .ok (.bipush 44, 2) := by decide +kernel
theorem dX8_box_145 : decode cX8_box 145 = .ok (.iload_n 1, 1) := by decide +kernel
theorem dX8_box_146 : decode cX8_box 146 = .ok (.iadd, 1) := by decide +kernel
theorem dX8_box_147 : decode cX8_box 147 = .ok (.iaload, 1) := by decide +kernel
theorem dX8_box_148 : decode cX8_box 148 = .ok (.ireturn, 1) := by decide +kernel
theorem dX8_box_149 : decode cX8_box 149 = .ok (.aload_n 0, 1) := by decide +kernel
theorem dX8_box_150 : decode cX8_box 150 = .ok (.invokevirtual 105, 3) := by decide +kernel
theorem dX8_box_153 : decode cX8_box 153 = .ok (.ifCond .eq 15, 3) := by decide +kernel
theorem dX8_box_156 : decode cX8_box 156 = .ok (.aload_n 0, 1) := by decide +kernel
theorem dX8_box_157 : decode cX8_box 157 = .ok (.getfield 7, 3) := by decide +kernel
theorem dX8_box_160 : decode cX8_box 160 = .ok (.bipush 68, 2) := by decide +kernel
theorem dX8_box_162 : decode cX8_box 162 = .ok (.iload_n 1, 1) := by decide +kernel
theorem dX8_box_163 : decode cX8_box 163 = .ok (.iadd, 1) := by decide +kernel
theorem dX8_box_164 : decode cX8_box 164 = .ok (.iaload, 1) := by decide +kernel
theorem dX8_box_165 : decode cX8_box 165 = .ok (.goto 4, 3) := by decide +kernel
theorem dX8_box_168 : decode cX8_box 168 = .ok (.iconst 0, 1) := by decide +kernel
theorem dX8_box_169 : decode cX8_box 169 = .ok (.ireturn, 1) := by decide +kernel
theorem dX8_box_170 : decode cX8_box 170 = .ok (.bipush (-2), 2) := by decide +kernel
theorem dX8_box_172 : decode cX8_box 172 = .ok (.ireturn, 1) := by decide +kernel
theorem dX8_cluesOn_0 : decode cX8_cluesOn 0 = .ok (.iconst 0, 1) := by decide +kernel
theorem dX8_cluesOn_1 : decode cX8_cluesOn 1 = .ok (.istore_n 2, 1) := by decide +kernel
theorem dX8_cluesOn_2 : decode cX8_cluesOn 2 = .ok (.iconst 0, 1) := by decide +kernel
theorem dX8_cluesOn_3 : decode cX8_cluesOn 3 = .ok (.istore_n 3, 1) := by decide +kernel
theorem dX8_cluesOn_4 : decode cX8_cluesOn 4 = .ok (.iload_n 3, 1) := by decide +kernel
theorem dX8_cluesOn_5 : decode cX8_cluesOn 5 = .ok (.aload_n 0, 1) := by decide +kernel
theorem dX8_cluesOn_6 : decode cX8_cluesOn 6 = .ok (.getfield 7, 3) := by decide +kernel
theorem dX8_cluesOn_9 : decode cX8_cluesOn 9 = .ok (.iconst 2, 1) := by decide +kernel
theorem dX8_cluesOn_10 : decode cX8_cluesOn 10 = .ok (.iaload, 1) := by decide +kernel
