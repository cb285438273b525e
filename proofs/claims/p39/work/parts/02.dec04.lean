theorem dX5_lowestUnknownPlace_20 : decode cX5_lowestUnknownPlace 20 = .ok (.if_icmp .ne 9, 3) := by decide +kernel
theorem dX5_lowestUnknownPlace_23 : decode cX5_lowestUnknownPlace 23 = .ok (.iinc 2 1, 3) := by decide +kernel
theorem dX5_lowestUnknownPlace_26 : decode cX5_lowestUnknownPlace 26 = .ok (.goto (-24), 3) := by decide +kernel
theorem dX5_lowestUnknownPlace_29 : decode cX5_lowestUnknownPlace 29 = .ok (.iload_n 2, 1) := by decide +kernel
theorem dX5_lowestUnknownPlace_30 : decode cX5_lowestUnknownPlace 30 = .ok (.ireturn, 1) := by decide +kernel
theorem dX5_minutesToExit_0 : decode cX5_minutesToExit 0 = .ok (.iconst 0, 1) := by decide +kernel
theorem dX5_minutesToExit_1 : decode cX5_minutesToExit 1 = .ok (.istore_n 1, 1) := by decide +kernel
theorem dX5_minutesToExit_2 : decode cX5_minutesToExit 2 = .ok (.iconst 0, 1) := by decide +kernel
theorem dX5_minutesToExit_3 : decode cX5_minutesToExit 3 = .ok (.istore_n 2, 1) := by decide +kernel
theorem dX5_minutesToExit_4 : decode cX5_minutesToExit 4 = .ok (.iload_n 2, 1) := by decide +kernel
theorem dX5_minutesToExit_5 : decode cX5_minutesToExit 5 = .ok (.sipush 1000, 3) := by decide +kernel
theorem dX5_minutesToExit_8 : decode cX5_minutesToExit 8 = .ok (.if_icmp .ge 58, 3) := by decide +kernel
theorem dX5_minutesToExit_11 : decode cX5_minutesToExit 11 = .ok (.aload_n 0, 1) := by decide +kernel
theorem dX5_minutesToExit_12 : decode cX5_minutesToExit 12 = .ok (.aload_n 0, 1) := by decide +kernel
theorem dX5_minutesToExit_13 : decode cX5_minutesToExit 13 = .ok (.getfield 63, 3) := by decide +kernel
theorem dX5_minutesToExit_16 : decode cX5_minutesToExit 16 = .ok (.invokevirtual 77, 3) := by decide +kernel
theorem dX5_minutesToExit_19 : decode cX5_minutesToExit 19 = .ok (.ifCond .ne 47, 3) := by decide +kernel
theorem dX5_minutesToExit_22 : decode cX5_minutesToExit 22 = .ok (.aload_n 0, 1) := by decide +kernel
theorem dX5_minutesToExit_23 : decode cX5_minutesToExit 23 = .ok (.aload_n 0, 1) := by decide +kernel
theorem dX5_minutesToExit_24 : decode cX5_minutesToExit 24 = .ok (.getfield 63, 3) := by decide +kernel
theorem dX5_minutesToExit_27 : decode cX5_minutesToExit 27 = .ok (.invokevirtual 132, 3) := by decide +kernel
theorem dX5_minutesToExit_30 : decode cX5_minutesToExit 30 = .ok (.istore_n 3, 1) := by decide +kernel
theorem dX5_minutesToExit_31 : decode cX5_minutesToExit 31 = .ok (.iload_n 3, 1) := by decide +kernel
theorem dX5_minutesToExit_32 : decode cX5_minutesToExit 32 = .ok (.bipush (-5), 2) := by decide +kernel
theorem dX5_minutesToExit_34 : decode cX5_minutesToExit 34 = .ok (.if_icmp .ne 6, 3) := by decide +kernel
theorem dX5_minutesToExit_37 : decode cX5_minutesToExit 37 = .ok (.bipush (-5), 2) := by decide +kernel
theorem dX5_minutesToExit_39 : decode cX5_minutesToExit 39 = .ok (.ireturn, 1) := by decide +kernel
theorem dX5_minutesToExit_40 : decode cX5_minutesToExit 40 = .ok (.iload_n 1, 1) := by decide +kernel
theorem dX5_minutesToExit_41 : decode cX5_minutesToExit 41 = .ok (.aload_n 0, 1) := by decide +kernel
theorem dX5_minutesToExit_42 : decode cX5_minutesToExit 42 = .ok (.iload_n 3, 1) := by decide +kernel
theorem dX5_minutesToExit_43 : decode cX5_minutesToExit 43 = .ok (.invokestatic 135, 3) := by decide +kernel
theorem dX5_minutesToExit_46 : decode cX5_minutesToExit 46 = .ok (.iload_n 3, 1) := by decide +kernel
theorem dX5_minutesToExit_47 : decode cX5_minutesToExit 47 = .ok (.bipush 100, 2) := by decide +kernel
theorem dX5_minutesToExit_49 : decode cX5_minutesToExit 49 = .ok (.irem, 1) := by decide +kernel
theorem dX5_minutesToExit_50 : decode cX5_minutesToExit 50 = .ok (.iload_n 3, 1) := by decide +kernel
theorem dX5_minutesToExit_51 : decode cX5_minutesToExit 51 = .ok (.sipush 1000, 3) := by decide +kernel
theorem dX5_minutesToExit_54 : decode cX5_minutesToExit 54 = .ok (.idiv, 1) := by decide +kernel
theorem dX5_minutesToExit_55 : decode cX5_minutesToExit 55 = .ok (.invokevirtual 138, 3) := by decide +kernel
theorem dX5_minutesToExit_58 : decode cX5_minutesToExit 58 = .ok (.iadd, 1) := by decide +kernel
theorem dX5_minutesToExit_59 : decode cX5_minutesToExit 59 = .ok (.istore_n 1, 1) := by decide +kernel
theorem dX5_minutesToExit_60 : decode cX5_minutesToExit 60 = .ok (.iinc 2 1, 3) := by decide +kernel
theorem dX5_minutesToExit_63 : decode cX5_minutesToExit 63 = .ok (.goto (-59), 3) := by decide +kernel
theorem dX5_minutesToExit_66 : decode cX5_minutesToExit 66 = .ok (.aload_n 0, 1) := by decide +kernel
theorem dX5_minutesToExit_67 : decode cX5_minutesToExit 67 = .ok (.aload_n 0, 1) := by decide +kernel
theorem dX5_minutesToExit_68 : decode cX5_minutesToExit 68 = .ok (.getfield 63, 3) := by decide +kernel
theorem dX5_minutesToExit_71 : decode cX5_minutesToExit 71 = .ok (.invokevirtual 77, 3) := by decide +kernel
theorem dX5_minutesToExit_74 : decode cX5_minutesToExit 74 = .ok (.ifCond .eq 7, 3) := by decide +kernel
theorem dX5_minutesToExit_77 : decode cX5_minutesToExit 77 = .ok (.iload_n 1, 1) := by decide +kernel
theorem dX5_minutesToExit_78 : decode cX5_minutesToExit 78 = .ok (.goto 5, 3) := by decide +kernel
theorem dX5_minutesToExit_81 : decode cX5_minutesToExit 81 = .ok (.bipush (-5), 2) := by decide +kernel
theorem dX5_minutesToExit_83 : decode cX5_minutesToExit 83 = .ok (.ireturn, 1) := by decide +kernel
theorem dX5_follow_0 : decode cX5_follow 0 = .ok (.iload_n 1, 1) := by decide +kernel
theorem dX5_follow_1 : decode cX5_follow 1 = .ok (.lookupswitch 112 #[(100, 43), (200, 61), (300, 79), (400, 97)], 43) := by decide +kernel
theorem dX5_follow_44 : decode cX5_follow 44 = .ok (.aload_n 0, 1) := by decide +kernel
theorem dX5_follow_45 : decode cX5_follow 45 = .ok (.getfield 30, 3) := by decide +kernel
theorem dX5_follow_48 : decode cX5_follow 48 = .ok (.iload_n 2, 1) := by decide +kernel
theorem dX5_follow_49 : decode cX5_follow 49 = .ok (.iconst (-1), 1) := by decide +kernel
theorem dX5_follow_50 : decode cX5_follow 50 = .ok (.invokestatic 49, 3) := by decide +kernel
theorem dX5_follow_53 : decode cX5_follow 53 = .ok (.iconst 3, 1) := by decide +kernel
theorem dX5_follow_54 : decode cX5_follow 54 = .ok (.aload_n 0, 1) := by decide +kernel
theorem dX5_follow_55 : decode cX5_follow 55 = .ok (.getfield 66, 3) := by decide +kernel
theorem dX5_follow_58 : decode cX5_follow 58 = .ok (.invokestatic 106, 3) := by decide +kernel
theorem dX5_follow_61 : decode cX5_follow 61 = .ok (.ireturn, 1) := by decide +kernel
theorem dX5_follow_62 : decode cX5_follow 62 = .ok (.aload_n 0, 1) := by decide +kernel
theorem dX5_follow_63 : decode cX5_follow 63 = .ok (.getfield 30, 3) := by decide +kernel
theorem dX5_follow_66 : decode cX5_follow 66 = .ok (.iload_n 2, 1) := by decide +kernel
theorem dX5_follow_67 : decode cX5_follow 67 = .ok (.iload_n 3, 1) := by decide +kernel
theorem dX5_follow_68 : decode cX5_follow 68 = .ok (.invokestatic 49, 3) := by decide +kernel
theorem dX5_follow_71 : decode cX5_follow 71 = .ok (.iconst 2, 1) := by decide +kernel
theorem dX5_follow_72 : decode cX5_follow 72 = .ok (.aload_n 0, 1) := by decide +kernel
theorem dX5_follow_73 : decode cX5_follow 73 = .ok (.getfield 66, 3) := by decide +kernel
theorem dX5_follow_76 : decode cX5_follow 76 = .ok (.invokestatic 106, 3) := by decide +kernel
theorem dX5_follow_79 : decode cX5_follow 79 = .ok (.ireturn, 1) := by decide +kernel
theorem dX5_follow_80 : decode cX5_follow 80 = .ok (.aload_n 0, 1) := by decide +kernel
theorem dX5_follow_81 : decode cX5_follow 81 = .ok (.getfield 21, 3) := by decide +kernel
theorem dX5_follow_84 : decode cX5_follow 84 = .ok (.iload_n 2, 1) := by decide +kernel
theorem dX5_follow_85 : decode cX5_follow 85 = .ok (.iconst 1, 1) := by decide +kernel
theorem dX5_follow_86 : decode cX5_follow 86 = .ok (.invokestatic 49, 3) := by decide +kernel
theorem dX5_follow_89 : decode cX5_follow 89 = .ok (.iconst 4, 1) := by decide +kernel
theorem dX5_follow_90 : decode cX5_follow 90 = .ok (.aload_n 0, 1) := by decide +kernel
theorem dX5_follow_91 : decode cX5_follow 91 = .ok (.getfield 66, 3) := by decide +kernel
theorem dX5_follow_94 : decode cX5_follow 94 = .ok (.invokestatic 106, 3) := by decide +kernel
theorem dX5_follow_97 : decode cX5_follow 97 = .ok (.ireturn, 1) := by decide +kernel
theorem dX5_follow_98 : decode cX5_follow 98 = .ok (.aload_n 0, 1) := by decide +kernel
theorem dX5_follow_99 : decode cX5_follow 99 = .ok (.iload_n 2, 1) := by decide +kernel
theorem dX5_follow_100 : decode cX5_follow 100 = .ok (.invokevirtual 142, 3) := by decide +kernel
theorem dX5_follow_103 : decode cX5_follow 103 = .ok (.istore 4, 2) := by decide +kernel
theorem dX5_follow_105 : decode cX5_follow 105 = .ok (.aload_n 0, 1) := by decide +kernel
theorem dX5_follow_106 : decode cX5_follow 106 = .ok (.iload_n 2, 1) := by decide +kernel
theorem dX5_follow_107 : decode cX5_follow 107 = .ok (.invokevirtual 145, 3) := by decide +kernel
theorem dX5_follow_110 : decode cX5_follow 110 = .ok (.iload 4, 2) := by decide +kernel
theorem dX5_follow_112 : decode cX5_follow 112 = .ok (.ireturn, 1) := by decide +kernel
theorem dX5_follow_113 : decode cX5_follow 113 = .ok (.aload_n 0, 1) := by decide +kernel
theorem dX5_follow_114 : decode cX5_follow 114 = .ok (.iload_n 3, 1) := by decide +kernel
theorem dX5_follow_115 : decode cX5_follow 115 = .ok (.iload_n 2, 1) := by decide +kernel
theorem dX5_follow_116 : decode cX5_follow 116 = .ok (.invokevirtual 109, 3) := by decide +kernel
theorem dX5_follow_119 : decode cX5_follow 119 = .ok (.iconst 2, 1) := by decide +kernel
theorem dX5_follow_120 : decode cX5_follow 120 = .ok (.ireturn, 1) := by decide +kernel
