theorem dX0_init_0 : decode cX0_init 0 = .ok (.aload_n 0, 1) := by decide +kernel
theorem dX0_init_1 : decode cX0_init 1 = .ok (.invokespecial 3, 3) := by decide +kernel
theorem dX0_init_4 : decode cX0_init 4 = .ok (.aload_n 0, 1) := by decide +kernel
theorem dX0_init_5 : decode cX0_init 5 = .ok (.bipush 20, 2) := by decide +kernel
theorem dX0_init_7 : decode cX0_init 7 = .ok (.newarray .int, 2) := by decide +kernel
theorem dX0_init_9 : decode cX0_init 9 = .ok (.putfield 9, 3) := by decide +kernel
theorem dX0_init_12 : decode cX0_init 12 = .ok (.return_, 1) := by decide +kernel
theorem dX0_findFault_0 : decode cX0_findFault 0 = .ok (.aload_n 0, 1) := by decide +kernel
theorem dX0_findFault_1 : decode cX0_findFault 1 = .ok (.iconst 0, 1) := by decide +kernel
theorem dX0_findFault_2 : decode cX0_findFault 2 = .ok (.putfield 15, 3) := by decide +kernel
theorem dX0_findFault_5 : decode cX0_findFault 5 = .ok (.aload_n 0, 1) := by decide +kernel
theorem dX0_findFault_6 : decode cX0_findFault 6 = .ok (.iconst 1, 1) := by decide +kernel
theorem dX0_findFault_7 : decode cX0_findFault 7 = .ok (.iconst 2, 1) := by decide +kernel
theorem dX0_findFault_8 : decode cX0_findFault 8 = .ok (.invokevirtual 19, 3) := by decide +kernel
theorem dX0_findFault_11 : decode cX0_findFault 11 = .ok (.ifCond .ne 8, 3) := by decide +kernel
theorem dX0_findFault_14 : decode cX0_findFault 14 = .ok (.aload_n 0, 1) := by decide +kernel
theorem dX0_findFault_15 : decode cX0_findFault 15 = .ok (.getfield 15, 3) := by decide +kernel
theorem dX0_findFault_18 : decode cX0_findFault 18 = .ok (.ireturn, 1) := by decide +kernel
theorem dX0_findFault_19 : decode cX0_findFault 19 = .ok (.aload_n 0, 1) := by decide +kernel
theorem dX0_findFault_20 : decode cX0_findFault 20 = .ok (.aload_n 0, 1) := by decide +kernel
theorem dX0_findFault_21 : decode cX0_findFault 21 = .ok (.getfield 23, 3) := by decide +kernel
theorem dX0_findFault_24 : decode cX0_findFault 24 = .ok (.putfield 26, 3) := by decide +kernel
theorem dX0_findFault_27 : decode cX0_findFault 27 = .ok (.aload_n 0, 1) := by decide +kernel
theorem dX0_findFault_28 : decode cX0_findFault 28 = .ok (.iconst 0, 1) := by decide +kernel
theorem dX0_findFault_29 : decode cX0_findFault 29 = .ok (.putfield 23, 3) := by decide +kernel
theorem dX0_findFault_32 : decode cX0_findFault 32 = .ok (.aload_n 0, 1) := by decide +kernel
theorem dX0_findFault_33 : decode cX0_findFault 33 = .ok (.ldc 29, 2) := by decide +kernel
theorem dX0_findFault_35 : decode cX0_findFault 35 = .ok (.invokevirtual 31, 3) := by decide +kernel
theorem dX0_findFault_38 : decode cX0_findFault 38 = .ok (.ifCond .eq 21, 3) := by decide +kernel
theorem dX0_findFault_41 : decode cX0_findFault 41 = .ok (.aload_n 0, 1) := by decide +kernel
theorem dX0_findFault_42 : decode cX0_findFault 42 = .ok (.invokevirtual 35, 3) := by decide +kernel
theorem dX0_findFault_45 : decode cX0_findFault 45 = .ok (.ifCond .eq 14, 3) := by decide +kernel
theorem dX0_findFault_48 : decode cX0_findFault 48 = .ok (.aload_n 0, 1) := by decide +kernel
theorem dX0_findFault_49 : decode cX0_findFault 49 = .ok (.getfield 15, 3) := by decide +kernel
theorem dX0_findFault_52 : decode cX0_findFault 52 = .ok (.aload_n 0, 1) := by decide +kernel
theorem dX0_findFault_53 : decode cX0_findFault 53 = .ok (.getfield 39, 3) := by decide +kernel
theorem dX0_findFault_56 : decode cX0_findFault 56 = .ok (.if_icmp .eq 8, 3) := by decide +kernel
theorem dX0_findFault_59 : decode cX0_findFault 59 = .ok (.aload_n 0, 1) := by decide +kernel
theorem dX0_findFault_60 : decode cX0_findFault 60 = .ok (.getfield 15, 3) := by decide +kernel
theorem dX0_findFault_63 : decode cX0_findFault 63 = .ok (.ireturn, 1) := by decide +kernel
theorem dX0_findFault_64 : decode cX0_findFault 64 = .ok (.aload_n 0, 1) := by decide +kernel
theorem dX0_findFault_65 : decode cX0_findFault 65 = .ok (.aload_n 0, 1) := by decide +kernel
theorem dX0_findFault_66 : decode cX0_findFault 66 = .ok (.getfield 23, 3) := by decide +kernel
theorem dX0_findFault_69 : decode cX0_findFault 69 = .ok (.putfield 42, 3) := by decide +kernel
theorem dX0_findFault_72 : decode cX0_findFault 72 = .ok (.iconst (-1), 1) := by decide +kernel
theorem dX0_findFault_73 : decode cX0_findFault 73 = .ok (.ireturn, 1) := by decide +kernel
theorem dX0_matchesLock_0 : decode cX0_matchesLock 0 = .ok (.aload_n 0, 1) := by decide +kernel
theorem dX0_matchesLock_1 : decode cX0_matchesLock 1 = .ok (.invokevirtual 45, 3) := by decide +kernel
theorem dX0_matchesLock_4 : decode cX0_matchesLock 4 = .ok (.lookupswitch 143 #[(99, 85), (107, 56), (108, 44), (112, 114)], 44) := by decide +kernel
theorem dX0_matchesLock_48 : decode cX0_matchesLock 48 = .ok (.aload_n 0, 1) := by decide +kernel
theorem dX0_matchesLock_49 : decode cX0_matchesLock 49 = .ok (.iconst 0, 1) := by decide +kernel
theorem dX0_matchesLock_50 : decode cX0_matchesLock 50 = .ok (.putfield 49, 3) := by decide +kernel
theorem dX0_matchesLock_53 : decode cX0_matchesLock 53 = .ok (.aload_n 0, 1) := by decide +kernel
theorem dX0_matchesLock_54 : decode cX0_matchesLock 54 = .ok (.ldc 52, 2) := by decide +kernel
theorem dX0_matchesLock_56 : decode cX0_matchesLock 56 = .ok (.invokevirtual 31, 3) := by decide +kernel
theorem dX0_matchesLock_59 : decode cX0_matchesLock 59 = .ok (.ireturn, 1) := by decide +kernel
theorem dX0_matchesLock_60 : decode cX0_matchesLock 60 = .ok (.aload_n 0, 1) := by decide +kernel
theorem dX0_matchesLock_61 : decode cX0_matchesLock 61 = .ok (.iconst 1, 1) := by decide +kernel
theorem dX0_matchesLock_62 : decode cX0_matchesLock 62 = .ok (.putfield 49, 3) := by decide +kernel
theorem dX0_matchesLock_65 : decode cX0_matchesLock 65 = .ok (.aload_n 0, 1) := by decide +kernel
theorem dX0_matchesLock_66 : decode cX0_matchesLock 66 = .ok (.ldc 54, 2) := by decide +kernel
theorem dX0_matchesLock_68 : decode cX0_matchesLock 68 = .ok (.invokevirtual 31, 3) := by decide +kernel
theorem dX0_matchesLock_71 : decode cX0_matchesLock 71 = .ok (.ifCond .eq 16, 3) := by decide +kernel
theorem dX0_matchesLock_74 : decode cX0_matchesLock 74 = .ok (.aload_n 0, 1) := by decide +kernel
theorem dX0_matchesLock_75 : decode cX0_matchesLock 75 = .ok (.iconst 1, 1) := by decide +kernel
theorem dX0_matchesLock_76 : decode cX0_matchesLock 76 = .ok (.iconst 2, 1) := by decide +kernel
theorem dX0_matchesLock_77 : decode cX0_matchesLock 77 = .ok (.invokevirtual 19, 3) := by decide +kernel
theorem dX0_matchesLock_80 : decode cX0_matchesLock 80 = .ok (.ifCond .eq 7, 3) := by decide +kernel
theorem dX0_matchesLock_83 : decode cX0_matchesLock 83 = .ok (.iconst 1, 1) := by decide +kernel
theorem dX0_matchesLock_84 : decode cX0_matchesLock 84 = .ok (.goto 4, 3) := by decide +kernel
theorem dX0_matchesLock_87 : decode cX0_matchesLock 87 = .ok (.iconst 0, 1) := by decide +kernel
theorem dX0_matchesLock_88 : decode cX0_matchesLock 88 = .ok (.ireturn, 1) := by decide +kernel
theorem dX0_matchesLock_89 : decode cX0_matchesLock 89 = .ok (.aload_n 0, 1) := by decide +kernel
theorem dX0_matchesLock_90 : decode cX0_matchesLock 90 = .ok (.iconst 2, 1) := by decide +kernel
theorem dX0_matchesLock_91 : decode cX0_matchesLock 91 = .ok (.putfield 49, 3) := by decide +kernel
theorem dX0_matchesLock_94 : decode cX0_matchesLock 94 = .ok (.aload_n 0, 1) := by decide +kernel
theorem dX0_matchesLock_95 : decode cX0_matchesLock 95 = .ok (.ldc 56, 2) := by decide +kernel
theorem dX0_matchesLock_97 : decode cX0_matchesLock 97 = .ok (.invokevirtual 31, 3) := by decide +kernel
theorem dX0_matchesLock_100 : decode cX0_matchesLock 100 = .ok (.ifCond .eq 16, 3) := by decide +kernel
theorem dX0_matchesLock_103 : decode cX0_matchesLock 103 = .ok (.aload_n 0, 1) := by decide +kernel
theorem dX0_matchesLock_104 : decode cX0_matchesLock 104 = .ok (.iconst 4, 1) := by decide +kernel
theorem dX0_matchesLock_105 : decode cX0_matchesLock 105 = .ok (.iconst 4, 1) := by decide +kernel
theorem dX0_matchesLock_106 : decode cX0_matchesLock 106 = .ok (.invokevirtual 19, 3) := by decide +kernel
theorem dX0_matchesLock_109 : decode cX0_matchesLock 109 = .ok (.ifCond .eq 7, 3) := by decide +kernel
theorem dX0_matchesLock_112 : decode cX0_matchesLock 112 = .ok (.iconst 1, 1) := by decide +kernel
theorem dX0_matchesLock_113 : decode cX0_matchesLock 113 = .ok (.goto 4, 3) := by decide +kernel
theorem dX0_matchesLock_116 : decode cX0_matchesLock 116 = .ok (.iconst 0, 1) := by decide +kernel
theorem dX0_matchesLock_117 : decode cX0_matchesLock 117 = .ok (.ireturn, 1) := by decide +kernel
theorem dX0_matchesLock_118 : decode cX0_matchesLock 118 = .ok (.aload_n 0, 1) := by decide +kernel
theorem dX0_matchesLock_119 : decode cX0_matchesLock 119 = .ok (.iconst 3, 1) := by decide +kernel
theorem dX0_matchesLock_120 : decode cX0_matchesLock 120 = .ok (.putfield 49, 3) := by decide +kernel
theorem dX0_matchesLock_123 : decode cX0_matchesLock 123 = .ok (.aload_n 0, 1) := by decide +kernel
theorem dX0_matchesLock_124 : decode cX0_matchesLock 124 = .ok (.ldc 58, 2) := by decide +kernel
theorem dX0_matchesLock_126 : decode cX0_matchesLock 126 = .ok (.invokevirtual 31, 3) := by decide +kernel
theorem dX0_matchesLock_129 : decode cX0_matchesLock 129 = .ok (.ifCond .eq 16, 3) := by decide +kernel
theorem dX0_matchesLock_132 : decode cX0_matchesLock 132 = .ok (.aload_n 0, 1) := by decide +kernel
theorem dX0_matchesLock_133 : decode cX0_matchesLock 133 = .ok (.iconst 1, 1) := by decide +kernel
theorem dX0_matchesLock_134 : decode cX0_matchesLock 134 = .ok (.iconst 2, 1) := by decide +kernel
theorem dX0_matchesLock_135 : decode cX0_matchesLock 135 = .ok (.invokevirtual 19, 3) := by decide +kernel
theorem dX0_matchesLock_138 : decode cX0_matchesLock 138 = .ok (.ifCond .eq 7, 3) := by decide +kernel
theorem dX0_matchesLock_141 : decode cX0_matchesLock 141 = .ok (.iconst 1, 1) := by decide +kernel
theorem dX0_matchesLock_142 : decode cX0_matchesLock 142 = .ok (.goto 4, 3) := by decide +kernel
theorem dX0_matchesLock_145 : decode cX0_matchesLock 145 = .ok (.iconst 0, 1) := by decide +kernel
theorem dX0_matchesLock_146 : decode cX0_matchesLock 146 = .ok (.ireturn, 1) := by decide +kernel
theorem dX0_matchesLock_147 : decode cX0_matchesLock 147 = .ok (.iconst 0, 1) := by decide +kernel
theorem dX0_matchesLock_148 : decode cX0_matchesLock 148 = .ok (.ireturn, 1) := by decide +kernel
theorem dX0_matchesDigits_0 : decode cX0_matchesDigits 0 = .ok (.aload_n 0, 1) := by decide +kernel
theorem dX0_matchesDigits_1 : decode cX0_matchesDigits 1 = .ok (.iconst 0, 1) := by decide +kernel
theorem dX0_matchesDigits_2 : decode cX0_matchesDigits 2 = .ok (.putfield 23, 3) := by decide +kernel
theorem dX0_matchesDigits_5 : decode cX0_matchesDigits 5 = .ok (.iconst 0, 1) := by decide +kernel
theorem dX0_matchesDigits_6 : decode cX0_matchesDigits 6 = .ok (.istore_n 3, 1) := by decide +kernel
theorem dX0_matchesDigits_7 : decode cX0_matchesDigits 7 = .ok (.iload_n 3, 1) := by decide +kernel
theorem dX0_matchesDigits_8 : decode cX0_matchesDigits 8 = .ok (.iload_n 2, 1) := by decide +kernel
theorem dX0_matchesDigits_9 : decode cX0_matchesDigits 9 = .ok (.if_icmp .ge 45, 3) := by decide +kernel
theorem dX0_matchesDigits_12 : decode cX0_matchesDigits 12 = .ok (.aload_n 0, 1) := by decide +kernel
theorem dX0_matchesDigits_13 : decode cX0_matchesDigits 13 = .ok (.invokevirtual 60, 3) := by decide +kernel
theorem dX0_matchesDigits_16 : decode cX0_matchesDigits 16 = .ok (.ifCond .eq 38, 3) := by decide +kernel
theorem dX0_matchesDigits_19 : decode cX0_matchesDigits 19 = .ok (.aload_n 0, 1) := by decide +kernel
theorem dX0_matchesDigits_20 : decode cX0_matchesDigits 20 = .ok (.aload_n 0, 1) := by decide +kernel
theorem dX0_matchesDigits_21 : decode cX0_matchesDigits 21 = .ok (.getfield 23, 3) := by decide +kernel
theorem dX0_matchesDigits_24 : decode cX0_matchesDigits 24 = .ok (.bipush 10, 2) := by decide +kernel
theorem dX0_matchesDigits_26 : decode cX0_matchesDigits 26 = .ok (.imul, 1) := by decide +kernel
theorem dX0_matchesDigits_27 : decode cX0_matchesDigits 27 = .ok (.aload_n 0, 1) := by decide +kernel
theorem dX0_matchesDigits_28 : decode cX0_matchesDigits 28 = .ok (.invokevirtual 45, 3) := by decide +kernel
theorem dX0_matchesDigits_31 : decode cX0_matchesDigits 31 = .ok (.iadd, 1) := by decide +kernel
theorem dX0_matchesDigits_32 : decode cX0_matchesDigits 32 = .ok (.bipush 48, 2) := by decide +kernel
theorem dX0_matchesDigits_34 : decode cX0_matchesDigits 34 = .ok (.isub, 1) := by decide +kernel
theorem dX0_matchesDigits_35 : decode cX0_matchesDigits 35 = .ok (.putfield 23, 3) := by decide +kernel
theorem dX0_matchesDigits_38 : decode cX0_matchesDigits 38 = .ok (.aload_n 0, 1) := by decide +kernel
theorem dX0_matchesDigits_39 : decode cX0_matchesDigits 39 = .ok (.dup, 1) := by decide +kernel
theorem dX0_matchesDigits_40 : decode cX0_matchesDigits 40 = .ok (.getfield 15, 3) := by decide +kernel
theorem dX0_matchesDigits_43 : decode cX0_matchesDigits 43 = .ok (.iconst 1, 1) := by decide +kernel
theorem dX0_matchesDigits_44 : decode cX0_matchesDigits 44 = .ok (.iadd, 1) := by decide +kernel
theorem dX0_matchesDigits_45 : decode cX0_matchesDigits 45 = .ok (.putfield 15, 3) := by decide +kernel
theorem dX0_matchesDigits_48 : decode cX0_matchesDigits 48 = .ok (.iinc 3 1, 3) := by decide +kernel
theorem dX0_matchesDigits_51 : decode cX0_matchesDigits 51 = .ok (.goto (-44), 3) := by decide +kernel
theorem dX0_matchesDigits_54 : decode cX0_matchesDigits 54 = .ok (.iload_n 3, 1) := by decide +kernel
theorem dX0_matchesDigits_55 : decode cX0_matchesDigits 55 = .ok (.iload_n 1, 1) := by decide +kernel
theorem dX0_matchesDigits_56 : decode cX0_matchesDigits 56 = .ok (.if_icmp .lt 7, 3) := by decide +kernel
theorem dX0_matchesDigits_59 : decode cX0_matchesDigits 59 = .ok (.iconst 1, 1) := by decide +kernel
theorem dX0_matchesDigits_60 : decode cX0_matchesDigits 60 = .ok (.goto 4, 3) := by decide +kernel
theorem dX0_matchesDigits_63 : decode cX0_matchesDigits 63 = .ok (.iconst 0, 1) := by decide +kernel
theorem dX0_matchesDigits_64 : decode cX0_matchesDigits 64 = .ok (.ireturn, 1) := by decide +kernel
theorem dX0_matchesWord_0 : decode cX0_matchesWord 0 = .ok (.iconst 0, 1) := by decide +kernel
theorem dX0_matchesWord_1 : decode cX0_matchesWord 1 = .ok (.istore_n 2, 1) := by decide +kernel
theorem dX0_matchesWord_2 : decode cX0_matchesWord 2 = .ok (.iload_n 2, 1) := by decide +kernel
theorem dX0_matchesWord_3 : decode cX0_matchesWord 3 = .ok (.aload_n 1, 1) := by decide +kernel
theorem dX0_matchesWord_4 : decode cX0_matchesWord 4 = .ok (.invokevirtual 63, 3) := by decide +kernel
theorem dX0_matchesWord_7 : decode cX0_matchesWord 7 = .ok (.if_icmp .ge 33, 3) := by decide +kernel
theorem dX0_matchesWord_10 : decode cX0_matchesWord 10 = .ok (.aload_n 0, 1) := by decide +kernel
theorem dX0_matchesWord_11 : decode cX0_matchesWord 11 = .ok (.invokevirtual 45, 3) := by decide +kernel
theorem dX0_matchesWord_14 : decode cX0_matchesWord 14 = .ok (.aload_n 1, 1) := by decide +kernel
theorem dX0_matchesWord_15 : decode cX0_matchesWord 15 = .ok (.iload_n 2, 1) := by decide +kernel
theorem dX0_matchesWord_16 : decode cX0_matchesWord 16 = .ok (.invokevirtual 67, 3) := by decide +kernel
theorem dX0_matchesWord_19 : decode cX0_matchesWord 19 = .ok (.if_icmp .eq 5, 3) := by decide +kernel
theorem dX0_matchesWord_22 : decode cX0_matchesWord 22 = .ok (.iconst 0, 1) := by decide +kernel
theorem dX0_matchesWord_23 : decode cX0_matchesWord 23 = .ok (.ireturn, 1) := by decide +kernel
theorem dX0_matchesWord_24 : decode cX0_matchesWord 24 = .ok (.aload_n 0, 1) := by decide +kernel
theorem dX0_matchesWord_25 : decode cX0_matchesWord 25 = .ok (.dup, 1) := by decide +kernel
theorem dX0_matchesWord_26 : decode cX0_matchesWord 26 = .ok (.getfield 15, 3) := by decide +kernel
theorem dX0_matchesWord_29 : decode cX0_matchesWord 29 = .ok (.iconst 1, 1) := by decide +kernel
theorem dX0_matchesWord_30 : decode cX0_matchesWord 30 = .ok (.iadd, 1) := by decide +kernel
theorem dX0_matchesWord_31 : decode cX0_matchesWord 31 = .ok (.putfield 15, 3) := by decide +kernel
theorem dX0_matchesWord_34 : decode cX0_matchesWord 34 = .ok (.iinc 2 1, 3) := by decide +kernel
theorem dX0_matchesWord_37 : decode cX0_matchesWord 37 = .ok (.goto (-35), 3) := by decide +kernel
theorem dX0_matchesWord_40 : decode cX0_matchesWord 40 = .ok (.iconst 1, 1) := by decide +kernel
theorem dX0_matchesWord_41 : decode cX0_matchesWord 41 = .ok (.ireturn, 1) := by decide +kernel
theorem dX0_digitHere_0 : decode cX0_digitHere 0 = .ok (.aload_n 0, 1) := by decide +kernel
theorem dX0_digitHere_1 : decode cX0_digitHere 1 = .ok (.invokevirtual 45, 3) := by decide +kernel
theorem dX0_digitHere_4 : decode cX0_digitHere 4 = .ok (.bipush 48, 2) := by decide +kernel
theorem dX0_digitHere_6 : decode cX0_digitHere 6 = .ok (.if_icmp .lt 16, 3) := by decide +kernel
theorem dX0_digitHere_9 : decode cX0_digitHere 9 = .ok (.aload_n 0, 1) := by decide +kernel
theorem dX0_digitHere_10 : decode cX0_digitHere 10 = .ok (.invokevirtual 45, 3) := by decide +kernel
theorem dX0_digitHere_13 : decode cX0_digitHere 13 = .ok (.bipush 57, 2) := by decide +kernel
theorem dX0_digitHere_15 : decode cX0_digitHere 15 = .ok (.if_icmp .gt 7, 3) := by decide +kernel
theorem dX0_digitHere_18 : decode cX0_digitHere 18 = .ok (.iconst 1, 1) := by decide +kernel
theorem dX0_digitHere_19 : decode cX0_digitHere 19 = .ok (.goto 4, 3) := by decide +kernel
theorem dX0_digitHere_22 : decode cX0_digitHere 22 = .ok (.iconst 0, 1) := by decide +kernel
theorem dX0_digitHere_23 : decode cX0_digitHere 23 = .ok (.ireturn, 1) := by decide +kernel
theorem dX0_signHere_0 : decode cX0_signHere 0 = .ok (.aload_n 0, 1) := by decide +kernel
theorem dX0_signHere_1 : decode cX0_signHere 1 = .ok (.getfield 15, 3) := by decide +kernel
theorem dX0_signHere_4 : decode cX0_signHere 4 = .ok (.aload_n 0, 1) := by decide +kernel
theorem dX0_signHere_5 : decode cX0_signHere 5 = .ok (.getfield 39, 3) := by decide +kernel
theorem dX0_signHere_8 : decode cX0_signHere 8 = .ok (.if_icmp .ge 17, 3) := by decide +kernel
theorem dX0_signHere_11 : decode cX0_signHere 11 = .ok (.aload_n 0, 1) := by decide +kernel
theorem dX0_signHere_12 : decode cX0_signHere 12 = .ok (.getfield 9, 3) := by decide +kernel
theorem dX0_signHere_15 : decode cX0_signHere 15 = .ok (.aload_n 0, 1) := by decide +kernel
theorem dX0_signHere_16 : decode cX0_signHere 16 = .ok (.getfield 15, 3) := by decide +kernel
theorem dX0_signHere_19 : decode cX0_signHere 19 = .ok (.invokestatic 71, 3) := by decide +kernel
theorem dX0_signHere_22 : decode cX0_signHere 22 = .ok (.goto 4, 3) := by decide +kernel
theorem dX0_signHere_25 : decode cX0_signHere 25 = .ok (.iconst (-1), 1) := by decide +kernel
theorem dX0_signHere_26 : decode cX0_signHere 26 = .ok (.ireturn, 1) := by decide +kernel
