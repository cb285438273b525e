theorem dX8_setLimits_5 : decode cX8_setLimits 5 = .ok (.invokestatic 30, 3) := by decide +kernel
theorem dX8_setLimits_8 : decode cX8_setLimits 8 = .ok (.ifCond .eq 13, 3) := by decide +kernel
theorem dX8_setLimits_11 : decode cX8_setLimits 11 = .ok (.iload_n 2, 1) := by decide +kernel
theorem dX8_setLimits_12 : decode cX8_setLimits 12 = .ok (.iconst 0, 1) := by decide +kernel
theorem dX8_setLimits_13 : decode cX8_setLimits 13 = .ok (.bipush 9, 2) := by decide +kernel
theorem dX8_setLimits_15 : decode cX8_setLimits 15 = .ok (.invokestatic 30, 3) := by decide +kernel
theorem dX8_setLimits_18 : decode cX8_setLimits 18 = .ok (.ifCond .ne 6, 3) := by decide +kernel
theorem dX8_setLimits_21 : decode cX8_setLimits 21 = .ok (.bipush (-2), 2) := by decide +kernel
theorem dX8_setLimits_23 : decode cX8_setLimits 23 = .ok (.ireturn, 1) := by decide +kernel
theorem dX8_setLimits_24 : decode cX8_setLimits 24 = .ok (.aload_n 0, 1) := by decide +kernel
theorem dX8_setLimits_25 : decode cX8_setLimits 25 = .ok (.invokevirtual 105, 3) := by decide +kernel
theorem dX8_setLimits_28 : decode cX8_setLimits 28 = .ok (.ifCond .eq 6, 3) := by decide +kernel
theorem dX8_setLimits_31 : decode cX8_setLimits 31 = .ok (.bipush (-4), 2) := by decide +kernel
theorem dX8_setLimits_33 : decode cX8_setLimits 33 = .ok (.ireturn, 1) := by decide +kernel
theorem dX8_setLimits_34 : decode cX8_setLimits 34 = .ok (.aload_n 0, 1) := by decide +kernel
theorem dX8_setLimits_35 : decode cX8_setLimits 35 = .ok (.getfield 7, 3) := by decide +kernel
theorem dX8_setLimits_38 : decode cX8_setLimits 38 = .ok (.bipush 6, 2) := by decide +kernel
theorem dX8_setLimits_40 : decode cX8_setLimits 40 = .ok (.iaload, 1) := by decide +kernel
theorem dX8_setLimits_41 : decode cX8_setLimits 41 = .ok (.istore_n 3, 1) := by decide +kernel
theorem dX8_setLimits_42 : decode cX8_setLimits 42 = .ok (.iload_n 3, 1) := by decide +kernel
theorem dX8_setLimits_43 : decode cX8_setLimits 43 = .ok (.iload_n 1, 1) := by decide +kernel
theorem dX8_setLimits_44 : decode cX8_setLimits 44 = .ok (.if_icmp .ne 18, 3) := by decide +kernel
theorem dX8_setLimits_47 : decode cX8_setLimits 47 = .ok (.aload_n 0, 1) := by decide +kernel
theorem dX8_setLimits_48 : decode cX8_setLimits 48 = .ok (.getfield 7, 3) := by decide +kernel
theorem dX8_setLimits_51 : decode cX8_setLimits 51 = .ok (.bipush 7, 2) := by decide +kernel
theorem dX8_setLimits_53 : decode cX8_setLimits 53 = .ok (.iaload, 1) := by decide +kernel
theorem dX8_setLimits_54 : decode cX8_setLimits 54 = .ok (.iload_n 2, 1) := by decide +kernel
theorem dX8_setLimits_55 : decode cX8_setLimits 55 = .ok (.if_icmp .ne 7, 3) := by decide +kernel
theorem dX8_setLimits_58 : decode cX8_setLimits 58 = .ok (.iconst 1, 1) := by decide +kernel
theorem dX8_setLimits_59 : decode cX8_setLimits 59 = .ok (.goto 4, 3) := by decide +kernel
theorem dX8_setLimits_62 : decode cX8_setLimits 62 = .ok (.iconst 0, 1) := by decide +kernel
theorem dX8_setLimits_63 : decode cX8_setLimits 63 = .ok (.istore 4, 2) := by decide +kernel
theorem dX8_setLimits_65 : decode cX8_setLimits 65 = .ok (.aload_n 0, 1) := by decide +kernel
theorem dX8_setLimits_66 : decode cX8_setLimits 66 = .ok (.getfield 7, 3) := by decide +kernel
theorem dX8_setLimits_69 : decode cX8_setLimits 69 = .ok (.bipush 6, 2) := by decide +kernel
theorem dX8_setLimits_71 : decode cX8_setLimits 71 = .ok (.iload_n 1, 1) := by decide +kernel
theorem dX8_setLimits_72 : decode cX8_setLimits 72 = .ok (.iastore, 1) := by decide +kernel
theorem dX8_setLimits_73 : decode cX8_setLimits 73 = .ok (.aload_n 0, 1) := by decide +kernel
theorem dX8_setLimits_74 : decode cX8_setLimits 74 = .ok (.getfield 7, 3) := by decide +kernel
theorem dX8_setLimits_77 : decode cX8_setLimits 77 = .ok (.bipush 7, 2) := by decide +kernel
theorem dX8_setLimits_79 : decode cX8_setLimits 79 = .ok (.iload_n 2, 1) := by decide +kernel
theorem dX8_setLimits_80 : decode cX8_setLimits 80 = .ok (.iastore, 1) := by decide +kernel
theorem dX8_setLimits_81 : decode cX8_setLimits 81 = .ok (.iload 4, 2) := by decide +kernel
theorem dX8_setLimits_83 : decode cX8_setLimits 83 = .ok (.ifCond .eq 8, 3) := by decide +kernel
theorem dX8_setLimits_86 : decode cX8_setLimits 86 = .ok (.bipush (-5), 2) := by decide +kernel
theorem dX8_setLimits_88 : decode cX8_setLimits 88 = .ok (.goto 4, 3) := by decide +kernel
theorem dX8_setLimits_91 : decode cX8_setLimits 91 = .ok (.iload_n 3, 1) := by decide +kernel
theorem dX8_setLimits_92 : decode cX8_setLimits 92 = .ok (.ireturn, 1) := by decide +kernel
theorem dX8_addPaint_0 : decode cX8_addPaint 0 = .ok (.iload_n 1, 1) := by decide +kernel
theorem dX8_addPaint_1 : decode cX8_addPaint 1 = .ok (.iconst 1, 1) := by decide +kernel
theorem dX8_addPaint_2 : decode cX8_addPaint 2 = .ok (.sipush 1000, 3) := by decide +kernel
theorem dX8_addPaint_5 : decode cX8_addPaint 5 = .ok (.invokestatic 30, 3) := by decide +kernel
theorem dX8_addPaint_8 : decode cX8_addPaint 8 = .ok (.ifCond .ne 6, 3) := by decide +kernel
theorem dX8_addPaint_11 : decode cX8_addPaint 11 = .ok (.bipush (-2), 2) := by decide +kernel
theorem dX8_addPaint_13 : decode cX8_addPaint 13 = .ok (.ireturn, 1) := by decide +kernel
theorem dX8_addPaint_14 : decode cX8_addPaint 14 = .ok (.aload_n 0, 1) := by decide +kernel
theorem dX8_addPaint_15 : decode cX8_addPaint 15 = .ok (.getfield 7, 3) := by decide +kernel
theorem dX8_addPaint_18 : decode cX8_addPaint 18 = .ok (.bipush 8, 2) := by decide +kernel
theorem dX8_addPaint_20 : decode cX8_addPaint 20 = .ok (.dup2, 1) := by decide +kernel
theorem dX8_addPaint_21 : decode cX8_addPaint 21 = .ok (.iaload, 1) := by decide +kernel
theorem dX8_addPaint_22 : decode cX8_addPaint 22 = .ok (.iload_n 1, 1) := by decide +kernel
theorem dX8_addPaint_23 : decode cX8_addPaint 23 = .ok (.iadd, 1) := by decide +kernel
theorem dX8_addPaint_24 : decode cX8_addPaint 24 = .ok (.iastore, 1) := by decide +kernel
theorem dX8_addPaint_25 : decode cX8_addPaint 25 = .ok (.aload_n 0, 1) := by decide +kernel
theorem dX8_addPaint_26 : decode cX8_addPaint 26 = .ok (.getfield 7, 3) := by decide +kernel
theorem dX8_addPaint_29 : decode cX8_addPaint 29 = .ok (.bipush 8, 2) := by decide +kernel
theorem dX8_addPaint_31 : decode cX8_addPaint 31 = .ok (.iaload, 1) := by decide +kernel
theorem dX8_addPaint_32 : decode cX8_addPaint 32 = .ok (.ireturn, 1) := by decide +kernel
theorem dX8_book_0 : decode cX8_book 0 = .ok (.iload_n 1, 1) := by decide +kernel
theorem dX8_book_1 : decode cX8_book 1 = .ok (.iconst 1, 1) := by decide +kernel
theorem dX8_book_2 : decode cX8_book 2 = .ok (.bipush 6, 2) := by decide +kernel
theorem dX8_book_4 : decode cX8_book 4 = .ok (.invokestatic 30, 3) := by decide +kernel
theorem dX8_book_7 : decode cX8_book 7 = .ok (.ifCond .eq 13, 3) := by decide +kernel
theorem dX8_book_10 : decode cX8_book 10 = .ok (.iload_n 2, 1) := by decide +kernel
theorem dX8_book_11 : decode cX8_book 11 = .ok (.iconst 0, 1) := by decide +kernel
theorem dX8_book_12 : decode cX8_book 12 = .ok (.ldc 108, 2) := by decide +kernel
theorem dX8_book_14 : decode cX8_book 14 = .ok (.invokestatic 30, 3) := by decide +kernel
theorem dX8_book_17 : decode cX8_book 17 = .ok (.ifCond .ne 6, 3) := by decide +kernel
theorem dX8_book_20 : decode cX8_book 20 = .ok (.bipush (-2), 2) := by decide +kernel
theorem dX8_book_22 : decode cX8_book 22 = .ok (.ireturn, 1) := by decide +kernel
theorem dX8_book_23 : decode cX8_book 23 = .ok (.aload_n 0, 1) := by decide +kernel
theorem dX8_book_24 : decode cX8_book 24 = .ok (.getfield 7, 3) := by decide +kernel
theorem dX8_book_27 : decode cX8_book 27 = .ok (.iconst 3, 1) := by decide +kernel
theorem dX8_book_28 : decode cX8_book 28 = .ok (.iaload, 1) := by decide +kernel
theorem dX8_book_29 : decode cX8_book 29 = .ok (.istore_n 3, 1) := by decide +kernel
theorem dX8_book_30 : decode cX8_book 30 = .ok (.iload_n 3, 1) := by decide +kernel
theorem dX8_book_31 : decode cX8_book 31 = .ok (.ifCond .le 22, 3) := by decide +kernel
theorem dX8_book_34 : decode cX8_book 34 = .ok (.aload_n 0, 1) := by decide +kernel
theorem dX8_book_35 : decode cX8_book 35 = .ok (.getfield 7, 3) := by decide +kernel
theorem dX8_book_38 : decode cX8_book 38 = .ok (.sipush 184, 3) := by decide +kernel
theorem dX8_book_41 : decode cX8_book 41 = .ok (.iload_n 3, 1) := by decide +kernel
theorem dX8_book_42 : decode cX8_book 42 = .ok (.iadd, 1) := by decide +kernel
theorem dX8_book_43 : decode cX8_book 43 = .ok (.iconst 1, 1) := by decide +kernel
theorem dX8_book_44 : decode cX8_book 44 = .ok (.isub, 1) := by decide +kernel
theorem dX8_book_45 : decode cX8_book 45 = .ok (.iaload, 1) := by decide +kernel
theorem dX8_book_46 : decode cX8_book 46 = .ok (.iload_n 2, 1) := by decide +kernel
theorem dX8_book_47 : decode cX8_book 47 = .ok (.if_icmp .le 6, 3) := by decide +kernel
theorem dX8_book_50 : decode cX8_book 50 = .ok (.bipush (-4), 2) := by decide +kernel
theorem dX8_book_52 : decode cX8_book 52 = .ok (.ireturn, 1) := by decide +kernel
theorem dX8_book_53 : decode cX8_book 53 = .ok (.iload_n 3, 1) := by decide +kernel
theorem dX8_book_54 : decode cX8_book 54 = .ok (.bipush 8, 2) := by decide +kernel
theorem dX8_book_56 : decode cX8_book 56 = .ok (.if_icmp .ne 6, 3) := by decide +kernel
theorem dX8_book_59 : decode cX8_book 59 = .ok (.bipush (-3), 2) := by decide +kernel
theorem dX8_book_61 : decode cX8_book 61 = .ok (.ireturn, 1) := by decide +kernel
theorem dX8_book_62 : decode cX8_book 62 = .ok (.aload_n 0, 1) := by decide +kernel
theorem dX8_book_63 : decode cX8_book 63 = .ok (.getfield 7, 3) := by decide +kernel
theorem dX8_book_66 : decode cX8_book 66 = .ok (.sipush 176, 3) := by decide +kernel
theorem dX8_book_69 : decode cX8_book 69 = .ok (.iload_n 3, 1) := by decide +kernel
theorem dX8_book_70 : decode cX8_book 70 = .ok (.iadd, 1) := by decide +kernel
theorem dX8_book_71 : decode cX8_book 71 = .ok (.iload_n 1, 1) := by decide +kernel
theorem dX8_book_72 : decode cX8_book 72 = .ok (.iastore, 1) := by decide +kernel
theorem dX8_book_73 : decode cX8_book 73 = .ok (.aload_n 0, 1) := by decide +kernel
theorem dX8_book_74 : decode cX8_book 74 = .ok (.getfield 7, 3) := by decide +kernel
theorem dX8_book_77 : decode cX8_book 77 = .ok (.sipush 184, 3) := by decide +kernel
theorem dX8_book_80 : decode cX8_book 80 = .ok (.iload_n 3, 1) := by decide +kernel
theorem dX8_book_81 : decode cX8_book 81 = .ok (.iadd, 1) := by decide +kernel
theorem dX8_book_82 : decode cX8_book 82 = .ok (.iload_n 2, 1) := by decide +kernel
theorem dX8_book_83 : decode cX8_book 83 = .ok (.iastore, 1) := by decide +kernel
theorem dX8_book_84 : decode cX8_book 84 = .ok (.aload_n 0, 1) := by decide +kernel
theorem dX8_book_85 : decode cX8_book 85 = .ok (.getfield 7, 3) := by decide +kernel
theorem dX8_book_88 : decode cX8_book 88 = .ok (.iconst 3, 1) := by decide +kernel
theorem dX8_book_89 : decode cX8_book 89 = .ok (.dup2, 1) := by decide +kernel
theorem dX8_book_90 : decode cX8_book 90 = .ok (.iaload, 1) := by decide +kernel
theorem dX8_book_91 : decode cX8_book 91 = .ok (.iconst 1, 1) := by decide +kernel
theorem dX8_book_92 : decode cX8_book 92 = .ok (.iadd, 1) := by decide +kernel
theorem dX8_book_93 : decode cX8_book 93 = .ok (.iastore, 1) := by decide +kernel
theorem dX8_book_94 : decode cX8_book 94 = .ok (.iload_n 3, 1) := by decide +kernel
theorem dX8_book_95 : decode cX8_book 95 = .ok (.iconst 1, 1) := by decide +kernel
theorem dX8_book_96 : decode cX8_book 96 = .ok (.iadd, 1) := by decide +kernel
theorem dX8_book_97 : decode cX8_book 97 = .ok (.ireturn, 1) := by decide +kernel
theorem dX8_noGroup_0 : decode cX8_noGroup 0 = .ok (.iload_n 1, 1) := by decide +kernel
theorem dX8_noGroup_1 : decode cX8_noGroup 1 = .ok (.iconst 0, 1) := by decide +kernel
theorem dX8_noGroup_2 : decode cX8_noGroup 2 = .ok (.aload_n 0, 1) := by decide +kernel
theorem dX8_noGroup_3 : decode cX8_noGroup 3 = .ok (.getfield 7, 3) := by decide +kernel
theorem dX8_noGroup_6 : decode cX8_noGroup 6 = .ok (.iconst 3, 1) := by decide +kernel
theorem dX8_noGroup_7 : decode cX8_noGroup 7 = .ok (.iaload, 1) := by decide +kernel
theorem dX8_noGroup_8 : decode cX8_noGroup 8 = .ok (.iconst 1, 1) := by decide +kernel
theorem dX8_noGroup_9 : decode cX8_noGroup 9 = .ok (.isub, 1) := by decide +kernel
theorem dX8_noGroup_10 : decode cX8_noGroup 10 = .ok (.invokestatic 30, 3) := by decide +kernel
theorem dX8_noGroup_13 : decode cX8_noGroup 13 = .ok (.ifCond .ne 7, 3) := by decide +kernel
theorem dX8_noGroup_16 : decode cX8_noGroup 16 = .ok (.iconst 1, 1) := by decide +kernel
theorem dX8_noGroup_17 : decode cX8_noGroup 17 = .ok (.goto 4, 3) := by decide +kernel
theorem dX8_noGroup_20 : decode cX8_noGroup 20 = .ok (.iconst 0, 1) := by decide +kernel
theorem dX8_noGroup_21 : decode cX8_noGroup 21 = .ok (.ireturn, 1) := by decide +kernel
theorem dX8_removeGroup_0 : decode cX8_removeGroup 0 = .ok (.aload_n 0, 1) := by decide +kernel
theorem dX8_removeGroup_1 : decode cX8_removeGroup 1 = .ok (.getfield 7, 3) := by decide +kernel
theorem dX8_removeGroup_4 : decode cX8_removeGroup 4 = .ok (.iconst 3, 1) := by decide +kernel
theorem dX8_removeGroup_5 : decode cX8_removeGroup 5 = .ok (.dup2, 1) := by decide +kernel
theorem dX8_removeGroup_6 : decode cX8_removeGroup 6 = .ok (.iaload, 1) := by decide +kernel
theorem dX8_removeGroup_7 : decode cX8_removeGroup 7 = .ok (.iconst 1, 1) := by decide +kernel
theorem dX8_removeGroup_8 : decode cX8_removeGroup 8 = .ok (.isub, 1) := by decide +kernel
theorem dX8_removeGroup_9 : decode cX8_removeGroup 9 = .ok (.iastore, 1) := by decide +kernel
theorem dX8_removeGroup_10 : decode cX8_removeGroup 10 = .ok (.iload_n 1, 1) := by decide +kernel
theorem dX8_removeGroup_11 : decode cX8_removeGroup 11 = .ok (.istore_n 2, 1) := by decide +kernel
theorem dX8_removeGroup_12 : decode cX8_removeGroup 12 = .ok (.iload_n 2, 1) := by decide +kernel
theorem dX8_removeGroup_13 : decode cX8_removeGroup 13 = .ok (.aload_n 0, 1) := by decide +kernel
theorem dX8_removeGroup_14 : decode cX8_removeGroup 14 = .ok (.getfield 7, 3) := by decide +kernel
theorem dX8_removeGroup_17 : decode cX8_removeGroup 17 = .ok (.iconst 3, 1) := by decide +kernel
theorem dX8_removeGroup_18 : decode cX8_removeGroup 18 = .ok (.iaload, 1) := by decide +kernel
theorem dX8_removeGroup_19 : decode cX8_removeGroup 19 = .ok (.if_icmp .ge 53, 3) := by decide +kernel
theorem dX8_removeGroup_22 : decode cX8_removeGroup 22 = .ok (.aload_n 0, 1) := by decide +kernel
theorem dX8_removeGroup_23 : decode cX8_removeGroup 23 = .ok (.getfield 7, 3) := by decide +kernel
theorem dX8_removeGroup_26 : decode cX8_removeGroup 26 = .ok (.sipush 176, 3) := by decide +kernel
theorem dX8_removeGroup_29 : decode cX8_removeGroup 29 = .ok (.iload_n 2, 1) := by decide +kernel
theorem dX8_removeGroup_30 : decode cX8_removeGroup 30 = .ok (.iadd, 1) := by decide +kernel
theorem dX8_removeGroup_31 : decode cX8_removeGroup 31 = .ok (.aload_n 0, 1) := by decide +kernel
theorem dX8_removeGroup_32 : decode cX8_removeGroup 32 = .ok (.getfield 7, 3) := by decide +kernel
theorem dX8_removeGroup_35 : decode cX8_removeGroup 35 = .ok (.sipush 176, 3) := by decide +kernel
theorem dX8_removeGroup_38 : decode cX8_removeGroup 38 = .ok (.iload_n 2, 1) := by decide +kernel
theorem dX8_removeGroup_39 : decode cX8_removeGroup 39 = .ok (.iadd, 1) := by decide +kernel
theorem dX8_removeGroup_40 : decode cX8_removeGroup 40 = .ok (.iconst 1, 1) := by decide +kernel
theorem dX8_removeGroup_41 : decode cX8_removeGroup 41 = .ok (.iadd, 1) := by decide +kernel
theorem dX8_removeGroup_42 : decode cX8_removeGroup 42 = .ok (.iaload, 1) := by decide +kernel
theorem dX8_removeGroup_43 : decode cX8_removeGroup 43 = .ok (.iastore, 1) := by decide +kernel
theorem dX8_removeGroup_44 : decode cX8_removeGroup 44 = .ok (.aload_n 0, 1) := by decide +kernel
theorem dX8_removeGroup_45 : decode cX8_removeGroup 45 = .ok (.getfield 7, 3) := by decide +kernel
theorem dX8_removeGroup_48 : decode cX8_removeGroup 48 = .ok (.sipush 184, 3) := by decide +kernel
theorem dX8_removeGroup_51 : decode cX8_removeGroup 51 = .ok (.iload_n 2, 1) := by decide +kernel
theorem dX8_removeGroup_52 : decode cX8_removeGroup 52 = .ok (.iadd, 1) := by decide +kernel
theorem dX8_removeGroup_53 : decode cX8_removeGroup 53 = .ok (.aload_n 0, 1) := by decide +kernel
theorem dX8_removeGroup_54 : decode cX8_removeGroup 54 = .ok (.getfield 7, 3) := by decide +kernel
theorem dX8_removeGroup_57 : decode cX8_removeGroup 57 = .ok (.sipush 184, 3) := by decide +kernel
theorem dX8_removeGroup_60 : decode cX8_removeGroup 60 = .ok (.iload_n 2, 1) := by decide +kernel
theorem dX8_removeGroup_61 : decode cX8_removeGroup 61 = .ok (.iadd, 1) := by decide +kernel
theorem dX8_removeGroup_62 : decode cX8_removeGroup 62 = .ok (.iconst 1, 1) := by decide +kernel
theorem dX8_removeGroup_63 : decode cX8_removeGroup 63 = .ok (.iadd, 1) := by decide +kernel
theorem dX8_removeGroup_64 : decode cX8_removeGroup 64 = .ok (.iaload, 1) := by decide +kernel
theorem dX8_removeGroup_65 : decode cX8_removeGroup 65 = .ok (.iastore, 1) := by decide +kernel
theorem dX8_removeGroup_66 : decode cX8_removeGroup 66 = .ok (.iinc 2 1, 3) := by decide +kernel
theorem dX8_removeGroup_69 : decode cX8_removeGroup 69 = .ok (.goto (-57), 3) := by decide +kernel
theorem dX8_removeGroup_72 : decode cX8_removeGroup 72 = .ok (.return_, 1) := by decide +kernel
theorem dX8_cancel_0 : decode cX8_cancel 0 = .ok (.aload_n 0, 1) := by decide +kernel
theorem dX8_cancel_1 : decode cX8_cancel 1 = .ok (.iload_n 1, 1) := by decide +kernel
theorem dX8_cancel_2 : decode cX8_cancel 2 = .ok (.invokevirtual 109, 3) := by decide +kernel
theorem dX8_cancel_5 : decode cX8_cancel 5 = .ok (.ifCond .eq 5, 3) := by decide +kernel
theorem dX8_cancel_8 : decode cX8_cancel 8 = .ok (.iconst (-1), 1) := by decide +kernel
theorem dX8_cancel_9 : decode cX8_cancel 9 = .ok (.ireturn, 1) := by decide +kernel
theorem dX8_cancel_10 : decode cX8_cancel 10 = .ok (.aload_n 0, 1) := by decide +kernel
theorem dX8_cancel_11 : decode cX8_cancel 11 = .ok (.iload_n 1, 1) := by decide +kernel
theorem dX8_cancel_12 : decode cX8_cancel 12 = .ok (.invokevirtual 112, 3) := by decide +kernel
theorem dX8_cancel_15 : decode cX8_cancel 15 = .ok (.aload_n 0, 1) := by decide +kernel
theorem dX8_cancel_16 : decode cX8_cancel 16 = .ok (.getfield 7, 3) := by decide +kernel
theorem dX8_cancel_19 : decode cX8_cancel 19 = .ok (.iconst 3, 1) := by decide +kernel
theorem dX8_cancel_20 : decode cX8_cancel 20 = .ok (.iaload, 1) := by decide +kernel
theorem dX8_cancel_21 : decode cX8_cancel 21 = .ok (.ireturn, 1) := by decide +kernel
theorem dX8_notAtHome_0 : decode cX8_notAtHome 0 = .ok (.iconst 0, 1) := by decide +kernel
theorem dX8_notAtHome_1 : decode cX8_notAtHome 1 = .ok (.istore_n 1, 1) := by decide +kernel
theorem dX8_notAtHome_2 : decode cX8_notAtHome 2 = .ok (.iconst 0, 1) := by decide +kernel
theorem dX8_notAtHome_3 : decode cX8_notAtHome 3 = .ok (.istore_n 2, 1) := by decide +kernel
theorem dX8_notAtHome_4 : decode cX8_notAtHome 4 = .ok (.iload_n 2, 1) := by decide +kernel
theorem dX8_notAtHome_5 : decode cX8_notAtHome 5 = .ok (.aload_n 0, 1) := by decide +kernel
theorem dX8_notAtHome_6 : decode cX8_notAtHome 6 = .ok (.getfield 7, 3) := by decide +kernel
theorem dX8_notAtHome_9 : decode cX8_notAtHome 9 = .ok (.iconst 1, 1) := by decide +kernel
theorem dX8_notAtHome_10 : decode cX8_notAtHome 10 = .ok (.iaload, 1) := by decide +kernel
theorem dX8_notAtHome_11 : decode cX8_notAtHome 11 = .ok (.if_icmp .ge 38, 3) := by decide +kernel
theorem dX8_notAtHome_14 : decode cX8_notAtHome 14 = .ok (.iload_n 1, 1) := by decide +kernel
theorem dX8_notAtHome_15 : decode cX8_notAtHome 15 = .ok (.aload_n 0, 1) := by decide +kernel
theorem dX8_notAtHome_16 : decode cX8_notAtHome 16 = .ok (.getfield 7, 3) := by decide +kernel
theorem dX8_notAtHome_19 : decode cX8_notAtHome 19 = .ok (.bipush 104, 2) := by decide +kernel
theorem dX8_notAtHome_21 : decode cX8_notAtHome 21 = .ok (.iload_n 2, 1) := by decide +kernel
theorem dX8_notAtHome_22 : decode cX8_notAtHome 22 = .ok (.iadd, 1) := by decide +kernel
theorem dX8_notAtHome_23 : decode cX8_notAtHome 23 = .ok (.iaload, 1) := by decide +kernel
theorem dX8_notAtHome_24 : decode cX8_notAtHome 24 = .ok (.aload_n 0, 1) := by decide +kernel
theorem dX8_notAtHome_25 : decode cX8_notAtHome 25 = .ok (.getfield 7, 3) := by decide +kernel
theorem dX8_notAtHome_28 : decode cX8_notAtHome 28 = .ok (.bipush 80, 2) := by decide +kernel
theorem dX8_notAtHome_30 : decode cX8_notAtHome 30 = .ok (.iload_n 2, 1) := by decide +kernel
theorem dX8_notAtHome_31 : decode cX8_notAtHome 31 = .ok (.iadd, 1) := by decide +kernel
theorem dX8_notAtHome_32 : decode cX8_notAtHome 32 = .ok (.iaload, 1) := by decide +kernel
theorem dX8_notAtHome_33 : decode cX8_notAtHome 33 = .ok (.if_icmp .ne 7, 3) := by decide +kernel
theorem dX8_notAtHome_36 : decode cX8_notAtHome 36 = .ok (.iconst 0, 1) := by decide +kernel
theorem dX8_notAtHome_37 : decode cX8_notAtHome 37 = .ok (.goto 4, 3) := by decide +kernel
theorem dX8_notAtHome_40 : decode cX8_notAtHome 40 = .ok (.iconst 1, 1) := by decide +kernel
theorem dX8_notAtHome_41 : decode cX8_notAtHome 41 = .ok (.iadd, 1) := by decide +kernel
theorem dX8_notAtHome_42 : decode cX8_notAtHome 42 = .ok (.istore_n 1, 1) := by decide +kernel
theorem dX8_notAtHome_43 : decode cX8_notAtHome 43 = .ok (.iinc 2 1, 3) := by decide +kernel
theorem dX8_notAtHome_46 : decode cX8_notAtHome 46 = .ok (.goto (-42), 3) := by decide +kernel
theorem dX8_notAtHome_49 : decode cX8_notAtHome 49 = .ok (.iload_n 1, 1) := by decide +kernel
theorem dX8_notAtHome_50 : decode cX8_notAtHome 50 = .ok (.ireturn, 1) := by decide +kernel
theorem dX8_openOnes_0 : decode cX8_openOnes 0 = .ok (.iconst 0, 1) := by decide +kernel
theorem dX8_openOnes_1 : decode cX8_openOnes 1 = .ok (.istore_n 1, 1) := by decide +kernel
theorem dX8_openOnes_2 : decode cX8_openOnes 2 = .ok (.iconst 1, 1) := by decide +kernel
theorem dX8_openOnes_3 : decode cX8_openOnes 3 = .ok (.istore_n 2, 1) := by decide +kernel
theorem dX8_openOnes_4 : decode cX8_openOnes 4 = .ok (.iload_n 2, 1) := by decide +kernel
theorem dX8_openOnes_5 : decode cX8_openOnes 5 = .ok (.aload_n 0, 1) := by decide +kernel
theorem dX8_openOnes_6 : decode cX8_openOnes 6 = .ok (.getfield 7, 3) := by decide +kernel
theorem dX8_openOnes_9 : decode cX8_openOnes 9 = .ok (.iconst 0, 1) := by decide +kernel
theorem dX8_openOnes_10 : decode cX8_openOnes 10 = .ok (.iaload, 1) := by decide +kernel
theorem dX8_openOnes_11 : decode cX8_openOnes 11 = .ok (.if_icmp .ge 21, 3) := by decide +kernel
theorem dX8_openOnes_14 : decode cX8_openOnes 14 = .ok (.iload_n 1, 1) := by decide +kernel
theorem dX8_openOnes_15 : decode cX8_openOnes 15 = .ok (.aload_n 0, 1) := by decide +kernel
theorem dX8_openOnes_16 : decode cX8_openOnes 16 = .ok (.getfield 7, 3) := by decide +kernel
theorem dX8_openOnes_19 : decode cX8_openOnes 19 = .ok (.bipush 56, 2) := by decide +kernel
theorem dX8_openOnes_21 : decode cX8_openOnes 21 = .ok (.iload_n 2, 1) := by decide +kernel
theorem dX8_openOnes_22 : decode cX8_openOnes 22 = .ok (.iadd, 1) := by decide +kernel
theorem dX8_openOnes_23 : decode cX8_openOnes 23 = .ok (.iaload, 1) := by decide +kernel
theorem dX8_openOnes_24 : decode cX8_openOnes 24 = .ok (.iadd, 1) := by decide +kernel
theorem dX8_openOnes_25 : decode cX8_openOnes 25 = .ok (.istore_n 1, 1) := by decide +kernel
theorem dX8_openOnes_26 : decode cX8_openOnes 26 = .ok (.iinc 2 1, 3) := by decide +kernel
theorem dX8_openOnes_29 : decode cX8_openOnes 29 = .ok (.goto (-25), 3) := by decide +kernel
theorem dX8_openOnes_32 : decode cX8_openOnes 32 = .ok (.iload_n 1, 1) := by decide +kernel
theorem dX8_openOnes_33 : decode cX8_openOnes 33 = .ok (.ireturn, 1) := by decide +kernel
theorem dX8_startGame_0 : decode cX8_startGame 0 = .ok (.aload_n 0, 1) := by decide +kernel
theorem dX8_startGame_1 : decode cX8_startGame 1 = .ok (.invokevirtual 105, 3) := by decide +kernel
theorem dX8_startGame_4 : decode cX8_startGame 4 = .ok (.ifCond .ne 34, 3) := by decide +kernel
theorem dX8_startGame_7 : decode cX8_startGame 7 = .ok (.aload_n 0, 1) := by decide +kernel
theorem dX8_startGame_8 : decode cX8_startGame 8 = .ok (.getfield 7, 3) := by decide +kernel
theorem dX8_startGame_11 : decode cX8_startGame 11 = .ok (.iconst 3, 1) := by decide +kernel
theorem dX8_startGame_12 : decode cX8_startGame 12 = .ok (.iaload, 1) := by decide +kernel
theorem dX8_startGame_13 : decode cX8_startGame 13 = .ok (.ifCond .eq 25, 3) := by decide +kernel
theorem dX8_startGame_16 : decode cX8_startGame 16 = .ok (.aload_n 0, 1) := by decide +kernel
theorem dX8_startGame_17 : decode cX8_startGame 17 = .ok (.getfield 7, 3) := by decide +kernel
theorem dX8_startGame_20 : decode cX8_startGame 20 = .ok (.iconst 5, 1) := by decide +kernel
theorem dX8_startGame_21 : decode cX8_startGame 21 = .ok (.iaload, 1) := by decide +kernel
theorem dX8_startGame_22 : decode cX8_startGame 22 = .ok (.ifCond .eq 16, 3) := by decide +kernel
theorem dX8_startGame_25 : decode cX8_startGame 25 = .ok (.aload_n 0, 1) := by decide +kernel
theorem dX8_startGame_26 : decode cX8_startGame 26 = .ok (.aload_n 0, 1) := by decide +kernel
theorem dX8_startGame_27 : decode cX8_startGame 27 = .ok (.getfield 7, 3) := by decide +kernel
theorem dX8_startGame_30 : decode cX8_startGame 30 = .ok (.iconst 5, 1) := by decide +kernel
theorem dX8_startGame_31 : decode cX8_startGame 31 = .ok (.iaload, 1) := by decide +kernel
theorem dX8_startGame_32 : decode cX8_startGame 32 = .ok (.invokevirtual 34, 3) := by decide +kernel
theorem dX8_startGame_35 : decode cX8_startGame 35 = .ok (.ifCond .eq 6, 3) := by decide +kernel
theorem dX8_startGame_38 : decode cX8_startGame 38 = .ok (.bipush (-4), 2) := by decide +kernel
theorem dX8_startGame_40 : decode cX8_startGame 40 = .ok (.ireturn, 1) := by decide +kernel
theorem dX8_startGame_41 : decode cX8_startGame 41 = .ok (.aload_n 0, 1) := by decide +kernel
theorem dX8_startGame_42 : decode cX8_startGame 42 = .ok (.getfield 7, 3) := by decide +kernel
theorem dX8_startGame_45 : decode cX8_startGame 45 = .ok (.iconst 4, 1) := by decide +kernel
theorem dX8_startGame_46 : decode cX8_startGame 46 = .ok (.iaload, 1) := by decide +kernel
theorem dX8_startGame_47 : decode cX8_startGame 47 = .ok (.bipush 30, 2) := by decide +kernel
theorem dX8_startGame_49 : decode cX8_startGame 49 = .ok (.if_icmp .ne 6, 3) := by decide +kernel
theorem dX8_startGame_52 : decode cX8_startGame 52 = .ok (.bipush (-3), 2) := by decide +kernel
theorem dX8_startGame_54 : decode cX8_startGame 54 = .ok (.ireturn, 1) := by decide +kernel
theorem dX8_startGame_55 : decode cX8_startGame 55 = .ok (.aload_n 0, 1) := by decide +kernel
theorem dX8_startGame_56 : decode cX8_startGame 56 = .ok (.getfield 7, 3) := by decide +kernel
theorem dX8_startGame_59 : decode cX8_startGame 59 = .ok (.bipush 11, 2) := by decide +kernel
theorem dX8_startGame_61 : decode cX8_startGame 61 = .ok (.aload_n 0, 1) := by decide +kernel
theorem dX8_startGame_62 : decode cX8_startGame 62 = .ok (.getfield 7, 3) := by decide +kernel
theorem dX8_startGame_65 : decode cX8_startGame 65 = .ok (.sipush 176, 3) := by decide +kernel
theorem dX8_startGame_68 : decode cX8_startGame 68 = .ok (.iaload, 1) := by decide +kernel
theorem dX8_startGame_69 : decode cX8_startGame 69 = .ok (.iastore, 1) := by decide +kernel
theorem dX8_startGame_70 : decode cX8_startGame 70 = .ok (.aload_n 0, 1) := by decide +kernel
theorem dX8_startGame_71 : decode cX8_startGame 71 = .ok (.getfield 7, 3) := by decide +kernel
theorem dX8_startGame_74 : decode cX8_startGame 74 = .ok (.bipush 12, 2) := by decide +kernel
theorem dX8_startGame_76 : decode cX8_startGame 76 = .ok (.aload_n 0, 1) := by decide +kernel
theorem dX8_startGame_77 : decode cX8_startGame 77 = .ok (.getfield 7, 3) := by decide +kernel
theorem dX8_startGame_80 : decode cX8_startGame 80 = .ok (.sipush 184, 3) := by decide +kernel
theorem dX8_startGame_83 : decode cX8_startGame 83 = .ok (.iaload, 1) := by decide +kernel
theorem dX8_startGame_84 : decode cX8_startGame 84 = .ok (.iastore, 1) := by decide +kernel
theorem dX8_startGame_85 : decode cX8_startGame 85 = .ok (.aload_n 0, 1) := by decide +kernel
theorem dX8_startGame_86 : decode cX8_startGame 86 = .ok (.iconst 0, 1) := by decide +kernel
theorem dX8_startGame_87 : decode cX8_startGame 87 = .ok (.invokevirtual 112, 3) := by decide +kernel
theorem dX8_startGame_90 : decode cX8_startGame 90 = .ok (.aload_n 0, 1) := by decide +kernel
theorem dX8_startGame_91 : decode cX8_startGame 91 = .ok (.getfield 7, 3) := by decide +kernel
theorem dX8_startGame_94 : decode cX8_startGame 94 = .ok (.bipush 12, 2) := by decide +kernel
theorem dX8_startGame_96 : decode cX8_startGame 96 = .ok (.iaload, 1) := by decide +kernel
theorem dX8_startGame_97 : decode cX8_startGame 97 = .ok (.aload_n 0, 1) := by decide +kernel
theorem dX8_startGame_98 : decode cX8_startGame 98 = .ok (.getfield 7, 3) := by decide +kernel
theorem dX8_startGame_101 : decode cX8_startGame 101 = .ok (.bipush 9, 2) := by decide +kernel
theorem dX8_startGame_103 : decode cX8_startGame 103 = .ok (.iaload, 1) := by decide +kernel
theorem dX8_startGame_104 : decode cX8_startGame 104 = .ok (.if_icmp .le 22, 3) := by decide +kernel
theorem dX8_startGame_107 : decode cX8_startGame 107 = .ok (.aload_n 0, 1) := by decide +kernel
theorem dX8_startGame_108 : decode cX8_startGame 108 = .ok (.aload_n 0, 1) := by decide +kernel
theorem dX8_startGame_109 : decode cX8_startGame 109 = .ok (.getfield 7, 3) := by decide +kernel
theorem dX8_startGame_112 : decode cX8_startGame 112 = .ok (.bipush 12, 2) := by decide +kernel
theorem dX8_startGame_114 : decode cX8_startGame 114 = .ok (.iaload, 1) := by decide +kernel
theorem dX8_startGame_115 : decode cX8_startGame 115 = .ok (.aload_n 0, 1) := by decide +kernel
theorem dX8_startGame_116 : decode cX8_startGame 116 = .ok (.getfield 7, 3) := by decide +kernel
theorem dX8_startGame_119 : decode cX8_startGame 119 = .ok (.bipush 9, 2) := by decide +kernel
theorem dX8_startGame_121 : decode cX8_startGame 121 = .ok (.iaload, 1) := by decide +kernel
theorem dX8_startGame_122 : decode cX8_startGame 122 = .ok (.isub, 1) := by decide +kernel
theorem dX8_startGame_123 : decode cX8_startGame 123 = .ok (.invokevirtual 115, 3) := by decide +kernel
theorem dX8_startGame_126 : decode cX8_startGame 126 = .ok (.aload_n 0, 1) := by decide +kernel
theorem dX8_startGame_127 : decode cX8_startGame 127 = .ok (.getfield 7, 3) := by decide +kernel
theorem dX8_startGame_130 : decode cX8_startGame 130 = .ok (.bipush 10, 2) := by decide +kernel
theorem dX8_startGame_132 : decode cX8_startGame 132 = .ok (.iconst 1, 1) := by decide +kernel
theorem dX8_startGame_133 : decode cX8_startGame 133 = .ok (.iastore, 1) := by decide +kernel
theorem dX8_startGame_134 : decode cX8_startGame 134 = .ok (.aload_n 0, 1) := by decide +kernel
theorem dX8_startGame_135 : decode cX8_startGame 135 = .ok (.getfield 7, 3) := by decide +kernel
theorem dX8_startGame_138 : decode cX8_startGame 138 = .ok (.bipush 13, 2) := by decide +kernel
theorem dX8_startGame_140 : decode cX8_startGame 140 = .ok (.aload_n 0, 1) := by decide +kernel
theorem dX8_startGame_141 : decode cX8_startGame 141 = .ok (.getfield 7, 3) := by decide +kernel
theorem dX8_startGame_144 : decode cX8_startGame 144 = .ok (.bipush 9, 2) := by decide +kernel
theorem dX8_startGame_146 : decode cX8_startGame 146 = .ok (.iaload, 1) := by decide +kernel
theorem dX8_startGame_147 : decode cX8_startGame 147 = .ok (.iastore, 1) := by decide +kernel
theorem dX8_startGame_148 : decode cX8_startGame 148 = .ok (.aload_n 0, 1) := by decide +kernel
theorem dX8_startGame_149 : decode cX8_startGame 149 = .ok (.getfield 7, 3) := by decide +kernel
theorem dX8_startGame_152 : decode cX8_startGame 152 = .ok (.bipush 14, 2) := by decide +kernel
theorem dX8_startGame_154 : decode cX8_startGame 154 = .ok (.iconst 0, 1) := by decide +kernel
theorem dX8_startGame_155 : decode cX8_startGame 155 = .ok (.iastore, 1) := by decide +kernel
theorem dX8_startGame_156 : decode cX8_startGame 156 = .ok (.aload_n 0, 1) := by decide +kernel
theorem dX8_startGame_157 : decode cX8_startGame 157 = .ok (.getfield 7, 3) := by decide +kernel
theorem dX8_startGame_160 : decode cX8_startGame 160 = .ok (.bipush 15, 2) := by decide +kernel
theorem dX8_startGame_162 : decode cX8_startGame 162 = .ok (.iconst 0, 1) := by decide +kernel
theorem dX8_startGame_163 : decode cX8_startGame 163 = .ok (.iastore, 1) := by decide +kernel
theorem dX8_startGame_164 : decode cX8_startGame 164 = .ok (.aload_n 0, 1) := by decide +kernel
theorem dX8_startGame_165 : decode cX8_startGame 165 = .ok (.getfield 7, 3) := by decide +kernel
theorem dX8_startGame_168 : decode cX8_startGame 168 = .ok (.bipush 16, 2) := by decide +kernel
theorem dX8_startGame_170 : decode cX8_startGame 170 = .ok (.aload_n 0, 1) := by decide +kernel
theorem dX8_startGame_171 : decode cX8_startGame 171 = .ok (.invokevirtual 118, 3) := by decide +kernel
theorem dX8_startGame_174 : decode cX8_startGame 174 = .ok (.aload_n 0, 1) := by decide +kernel
theorem dX8_startGame_175 : decode cX8_startGame 175 = .ok (.invokevirtual 121, 3) := by decide +kernel
theorem dX8_startGame_178 : decode cX8_startGame 178 = .ok (.iadd, 1) := by decide +kernel
theorem dX8_startGame_179 : decode cX8_startGame 179 = .ok (.iastore, 1) := by decide +kernel
theorem dX8_startGame_180 : decode cX8_startGame 180 = .ok (.aload_n 0, 1) := by decide +kernel
theorem dX8_startGame_181 : decode cX8_startGame 181 = .ok (.getfield 7, 3) := by decide +kernel
theorem dX8_startGame_184 : decode cX8_startGame 184 = .ok (.bipush 17, 2) := by decide +kernel
theorem dX8_startGame_186 : decode cX8_startGame 186 = .ok (.iconst 0, 1) := by decide +kernel
theorem dX8_startGame_187 : decode cX8_startGame 187 = .ok (.iastore, 1) := by decide +kernel
theorem dX8_startGame_188 : decode cX8_startGame 188 = .ok (.iconst 0, 1) := by decide +kernel
theorem dX8_startGame_189 : decode cX8_startGame 189 = .ok (.istore_n 1, 1) := by decide +kernel
theorem dX8_startGame_190 : decode cX8_startGame 190 = .ok (.iload_n 1, 1) := by decide +kernel
theorem dX8_startGame_191 : decode cX8_startGame 191 = .ok (.bipush 12, 2) := by decide +kernel
theorem dX8_startGame_193 : decode cX8_startGame 193 = .ok (.if_icmp .ge 19, 3) := by decide +kernel
theorem dX8_startGame_196 : decode cX8_startGame 196 = .ok (.aload_n 0, 1) := by decide +kernel
theorem dX8_startGame_197 : decode cX8_startGame 197 = .ok (.getfield 7, 3) := by decide +kernel
theorem dX8_startGame_200 : decode cX8_startGame 200 = .ok (.bipush 68, 2) := by decide +kernel
theorem dX8_startGame_202 : decode cX8_startGame 202 = .ok (.iload_n 1, 1) := by decide +kernel
theorem dX8_startGame_203 : decode cX8_startGame 203 = .ok (.iadd, 1) := by decide +kernel
theorem dX8_startGame_204 : decode cX8_startGame 204 = .ok (.iconst 0, 1) := by decide +kernel
theorem dX8_startGame_205 : decode cX8_startGame 205 = .ok (.iastore, 1) := by decide +kernel
theorem dX8_startGame_206 : decode cX8_startGame 206 = .ok (.iinc 1 1, 3) := by decide +kernel
theorem dX8_startGame_209 : decode cX8_startGame 209 = .ok (.goto (-19), 3) := by decide +kernel
theorem dX8_startGame_212 : decode cX8_startGame 212 = .ok (.aload_n 0, 1) := by decide +kernel
theorem dX8_startGame_213 : decode cX8_startGame 213 = .ok (.getfield 7, 3) := by decide +kernel
theorem dX8_startGame_216 : decode cX8_startGame 216 = .ok (.bipush 13, 2) := by decide +kernel
theorem dX8_startGame_218 : decode cX8_startGame 218 = .ok (.iaload, 1) := by decide +kernel
theorem dX8_startGame_219 : decode cX8_startGame 219 = .ok (.aload_n 0, 1) := by decide +kernel
theorem dX8_startGame_220 : decode cX8_startGame 220 = .ok (.getfield 7, 3) := by decide +kernel
theorem dX8_startGame_223 : decode cX8_startGame 223 = .ok (.bipush 12, 2) := by decide +kernel
theorem dX8_startGame_225 : decode cX8_startGame 225 = .ok (.iaload, 1) := by decide +kernel
theorem dX8_startGame_226 : decode cX8_startGame 226 = .ok (.isub, 1) := by decide +kernel
theorem dX8_startGame_227 : decode cX8_startGame 227 = .ok (.ireturn, 1) := by decide +kernel
theorem dX8_note_0 : decode cX8_note 0 = .ok (.sipush 402, 3) := by decide +kernel
theorem dX8_note_3 : decode cX8_note 3 = .ok (.iconst 4, 1) := by decide +kernel
theorem dX8_note_4 : decode cX8_note 4 = .ok (.aload_n 0, 1) := by decide +kernel
theorem dX8_note_5 : decode cX8_note 5 = .ok (.getfield 7, 3) := by decide +kernel
theorem dX8_note_8 : decode cX8_note 8 = .ok (.bipush 17, 2) := by decide +kernel
theorem dX8_note_10 : decode cX8_note 10 = .ok (.iaload, 1) := by decide +kernel
theorem dX8_note_11 : decode cX8_note 11 = .ok (.imul, 1) := by decide +kernel
theorem dX8_note_12 : decode cX8_note 12 = .ok (.iadd, 1) := by decide +kernel
theorem dX8_note_13 : decode cX8_note 13 = .ok (.istore 4, 2) := by decide +kernel
theorem dX8_note_15 : decode cX8_note 15 = .ok (.aload_n 0, 1) := by decide +kernel
theorem dX8_note_16 : decode cX8_note 16 = .ok (.getfield 7, 3) := by decide +kernel
theorem dX8_note_19 : decode cX8_note 19 = .ok (.iload 4, 2) := by decide +kernel
theorem dX8_note_21 : decode cX8_note 21 = .ok (.aload_n 0, 1) := by decide +kernel
theorem dX8_note_22 : decode cX8_note 22 = .ok (.getfield 7, 3) := by decide +kernel
theorem dX8_note_25 : decode cX8_note 25 = .ok (.bipush 9, 2) := by decide +kernel
theorem dX8_note_27 : decode cX8_note 27 = .ok (.iaload, 1) := by decide +kernel
theorem dX8_note_28 : decode cX8_note 28 = .ok (.aload_n 0, 1) := by decide +kernel
theorem dX8_note_29 : decode cX8_note 29 = .ok (.getfield 7, 3) := by decide +kernel
theorem dX8_note_32 : decode cX8_note 32 = .ok (.bipush 13, 2) := by decide +kernel
theorem dX8_note_34 : decode cX8_note 34 = .ok (.iaload, 1) := by decide +kernel
theorem dX8_note_35 : decode cX8_note 35 = .ok (.isub, 1) := by decide +kernel
theorem dX8_note_36 : decode cX8_note 36 = .ok (.iastore, 1) := by decide +kernel
theorem dX8_note_37 : decode cX8_note 37 = .ok (.aload_n 0, 1) := by decide +kernel
theorem dX8_note_38 : decode cX8_note 38 = .ok (.getfield 7, 3) := by decide +kernel
theorem dX8_note_41 : decode cX8_note 41 = .ok (.iload 4, 2) := by decide +kernel
theorem dX8_note_43 : decode cX8_note 43 = .ok (.iconst 1, 1) := by decide +kernel
theorem dX8_note_44 : decode cX8_note 44 = .ok (.iadd, 1) := by decide +kernel
theorem dX8_note_45 : decode cX8_note 45 = .ok (.iload_n 1, 1) := by decide +kernel
theorem dX8_note_46 : decode cX8_note 46 = .ok (.iastore, 1) := by decide +kernel
theorem dX8_note_47 : decode cX8_note 47 = .ok (.aload_n 0, 1) := by decide +kernel
theorem dX8_note_48 : decode cX8_note 48 = .ok (.getfield 7, 3) := by decide +kernel
theorem dX8_note_51 : decode cX8_note 51 = .ok (.iload 4, 2) := by decide +kernel
theorem dX8_note_53 : decode cX8_note 53 = .ok (.iconst 2, 1) := by decide +kernel
theorem dX8_note_54 : decode cX8_note 54 = .ok (.iadd, 1) := by decide +kernel
theorem dX8_note_55 : decode cX8_note 55 = .ok (.iload_n 2, 1) := by decide +kernel
theorem dX8_note_56 : decode cX8_note 56 = .ok (.iastore, 1) := by decide +kernel
theorem dX8_note_57 : decode cX8_note 57 = .ok (.aload_n 0, 1) := by decide +kernel
theorem dX8_note_58 : decode cX8_note 58 = .ok (.getfield 7, 3) := by decide +kernel
theorem dX8_note_61 : decode cX8_note 61 = .ok (.iload 4, 2) := by decide +kernel
theorem dX8_note_63 : decode cX8_note 63 = .ok (.iconst 3, 1) := by decide +kernel
theorem dX8_note_64 : decode cX8_note 64 = .ok (.iadd, 1) := by decide +kernel
theorem dX8_note_65 : decode cX8_note 65 = .ok (.iload_n 3, 1) := by decide +kernel
theorem dX8_note_66 : decode cX8_note 66 = .ok (.iastore, 1) := by decide +kernel
theorem dX8_note_67 : decode cX8_note 67 = .ok (.aload_n 0, 1) := by decide +kernel
theorem dX8_note_68 : decode cX8_note 68 = .ok (.getfield 7, 3) := by decide +kernel
theorem dX8_note_71 : decode cX8_note 71 = .ok (.bipush 17, 2) := by decide +kernel
theorem dX8_note_73 : decode cX8_note 73 = .ok (.dup2, 1) := by decide +kernel
theorem dX8_note_74 : decode cX8_note 74 = .ok (.iaload, 1) := by decide +kernel
theorem dX8_note_75 : decode cX8_note 75 = .ok (.iconst 1, 1) := by decide +kernel
theorem dX8_note_76 : decode cX8_note 76 = .ok (.iadd, 1) := by decide +kernel
theorem dX8_note_77 : decode cX8_note 77 = .ok (.iastore, 1) := by decide +kernel
theorem dX8_note_78 : decode cX8_note 78 = .ok (.return_, 1) := by decide +kernel
theorem dX8_end_0 : decode cX8_end 0 = .ok (.iconst 0, 1) := by decide +kernel
theorem dX8_end_1 : decode cX8_end 1 = .ok (.istore_n 2, 1) := by decide +kernel
theorem dX8_end_2 : decode cX8_end 2 = .ok (.iload_n 2, 1) := by decide +kernel
theorem dX8_end_3 : decode cX8_end 3 = .ok (.aload_n 0, 1) := by decide +kernel
theorem dX8_end_4 : decode cX8_end 4 = .ok (.getfield 7, 3) := by decide +kernel
theorem dX8_end_7 : decode cX8_end 7 = .ok (.iconst 1, 1) := by decide +kernel
theorem dX8_end_8 : decode cX8_end 8 = .ok (.iaload, 1) := by decide +kernel
theorem dX8_end_9 : decode cX8_end 9 = .ok (.if_icmp .ge 39, 3) := by decide +kernel
theorem dX8_end_12 : decode cX8_end 12 = .ok (.aload_n 0, 1) := by decide +kernel
theorem dX8_end_13 : decode cX8_end 13 = .ok (.getfield 7, 3) := by decide +kernel
theorem dX8_end_16 : decode cX8_end 16 = .ok (.bipush 104, 2) := by decide +kernel
theorem dX8_end_18 : decode cX8_end 18 = .ok (.iload_n 2, 1) := by decide +kernel
theorem dX8_end_19 : decode cX8_end 19 = .ok (.iadd, 1) := by decide +kernel
theorem dX8_end_20 : decode cX8_end 20 = .ok (.aload_n 0, 1) := by decide +kernel
theorem dX8_end_21 : decode cX8_end 21 = .ok (.iload_n 2, 1) := by decide +kernel
theorem dX8_end_22 : decode cX8_end 22 = .ok (.invokevirtual 45, 3) := by decide +kernel
theorem dX8_end_25 : decode cX8_end 25 = .ok (.ifCond .eq 7, 3) := by decide +kernel
theorem dX8_end_28 : decode cX8_end 28 = .ok (.iconst 0, 1) := by decide +kernel
theorem dX8_end_29 : decode cX8_end 29 = .ok (.goto 12, 3) := by decide +kernel
theorem dX8_end_32 : decode cX8_end 32 = .ok (.aload_n 0, 1) := by decide +kernel
theorem dX8_end_33 : decode cX8_end 33 = .ok (.getfield 7, 3) := by decide +kernel
theorem dX8_end_36 : decode cX8_end 36 = .ok (.bipush 104, 2) := by decide +kernel
theorem dX8_end_38 : decode cX8_end 38 = .ok (.iload_n 2, 1) := by decide +kernel
theorem dX8_end_39 : decode cX8_end 39 = .ok (.iadd, 1) := by decide +kernel
theorem dX8_end_40 : decode cX8_end 40 = .ok (.iaload, 1) := by decide +kernel
theorem dX8_end_41 : decode cX8_end 41 = .ok (.iastore, 1) := by decide +kernel
theorem dX8_end_42 : decode cX8_end 42 = .ok (.iinc 2 1, 3) := by decide +kernel
theorem dX8_end_45 : decode cX8_end 45 = .ok (.goto (-43), 3) := by decide +kernel
theorem dX8_end_48 : decode cX8_end 48 = .ok (.sipush 192, 3) := by decide +kernel
theorem dX8_end_51 : decode cX8_end 51 = .ok (.bipush 7, 2) := by decide +kernel
theorem dX8_end_53 : decode cX8_end 53 = .ok (.aload_n 0, 1) := by decide +kernel
theorem dX8_end_54 : decode cX8_end 54 = .ok (.getfield 7, 3) := by decide +kernel
theorem dX8_end_57 : decode cX8_end 57 = .ok (.iconst 4, 1) := by decide +kernel
theorem dX8_end_58 : decode cX8_end 58 = .ok (.iaload, 1) := by decide +kernel
theorem dX8_end_59 : decode cX8_end 59 = .ok (.imul, 1) := by decide +kernel
theorem dX8_end_60 : decode cX8_end 60 = .ok (.iadd, 1) := by decide +kernel
theorem dX8_end_61 : decode cX8_end 61 = .ok (.istore_n 2, 1) := by decide +kernel
theorem dX8_end_62 : decode cX8_end 62 = .ok (.aload_n 0, 1) := by decide +kernel
theorem dX8_end_63 : decode cX8_end 63 = .ok (.getfield 7, 3) := by decide +kernel
theorem dX8_end_66 : decode cX8_end 66 = .ok (.iload_n 2, 1) := by decide +kernel
theorem dX8_end_67 : decode cX8_end 67 = .ok (.aload_n 0, 1) := by decide +kernel
theorem dX8_end_68 : decode cX8_end 68 = .ok (.getfield 7, 3) := by decide +kernel
theorem dX8_end_71 : decode cX8_end 71 = .ok (.bipush 11, 2) := by decide +kernel
theorem dX8_end_73 : decode cX8_end 73 = .ok (.iaload, 1) := by decide +kernel
theorem dX8_end_74 : decode cX8_end 74 = .ok (.iastore, 1) := by decide +kernel
theorem dX8_end_75 : decode cX8_end 75 = .ok (.aload_n 0, 1) := by decide +kernel
theorem dX8_end_76 : decode cX8_end 76 = .ok (.getfield 7, 3) := by decide +kernel
theorem dX8_end_79 : decode cX8_end 79 = .ok (.iload_n 2, 1) := by decide +kernel
theorem dX8_end_80 : decode cX8_end 80 = .ok (.iconst 1, 1) := by decide +kernel
theorem dX8_end_81 : decode cX8_end 81 = .ok (.iadd, 1) := by decide +kernel
theorem dX8_end_82 : decode cX8_end 82 = .ok (.aload_n 0, 1) := by decide +kernel
theorem dX8_end_83 : decode cX8_end 83 = .ok (.getfield 7, 3) := by decide +kernel
theorem dX8_end_86 : decode cX8_end 86 = .ok (.bipush 12, 2) := by decide +kernel
theorem dX8_end_88 : decode cX8_end 88 = .ok (.iaload, 1) := by decide +kernel
theorem dX8_end_89 : decode cX8_end 89 = .ok (.iastore, 1) := by decide +kernel
theorem dX8_end_90 : decode cX8_end 90 = .ok (.aload_n 0, 1) := by decide +kernel
theorem dX8_end_91 : decode cX8_end 91 = .ok (.getfield 7, 3) := by decide +kernel
theorem dX8_end_94 : decode cX8_end 94 = .ok (.iload_n 2, 1) := by decide +kernel
theorem dX8_end_95 : decode cX8_end 95 = .ok (.iconst 2, 1) := by decide +kernel
theorem dX8_end_96 : decode cX8_end 96 = .ok (.iadd, 1) := by decide +kernel
theorem dX8_end_97 : decode cX8_end 97 = .ok (.aload_n 0, 1) := by decide +kernel
theorem dX8_end_98 : decode cX8_end 98 = .ok (.getfield 7, 3) := by decide +kernel
theorem dX8_end_101 : decode cX8_end 101 = .ok (.bipush 13, 2) := by decide +kernel
theorem dX8_end_103 : decode cX8_end 103 = .ok (.iaload, 1) := by decide +kernel
theorem dX8_end_104 : decode cX8_end 104 = .ok (.iastore, 1) := by decide +kernel
theorem dX8_end_105 : decode cX8_end 105 = .ok (.aload_n 0, 1) := by decide +kernel
theorem dX8_end_106 : decode cX8_end 106 = .ok (.getfield 7, 3) := by decide +kernel
theorem dX8_end_109 : decode cX8_end 109 = .ok (.iload_n 2, 1) := by decide +kernel
theorem dX8_end_110 : decode cX8_end 110 = .ok (.iconst 3, 1) := by decide +kernel
theorem dX8_end_111 : decode cX8_end 111 = .ok (.iadd, 1) := by decide +kernel
theorem dX8_end_112 : decode cX8_end 112 = .ok (.aload_n 0, 1) := by decide +kernel
theorem dX8_end_113 : decode cX8_end 113 = .ok (.getfield 7, 3) := by decide +kernel
theorem dX8_end_116 : decode cX8_end 116 = .ok (.bipush 9, 2) := by decide +kernel
theorem dX8_end_118 : decode cX8_end 118 = .ok (.iaload, 1) := by decide +kernel
theorem dX8_end_119 : decode cX8_end 119 = .ok (.aload_n 0, 1) := by decide +kernel
theorem dX8_end_120 : decode cX8_end 120 = .ok (.getfield 7, 3) := by decide +kernel
theorem dX8_end_123 : decode cX8_end 123 = .ok (.bipush 13, 2) := by decide +kernel
theorem dX8_end_125 : decode cX8_end 125 = .ok (.iaload, 1) := by decide +kernel
theorem dX8_end_126 : decode cX8_end 126 = .ok (.isub, 1) := by decide +kernel
theorem dX8_end_127 : decode cX8_end 127 = .ok (.iastore, 1) := by decide +kernel
theorem dX8_end_128 : decode cX8_end 128 = .ok (.aload_n 0, 1) := by decide +kernel
theorem dX8_end_129 : decode cX8_end 129 = .ok (.getfield 7, 3) := by decide +kernel
theorem dX8_end_132 : decode cX8_end 132 = .ok (.iload_n 2, 1) := by decide +kernel
theorem dX8_end_133 : decode cX8_end 133 = .ok (.iconst 4, 1) := by decide +kernel
theorem dX8_end_134 : decode cX8_end 134 = .ok (.iadd, 1) := by decide +kernel
theorem dX8_end_135 : decode cX8_end 135 = .ok (.iload_n 1, 1) := by decide +kernel
theorem dX8_end_136 : decode cX8_end 136 = .ok (.iastore, 1) := by decide +kernel
theorem dX8_end_137 : decode cX8_end 137 = .ok (.aload_n 0, 1) := by decide +kernel
theorem dX8_end_138 : decode cX8_end 138 = .ok (.getfield 7, 3) := by decide +kernel
theorem dX8_end_141 : decode cX8_end 141 = .ok (.iload_n 2, 1) := by decide +kernel
theorem dX8_end_142 : decode cX8_end 142 = .ok (.iconst 5, 1) := by decide +kernel
theorem dX8_end_143 : decode cX8_end 143 = .ok (.iadd, 1) := by decide +kernel
theorem dX8_end_144 : decode cX8_end 144 = .ok (.aload_n 0, 1) := by decide +kernel
theorem dX8_end_145 : decode cX8_end 145 = .ok (.getfield 7, 3) := by decide +kernel
theorem dX8_end_148 : decode cX8_end 148 = .ok (.bipush 14, 2) := by decide +kernel
theorem dX8_end_150 : decode cX8_end 150 = .ok (.iaload, 1) := by decide +kernel
theorem dX8_end_151 : decode cX8_end 151 = .ok (.iastore, 1) := by decide +kernel
theorem dX8_end_152 : decode cX8_end 152 = .ok (.aload_n 0, 1) := by decide +kernel
theorem dX8_end_153 : decode cX8_end 153 = .ok (.getfield 7, 3) := by decide +kernel
theorem dX8_end_156 : decode cX8_end 156 = .ok (.iload_n 2, 1) := by decide +kernel
theorem dX8_end_157 : decode cX8_end 157 = .ok (.bipush 6, 2) := by decide +kernel
theorem dX8_end_159 : decode cX8_end 159 = .ok (.iadd, 1) := by decide +kernel
theorem dX8_end_160 : decode cX8_end 160 = .ok (.aload_n 0, 1) := by decide +kernel
theorem dX8_end_161 : decode cX8_end 161 = .ok (.getfield 7, 3) := by decide +kernel
theorem dX8_end_164 : decode cX8_end 164 = .ok (.bipush 16, 2) := by decide +kernel
theorem dX8_end_166 : decode cX8_end 166 = .ok (.iaload, 1) := by decide +kernel
theorem dX8_end_167 : decode cX8_end 167 = .ok (.iastore, 1) := by decide +kernel
theorem dX8_end_168 : decode cX8_end 168 = .ok (.aload_n 0, 1) := by decide +kernel
theorem dX8_end_169 : decode cX8_end 169 = .ok (.getfield 7, 3) := by decide +kernel
theorem dX8_end_172 : decode cX8_end 172 = .ok (.iconst 4, 1) := by decide +kernel
theorem dX8_end_173 : decode cX8_end 173 = .ok (.dup2, 1) := by decide +kernel
theorem dX8_end_174 : decode cX8_end 174 = .ok (.iaload, 1) := by decide +kernel
theorem dX8_end_175 : decode cX8_end 175 = .ok (.iconst 1, 1) := by decide +kernel
theorem dX8_end_176 : decode cX8_end 176 = .ok (.iadd, 1) := by decide +kernel
theorem dX8_end_177 : decode cX8_end 177 = .ok (.iastore, 1) := by decide +kernel
theorem dX8_end_178 : decode cX8_end 178 = .ok (.aload_n 0, 1) := by decide +kernel
theorem dX8_end_179 : decode cX8_end 179 = .ok (.getfield 7, 3) := by decide +kernel
theorem dX8_end_182 : decode cX8_end 182 = .ok (.bipush 10, 2) := by decide +kernel
theorem dX8_end_184 : decode cX8_end 184 = .ok (.iconst 0, 1) := by decide +kernel
theorem dX8_end_185 : decode cX8_end 185 = .ok (.iastore, 1) := by decide +kernel
theorem dX8_end_186 : decode cX8_end 186 = .ok (.return_, 1) := by decide +kernel
theorem dX8_minutesLeft_0 : decode cX8_minutesLeft 0 = .ok (.aload_n 0, 1) := by decide +kernel
theorem dX8_minutesLeft_1 : decode cX8_minutesLeft 1 = .ok (.getfield 7, 3) := by decide +kernel
theorem dX8_minutesLeft_4 : decode cX8_minutesLeft 4 = .ok (.bipush 13, 2) := by decide +kernel
theorem dX8_minutesLeft_6 : decode cX8_minutesLeft 6 = .ok (.iaload, 1) := by decide +kernel
theorem dX8_minutesLeft_7 : decode cX8_minutesLeft 7 = .ok (.aload_n 0, 1) := by decide +kernel
theorem dX8_minutesLeft_8 : decode cX8_minutesLeft 8 = .ok (.getfield 7, 3) := by decide +kernel
theorem dX8_minutesLeft_11 : decode cX8_minutesLeft 11 = .ok (.bipush 6, 2) := by decide +kernel
theorem dX8_minutesLeft_13 : decode cX8_minutesLeft 13 = .ok (.iaload, 1) := by decide +kernel
theorem dX8_minutesLeft_14 : decode cX8_minutesLeft 14 = .ok (.iadd, 1) := by decide +kernel
theorem dX8_minutesLeft_15 : decode cX8_minutesLeft 15 = .ok (.aload_n 0, 1) := by decide +kernel
theorem dX8_minutesLeft_16 : decode cX8_minutesLeft 16 = .ok (.getfield 7, 3) := by decide +kernel
theorem dX8_minutesLeft_19 : decode cX8_minutesLeft 19 = .ok (.bipush 9, 2) := by decide +kernel
theorem dX8_minutesLeft_21 : decode cX8_minutesLeft 21 = .ok (.iaload, 1) := by decide +kernel
theorem dX8_minutesLeft_22 : decode cX8_minutesLeft 22 = .ok (.isub, 1) := by decide +kernel
theorem dX8_minutesLeft_23 : decode cX8_minutesLeft 23 = .ok (.ireturn, 1) := by decide +kernel
theorem dX8_lessHalf_0 : decode cX8_lessHalf 0 = .ok (.iload_n 1, 1) := by decide +kernel
theorem dX8_lessHalf_1 : decode cX8_lessHalf 1 = .ok (.aload_n 0, 1) := by decide +kernel
theorem dX8_lessHalf_2 : decode cX8_lessHalf 2 = .ok (.getfield 7, 3) := by decide +kernel
theorem dX8_lessHalf_5 : decode cX8_lessHalf 5 = .ok (.bipush 11, 2) := by decide +kernel
theorem dX8_lessHalf_7 : decode cX8_lessHalf 7 = .ok (.iaload, 1) := by decide +kernel
theorem dX8_lessHalf_8 : decode cX8_lessHalf 8 = .ok (.iconst 2, 1) := by decide +kernel
theorem dX8_lessHalf_9 : decode cX8_lessHalf 9 = .ok (.idiv, 1) := by decide +kernel
theorem dX8_lessHalf_10 : decode cX8_lessHalf 10 = .ok (.isub, 1) := by decide +kernel
theorem dX8_lessHalf_11 : decode cX8_lessHalf 11 = .ok (.istore_n 2, 1) := by decide +kernel
theorem dX8_lessHalf_12 : decode cX8_lessHalf 12 = .ok (.iload_n 2, 1) := by decide +kernel
theorem dX8_lessHalf_13 : decode cX8_lessHalf 13 = .ok (.iconst 1, 1) := by decide +kernel
theorem dX8_lessHalf_14 : decode cX8_lessHalf 14 = .ok (.if_icmp .le 7, 3) := by decide +kernel
theorem dX8_lessHalf_17 : decode cX8_lessHalf 17 = .ok (.iload_n 2, 1) := by decide +kernel
theorem dX8_lessHalf_18 : decode cX8_lessHalf 18 = .ok (.goto 4, 3) := by decide +kernel
theorem dX8_lessHalf_21 : decode cX8_lessHalf 21 = .ok (.iconst 1, 1) := by decide +kernel
theorem dX8_lessHalf_22 : decode cX8_lessHalf 22 = .ok (.ireturn, 1) := by decide +kernel
theorem dX8_readMinutes_0 : decode cX8_readMinutes 0 = .ok (.aload_n 0, 1) := by decide +kernel
theorem dX8_readMinutes_1 : decode cX8_readMinutes 1 = .ok (.iconst 3, 1) := by decide +kernel
theorem dX8_readMinutes_2 : decode cX8_readMinutes 2 = .ok (.invokevirtual 124, 3) := by decide +kernel
theorem dX8_readMinutes_5 : decode cX8_readMinutes 5 = .ok (.istore_n 2, 1) := by decide +kernel
theorem dX8_readMinutes_6 : decode cX8_readMinutes 6 = .ok (.aload_n 0, 1) := by decide +kernel
theorem dX8_readMinutes_7 : decode cX8_readMinutes 7 = .ok (.getfield 7, 3) := by decide +kernel
theorem dX8_readMinutes_10 : decode cX8_readMinutes 10 = .ok (.sipush 164, 3) := by decide +kernel
theorem dX8_readMinutes_13 : decode cX8_readMinutes 13 = .ok (.iload_n 1, 1) := by decide +kernel
theorem dX8_readMinutes_14 : decode cX8_readMinutes 14 = .ok (.iadd, 1) := by decide +kernel
theorem dX8_readMinutes_15 : decode cX8_readMinutes 15 = .ok (.iaload, 1) := by decide +kernel
theorem dX8_readMinutes_16 : decode cX8_readMinutes 16 = .ok (.iconst 4, 1) := by decide +kernel
theorem dX8_readMinutes_17 : decode cX8_readMinutes 17 = .ok (.if_icmp .ge 9, 3) := by decide +kernel
theorem dX8_readMinutes_20 : decode cX8_readMinutes 20 = .ok (.iconst 2, 1) := by decide +kernel
theorem dX8_readMinutes_21 : decode cX8_readMinutes 21 = .ok (.iload_n 2, 1) := by decide +kernel
theorem dX8_readMinutes_22 : decode cX8_readMinutes 22 = .ok (.imul, 1) := by decide +kernel
theorem dX8_readMinutes_23 : decode cX8_readMinutes 23 = .ok (.goto 4, 3) := by decide +kernel
theorem dX8_readMinutes_26 : decode cX8_readMinutes 26 = .ok (.iload_n 2, 1) := by decide +kernel
theorem dX8_readMinutes_27 : decode cX8_readMinutes 27 = .ok (.ireturn, 1) := by decide +kernel
theorem dX8_isOver_0 : decode cX8_isOver 0 = .ok (.iload_n 1, 1) := by decide +kernel
theorem dX8_isOver_1 : decode cX8_isOver 1 = .ok (.aload_n 0, 1) := by decide +kernel
theorem dX8_isOver_2 : decode cX8_isOver 2 = .ok (.invokevirtual 127, 3) := by decide +kernel
theorem dX8_isOver_5 : decode cX8_isOver 5 = .ok (.if_icmp .gt 5, 3) := by decide +kernel
theorem dX8_isOver_8 : decode cX8_isOver 8 = .ok (.iconst 0, 1) := by decide +kernel
theorem dX8_isOver_9 : decode cX8_isOver 9 = .ok (.ireturn, 1) := by decide +kernel
theorem dX8_isOver_10 : decode cX8_isOver 10 = .ok (.aload_n 0, 1) := by decide +kernel
theorem dX8_isOver_11 : decode cX8_isOver 11 = .ok (.bipush 6, 2) := by decide +kernel
theorem dX8_isOver_13 : decode cX8_isOver 13 = .ok (.iconst 0, 1) := by decide +kernel
theorem dX8_isOver_14 : decode cX8_isOver 14 = .ok (.iconst 0, 1) := by decide +kernel
theorem dX8_isOver_15 : decode cX8_isOver 15 = .ok (.invokevirtual 130, 3) := by decide +kernel
theorem dX8_isOver_18 : decode cX8_isOver 18 = .ok (.aload_n 0, 1) := by decide +kernel
theorem dX8_isOver_19 : decode cX8_isOver 19 = .ok (.aload_n 0, 1) := by decide +kernel
theorem dX8_isOver_20 : decode cX8_isOver 20 = .ok (.invokevirtual 127, 3) := by decide +kernel
theorem dX8_isOver_23 : decode cX8_isOver 23 = .ok (.invokevirtual 115, 3) := by decide +kernel
theorem dX8_isOver_26 : decode cX8_isOver 26 = .ok (.aload_n 0, 1) := by decide +kernel
theorem dX8_isOver_27 : decode cX8_isOver 27 = .ok (.iconst 0, 1) := by decide +kernel
theorem dX8_isOver_28 : decode cX8_isOver 28 = .ok (.invokevirtual 134, 3) := by decide +kernel
theorem dX8_isOver_31 : decode cX8_isOver 31 = .ok (.iconst 1, 1) := by decide +kernel
theorem dX8_isOver_32 : decode cX8_isOver 32 = .ok (.ireturn, 1) := by decide +kernel
theorem dX8_take_0 : decode cX8_take 0 = .ok (.aload_n 0, 1) := by decide +kernel
theorem dX8_take_1 : decode cX8_take 1 = .ok (.iload_n 1, 1) := by decide +kernel
theorem dX8_take_2 : decode cX8_take 2 = .ok (.invokevirtual 102, 3) := by decide +kernel
theorem dX8_take_5 : decode cX8_take 5 = .ok (.ifCond .eq 5, 3) := by decide +kernel
theorem dX8_take_8 : decode cX8_take 8 = .ok (.iconst (-1), 1) := by decide +kernel
theorem dX8_take_9 : decode cX8_take 9 = .ok (.ireturn, 1) := by decide +kernel
theorem dX8_take_10 : decode cX8_take 10 = .ok (.aload_n 0, 1) := by decide +kernel
theorem dX8_take_11 : decode cX8_take 11 = .ok (.invokevirtual 105, 3) := by decide +kernel
theorem dX8_take_14 : decode cX8_take 14 = .ok (.ifCond .eq 19, 3) := by decide +kernel
theorem dX8_take_17 : decode cX8_take 17 = .ok (.aload_n 0, 1) := by decide +kernel
theorem dX8_take_18 : decode cX8_take 18 = .ok (.iload_n 1, 1) := by decide +kernel
theorem dX8_take_19 : decode cX8_take 19 = .ok (.invokevirtual 45, 3) := by decide +kernel
theorem dX8_take_22 : decode cX8_take 22 = .ok (.ifCond .ne 11, 3) := by decide +kernel
theorem dX8_take_25 : decode cX8_take 25 = .ok (.aload_n 0, 1) := by decide +kernel
theorem dX8_take_26 : decode cX8_take 26 = .ok (.iload_n 1, 1) := by decide +kernel
theorem dX8_take_27 : decode cX8_take 27 = .ok (.invokevirtual 48, 3) := by decide +kernel
theorem dX8_take_30 : decode cX8_take 30 = .ok (.ifCond .ne 6, 3) := by decide +kernel
theorem dX8_take_33 : decode cX8_take 33 = .ok (.bipush (-4), 2) := by decide +kernel
theorem dX8_take_35 : decode cX8_take 35 = .ok (.ireturn, 1) := by decide +kernel
theorem dX8_take_36 : decode cX8_take 36 = .ok (.aload_n 0, 1) := by decide +kernel
theorem dX8_take_37 : decode cX8_take 37 = .ok (.invokevirtual 137, 3) := by decide +kernel
theorem dX8_take_40 : decode cX8_take 40 = .ok (.aload_n 0, 1) := by decide +kernel
theorem dX8_take_41 : decode cX8_take 41 = .ok (.getfield 7, 3) := by decide +kernel
theorem dX8_take_44 : decode cX8_take 44 = .ok (.bipush 11, 2) := by decide +kernel
theorem dX8_take_46 : decode cX8_take 46 = .ok (.iaload, 1) := by decide +kernel
theorem dX8_take_47 : decode cX8_take 47 = .ok (.if_icmp .lt 6, 3) := by decide +kernel
theorem dX8_take_50 : decode cX8_take 50 = .ok (.bipush (-3), 2) := by decide +kernel
theorem dX8_take_52 : decode cX8_take 52 = .ok (.ireturn, 1) := by decide +kernel
theorem dX8_take_53 : decode cX8_take 53 = .ok (.aload_n 0, 1) := by decide +kernel
theorem dX8_take_54 : decode cX8_take 54 = .ok (.aload_n 0, 1) := by decide +kernel
theorem dX8_take_55 : decode cX8_take 55 = .ok (.iconst 3, 1) := by decide +kernel
theorem dX8_take_56 : decode cX8_take 56 = .ok (.invokevirtual 124, 3) := by decide +kernel
theorem dX8_take_59 : decode cX8_take 59 = .ok (.invokevirtual 140, 3) := by decide +kernel
theorem dX8_take_62 : decode cX8_take 62 = .ok (.ifCond .eq 6, 3) := by decide +kernel
theorem dX8_take_65 : decode cX8_take 65 = .ok (.bipush (-6), 2) := by decide +kernel
theorem dX8_take_67 : decode cX8_take 67 = .ok (.ireturn, 1) := by decide +kernel
theorem dX8_take_68 : decode cX8_take 68 = .ok (.aload_n 0, 1) := by decide +kernel
theorem dX8_take_69 : decode cX8_take 69 = .ok (.iconst 0, 1) := by decide +kernel
theorem dX8_take_70 : decode cX8_take 70 = .ok (.iload_n 1, 1) := by decide +kernel
theorem dX8_take_71 : decode cX8_take 71 = .ok (.iconst 0, 1) := by decide +kernel
theorem dX8_take_72 : decode cX8_take 72 = .ok (.invokevirtual 130, 3) := by decide +kernel
theorem dX8_take_75 : decode cX8_take 75 = .ok (.aload_n 0, 1) := by decide +kernel
theorem dX8_take_76 : decode cX8_take 76 = .ok (.getfield 7, 3) := by decide +kernel
theorem dX8_take_79 : decode cX8_take 79 = .ok (.bipush 104, 2) := by decide +kernel
theorem dX8_take_81 : decode cX8_take 81 = .ok (.iload_n 1, 1) := by decide +kernel
theorem dX8_take_82 : decode cX8_take 82 = .ok (.iadd, 1) := by decide +kernel
theorem dX8_take_83 : decode cX8_take 83 = .ok (.iconst (-1), 1) := by decide +kernel
theorem dX8_take_84 : decode cX8_take 84 = .ok (.iastore, 1) := by decide +kernel
theorem dX8_take_85 : decode cX8_take 85 = .ok (.aload_n 0, 1) := by decide +kernel
theorem dX8_take_86 : decode cX8_take 86 = .ok (.aload_n 0, 1) := by decide +kernel
theorem dX8_take_87 : decode cX8_take 87 = .ok (.iconst 3, 1) := by decide +kernel
theorem dX8_take_88 : decode cX8_take 88 = .ok (.invokevirtual 124, 3) := by decide +kernel
theorem dX8_take_91 : decode cX8_take 91 = .ok (.invokevirtual 115, 3) := by decide +kernel
theorem dX8_take_94 : decode cX8_take 94 = .ok (.aload_n 0, 1) := by decide +kernel
theorem dX8_take_95 : decode cX8_take 95 = .ok (.invokevirtual 137, 3) := by decide +kernel
theorem dX8_take_98 : decode cX8_take 98 = .ok (.ireturn, 1) := by decide +kernel
theorem dX8_lay_0 : decode cX8_lay 0 = .ok (.aload_n 0, 1) := by decide +kernel
theorem dX8_lay_1 : decode cX8_lay 1 = .ok (.iload_n 1, 1) := by decide +kernel
theorem dX8_lay_2 : decode cX8_lay 2 = .ok (.invokevirtual 102, 3) := by decide +kernel
theorem dX8_lay_5 : decode cX8_lay 5 = .ok (.ifCond .ne 11, 3) := by decide +kernel
theorem dX8_lay_8 : decode cX8_lay 8 = .ok (.aload_n 0, 1) := by decide +kernel
theorem dX8_lay_9 : decode cX8_lay 9 = .ok (.iload_n 2, 1) := by decide +kernel
theorem dX8_lay_10 : decode cX8_lay 10 = .ok (.invokevirtual 99, 3) := by decide +kernel
theorem dX8_lay_13 : decode cX8_lay 13 = .ok (.ifCond .eq 5, 3) := by decide +kernel
theorem dX8_lay_16 : decode cX8_lay 16 = .ok (.iconst (-1), 1) := by decide +kernel
theorem dX8_lay_17 : decode cX8_lay 17 = .ok (.ireturn, 1) := by decide +kernel
theorem dX8_lay_18 : decode cX8_lay 18 = .ok (.aload_n 0, 1) := by decide +kernel
theorem dX8_lay_19 : decode cX8_lay 19 = .ok (.invokevirtual 105, 3) := by decide +kernel
theorem dX8_lay_22 : decode cX8_lay 22 = .ok (.ifCond .eq 27, 3) := by decide +kernel
theorem dX8_lay_25 : decode cX8_lay 25 = .ok (.aload_n 0, 1) := by decide +kernel
theorem dX8_lay_26 : decode cX8_lay 26 = .ok (.iload_n 1, 1) := by decide +kernel
theorem dX8_lay_27 : decode cX8_lay 27 = .ok (.invokevirtual 45, 3) := by decide +kernel
theorem dX8_lay_30 : decode cX8_lay 30 = .ok (.ifCond .eq 19, 3) := by decide +kernel
theorem dX8_lay_33 : decode cX8_lay 33 = .ok (.aload_n 0, 1) := by decide +kernel
theorem dX8_lay_34 : decode cX8_lay 34 = .ok (.iload_n 2, 1) := by decide +kernel
theorem dX8_lay_35 : decode cX8_lay 35 = .ok (.invokevirtual 34, 3) := by decide +kernel
theorem dX8_lay_38 : decode cX8_lay 38 = .ok (.ifCond .eq 11, 3) := by decide +kernel
theorem dX8_lay_41 : decode cX8_lay 41 = .ok (.aload_n 0, 1) := by decide +kernel
theorem dX8_lay_42 : decode cX8_lay 42 = .ok (.iload_n 2, 1) := by decide +kernel
theorem dX8_lay_43 : decode cX8_lay 43 = .ok (.invokevirtual 143, 3) := by decide +kernel
theorem dX8_lay_46 : decode cX8_lay 46 = .ok (.ifCond .ne 6, 3) := by decide +kernel
theorem dX8_lay_49 : decode cX8_lay 49 = .ok (.bipush (-4), 2) := by decide +kernel
theorem dX8_lay_51 : decode cX8_lay 51 = .ok (.ireturn, 1) := by decide +kernel
theorem dX8_lay_52 : decode cX8_lay 52 = .ok (.aload_n 0, 1) := by decide +kernel
theorem dX8_lay_53 : decode cX8_lay 53 = .ok (.aload_n 0, 1) := by decide +kernel
theorem dX8_lay_54 : decode cX8_lay 54 = .ok (.iconst 2, 1) := by decide +kernel
theorem dX8_lay_55 : decode cX8_lay 55 = .ok (.invokevirtual 124, 3) := by decide +kernel
theorem dX8_lay_58 : decode cX8_lay 58 = .ok (.invokevirtual 140, 3) := by decide +kernel
theorem dX8_lay_61 : decode cX8_lay 61 = .ok (.ifCond .eq 6, 3) := by decide +kernel
theorem dX8_lay_64 : decode cX8_lay 64 = .ok (.bipush (-6), 2) := by decide +kernel
theorem dX8_lay_66 : decode cX8_lay 66 = .ok (.ireturn, 1) := by decide +kernel
theorem dX8_lay_67 : decode cX8_lay 67 = .ok (.aload_n 0, 1) := by decide +kernel
theorem dX8_lay_68 : decode cX8_lay 68 = .ok (.iconst 1, 1) := by decide +kernel
theorem dX8_lay_69 : decode cX8_lay 69 = .ok (.iload_n 1, 1) := by decide +kernel
theorem dX8_lay_70 : decode cX8_lay 70 = .ok (.iload_n 2, 1) := by decide +kernel
theorem dX8_lay_71 : decode cX8_lay 71 = .ok (.invokevirtual 130, 3) := by decide +kernel
theorem dX8_lay_74 : decode cX8_lay 74 = .ok (.aload_n 0, 1) := by decide +kernel
theorem dX8_lay_75 : decode cX8_lay 75 = .ok (.getfield 7, 3) := by decide +kernel
theorem dX8_lay_78 : decode cX8_lay 78 = .ok (.bipush 104, 2) := by decide +kernel
theorem dX8_lay_80 : decode cX8_lay 80 = .ok (.iload_n 1, 1) := by decide +kernel
theorem dX8_lay_81 : decode cX8_lay 81 = .ok (.iadd, 1) := by decide +kernel
theorem dX8_lay_82 : decode cX8_lay 82 = .ok (.iload_n 2, 1) := by decide +kernel
theorem dX8_lay_83 : decode cX8_lay 83 = .ok (.iastore, 1) := by decide +kernel
theorem dX8_lay_84 : decode cX8_lay 84 = .ok (.aload_n 0, 1) := by decide +kernel
theorem dX8_lay_85 : decode cX8_lay 85 = .ok (.aload_n 0, 1) := by decide +kernel
theorem dX8_lay_86 : decode cX8_lay 86 = .ok (.iconst 2, 1) := by decide +kernel
theorem dX8_lay_87 : decode cX8_lay 87 = .ok (.invokevirtual 124, 3) := by decide +kernel
theorem dX8_lay_90 : decode cX8_lay 90 = .ok (.invokevirtual 115, 3) := by decide +kernel
theorem dX8_lay_93 : decode cX8_lay 93 = .ok (.aload_n 0, 1) := by decide +kernel
theorem dX8_lay_94 : decode cX8_lay 94 = .ok (.invokevirtual 137, 3) := by decide +kernel
theorem dX8_lay_97 : decode cX8_lay 97 = .ok (.ireturn, 1) := by decide +kernel
theorem dX8_lets_0 : decode cX8_lets 0 = .ok (.aload_n 0, 1) := by decide +kernel
theorem dX8_lets_1 : decode cX8_lets 1 = .ok (.getfield 7, 3) := by decide +kernel
theorem dX8_lets_4 : decode cX8_lets 4 = .ok (.bipush 32, 2) := by decide +kernel
theorem dX8_lets_6 : decode cX8_lets 6 = .ok (.iload_n 1, 1) := by decide +kernel
theorem dX8_lets_7 : decode cX8_lets 7 = .ok (.iadd, 1) := by decide +kernel
theorem dX8_lets_8 : decode cX8_lets 8 = .ok (.iaload, 1) := by decide +kernel
theorem dX8_lets_9 : decode cX8_lets 9 = .ok (.istore_n 2, 1) := by decide +kernel
theorem dX8_lets_10 : decode cX8_lets 10 = .ok (.aload_n 0, 1) := by decide +kernel
theorem dX8_lets_11 : decode cX8_lets 11 = .ok (.getfield 7, 3) := by decide +kernel
theorem dX8_lets_14 : decode cX8_lets 14 = .ok (.bipush 44, 2) := by decide +kernel
theorem dX8_lets_16 : decode cX8_lets 16 = .ok (.iload_n 1, 1) := by decide +kernel
theorem dX8_lets_17 : decode cX8_lets 17 = .ok (.iadd, 1) := by decide +kernel
theorem dX8_lets_18 : decode cX8_lets 18 = .ok (.iaload, 1) := by decide +kernel
theorem dX8_lets_19 : decode cX8_lets 19 = .ok (.istore_n 3, 1) := by decide +kernel
theorem dX8_lets_20 : decode cX8_lets 20 = .ok (.iload_n 2, 1) := by decide +kernel
theorem dX8_lets_21 : decode cX8_lets 21 = .ok (.ifCond .eq 45, 3) := by decide +kernel
theorem dX8_lets_24 : decode cX8_lets 24 = .ok (.iload_n 2, 1) := by decide +kernel
theorem dX8_lets_25 : decode cX8_lets 25 = .ok (.iconst 2, 1) := by decide +kernel
theorem dX8_lets_26 : decode cX8_lets 26 = .ok (.if_icmp .eq 40, 3) := by decide +kernel
theorem dX8_lets_29 : decode cX8_lets 29 = .ok (.iload_n 2, 1) := by decide +kernel
theorem dX8_lets_30 : decode cX8_lets 30 = .ok (.iconst 1, 1) := by decide +kernel
theorem dX8_lets_31 : decode cX8_lets 31 = .ok (.if_icmp .ne 14, 3) := by decide +kernel
theorem dX8_lets_34 : decode cX8_lets 34 = .ok (.aload_n 0, 1) := by decide +kernel
theorem dX8_lets_35 : decode cX8_lets 35 = .ok (.iload_n 3, 1) := by decide +kernel
theorem dX8_lets_36 : decode cX8_lets 36 = .ok (.invokevirtual 45, 3) := by decide +kernel
theorem dX8_lets_39 : decode cX8_lets 39 = .ok (.ifCond .eq 31, 3) := by decide +kernel
theorem dX8_lets_42 : decode cX8_lets 42 = .ok (.goto 24, 3) := by decide +kernel
theorem dX8_lets_45 : decode cX8_lets 45 = .ok (.aload_n 0, 1) := by decide +kernel
theorem dX8_lets_46 : decode cX8_lets 46 = .ok (.getfield 7, 3) := by decide +kernel
theorem dX8_lets_49 : decode cX8_lets 49 = .ok (.bipush 104, 2) := by decide +kernel
theorem dX8_lets_51 : decode cX8_lets 51 = .ok (.iload_n 3, 1) := by decide +kernel
theorem dX8_lets_52 : decode cX8_lets 52 = .ok (.iadd, 1) := by decide +kernel
theorem dX8_lets_53 : decode cX8_lets 53 = .ok (.iaload, 1) := by decide +kernel
theorem dX8_lets_54 : decode cX8_lets 54 = .ok (.aload_n 0, 1) := by decide +kernel
theorem dX8_lets_55 : decode cX8_lets 55 = .ok (.getfield 7, 3) := by decide +kernel
theorem dX8_lets_58 : decode cX8_lets 58 = .ok (.bipush 20, 2) := by decide +kernel
theorem dX8_lets_60 : decode cX8_lets 60 = .ok (.iload_n 1, 1) := by decide +kernel
theorem dX8_lets_61 : decode cX8_lets 61 = .ok (.iadd, 1) := by decide +kernel
theorem dX8_lets_62 : decode cX8_lets 62 = .ok (.iaload, 1) := by decide +kernel
theorem dX8_lets_63 : decode cX8_lets 63 = .ok (.if_icmp .ne 7, 3) := by decide +kernel
theorem dX8_lets_66 : decode cX8_lets 66 = .ok (.iconst 1, 1) := by decide +kernel
theorem dX8_lets_67 : decode cX8_lets 67 = .ok (.goto 4, 3) := by decide +kernel
theorem dX8_lets_70 : decode cX8_lets 70 = .ok (.iconst 0, 1) := by decide +kernel
theorem dX8_lets_71 : decode cX8_lets 71 = .ok (.ireturn, 1) := by decide +kernel
theorem dX8_open_0 : decode cX8_open 0 = .ok (.aload_n 0, 1) := by decide +kernel
theorem dX8_open_1 : decode cX8_open 1 = .ok (.iload_n 1, 1) := by decide +kernel
theorem dX8_open_2 : decode cX8_open 2 = .ok (.invokevirtual 99, 3) := by decide +kernel
theorem dX8_open_5 : decode cX8_open 5 = .ok (.ifCond .eq 5, 3) := by decide +kernel
theorem dX8_open_8 : decode cX8_open 8 = .ok (.iconst (-1), 1) := by decide +kernel
theorem dX8_open_9 : decode cX8_open 9 = .ok (.ireturn, 1) := by decide +kernel
theorem dX8_open_10 : decode cX8_open 10 = .ok (.aload_n 0, 1) := by decide +kernel
theorem dX8_open_11 : decode cX8_open 11 = .ok (.invokevirtual 105, 3) := by decide +kernel
theorem dX8_open_14 : decode cX8_open 14 = .ok (.ifCond .eq 27, 3) := by decide +kernel
theorem dX8_open_17 : decode cX8_open 17 = .ok (.aload_n 0, 1) := by decide +kernel
theorem dX8_open_18 : decode cX8_open 18 = .ok (.iload_n 1, 1) := by decide +kernel
theorem dX8_open_19 : decode cX8_open 19 = .ok (.invokevirtual 34, 3) := by decide +kernel
theorem dX8_open_22 : decode cX8_open 22 = .ok (.ifCond .ne 19, 3) := by decide +kernel
theorem dX8_open_25 : decode cX8_open 25 = .ok (.aload_n 0, 1) := by decide +kernel
theorem dX8_open_26 : decode cX8_open 26 = .ok (.iload_n 1, 1) := by decide +kernel
theorem dX8_open_27 : decode cX8_open 27 = .ok (.invokevirtual 143, 3) := by decide +kernel
theorem dX8_open_30 : decode cX8_open 30 = .ok (.ifCond .eq 11, 3) := by decide +kernel
theorem dX8_open_33 : decode cX8_open 33 = .ok (.aload_n 0, 1) := by decide +kernel
theorem dX8_open_34 : decode cX8_open 34 = .ok (.iload_n 1, 1) := by decide +kernel
theorem dX8_open_35 : decode cX8_open 35 = .ok (.invokevirtual 146, 3) := by decide +kernel
theorem dX8_open_38 : decode cX8_open 38 = .ok (.ifCond .ne 6, 3) := by decide +kernel
theorem dX8_open_41 : decode cX8_open 41 = .ok (.bipush (-4), 2) := by decide +kernel
theorem dX8_open_43 : decode cX8_open 43 = .ok (.ireturn, 1) := by decide +kernel
theorem dX8_open_44 : decode cX8_open 44 = .ok (.aload_n 0, 1) := by decide +kernel
theorem dX8_open_45 : decode cX8_open 45 = .ok (.getfield 7, 3) := by decide +kernel
theorem dX8_open_48 : decode cX8_open 48 = .ok (.bipush 32, 2) := by decide +kernel
theorem dX8_open_50 : decode cX8_open 50 = .ok (.iload_n 1, 1) := by decide +kernel
theorem dX8_open_51 : decode cX8_open 51 = .ok (.iadd, 1) := by decide +kernel
theorem dX8_open_52 : decode cX8_open 52 = .ok (.iaload, 1) := by decide +kernel
theorem dX8_open_53 : decode cX8_open 53 = .ok (.iconst 2, 1) := by decide +kernel
theorem dX8_open_54 : decode cX8_open 54 = .ok (.if_icmp .ne 16, 3) := by decide +kernel
theorem dX8_open_57 : decode cX8_open 57 = .ok (.aload_n 0, 1) := by decide +kernel
theorem dX8_open_58 : decode cX8_open 58 = .ok (.getfield 7, 3) := by decide +kernel
theorem dX8_open_61 : decode cX8_open 61 = .ok (.bipush 44, 2) := by decide +kernel
theorem dX8_open_63 : decode cX8_open 63 = .ok (.iload_n 1, 1) := by decide +kernel
theorem dX8_open_64 : decode cX8_open 64 = .ok (.iadd, 1) := by decide +kernel
theorem dX8_open_65 : decode cX8_open 65 = .ok (.iaload, 1) := by decide +kernel
theorem dX8_open_66 : decode cX8_open 66 = .ok (.iload_n 2, 1) := by decide +kernel
theorem dX8_open_67 : decode cX8_open 67 = .ok (.if_icmp .ne 7, 3) := by decide +kernel
theorem dX8_open_70 : decode cX8_open 70 = .ok (.iconst 1, 1) := by decide +kernel
theorem dX8_open_71 : decode cX8_open 71 = .ok (.goto 4, 3) := by decide +kernel
theorem dX8_open_74 : decode cX8_open 74 = .ok (.iconst 0, 1) := by decide +kernel
theorem dX8_open_75 : decode cX8_open 75 = .ok (.istore_n 3, 1) := by decide +kernel
theorem dX8_open_76 : decode cX8_open 76 = .ok (.iload_n 3, 1) := by decide +kernel
theorem dX8_open_77 : decode cX8_open 77 = .ok (.ifCond .eq 11, 3) := by decide +kernel
theorem dX8_open_80 : decode cX8_open 80 = .ok (.aload_n 0, 1) := by decide +kernel
theorem dX8_open_81 : decode cX8_open 81 = .ok (.iconst 4, 1) := by decide +kernel
theorem dX8_open_82 : decode cX8_open 82 = .ok (.invokevirtual 124, 3) := by decide +kernel
theorem dX8_open_85 : decode cX8_open 85 = .ok (.goto 10, 3) := by decide +kernel
theorem dX8_open_88 : decode cX8_open 88 = .ok (.iconst 2, 1) := by decide +kernel
theorem dX8_open_89 : decode cX8_open 89 = .ok (.aload_n 0, 1) := by decide +kernel
theorem dX8_open_90 : decode cX8_open 90 = .ok (.iconst 4, 1) := by decide +kernel
theorem dX8_open_91 : decode cX8_open 91 = .ok (.invokevirtual 124, 3) := by decide +kernel
theorem dX8_open_94 : decode cX8_open 94 = .ok (.imul, 1) := by decide +kernel
theorem dX8_open_95 : decode cX8_open 95 = .ok (.istore 4, 2) := by decide +kernel
theorem dX8_open_97 : decode cX8_open 97 = .ok (.aload_n 0, 1) := by decide +kernel
theorem dX8_open_98 : decode cX8_open 98 = .ok (.iload 4, 2) := by decide +kernel
theorem dX8_open_100 : decode cX8_open 100 = .ok (.invokevirtual 140, 3) := by decide +kernel
theorem dX8_open_103 : decode cX8_open 103 = .ok (.ifCond .eq 6, 3) := by decide +kernel
theorem dX8_open_106 : decode cX8_open 106 = .ok (.bipush (-6), 2) := by decide +kernel
theorem dX8_open_108 : decode cX8_open 108 = .ok (.ireturn, 1) := by decide +kernel
theorem dX8_open_109 : decode cX8_open 109 = .ok (.aload_n 0, 1) := by decide +kernel
theorem dX8_open_110 : decode cX8_open 110 = .ok (.iconst 2, 1) := by decide +kernel
theorem dX8_open_111 : decode cX8_open 111 = .ok (.iload_n 1, 1) := by decide +kernel
theorem dX8_open_112 : decode cX8_open 112 = .ok (.iconst 0, 1) := by decide +kernel
theorem dX8_open_113 : decode cX8_open 113 = .ok (.invokevirtual 130, 3) := by decide +kernel
theorem dX8_open_116 : decode cX8_open 116 = .ok (.aload_n 0, 1) := by decide +kernel
theorem dX8_open_117 : decode cX8_open 117 = .ok (.getfield 7, 3) := by decide +kernel
theorem dX8_open_120 : decode cX8_open 120 = .ok (.bipush 56, 2) := by decide +kernel
theorem dX8_open_122 : decode cX8_open 122 = .ok (.iload_n 1, 1) := by decide +kernel
theorem dX8_open_123 : decode cX8_open 123 = .ok (.iadd, 1) := by decide +kernel
theorem dX8_open_124 : decode cX8_open 124 = .ok (.iload_n 3, 1) := by decide +kernel
theorem dX8_open_125 : decode cX8_open 125 = .ok (.ifCond .eq 7, 3) := by decide +kernel
theorem dX8_open_128 : decode cX8_open 128 = .ok (.iconst 1, 1) := by decide +kernel
theorem dX8_open_129 : decode cX8_open 129 = .ok (.goto 4, 3) := by decide +kernel
theorem dX8_open_132 : decode cX8_open 132 = .ok (.iconst 0, 1) := by decide +kernel
theorem dX8_open_133 : decode cX8_open 133 = .ok (.iastore, 1) := by decide +kernel
theorem dX8_open_134 : decode cX8_open 134 = .ok (.aload_n 0, 1) := by decide +kernel
theorem dX8_open_135 : decode cX8_open 135 = .ok (.getfield 7, 3) := by decide +kernel
theorem dX8_open_138 : decode cX8_open 138 = .ok (.bipush 15, 2) := by decide +kernel
theorem dX8_open_140 : decode cX8_open 140 = .ok (.dup2, 1) := by decide +kernel
theorem dX8_open_141 : decode cX8_open 141 = .ok (.iaload, 1) := by decide +kernel
theorem dX8_open_142 : decode cX8_open 142 = .ok (.iload_n 3, 1) := by decide +kernel
theorem dX8_open_143 : decode cX8_open 143 = .ok (.ifCond .eq 7, 3) := by decide +kernel
theorem dX8_open_146 : decode cX8_open 146 = .ok (.iconst 0, 1) := by decide +kernel
theorem dX8_open_147 : decode cX8_open 147 = .ok (.goto 4, 3) := by decide +kernel
theorem dX8_open_150 : decode cX8_open 150 = .ok (.iconst 1, 1) := by decide +kernel
theorem dX8_open_151 : decode cX8_open 151 = .ok (.iadd, 1) := by decide +kernel
theorem dX8_open_152 : decode cX8_open 152 = .ok (.iastore, 1) := by decide +kernel
theorem dX8_open_153 : decode cX8_open 153 = .ok (.aload_n 0, 1) := by decide +kernel
theorem dX8_open_154 : decode cX8_open 154 = .ok (.iload 4, 2) := by decide +kernel
theorem dX8_open_156 : decode cX8_open 156 = .ok (.invokevirtual 115, 3) := by decide +kernel
theorem dX8_open_159 : decode cX8_open 159 = .ok (.iload_n 3, 1) := by decide +kernel
theorem dX8_open_160 : decode cX8_open 160 = .ok (.ifCond .eq 20, 3) := by decide +kernel
theorem dX8_open_163 : decode cX8_open 163 = .ok (.iload_n 1, 1) := by decide +kernel
theorem dX8_open_164 : decode cX8_open 164 = .ok (.aload_n 0, 1) := by decide +kernel
theorem dX8_open_165 : decode cX8_open 165 = .ok (.getfield 7, 3) := by decide +kernel
theorem dX8_open_168 : decode cX8_open 168 = .ok (.iconst 5, 1) := by decide +kernel
theorem dX8_open_169 : decode cX8_open 169 = .ok (.iaload, 1) := by decide +kernel
theorem dX8_open_170 : decode cX8_open 170 = .ok (.if_icmp .ne 10, 3) := by decide +kernel
theorem dX8_open_173 : decode cX8_open 173 = .ok (.aload_n 0, 1) := by decide +kernel
theorem dX8_open_174 : decode cX8_open 174 = .ok (.iconst 1, 1) := by decide +kernel
theorem dX8_open_175 : decode cX8_open 175 = .ok (.invokevirtual 134, 3) := by decide +kernel
theorem dX8_open_178 : decode cX8_open 178 = .ok (.iconst 2, 1) := by decide +kernel
theorem dX8_open_179 : decode cX8_open 179 = .ok (.ireturn, 1) := by decide +kernel
theorem dX8_open_180 : decode cX8_open 180 = .ok (.iload_n 3, 1) := by decide +kernel
theorem dX8_open_181 : decode cX8_open 181 = .ok (.ifCond .eq 7, 3) := by decide +kernel
theorem dX8_open_184 : decode cX8_open 184 = .ok (.iconst 1, 1) := by decide +kernel
theorem dX8_open_185 : decode cX8_open 185 = .ok (.goto 4, 3) := by decide +kernel
theorem dX8_open_188 : decode cX8_open 188 = .ok (.iconst 0, 1) := by decide +kernel
theorem dX8_open_189 : decode cX8_open 189 = .ok (.ireturn, 1) := by decide +kernel
theorem dX8_learn_0 : decode cX8_learn 0 = .ok (.aload_n 0, 1) := by decide +kernel
theorem dX8_learn_1 : decode cX8_learn 1 = .ok (.getfield 7, 3) := by decide +kernel
theorem dX8_learn_4 : decode cX8_learn 4 = .ok (.bipush 68, 2) := by decide +kernel
theorem dX8_learn_6 : decode cX8_learn 6 = .ok (.aload_n 0, 1) := by decide +kernel
theorem dX8_learn_7 : decode cX8_learn 7 = .ok (.getfield 7, 3) := by decide +kernel
theorem dX8_learn_10 : decode cX8_learn 10 = .ok (.sipush 140, 3) := by decide +kernel
theorem dX8_learn_13 : decode cX8_learn 13 = .ok (.iload_n 1, 1) := by decide +kernel
theorem dX8_learn_14 : decode cX8_learn 14 = .ok (.iadd, 1) := by decide +kernel
theorem dX8_learn_15 : decode cX8_learn 15 = .ok (.iaload, 1) := by decide +kernel
theorem dX8_learn_16 : decode cX8_learn 16 = .ok (.iadd, 1) := by decide +kernel
theorem dX8_learn_17 : decode cX8_learn 17 = .ok (.dup2, 1) := by decide +kernel
theorem dX8_learn_18 : decode cX8_learn 18 = .ok (.iaload, 1) := by decide +kernel
theorem dX8_learn_19 : decode cX8_learn 19 = .ok (.iconst 1, 1) := by decide +kernel
theorem dX8_learn_20 : decode cX8_learn 20 = .ok (.aload_n 0, 1) := by decide +kernel
theorem dX8_learn_21 : decode cX8_learn 21 = .ok (.getfield 7, 3) := by decide +kernel
theorem dX8_learn_24 : decode cX8_learn 24 = .ok (.sipush 152, 3) := by decide +kernel
theorem dX8_learn_27 : decode cX8_learn 27 = .ok (.iload_n 1, 1) := by decide +kernel
theorem dX8_learn_28 : decode cX8_learn 28 = .ok (.iadd, 1) := by decide +kernel
theorem dX8_learn_29 : decode cX8_learn 29 = .ok (.iaload, 1) := by decide +kernel
theorem dX8_learn_30 : decode cX8_learn 30 = .ok (.ishl, 1) := by decide +kernel
theorem dX8_learn_31 : decode cX8_learn 31 = .ok (.ior, 1) := by decide +kernel
theorem dX8_learn_32 : decode cX8_learn 32 = .ok (.iastore, 1) := by decide +kernel
theorem dX8_learn_33 : decode cX8_learn 33 = .ok (.return_, 1) := by decide +kernel
theorem dX8_read_0 : decode cX8_read 0 = .ok (.aload_n 0, 1) := by decide +kernel
theorem dX8_read_1 : decode cX8_read 1 = .ok (.iload_n 1, 1) := by decide +kernel
theorem dX8_read_2 : decode cX8_read 2 = .ok (.invokevirtual 149, 3) := by decide +kernel
theorem dX8_read_5 : decode cX8_read 5 = .ok (.ifCond .eq 5, 3) := by decide +kernel
theorem dX8_read_8 : decode cX8_read 8 = .ok (.iconst (-1), 1) := by decide +kernel
theorem dX8_read_9 : decode cX8_read 9 = .ok (.ireturn, 1) := by decide +kernel
theorem dX8_read_10 : decode cX8_read 10 = .ok (.aload_n 0, 1) := by decide +kernel
theorem dX8_read_11 : decode cX8_read 11 = .ok (.invokevirtual 105, 3) := by decide +kernel
theorem dX8_read_14 : decode cX8_read 14 = .ok (.ifCond .eq 11, 3) := by decide +kernel
theorem dX8_read_17 : decode cX8_read 17 = .ok (.aload_n 0, 1) := by decide +kernel
theorem dX8_read_18 : decode cX8_read 18 = .ok (.iload_n 1, 1) := by decide +kernel
theorem dX8_read_19 : decode cX8_read 19 = .ok (.invokevirtual 51, 3) := by decide +kernel
theorem dX8_read_22 : decode cX8_read 22 = .ok (.ifCond .ne 6, 3) := by decide +kernel
theorem dX8_read_25 : decode cX8_read 25 = .ok (.bipush (-4), 2) := by decide +kernel
theorem dX8_read_27 : decode cX8_read 27 = .ok (.ireturn, 1) := by decide +kernel
theorem dX8_read_28 : decode cX8_read 28 = .ok (.aload_n 0, 1) := by decide +kernel
theorem dX8_read_29 : decode cX8_read 29 = .ok (.getfield 7, 3) := by decide +kernel
theorem dX8_read_32 : decode cX8_read 32 = .ok (.sipush 164, 3) := by decide +kernel
theorem dX8_read_35 : decode cX8_read 35 = .ok (.iload_n 1, 1) := by decide +kernel
theorem dX8_read_36 : decode cX8_read 36 = .ok (.iadd, 1) := by decide +kernel
theorem dX8_read_37 : decode cX8_read 37 = .ok (.iaload, 1) := by decide +kernel
theorem dX8_read_38 : decode cX8_read 38 = .ok (.ifCond .ne 6, 3) := by decide +kernel
theorem dX8_read_41 : decode cX8_read 41 = .ok (.bipush (-5), 2) := by decide +kernel
theorem dX8_read_43 : decode cX8_read 43 = .ok (.ireturn, 1) := by decide +kernel
theorem dX8_read_44 : decode cX8_read 44 = .ok (.aload_n 0, 1) := by decide +kernel
theorem dX8_read_45 : decode cX8_read 45 = .ok (.iload_n 1, 1) := by decide +kernel
theorem dX8_read_46 : decode cX8_read 46 = .ok (.invokevirtual 152, 3) := by decide +kernel
theorem dX8_read_49 : decode cX8_read 49 = .ok (.istore_n 2, 1) := by decide +kernel
theorem dX8_read_50 : decode cX8_read 50 = .ok (.aload_n 0, 1) := by decide +kernel
theorem dX8_read_51 : decode cX8_read 51 = .ok (.iload_n 2, 1) := by decide +kernel
theorem dX8_read_52 : decode cX8_read 52 = .ok (.invokevirtual 140, 3) := by decide +kernel
theorem dX8_read_55 : decode cX8_read 55 = .ok (.ifCond .eq 6, 3) := by decide +kernel
theorem dX8_read_58 : decode cX8_read 58 = .ok (.bipush (-6), 2) := by decide +kernel
theorem dX8_read_60 : decode cX8_read 60 = .ok (.ireturn, 1) := by decide +kernel
theorem dX8_read_61 : decode cX8_read 61 = .ok (.aload_n 0, 1) := by decide +kernel
theorem dX8_read_62 : decode cX8_read 62 = .ok (.iconst 3, 1) := by decide +kernel
theorem dX8_read_63 : decode cX8_read 63 = .ok (.iload_n 1, 1) := by decide +kernel
theorem dX8_read_64 : decode cX8_read 64 = .ok (.iconst 0, 1) := by decide +kernel
theorem dX8_read_65 : decode cX8_read 65 = .ok (.invokevirtual 130, 3) := by decide +kernel
theorem dX8_read_68 : decode cX8_read 68 = .ok (.aload_n 0, 1) := by decide +kernel
theorem dX8_read_69 : decode cX8_read 69 = .ok (.iload_n 1, 1) := by decide +kernel
theorem dX8_read_70 : decode cX8_read 70 = .ok (.invokevirtual 155, 3) := by decide +kernel
theorem dX8_read_73 : decode cX8_read 73 = .ok (.aload_n 0, 1) := by decide +kernel
theorem dX8_read_74 : decode cX8_read 74 = .ok (.getfield 7, 3) := by decide +kernel
theorem dX8_read_77 : decode cX8_read 77 = .ok (.sipush 164, 3) := by decide +kernel
theorem dX8_read_80 : decode cX8_read 80 = .ok (.iload_n 1, 1) := by decide +kernel
theorem dX8_read_81 : decode cX8_read 81 = .ok (.iadd, 1) := by decide +kernel
theorem dX8_read_82 : decode cX8_read 82 = .ok (.dup2, 1) := by decide +kernel
theorem dX8_read_83 : decode cX8_read 83 = .ok (.iaload, 1) := by decide +kernel
theorem dX8_read_84 : decode cX8_read 84 = .ok (.iconst 1, 1) := by decide +kernel
theorem dX8_read_85 : decode cX8_read 85 = .ok (.isub, 1) := by decide +kernel
theorem dX8_read_86 : decode cX8_read 86 = .ok (.iastore, 1) := by decide +kernel
theorem dX8_read_87 : decode cX8_read 87 = .ok (.aload_n 0, 1) := by decide +kernel
theorem dX8_read_88 : decode cX8_read 88 = .ok (.iload_n 2, 1) := by decide +kernel
theorem dX8_read_89 : decode cX8_read 89 = .ok (.invokevirtual 115, 3) := by decide +kernel
theorem dX8_read_92 : decode cX8_read 92 = .ok (.aload_n 0, 1) := by decide +kernel
theorem dX8_read_93 : decode cX8_read 93 = .ok (.iload_n 1, 1) := by decide +kernel
theorem dX8_read_94 : decode cX8_read 94 = .ok (.invokevirtual 158, 3) := by decide +kernel
theorem dX8_read_97 : decode cX8_read 97 = .ok (.ireturn, 1) := by decide +kernel
theorem dX8_rest_0 : decode cX8_rest 0 = .ok (.iload_n 1, 1) := by decide +kernel
theorem dX8_rest_1 : decode cX8_rest 1 = .ok (.iconst 1, 1) := by decide +kernel
theorem dX8_rest_2 : decode cX8_rest 2 = .ok (.bipush 60, 2) := by decide +kernel
theorem dX8_rest_4 : decode cX8_rest 4 = .ok (.invokestatic 30, 3) := by decide +kernel
theorem dX8_rest_7 : decode cX8_rest 7 = .ok (.ifCond .ne 6, 3) := by decide +kernel
theorem dX8_rest_10 : decode cX8_rest 10 = .ok (.bipush (-2), 2) := by decide +kernel
theorem dX8_rest_12 : decode cX8_rest 12 = .ok (.ireturn, 1) := by decide +kernel
theorem dX8_rest_13 : decode cX8_rest 13 = .ok (.aload_n 0, 1) := by decide +kernel
theorem dX8_rest_14 : decode cX8_rest 14 = .ok (.invokevirtual 105, 3) := by decide +kernel
theorem dX8_rest_17 : decode cX8_rest 17 = .ok (.ifCond .ne 6, 3) := by decide +kernel
theorem dX8_rest_20 : decode cX8_rest 20 = .ok (.bipush (-4), 2) := by decide +kernel
theorem dX8_rest_22 : decode cX8_rest 22 = .ok (.ireturn, 1) := by decide +kernel
theorem dX8_rest_23 : decode cX8_rest 23 = .ok (.aload_n 0, 1) := by decide +kernel
theorem dX8_rest_24 : decode cX8_rest 24 = .ok (.iload_n 1, 1) := by decide +kernel
theorem dX8_rest_25 : decode cX8_rest 25 = .ok (.invokevirtual 140, 3) := by decide +kernel
theorem dX8_rest_28 : decode cX8_rest 28 = .ok (.ifCond .eq 6, 3) := by decide +kernel
theorem dX8_rest_31 : decode cX8_rest 31 = .ok (.bipush (-6), 2) := by decide +kernel
theorem dX8_rest_33 : decode cX8_rest 33 = .ok (.ireturn, 1) := by decide +kernel
theorem dX8_rest_34 : decode cX8_rest 34 = .ok (.aload_n 0, 1) := by decide +kernel
