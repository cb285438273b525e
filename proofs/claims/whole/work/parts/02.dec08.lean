theorem dX8_init_0 : decode cX8_init 0 = .ok (.aload_n 0, 1) := by decide +kernel
theorem dX8_init_1 : decode cX8_init 1 = .ok (.invokespecial 1, 3) := by decide +kernel
theorem dX8_init_4 : decode cX8_init 4 = .ok (.aload_n 0, 1) := by decide +kernel
theorem dX8_init_5 : decode cX8_init 5 = .ok (.sipush 902, 3) := by decide +kernel
theorem dX8_init_8 : decode cX8_init 8 = .ok (.newarray .int, 2) := by decide +kernel
theorem dX8_init_10 : decode cX8_init 10 = .ok (.putfield 7, 3) := by decide +kernel
theorem dX8_init_13 : decode cX8_init 13 = .ok (.aload_n 0, 1) := by decide +kernel
theorem dX8_init_14 : decode cX8_init 14 = .ok (.sipush 902, 3) := by decide +kernel
theorem dX8_init_17 : decode cX8_init 17 = .ok (.newarray .int, 2) := by decide +kernel
theorem dX8_init_19 : decode cX8_init 19 = .ok (.putfield 13, 3) := by decide +kernel
theorem dX8_init_22 : decode cX8_init 22 = .ok (.aload_n 0, 1) := by decide +kernel
theorem dX8_init_23 : decode cX8_init 23 = .ok (.sipush 1804, 3) := by decide +kernel
theorem dX8_init_26 : decode cX8_init 26 = .ok (.newarray .int, 2) := by decide +kernel
theorem dX8_init_28 : decode cX8_init 28 = .ok (.putfield 16, 3) := by decide +kernel
theorem dX8_init_31 : decode cX8_init 31 = .ok (.aload_n 0, 1) := by decide +kernel
theorem dX8_init_32 : decode cX8_init 32 = .ok (.iconst 2, 1) := by decide +kernel
theorem dX8_init_33 : decode cX8_init 33 = .ok (.newarray .boolean, 2) := by decide +kernel
theorem dX8_init_35 : decode cX8_init 35 = .ok (.putfield 19, 3) := by decide +kernel
theorem dX8_init_38 : decode cX8_init 38 = .ok (.aload_n 0, 1) := by decide +kernel
theorem dX8_init_39 : decode cX8_init 39 = .ok (.bipush 20, 2) := by decide +kernel
theorem dX8_init_41 : decode cX8_init 41 = .ok (.newarray .char, 2) := by decide +kernel
theorem dX8_init_43 : decode cX8_init 43 = .ok (.putfield 23, 3) := by decide +kernel
theorem dX8_init_46 : decode cX8_init 46 = .ok (.aload_n 0, 1) := by decide +kernel
theorem dX8_init_47 : decode cX8_init 47 = .ok (.bipush 24, 2) := by decide +kernel
theorem dX8_init_49 : decode cX8_init 49 = .ok (.newarray .int, 2) := by decide +kernel
theorem dX8_init_51 : decode cX8_init 51 = .ok (.putfield 27, 3) := by decide +kernel
theorem dX8_init_54 : decode cX8_init 54 = .ok (.aload_n 0, 1) := by decide +kernel
theorem dX8_init_55 : decode cX8_init 55 = .ok (.getfield 7, 3) := by decide +kernel
theorem dX8_init_58 : decode cX8_init 58 = .ok (.iconst 0, 1) := by decide +kernel
theorem dX8_init_59 : decode cX8_init 59 = .ok (.iconst 1, 1) := by decide +kernel
theorem dX8_init_60 : decode cX8_init 60 = .ok (.iastore, 1) := by decide +kernel
theorem dX8_init_61 : decode cX8_init 61 = .ok (.aload_n 0, 1) := by decide +kernel
theorem dX8_init_62 : decode cX8_init 62 = .ok (.getfield 7, 3) := by decide +kernel
theorem dX8_init_65 : decode cX8_init 65 = .ok (.bipush 56, 2) := by decide +kernel
theorem dX8_init_67 : decode cX8_init 67 = .ok (.iconst 1, 1) := by decide +kernel
theorem dX8_init_68 : decode cX8_init 68 = .ok (.iastore, 1) := by decide +kernel
theorem dX8_init_69 : decode cX8_init 69 = .ok (.aload_n 0, 1) := by decide +kernel
theorem dX8_init_70 : decode cX8_init 70 = .ok (.getfield 7, 3) := by decide +kernel
theorem dX8_init_73 : decode cX8_init 73 = .ok (.bipush 6, 2) := by decide +kernel
theorem dX8_init_75 : decode cX8_init 75 = .ok (.bipush 60, 2) := by decide +kernel
theorem dX8_init_77 : decode cX8_init 77 = .ok (.iastore, 1) := by decide +kernel
theorem dX8_init_78 : decode cX8_init 78 = .ok (.aload_n 0, 1) := by decide +kernel
theorem dX8_init_79 : decode cX8_init 79 = .ok (.getfield 7, 3) := by decide +kernel
theorem dX8_init_82 : decode cX8_init 82 = .ok (.bipush 7, 2) := by decide +kernel
theorem dX8_init_84 : decode cX8_init 84 = .ok (.iconst 3, 1) := by decide +kernel
theorem dX8_init_85 : decode cX8_init 85 = .ok (.iastore, 1) := by decide +kernel
theorem dX8_init_86 : decode cX8_init 86 = .ok (.return_, 1) := by decide +kernel
theorem dX8_in_0 : decode cX8_in 0 = .ok (.iload_n 0, 1) := by decide +kernel
theorem dX8_in_1 : decode cX8_in 1 = .ok (.iload_n 1, 1) := by decide +kernel
theorem dX8_in_2 : decode cX8_in 2 = .ok (.if_icmp .lt 12, 3) := by decide +kernel
theorem dX8_in_5 : decode cX8_in 5 = .ok (.iload_n 0, 1) := by decide +kernel
theorem dX8_in_6 : decode cX8_in 6 = .ok (.iload_n 2, 1) := by decide +kernel
theorem dX8_in_7 : decode cX8_in 7 = .ok (.if_icmp .gt 7, 3) := by decide +kernel
theorem dX8_in_10 : decode cX8_in 10 = .ok (.iconst 1, 1) := by decide +kernel
theorem dX8_in_11 : decode cX8_in 11 = .ok (.goto 4, 3) := by decide +kernel
theorem dX8_in_14 : decode cX8_in 14 = .ok (.iconst 0, 1) := by decide +kernel
theorem dX8_in_15 : decode cX8_in 15 = .ok (.ireturn, 1) := by decide +kernel
theorem dX8_keep_0 : decode cX8_keep 0 = .ok (.iload_n 1, 1) := by decide +kernel
theorem dX8_keep_1 : decode cX8_keep 1 = .ok (.iconst 0, 1) := by decide +kernel
theorem dX8_keep_2 : decode cX8_keep 2 = .ok (.iconst 1, 1) := by decide +kernel
theorem dX8_keep_3 : decode cX8_keep 3 = .ok (.invokestatic 30, 3) := by decide +kernel
theorem dX8_keep_6 : decode cX8_keep 6 = .ok (.ifCond .ne 5, 3) := by decide +kernel
theorem dX8_keep_9 : decode cX8_keep 9 = .ok (.iconst (-1), 1) := by decide +kernel
theorem dX8_keep_10 : decode cX8_keep 10 = .ok (.ireturn, 1) := by decide +kernel
theorem dX8_keep_11 : decode cX8_keep 11 = .ok (.aload_n 0, 1) := by decide +kernel
theorem dX8_keep_12 : decode cX8_keep 12 = .ok (.getfield 19, 3) := by decide +kernel
theorem dX8_keep_15 : decode cX8_keep 15 = .ok (.iload_n 1, 1) := by decide +kernel
theorem dX8_keep_16 : decode cX8_keep 16 = .ok (.iconst 1, 1) := by decide +kernel
theorem dX8_keep_17 : decode cX8_keep 17 = .ok (.bastore, 1) := by decide +kernel
theorem dX8_keep_18 : decode cX8_keep 18 = .ok (.iconst 0, 1) := by decide +kernel
theorem dX8_keep_19 : decode cX8_keep 19 = .ok (.istore_n 2, 1) := by decide +kernel
theorem dX8_keep_20 : decode cX8_keep 20 = .ok (.iload_n 2, 1) := by decide +kernel
theorem dX8_keep_21 : decode cX8_keep 21 = .ok (.sipush 902, 3) := by decide +kernel
theorem dX8_keep_24 : decode cX8_keep 24 = .ok (.if_icmp .ge 27, 3) := by decide +kernel
theorem dX8_keep_27 : decode cX8_keep 27 = .ok (.aload_n 0, 1) := by decide +kernel
theorem dX8_keep_28 : decode cX8_keep 28 = .ok (.getfield 16, 3) := by decide +kernel
theorem dX8_keep_31 : decode cX8_keep 31 = .ok (.sipush 902, 3) := by decide +kernel
theorem dX8_keep_34 : decode cX8_keep 34 = .ok (.iload_n 1, 1) := by decide +kernel
theorem dX8_keep_35 : decode cX8_keep 35 = .ok (.imul, 1) := by decide +kernel
theorem dX8_keep_36 : decode cX8_keep 36 = .ok (.iload_n 2, 1) := by decide +kernel
theorem dX8_keep_37 : decode cX8_keep 37 = .ok (.iadd, 1) := by decide +kernel
theorem dX8_keep_38 : decode cX8_keep 38 = .ok (.aload_n 0, 1) := by decide +kernel
theorem dX8_keep_39 : decode cX8_keep 39 = .ok (.getfield 7, 3) := by decide +kernel
theorem dX8_keep_42 : decode cX8_keep 42 = .ok (.iload_n 2, 1) := by decide +kernel
theorem dX8_keep_43 : decode cX8_keep 43 = .ok (.iaload, 1) := by decide +kernel
theorem dX8_keep_44 : decode cX8_keep 44 = .ok (.iastore, 1) := by decide +kernel
theorem dX8_keep_45 : decode cX8_keep 45 = .ok (.iinc 2 1, 3) := by decide +kernel
theorem dX8_keep_48 : decode cX8_keep 48 = .ok (.goto (-28), 3) := by decide +kernel
theorem dX8_keep_51 : decode cX8_keep 51 = .ok (.aload_n 0, 1) := by decide +kernel
theorem dX8_keep_52 : decode cX8_keep 52 = .ok (.getfield 7, 3) := by decide +kernel
theorem dX8_keep_55 : decode cX8_keep 55 = .ok (.bipush 9, 2) := by decide +kernel
theorem dX8_keep_57 : decode cX8_keep 57 = .ok (.iaload, 1) := by decide +kernel
theorem dX8_keep_58 : decode cX8_keep 58 = .ok (.ireturn, 1) := by decide +kernel
theorem dX8_restore_0 : decode cX8_restore 0 = .ok (.iload_n 1, 1) := by decide +kernel
theorem dX8_restore_1 : decode cX8_restore 1 = .ok (.iconst 0, 1) := by decide +kernel
theorem dX8_restore_2 : decode cX8_restore 2 = .ok (.iconst 1, 1) := by decide +kernel
theorem dX8_restore_3 : decode cX8_restore 3 = .ok (.invokestatic 30, 3) := by decide +kernel
theorem dX8_restore_6 : decode cX8_restore 6 = .ok (.ifCond .ne 5, 3) := by decide +kernel
theorem dX8_restore_9 : decode cX8_restore 9 = .ok (.iconst (-1), 1) := by decide +kernel
theorem dX8_restore_10 : decode cX8_restore 10 = .ok (.ireturn, 1) := by decide +kernel
theorem dX8_restore_11 : decode cX8_restore 11 = .ok (.aload_n 0, 1) := by decide +kernel
theorem dX8_restore_12 : decode cX8_restore 12 = .ok (.getfield 19, 3) := by decide +kernel
theorem dX8_restore_15 : decode cX8_restore 15 = .ok (.iload_n 1, 1) := by decide +kernel
theorem dX8_restore_16 : decode cX8_restore 16 = .ok (.baload, 1) := by decide +kernel
theorem dX8_restore_17 : decode cX8_restore 17 = .ok (.ifCond .ne 6, 3) := by decide +kernel
theorem dX8_restore_20 : decode cX8_restore 20 = .ok (.bipush (-5), 2) := by decide +kernel
theorem dX8_restore_22 : decode cX8_restore 22 = .ok (.ireturn, 1) := by decide +kernel
theorem dX8_restore_23 : decode cX8_restore 23 = .ok (.iconst 0, 1) := by decide +kernel
theorem dX8_restore_24 : decode cX8_restore 24 = .ok (.istore_n 2, 1) := by decide +kernel
theorem dX8_restore_25 : decode cX8_restore 25 = .ok (.iload_n 2, 1) := by decide +kernel
theorem dX8_restore_26 : decode cX8_restore 26 = .ok (.sipush 902, 3) := by decide +kernel
theorem dX8_restore_29 : decode cX8_restore 29 = .ok (.if_icmp .ge 27, 3) := by decide +kernel
theorem dX8_restore_32 : decode cX8_restore 32 = .ok (.aload_n 0, 1) := by decide +kernel
theorem dX8_restore_33 : decode cX8_restore 33 = .ok (.getfield 7, 3) := by decide +kernel
theorem dX8_restore_36 : decode cX8_restore 36 = .ok (.iload_n 2, 1) := by decide +kernel
theorem dX8_restore_37 : decode cX8_restore 37 = .ok (.aload_n 0, 1) := by decide +kernel
theorem dX8_restore_38 : decode cX8_restore 38 = .ok (.getfield 16, 3) := by decide +kernel
theorem dX8_restore_41 : decode cX8_restore 41 = .ok (.sipush 902, 3) := by decide +kernel
theorem dX8_restore_44 : decode cX8_restore 44 = .ok (.iload_n 1, 1) := by decide +kernel
theorem dX8_restore_45 : decode cX8_restore 45 = .ok (.imul, 1) := by decide +kernel
theorem dX8_restore_46 : decode cX8_restore 46 = .ok (.iload_n 2, 1) := by decide +kernel
theorem dX8_restore_47 : decode cX8_restore 47 = .ok (.iadd, 1) := by decide +kernel
theorem dX8_restore_48 : decode cX8_restore 48 = .ok (.iaload, 1) := by decide +kernel
theorem dX8_restore_49 : decode cX8_restore 49 = .ok (.iastore, 1) := by decide +kernel
theorem dX8_restore_50 : decode cX8_restore 50 = .ok (.iinc 2 1, 3) := by decide +kernel
theorem dX8_restore_53 : decode cX8_restore 53 = .ok (.goto (-28), 3) := by decide +kernel
theorem dX8_restore_56 : decode cX8_restore 56 = .ok (.aload_n 0, 1) := by decide +kernel
theorem dX8_restore_57 : decode cX8_restore 57 = .ok (.getfield 7, 3) := by decide +kernel
theorem dX8_restore_60 : decode cX8_restore 60 = .ok (.bipush 9, 2) := by decide +kernel
theorem dX8_restore_62 : decode cX8_restore 62 = .ok (.iaload, 1) := by decide +kernel
theorem dX8_restore_63 : decode cX8_restore 63 = .ok (.ireturn, 1) := by decide +kernel
theorem dX8_plays_0 : decode cX8_plays 0 = .ok (.aload_n 0, 1) := by decide +kernel
theorem dX8_plays_1 : decode cX8_plays 1 = .ok (.getfield 7, 3) := by decide +kernel
theorem dX8_plays_4 : decode cX8_plays 4 = .ok (.bipush 10, 2) := by decide +kernel
theorem dX8_plays_6 : decode cX8_plays 6 = .ok (.iaload, 1) := by decide +kernel
theorem dX8_plays_7 : decode cX8_plays 7 = .ok (.iconst 1, 1) := by decide +kernel
theorem dX8_plays_8 : decode cX8_plays 8 = .ok (.if_icmp .ne 7, 3) := by decide +kernel
theorem dX8_plays_11 : decode cX8_plays 11 = .ok (.iconst 1, 1) := by decide +kernel
theorem dX8_plays_12 : decode cX8_plays 12 = .ok (.goto 4, 3) := by decide +kernel
theorem dX8_plays_15 : decode cX8_plays 15 = .ok (.iconst 0, 1) := by decide +kernel
theorem dX8_plays_16 : decode cX8_plays 16 = .ok (.ireturn, 1) := by decide +kernel
theorem dX8_noBox_0 : decode cX8_noBox 0 = .ok (.iload_n 1, 1) := by decide +kernel
theorem dX8_noBox_1 : decode cX8_noBox 1 = .ok (.iconst 0, 1) := by decide +kernel
theorem dX8_noBox_2 : decode cX8_noBox 2 = .ok (.aload_n 0, 1) := by decide +kernel
theorem dX8_noBox_3 : decode cX8_noBox 3 = .ok (.getfield 7, 3) := by decide +kernel
theorem dX8_noBox_6 : decode cX8_noBox 6 = .ok (.iconst 0, 1) := by decide +kernel
theorem dX8_noBox_7 : decode cX8_noBox 7 = .ok (.iaload, 1) := by decide +kernel
theorem dX8_noBox_8 : decode cX8_noBox 8 = .ok (.iconst 1, 1) := by decide +kernel
theorem dX8_noBox_9 : decode cX8_noBox 9 = .ok (.isub, 1) := by decide +kernel
theorem dX8_noBox_10 : decode cX8_noBox 10 = .ok (.invokestatic 30, 3) := by decide +kernel
theorem dX8_noBox_13 : decode cX8_noBox 13 = .ok (.ifCond .ne 7, 3) := by decide +kernel
theorem dX8_noBox_16 : decode cX8_noBox 16 = .ok (.iconst 1, 1) := by decide +kernel
theorem dX8_noBox_17 : decode cX8_noBox 17 = .ok (.goto 4, 3) := by decide +kernel
theorem dX8_noBox_20 : decode cX8_noBox 20 = .ok (.iconst 0, 1) := by decide +kernel
theorem dX8_noBox_21 : decode cX8_noBox 21 = .ok (.ireturn, 1) := by decide +kernel
theorem dX8_noProp_0 : decode cX8_noProp 0 = .ok (.iload_n 1, 1) := by decide +kernel
theorem dX8_noProp_1 : decode cX8_noProp 1 = .ok (.iconst 0, 1) := by decide +kernel
theorem dX8_noProp_2 : decode cX8_noProp 2 = .ok (.aload_n 0, 1) := by decide +kernel
theorem dX8_noProp_3 : decode cX8_noProp 3 = .ok (.getfield 7, 3) := by decide +kernel
theorem dX8_noProp_6 : decode cX8_noProp 6 = .ok (.iconst 1, 1) := by decide +kernel
theorem dX8_noProp_7 : decode cX8_noProp 7 = .ok (.iaload, 1) := by decide +kernel
theorem dX8_noProp_8 : decode cX8_noProp 8 = .ok (.iconst 1, 1) := by decide +kernel
theorem dX8_noProp_9 : decode cX8_noProp 9 = .ok (.isub, 1) := by decide +kernel
theorem dX8_noProp_10 : decode cX8_noProp 10 = .ok (.invokestatic 30, 3) := by decide +kernel
theorem dX8_noProp_13 : decode cX8_noProp 13 = .ok (.ifCond .ne 7, 3) := by decide +kernel
theorem dX8_noProp_16 : decode cX8_noProp 16 = .ok (.iconst 1, 1) := by decide +kernel
theorem dX8_noProp_17 : decode cX8_noProp 17 = .ok (.goto 4, 3) := by decide +kernel
theorem dX8_noProp_20 : decode cX8_noProp 20 = .ok (.iconst 0, 1) := by decide +kernel
theorem dX8_noProp_21 : decode cX8_noProp 21 = .ok (.ireturn, 1) := by decide +kernel
theorem dX8_noClue_0 : decode cX8_noClue 0 = .ok (.iload_n 1, 1) := by decide +kernel
theorem dX8_noClue_1 : decode cX8_noClue 1 = .ok (.iconst 0, 1) := by decide +kernel
theorem dX8_noClue_2 : decode cX8_noClue 2 = .ok (.aload_n 0, 1) := by decide +kernel
theorem dX8_noClue_3 : decode cX8_noClue 3 = .ok (.getfield 7, 3) := by decide +kernel
theorem dX8_noClue_6 : decode cX8_noClue 6 = .ok (.iconst 2, 1) := by decide +kernel
theorem dX8_noClue_7 : decode cX8_noClue 7 = .ok (.iaload, 1) := by decide +kernel
theorem dX8_noClue_8 : decode cX8_noClue 8 = .ok (.iconst 1, 1) := by decide +kernel
theorem dX8_noClue_9 : decode cX8_noClue 9 = .ok (.isub, 1) := by decide +kernel
theorem dX8_noClue_10 : decode cX8_noClue 10 = .ok (.invokestatic 30, 3) := by decide +kernel
theorem dX8_noClue_13 : decode cX8_noClue 13 = .ok (.ifCond .ne 7, 3) := by decide +kernel
theorem dX8_noClue_16 : decode cX8_noClue 16 = .ok (.iconst 1, 1) := by decide +kernel
theorem dX8_noClue_17 : decode cX8_noClue 17 = .ok (.goto 4, 3) := by decide +kernel
theorem dX8_noClue_20 : decode cX8_noClue 20 = .ok (.iconst 0, 1) := by decide +kernel
theorem dX8_noClue_21 : decode cX8_noClue 21 = .ok (.ireturn, 1) := by decide +kernel
theorem dX8_isOpen_0 : decode cX8_isOpen 0 = .ok (.aload_n 0, 1) := by decide +kernel
theorem dX8_isOpen_1 : decode cX8_isOpen 1 = .ok (.getfield 7, 3) := by decide +kernel
theorem dX8_isOpen_4 : decode cX8_isOpen 4 = .ok (.bipush 56, 2) := by decide +kernel
theorem dX8_isOpen_6 : decode cX8_isOpen 6 = .ok (.iload_n 1, 1) := by decide +kernel
theorem dX8_isOpen_7 : decode cX8_isOpen 7 = .ok (.iadd, 1) := by decide +kernel
theorem dX8_isOpen_8 : decode cX8_isOpen 8 = .ok (.iaload, 1) := by decide +kernel
theorem dX8_isOpen_9 : decode cX8_isOpen 9 = .ok (.iconst 1, 1) := by decide +kernel
theorem dX8_isOpen_10 : decode cX8_isOpen 10 = .ok (.if_icmp .ne 7, 3) := by decide +kernel
theorem dX8_isOpen_13 : decode cX8_isOpen 13 = .ok (.iconst 1, 1) := by decide +kernel
theorem dX8_isOpen_14 : decode cX8_isOpen 14 = .ok (.goto 4, 3) := by decide +kernel
theorem dX8_isOpen_17 : decode cX8_isOpen 17 = .ok (.iconst 0, 1) := by decide +kernel
theorem dX8_isOpen_18 : decode cX8_isOpen 18 = .ok (.ireturn, 1) := by decide +kernel
theorem dX8_closedFrom_0 : decode cX8_closedFrom 0 = .ok (.bipush (-5), 2) := by decide +kernel
theorem dX8_closedFrom_2 : decode cX8_closedFrom 2 = .ok (.istore_n 2, 1) := by decide +kernel
theorem dX8_closedFrom_3 : decode cX8_closedFrom 3 = .ok (.iload_n 1, 1) := by decide +kernel
theorem dX8_closedFrom_4 : decode cX8_closedFrom 4 = .ok (.istore_n 3, 1) := by decide +kernel
theorem dX8_closedFrom_5 : decode cX8_closedFrom 5 = .ok (.iload_n 3, 1) := by decide +kernel
theorem dX8_closedFrom_6 : decode cX8_closedFrom 6 = .ok (.ifCond .le 30, 3) := by decide +kernel
theorem dX8_closedFrom_9 : decode cX8_closedFrom 9 = .ok (.aload_n 0, 1) := by decide +kernel
theorem dX8_closedFrom_10 : decode cX8_closedFrom 10 = .ok (.iload_n 3, 1) := by decide +kernel
theorem dX8_closedFrom_11 : decode cX8_closedFrom 11 = .ok (.invokevirtual 34, 3) := by decide +kernel
theorem dX8_closedFrom_14 : decode cX8_closedFrom 14 = .ok (.ifCond .eq 7, 3) := by decide +kernel
theorem dX8_closedFrom_17 : decode cX8_closedFrom 17 = .ok (.iload_n 2, 1) := by decide +kernel
theorem dX8_closedFrom_18 : decode cX8_closedFrom 18 = .ok (.goto 4, 3) := by decide +kernel
theorem dX8_closedFrom_21 : decode cX8_closedFrom 21 = .ok (.iload_n 3, 1) := by decide +kernel
theorem dX8_closedFrom_22 : decode cX8_closedFrom 22 = .ok (.istore_n 2, 1) := by decide +kernel
theorem dX8_closedFrom_23 : decode cX8_closedFrom 23 = .ok (.aload_n 0, 1) := by decide +kernel
theorem dX8_closedFrom_24 : decode cX8_closedFrom 24 = .ok (.getfield 7, 3) := by decide +kernel
theorem dX8_closedFrom_27 : decode cX8_closedFrom 27 = .ok (.bipush 20, 2) := by decide +kernel
theorem dX8_closedFrom_29 : decode cX8_closedFrom 29 = .ok (.iload_n 3, 1) := by decide +kernel
theorem dX8_closedFrom_30 : decode cX8_closedFrom 30 = .ok (.iadd, 1) := by decide +kernel
theorem dX8_closedFrom_31 : decode cX8_closedFrom 31 = .ok (.iaload, 1) := by decide +kernel
theorem dX8_closedFrom_32 : decode cX8_closedFrom 32 = .ok (.istore_n 3, 1) := by decide +kernel
theorem dX8_closedFrom_33 : decode cX8_closedFrom 33 = .ok (.goto (-28), 3) := by decide +kernel
theorem dX8_closedFrom_36 : decode cX8_closedFrom 36 = .ok (.iload_n 2, 1) := by decide +kernel
theorem dX8_closedFrom_37 : decode cX8_closedFrom 37 = .ok (.ireturn, 1) := by decide +kernel
theorem dX8_closedAround_0 : decode cX8_closedAround 0 = .ok (.iload_n 1, 1) := by decide +kernel
theorem dX8_closedAround_1 : decode cX8_closedAround 1 = .ok (.ifCond .ne 8, 3) := by decide +kernel
theorem dX8_closedAround_4 : decode cX8_closedAround 4 = .ok (.bipush (-5), 2) := by decide +kernel
theorem dX8_closedAround_6 : decode cX8_closedAround 6 = .ok (.goto 16, 3) := by decide +kernel
theorem dX8_closedAround_9 : decode cX8_closedAround 9 = .ok (.aload_n 0, 1) := by decide +kernel
theorem dX8_closedAround_10 : decode cX8_closedAround 10 = .ok (.aload_n 0, 1) := by decide +kernel
theorem dX8_closedAround_11 : decode cX8_closedAround 11 = .ok (.getfield 7, 3) := by decide +kernel
theorem dX8_closedAround_14 : decode cX8_closedAround 14 = .ok (.bipush 20, 2) := by decide +kernel
theorem dX8_closedAround_16 : decode cX8_closedAround 16 = .ok (.iload_n 1, 1) := by decide +kernel
theorem dX8_closedAround_17 : decode cX8_closedAround 17 = .ok (.iadd, 1) := by decide +kernel
theorem dX8_closedAround_18 : decode cX8_closedAround 18 = .ok (.iaload, 1) := by decide +kernel
theorem dX8_closedAround_19 : decode cX8_closedAround 19 = .ok (.invokevirtual 38, 3) := by decide +kernel
theorem dX8_closedAround_22 : decode cX8_closedAround 22 = .ok (.ireturn, 1) := by decide +kernel
theorem dX8_boxAtHand_0 : decode cX8_boxAtHand 0 = .ok (.aload_n 0, 1) := by decide +kernel
theorem dX8_boxAtHand_1 : decode cX8_boxAtHand 1 = .ok (.iload_n 1, 1) := by decide +kernel
theorem dX8_boxAtHand_2 : decode cX8_boxAtHand 2 = .ok (.invokevirtual 42, 3) := by decide +kernel
theorem dX8_boxAtHand_5 : decode cX8_boxAtHand 5 = .ok (.ifCond .ge 7, 3) := by decide +kernel
theorem dX8_boxAtHand_8 : decode cX8_boxAtHand 8 = .ok (.iconst 1, 1) := by decide +kernel
theorem dX8_boxAtHand_9 : decode cX8_boxAtHand 9 = .ok (.goto 4, 3) := by decide +kernel
theorem dX8_boxAtHand_12 : decode cX8_boxAtHand 12 = .ok (.iconst 0, 1) := by decide +kernel
theorem dX8_boxAtHand_13 : decode cX8_boxAtHand 13 = .ok (.ireturn, 1) := by decide +kernel
theorem dX8_isHeld_0 : decode cX8_isHeld 0 = .ok (.aload_n 0, 1) := by decide +kernel
theorem dX8_isHeld_1 : decode cX8_isHeld 1 = .ok (.getfield 7, 3) := by decide +kernel
theorem dX8_isHeld_4 : decode cX8_isHeld 4 = .ok (.bipush 104, 2) := by decide +kernel
theorem dX8_isHeld_6 : decode cX8_isHeld 6 = .ok (.iload_n 1, 1) := by decide +kernel
theorem dX8_isHeld_7 : decode cX8_isHeld 7 = .ok (.iadd, 1) := by decide +kernel
theorem dX8_isHeld_8 : decode cX8_isHeld 8 = .ok (.iaload, 1) := by decide +kernel
theorem dX8_isHeld_9 : decode cX8_isHeld 9 = .ok (.iconst (-1), 1) := by decide +kernel
theorem dX8_isHeld_10 : decode cX8_isHeld 10 = .ok (.if_icmp .ne 7, 3) := by decide +kernel
theorem dX8_isHeld_13 : decode cX8_isHeld 13 = .ok (.iconst 1, 1) := by decide +kernel
theorem dX8_isHeld_14 : decode cX8_isHeld 14 = .ok (.goto 4, 3) := by decide +kernel
theorem dX8_isHeld_17 : decode cX8_isHeld 17 = .ok (.iconst 0, 1) := by decide +kernel
theorem dX8_isHeld_18 : decode cX8_isHeld 18 = .ok (.ireturn, 1) := by decide +kernel
theorem dX8_propAtHand_0 : decode cX8_propAtHand 0 = .ok (.aload_n 0, 1) := by decide +kernel
theorem dX8_propAtHand_1 : decode cX8_propAtHand 1 = .ok (.iload_n 1, 1) := by decide +kernel
theorem dX8_propAtHand_2 : decode cX8_propAtHand 2 = .ok (.invokevirtual 45, 3) := by decide +kernel
theorem dX8_propAtHand_5 : decode cX8_propAtHand 5 = .ok (.ifCond .ne 19, 3) := by decide +kernel
theorem dX8_propAtHand_8 : decode cX8_propAtHand 8 = .ok (.aload_n 0, 1) := by decide +kernel
theorem dX8_propAtHand_9 : decode cX8_propAtHand 9 = .ok (.aload_n 0, 1) := by decide +kernel
theorem dX8_propAtHand_10 : decode cX8_propAtHand 10 = .ok (.getfield 7, 3) := by decide +kernel
theorem dX8_propAtHand_13 : decode cX8_propAtHand 13 = .ok (.bipush 104, 2) := by decide +kernel
theorem dX8_propAtHand_15 : decode cX8_propAtHand 15 = .ok (.iload_n 1, 1) := by decide +kernel
theorem dX8_propAtHand_16 : decode cX8_propAtHand 16 = .ok (.iadd, 1) := by decide +kernel
theorem dX8_propAtHand_17 : decode cX8_propAtHand 17 = .ok (.iaload, 1) := by decide +kernel
theorem dX8_propAtHand_18 : decode cX8_propAtHand 18 = .ok (.invokevirtual 38, 3) := by decide +kernel
theorem dX8_propAtHand_21 : decode cX8_propAtHand 21 = .ok (.ifCond .ge 7, 3) := by decide +kernel
theorem dX8_propAtHand_24 : decode cX8_propAtHand 24 = .ok (.iconst 1, 1) := by decide +kernel
theorem dX8_propAtHand_25 : decode cX8_propAtHand 25 = .ok (.goto 4, 3) := by decide +kernel
theorem dX8_propAtHand_28 : decode cX8_propAtHand 28 = .ok (.iconst 0, 1) := by decide +kernel
theorem dX8_propAtHand_29 : decode cX8_propAtHand 29 = .ok (.ireturn, 1) := by decide +kernel
theorem dX8_clueAtHand_0 : decode cX8_clueAtHand 0 = .ok (.aload_n 0, 1) := by decide +kernel
theorem dX8_clueAtHand_1 : decode cX8_clueAtHand 1 = .ok (.aload_n 0, 1) := by decide +kernel
theorem dX8_clueAtHand_2 : decode cX8_clueAtHand 2 = .ok (.getfield 7, 3) := by decide +kernel
theorem dX8_clueAtHand_5 : decode cX8_clueAtHand 5 = .ok (.sipush 128, 3) := by decide +kernel
theorem dX8_clueAtHand_8 : decode cX8_clueAtHand 8 = .ok (.iload_n 1, 1) := by decide +kernel
theorem dX8_clueAtHand_9 : decode cX8_clueAtHand 9 = .ok (.iadd, 1) := by decide +kernel
theorem dX8_clueAtHand_10 : decode cX8_clueAtHand 10 = .ok (.iaload, 1) := by decide +kernel
theorem dX8_clueAtHand_11 : decode cX8_clueAtHand 11 = .ok (.invokevirtual 48, 3) := by decide +kernel
theorem dX8_clueAtHand_14 : decode cX8_clueAtHand 14 = .ok (.ireturn, 1) := by decide +kernel
theorem dX8_held_0 : decode cX8_held 0 = .ok (.iconst 0, 1) := by decide +kernel
theorem dX8_held_1 : decode cX8_held 1 = .ok (.istore_n 1, 1) := by decide +kernel
theorem dX8_held_2 : decode cX8_held 2 = .ok (.iconst 0, 1) := by decide +kernel
theorem dX8_held_3 : decode cX8_held 3 = .ok (.istore_n 2, 1) := by decide +kernel
theorem dX8_held_4 : decode cX8_held 4 = .ok (.iload_n 2, 1) := by decide +kernel
theorem dX8_held_5 : decode cX8_held 5 = .ok (.aload_n 0, 1) := by decide +kernel
theorem dX8_held_6 : decode cX8_held 6 = .ok (.getfield 7, 3) := by decide +kernel
theorem dX8_held_9 : decode cX8_held 9 = .ok (.iconst 1, 1) := by decide +kernel
theorem dX8_held_10 : decode cX8_held 10 = .ok (.iaload, 1) := by decide +kernel
theorem dX8_held_11 : decode cX8_held 11 = .ok (.if_icmp .ge 25, 3) := by decide +kernel
theorem dX8_held_14 : decode cX8_held 14 = .ok (.iload_n 1, 1) := by decide +kernel
theorem dX8_held_15 : decode cX8_held 15 = .ok (.aload_n 0, 1) := by decide +kernel
theorem dX8_held_16 : decode cX8_held 16 = .ok (.iload_n 2, 1) := by decide +kernel
theorem dX8_held_17 : decode cX8_held 17 = .ok (.invokevirtual 45, 3) := by decide +kernel
theorem dX8_held_20 : decode cX8_held 20 = .ok (.ifCond .eq 7, 3) := by decide +kernel
theorem dX8_held_23 : decode cX8_held 23 = .ok (.iconst 1, 1) := by decide +kernel
theorem dX8_held_24 : decode cX8_held 24 = .ok (.goto 4, 3) := by decide +kernel
theorem dX8_held_27 : decode cX8_held 27 = .ok (.iconst 0, 1) := by decide +kernel
theorem dX8_held_28 : decode cX8_held 28 = .ok (.iadd, 1) := by decide +kernel
theorem dX8_held_29 : decode cX8_held 29 = .ok (.istore_n 1, 1) := by decide +kernel
theorem dX8_held_30 : decode cX8_held 30 = .ok (.iinc 2 1, 3) := by decide +kernel
theorem dX8_held_33 : decode cX8_held 33 = .ok (.goto (-29), 3) := by decide +kernel
theorem dX8_held_36 : decode cX8_held 36 = .ok (.iload_n 1, 1) := by decide +kernel
theorem dX8_held_37 : decode cX8_held 37 = .ok (.ireturn, 1) := by decide +kernel
theorem dX8_digitOf_0 : decode cX8_digitOf 0 = .ok (.aload_n 0, 1) := by decide +kernel
theorem dX8_digitOf_1 : decode cX8_digitOf 1 = .ok (.getfield 7, 3) := by decide +kernel
theorem dX8_digitOf_4 : decode cX8_digitOf 4 = .ok (.bipush 44, 2) := by decide +kernel
theorem dX8_digitOf_6 : decode cX8_digitOf 6 = .ok (.aload_n 0, 1) := by decide +kernel
theorem dX8_digitOf_7 : decode cX8_digitOf 7 = .ok (.getfield 7, 3) := by decide +kernel
theorem dX8_digitOf_10 : decode cX8_digitOf 10 = .ok (.sipush 140, 3) := by decide +kernel
theorem dX8_digitOf_13 : decode cX8_digitOf 13 = .ok (.iload_n 1, 1) := by decide +kernel
theorem dX8_digitOf_14 : decode cX8_digitOf 14 = .ok (.iadd, 1) := by decide +kernel
theorem dX8_digitOf_15 : decode cX8_digitOf 15 = .ok (.iaload, 1) := by decide +kernel
theorem dX8_digitOf_16 : decode cX8_digitOf 16 = .ok (.iadd, 1) := by decide +kernel
theorem dX8_digitOf_17 : decode cX8_digitOf 17 = .ok (.iaload, 1) := by decide +kernel
theorem dX8_digitOf_18 : decode cX8_digitOf 18 = .ok (.istore_n 2, 1) := by decide +kernel
theorem dX8_digitOf_19 : decode cX8_digitOf 19 = .ok (.aload_n 0, 1) := by decide +kernel
theorem dX8_digitOf_20 : decode cX8_digitOf 20 = .ok (.getfield 7, 3) := by decide +kernel
theorem dX8_digitOf_23 : decode cX8_digitOf 23 = .ok (.sipush 152, 3) := by decide +kernel
theorem dX8_digitOf_26 : decode cX8_digitOf 26 = .ok (.iload_n 1, 1) := by decide +kernel
theorem dX8_digitOf_27 : decode cX8_digitOf 27 = .ok (.iadd, 1) := by decide +kernel
theorem dX8_digitOf_28 : decode cX8_digitOf 28 = .ok (.iaload, 1) := by decide +kernel
theorem dX8_digitOf_29 : decode cX8_digitOf 29 = .ok (.istore_n 3, 1) := by decide +kernel
theorem dX8_digitOf_30 : decode cX8_digitOf 30 = .ok (.iload_n 3, 1) := by decide +kernel
theorem dX8_digitOf_31 : decode cX8_digitOf 31 = .ok (.iconst 3, 1) := by decide +kernel
theorem dX8_digitOf_32 : decode cX8_digitOf 32 = .ok (.if_icmp .ge 14, 3) := by decide +kernel
theorem dX8_digitOf_35 : decode cX8_digitOf 35 = .ok (.iload_n 2, 1) := by decide +kernel
theorem dX8_digitOf_36 : decode cX8_digitOf 36 = .ok (.bipush 10, 2) := by decide +kernel
theorem dX8_digitOf_38 : decode cX8_digitOf 38 = .ok (.idiv, 1) := by decide +kernel
theorem dX8_digitOf_39 : decode cX8_digitOf 39 = .ok (.istore_n 2, 1) := by decide +kernel
theorem dX8_digitOf_40 : decode cX8_digitOf 40 = .ok (.iinc 3 1, 3) := by decide +kernel
theorem dX8_digitOf_43 : decode cX8_digitOf 43 = .ok (.goto (-13), 3) := by decide +kernel
theorem dX8_digitOf_46 : decode cX8_digitOf 46 = .ok (.iload_n 2, 1) := by decide +kernel
theorem dX8_digitOf_47 : decode cX8_digitOf 47 = .ok (.bipush 10, 2) := by decide +kernel
theorem dX8_digitOf_49 : decode cX8_digitOf 49 = .ok (.irem, 1) := by decide +kernel
theorem dX8_digitOf_50 : decode cX8_digitOf 50 = .ok (.ireturn, 1) := by decide +kernel
theorem dX8_pass_0 : decode cX8_pass 0 = .ok (.aload_n 0, 1) := by decide +kernel
theorem dX8_pass_1 : decode cX8_pass 1 = .ok (.getfield 7, 3) := by decide +kernel
theorem dX8_pass_4 : decode cX8_pass 4 = .ok (.bipush 9, 2) := by decide +kernel
theorem dX8_pass_6 : decode cX8_pass 6 = .ok (.iaload, 1) := by decide +kernel
theorem dX8_pass_7 : decode cX8_pass 7 = .ok (.iload_n 1, 1) := by decide +kernel
theorem dX8_pass_8 : decode cX8_pass 8 = .ok (.iadd, 1) := by decide +kernel
theorem dX8_pass_9 : decode cX8_pass 9 = .ok (.bipush 60, 2) := by decide +kernel
theorem dX8_pass_11 : decode cX8_pass 11 = .ok (.idiv, 1) := by decide +kernel
theorem dX8_pass_12 : decode cX8_pass 12 = .ok (.aload_n 0, 1) := by decide +kernel
theorem dX8_pass_13 : decode cX8_pass 13 = .ok (.getfield 7, 3) := by decide +kernel
theorem dX8_pass_16 : decode cX8_pass 16 = .ok (.bipush 9, 2) := by decide +kernel
theorem dX8_pass_18 : decode cX8_pass 18 = .ok (.iaload, 1) := by decide +kernel
theorem dX8_pass_19 : decode cX8_pass 19 = .ok (.bipush 60, 2) := by decide +kernel
theorem dX8_pass_21 : decode cX8_pass 21 = .ok (.idiv, 1) := by decide +kernel
theorem dX8_pass_22 : decode cX8_pass 22 = .ok (.isub, 1) := by decide +kernel
theorem dX8_pass_23 : decode cX8_pass 23 = .ok (.istore_n 2, 1) := by decide +kernel
theorem dX8_pass_24 : decode cX8_pass 24 = .ok (.iconst 0, 1) := by decide +kernel
theorem dX8_pass_25 : decode cX8_pass 25 = .ok (.istore_n 3, 1) := by decide +kernel
theorem dX8_pass_26 : decode cX8_pass 26 = .ok (.iload_n 3, 1) := by decide +kernel
theorem dX8_pass_27 : decode cX8_pass 27 = .ok (.aload_n 0, 1) := by decide +kernel
theorem dX8_pass_28 : decode cX8_pass 28 = .ok (.getfield 7, 3) := by decide +kernel
theorem dX8_pass_31 : decode cX8_pass 31 = .ok (.iconst 2, 1) := by decide +kernel
theorem dX8_pass_32 : decode cX8_pass 32 = .ok (.iaload, 1) := by decide +kernel
theorem dX8_pass_33 : decode cX8_pass 33 = .ok (.if_icmp .ge 69, 3) := by decide +kernel
theorem dX8_pass_36 : decode cX8_pass 36 = .ok (.iload_n 2, 1) := by decide +kernel
theorem dX8_pass_37 : decode cX8_pass 37 = .ok (.ifCond .le 65, 3) := by decide +kernel
theorem dX8_pass_40 : decode cX8_pass 40 = .ok (.aload_n 0, 1) := by decide +kernel
theorem dX8_pass_41 : decode cX8_pass 41 = .ok (.getfield 7, 3) := by decide +kernel
theorem dX8_pass_44 : decode cX8_pass 44 = .ok (.sipush 164, 3) := by decide +kernel
theorem dX8_pass_47 : decode cX8_pass 47 = .ok (.iload_n 3, 1) := by decide +kernel
theorem dX8_pass_48 : decode cX8_pass 48 = .ok (.iadd, 1) := by decide +kernel
theorem dX8_pass_49 : decode cX8_pass 49 = .ok (.iaload, 1) := by decide +kernel
theorem dX8_pass_50 : decode cX8_pass 50 = .ok (.iload_n 2, 1) := by decide +kernel
theorem dX8_pass_51 : decode cX8_pass 51 = .ok (.isub, 1) := by decide +kernel
theorem dX8_pass_52 : decode cX8_pass 52 = .ok (.istore 4, 2) := by decide +kernel
theorem dX8_pass_54 : decode cX8_pass 54 = .ok (.aload_n 0, 1) := by decide +kernel
theorem dX8_pass_55 : decode cX8_pass 55 = .ok (.getfield 7, 3) := by decide +kernel
theorem dX8_pass_58 : decode cX8_pass 58 = .ok (.sipush 164, 3) := by decide +kernel
theorem dX8_pass_61 : decode cX8_pass 61 = .ok (.iload_n 3, 1) := by decide +kernel
theorem dX8_pass_62 : decode cX8_pass 62 = .ok (.iadd, 1) := by decide +kernel
theorem dX8_pass_63 : decode cX8_pass 63 = .ok (.aload_n 0, 1) := by decide +kernel
theorem dX8_pass_64 : decode cX8_pass 64 = .ok (.iload_n 3, 1) := by decide +kernel
theorem dX8_pass_65 : decode cX8_pass 65 = .ok (.invokevirtual 51, 3) := by decide +kernel
theorem dX8_pass_68 : decode cX8_pass 68 = .ok (.ifCond .ne 16, 3) := by decide +kernel
theorem dX8_pass_71 : decode cX8_pass 71 = .ok (.aload_n 0, 1) := by decide +kernel
theorem dX8_pass_72 : decode cX8_pass 72 = .ok (.getfield 7, 3) := by decide +kernel
theorem dX8_pass_75 : decode cX8_pass 75 = .ok (.sipush 164, 3) := by decide +kernel
theorem dX8_pass_78 : decode cX8_pass 78 = .ok (.iload_n 3, 1) := by decide +kernel
theorem dX8_pass_79 : decode cX8_pass 79 = .ok (.iadd, 1) := by decide +kernel
theorem dX8_pass_80 : decode cX8_pass 80 = .ok (.iaload, 1) := by decide +kernel
theorem dX8_pass_81 : decode cX8_pass 81 = .ok (.goto 14, 3) := by decide +kernel
theorem dX8_pass_84 : decode cX8_pass 84 = .ok (.iload 4, 2) := by decide +kernel
theorem dX8_pass_86 : decode cX8_pass 86 = .ok (.ifCond .le 8, 3) := by decide +kernel
theorem dX8_pass_89 : decode cX8_pass 89 = .ok (.iload 4, 2) := by decide +kernel
theorem dX8_pass_91 : decode cX8_pass 91 = .ok (.goto 4, 3) := by decide +kernel
theorem dX8_pass_94 : decode cX8_pass 94 = .ok (.iconst 0, 1) := by decide +kernel
theorem dX8_pass_95 : decode cX8_pass 95 = .ok (.iastore, 1) := by decide +kernel
theorem dX8_pass_96 : decode cX8_pass 96 = .ok (.iinc 3 1, 3) := by decide +kernel
theorem dX8_pass_99 : decode cX8_pass 99 = .ok (.goto (-73), 3) := by decide +kernel
theorem dX8_pass_102 : decode cX8_pass 102 = .ok (.aload_n 0, 1) := by decide +kernel
theorem dX8_pass_103 : decode cX8_pass 103 = .ok (.getfield 7, 3) := by decide +kernel
theorem dX8_pass_106 : decode cX8_pass 106 = .ok (.bipush 9, 2) := by decide +kernel
theorem dX8_pass_108 : decode cX8_pass 108 = .ok (.dup2, 1) := by decide +kernel
theorem dX8_pass_109 : decode cX8_pass 109 = .ok (.iaload, 1) := by decide +kernel
theorem dX8_pass_110 : decode cX8_pass 110 = .ok (.iload_n 1, 1) := by decide +kernel
theorem dX8_pass_111 : decode cX8_pass 111 = .ok (.iadd, 1) := by decide +kernel
theorem dX8_pass_112 : decode cX8_pass 112 = .ok (.iastore, 1) := by decide +kernel
theorem dX8_pass_113 : decode cX8_pass 113 = .ok (.return_, 1) := by decide +kernel
theorem dX8_type_0 : decode cX8_type 0 = .ok (.aload_n 0, 1) := by decide +kernel
theorem dX8_type_1 : decode cX8_type 1 = .ok (.getfield 54, 3) := by decide +kernel
theorem dX8_type_4 : decode cX8_type 4 = .ok (.bipush 20, 2) := by decide +kernel
theorem dX8_type_6 : decode cX8_type 6 = .ok (.if_icmp .ne 6, 3) := by decide +kernel
theorem dX8_type_9 : decode cX8_type 9 = .ok (.bipush (-3), 2) := by decide +kernel
theorem dX8_type_11 : decode cX8_type 11 = .ok (.ireturn, 1) := by decide +kernel
theorem dX8_type_12 : decode cX8_type 12 = .ok (.aload_n 0, 1) := by decide +kernel
theorem dX8_type_13 : decode cX8_type 13 = .ok (.getfield 23, 3) := by decide +kernel
theorem dX8_type_16 : decode cX8_type 16 = .ok (.aload_n 0, 1) := by decide +kernel
theorem dX8_type_17 : decode cX8_type 17 = .ok (.getfield 54, 3) := by decide +kernel
theorem dX8_type_20 : decode cX8_type 20 = .ok (.iload_n 1, 1) := by decide +kernel
theorem dX8_type_21 : decode cX8_type 21 = .ok (.castore, 1) := by decide +kernel
theorem dX8_type_22 : decode cX8_type 22 = .ok (.aload_n 0, 1) := by decide +kernel
theorem dX8_type_23 : decode cX8_type 23 = .ok (.dup, 1) := by decide +kernel
theorem dX8_type_24 : decode cX8_type 24 = .ok (.getfield 54, 3) := by decide +kernel
theorem dX8_type_27 : decode cX8_type 27 = .ok (.iconst 1, 1) := by decide +kernel
theorem dX8_type_28 : decode cX8_type 28 = .ok (.iadd, 1) := by decide +kernel
theorem dX8_type_29 : decode cX8_type 29 = .ok (.putfield 54, 3) := by decide +kernel
theorem dX8_type_32 : decode cX8_type 32 = .ok (.aload_n 0, 1) := by decide +kernel
theorem dX8_type_33 : decode cX8_type 33 = .ok (.getfield 54, 3) := by decide +kernel
theorem dX8_type_36 : decode cX8_type 36 = .ok (.ireturn, 1) := by decide +kernel
theorem dX8_clearText_0 : decode cX8_clearText 0 = .ok (.aload_n 0, 1) := by decide +kernel
theorem dX8_clearText_1 : decode cX8_clearText 1 = .ok (.getfield 54, 3) := by decide +kernel
theorem dX8_clearText_4 : decode cX8_clearText 4 = .ok (.istore_n 1, 1) := by decide +kernel
theorem dX8_clearText_5 : decode cX8_clearText 5 = .ok (.aload_n 0, 1) := by decide +kernel
theorem dX8_clearText_6 : decode cX8_clearText 6 = .ok (.iconst 0, 1) := by decide +kernel
theorem dX8_clearText_7 : decode cX8_clearText 7 = .ok (.putfield 54, 3) := by decide +kernel
theorem dX8_clearText_10 : decode cX8_clearText 10 = .ok (.iload_n 1, 1) := by decide +kernel
theorem dX8_clearText_11 : decode cX8_clearText 11 = .ok (.ireturn, 1) := by decide +kernel
theorem dX8_lockLetter_0 : decode cX8_lockLetter 0 = .ok (.iload_n 0, 1) := by decide +kernel
theorem dX8_lockLetter_1 : decode cX8_lockLetter 1 = .ok (.tableswitch 150 0 2 #[27, 78, 109], 27) := by decide +kernel
theorem dX8_lockLetter_28 : decode cX8_lockLetter 28 = .ok (.iload_n 1, 1) := by decide +kernel
theorem dX8_lockLetter_29 : decode cX8_lockLetter 29 = .ok (.ifCond .ne 8, 3) := by decide +kernel
theorem dX8_lockLetter_32 : decode cX8_lockLetter 32 = .ok (.bipush 108, 2) := by decide +kernel
theorem dX8_lockLetter_34 : decode cX8_lockLetter 34 = .ok (.goto 44, 3) := by decide +kernel
theorem dX8_lockLetter_37 : decode cX8_lockLetter 37 = .ok (.iload_n 1, 1) := by decide +kernel
theorem dX8_lockLetter_38 : decode cX8_lockLetter 38 = .ok (.iconst 1, 1) := by decide +kernel
theorem dX8_lockLetter_39 : decode cX8_lockLetter 39 = .ok (.if_icmp .ne 8, 3) := by decide +kernel
theorem dX8_lockLetter_42 : decode cX8_lockLetter 42 = .ok (.bipush 97, 2) := by decide +kernel
theorem dX8_lockLetter_44 : decode cX8_lockLetter 44 = .ok (.goto 34, 3) := by decide +kernel
theorem dX8_lockLetter_47 : decode cX8_lockLetter 47 = .ok (.iload_n 1, 1) := by decide +kernel
theorem dX8_lockLetter_48 : decode cX8_lockLetter 48 = .ok (.iconst 2, 1) := by decide +kernel
theorem dX8_lockLetter_49 : decode cX8_lockLetter 49 = .ok (.if_icmp .ne 8, 3) := by decide +kernel
theorem dX8_lockLetter_52 : decode cX8_lockLetter 52 = .ok (.bipush 116, 2) := by decide +kernel
theorem dX8_lockLetter_54 : decode cX8_lockLetter 54 = .ok (.goto 24, 3) := by decide +kernel
theorem dX8_lockLetter_57 : decode cX8_lockLetter 57 = .ok (.iload_n 1, 1) := by decide +kernel
theorem dX8_lockLetter_58 : decode cX8_lockLetter 58 = .ok (.iconst 3, 1) := by decide +kernel
theorem dX8_lockLetter_59 : decode cX8_lockLetter 59 = .ok (.if_icmp .ne 8, 3) := by decide +kernel
theorem dX8_lockLetter_62 : decode cX8_lockLetter 62 = .ok (.bipush 99, 2) := by decide +kernel
theorem dX8_lockLetter_64 : decode cX8_lockLetter 64 = .ok (.goto 14, 3) := by decide +kernel
theorem dX8_lockLetter_67 : decode cX8_lockLetter 67 = .ok (.iload_n 1, 1) := by decide +kernel
theorem dX8_lockLetter_68 : decode cX8_lockLetter 68 = .ok (.iconst 4, 1) := by decide +kernel
theorem dX8_lockLetter_69 : decode cX8_lockLetter 69 = .ok (.if_icmp .ne 8, 3) := by decide +kernel
theorem dX8_lockLetter_72 : decode cX8_lockLetter 72 = .ok (.bipush 104, 2) := by decide +kernel
theorem dX8_lockLetter_74 : decode cX8_lockLetter 74 = .ok (.goto 4, 3) := by decide +kernel
theorem dX8_lockLetter_77 : decode cX8_lockLetter 77 = .ok (.iconst 0, 1) := by decide +kernel
theorem dX8_lockLetter_78 : decode cX8_lockLetter 78 = .ok (.ireturn, 1) := by decide +kernel
theorem dX8_lockLetter_79 : decode cX8_lockLetter 79 = .ok (.iload_n 1, 1) := by decide +kernel
theorem dX8_lockLetter_80 : decode cX8_lockLetter 80 = .ok (.ifCond .ne 8, 3) := by decide +kernel
theorem dX8_lockLetter_83 : decode cX8_lockLetter 83 = .ok (.bipush 107, 2) := by decide +kernel
theorem dX8_lockLetter_85 : decode cX8_lockLetter 85 = .ok (.goto 24, 3) := by decide +kernel
theorem dX8_lockLetter_88 : decode cX8_lockLetter 88 = .ok (.iload_n 1, 1) := by decide +kernel
theorem dX8_lockLetter_89 : decode cX8_lockLetter 89 = .ok (.iconst 1, 1) := by decide +kernel
theorem dX8_lockLetter_90 : decode cX8_lockLetter 90 = .ok (.if_icmp .ne 8, 3) := by decide +kernel
theorem dX8_lockLetter_93 : decode cX8_lockLetter 93 = .ok (.bipush 101, 2) := by decide +kernel
theorem dX8_lockLetter_95 : decode cX8_lockLetter 95 = .ok (.goto 14, 3) := by decide +kernel
theorem dX8_lockLetter_98 : decode cX8_lockLetter 98 = .ok (.iload_n 1, 1) := by decide +kernel
theorem dX8_lockLetter_99 : decode cX8_lockLetter 99 = .ok (.iconst 2, 1) := by decide +kernel
theorem dX8_lockLetter_100 : decode cX8_lockLetter 100 = .ok (.if_icmp .ne 8, 3) := by decide +kernel
theorem dX8_lockLetter_103 : decode cX8_lockLetter 103 = .ok (.bipush 121, 2) := by decide +kernel
theorem dX8_lockLetter_105 : decode cX8_lockLetter 105 = .ok (.goto 4, 3) := by decide +kernel
theorem dX8_lockLetter_108 : decode cX8_lockLetter 108 = .ok (.iconst 0, 1) := by decide +kernel
theorem dX8_lockLetter_109 : decode cX8_lockLetter 109 = .ok (.ireturn, 1) := by decide +kernel
theorem dX8_lockLetter_110 : decode cX8_lockLetter 110 = .ok (.iload_n 1, 1) := by decide +kernel
theorem dX8_lockLetter_111 : decode cX8_lockLetter 111 = .ok (.ifCond .ne 8, 3) := by decide +kernel
theorem dX8_lockLetter_114 : decode cX8_lockLetter 114 = .ok (.bipush 99, 2) := by decide +kernel
theorem dX8_lockLetter_116 : decode cX8_lockLetter 116 = .ok (.goto 34, 3) := by decide +kernel
theorem dX8_lockLetter_119 : decode cX8_lockLetter 119 = .ok (.iload_n 1, 1) := by decide +kernel
theorem dX8_lockLetter_120 : decode cX8_lockLetter 120 = .ok (.iconst 1, 1) := by decide +kernel
theorem dX8_lockLetter_121 : decode cX8_lockLetter 121 = .ok (.if_icmp .ne 8, 3) := by decide +kernel
theorem dX8_lockLetter_124 : decode cX8_lockLetter 124 = .ok (.bipush 111, 2) := by decide +kernel
theorem dX8_lockLetter_126 : decode cX8_lockLetter 126 = .ok (.goto 24, 3) := by decide +kernel
theorem dX8_lockLetter_129 : decode cX8_lockLetter 129 = .ok (.iload_n 1, 1) := by decide +kernel
theorem dX8_lockLetter_130 : decode cX8_lockLetter 130 = .ok (.iconst 2, 1) := by decide +kernel
theorem dX8_lockLetter_131 : decode cX8_lockLetter 131 = .ok (.if_icmp .ne 8, 3) := by decide +kernel
theorem dX8_lockLetter_134 : decode cX8_lockLetter 134 = .ok (.bipush 100, 2) := by decide +kernel
theorem dX8_lockLetter_136 : decode cX8_lockLetter 136 = .ok (.goto 14, 3) := by decide +kernel
theorem dX8_lockLetter_139 : decode cX8_lockLetter 139 = .ok (.iload_n 1, 1) := by decide +kernel
theorem dX8_lockLetter_140 : decode cX8_lockLetter 140 = .ok (.iconst 3, 1) := by decide +kernel
theorem dX8_lockLetter_141 : decode cX8_lockLetter 141 = .ok (.if_icmp .ne 8, 3) := by decide +kernel
theorem dX8_lockLetter_144 : decode cX8_lockLetter 144 = .ok (.bipush 101, 2) := by decide +kernel
theorem dX8_lockLetter_146 : decode cX8_lockLetter 146 = .ok (.goto 4, 3) := by decide +kernel
theorem dX8_lockLetter_149 : decode cX8_lockLetter 149 = .ok (.iconst 0, 1) := by decide +kernel
theorem dX8_lockLetter_150 : decode cX8_lockLetter 150 = .ok (.ireturn, 1) := by decide +kernel
theorem dX8_lockLetter_151 : decode cX8_lockLetter 151 = .ok (.iload_n 1, 1) := by decide +kernel
theorem dX8_lockLetter_152 : decode cX8_lockLetter 152 = .ok (.ifCond .ne 8, 3) := by decide +kernel
theorem dX8_lockLetter_155 : decode cX8_lockLetter 155 = .ok (.bipush 112, 2) := by decide +kernel
theorem dX8_lockLetter_157 : decode cX8_lockLetter 157 = .ok (.goto 44, 3) := by decide +kernel
theorem dX8_lockLetter_160 : decode cX8_lockLetter 160 = .ok (.iload_n 1, 1) := by decide +kernel
theorem dX8_lockLetter_161 : decode cX8_lockLetter 161 = .ok (.iconst 1, 1) := by decide +kernel
theorem dX8_lockLetter_162 : decode cX8_lockLetter 162 = .ok (.if_icmp .ne 8, 3) := by decide +kernel
theorem dX8_lockLetter_165 : decode cX8_lockLetter 165 = .ok (.bipush 108, 2) := by decide +kernel
theorem dX8_lockLetter_167 : decode cX8_lockLetter 167 = .ok (.goto 34, 3) := by decide +kernel
theorem dX8_lockLetter_170 : decode cX8_lockLetter 170 = .ok (.iload_n 1, 1) := by decide +kernel
theorem dX8_lockLetter_171 : decode cX8_lockLetter 171 = .ok (.iconst 2, 1) := by decide +kernel
theorem dX8_lockLetter_172 : decode cX8_lockLetter 172 = .ok (.if_icmp .ne 8, 3) := by decide +kernel
theorem dX8_lockLetter_175 : decode cX8_lockLetter 175 = .ok (.bipush 97, 2) := by decide +kernel
theorem dX8_lockLetter_177 : decode cX8_lockLetter 177 = .ok (.goto 24, 3) := by decide +kernel
theorem dX8_lockLetter_180 : decode cX8_lockLetter 180 = .ok (.iload_n 1, 1) := by decide +kernel
theorem dX8_lockLetter_181 : decode cX8_lockLetter 181 = .ok (.iconst 3, 1) := by decide +kernel
theorem dX8_lockLetter_182 : decode cX8_lockLetter 182 = .ok (.if_icmp .ne 8, 3) := by decide +kernel
theorem dX8_lockLetter_185 : decode cX8_lockLetter 185 = .ok (.bipush 116, 2) := by decide +kernel
theorem dX8_lockLetter_187 : decode cX8_lockLetter 187 = .ok (.goto 14, 3) := by decide +kernel
theorem dX8_lockLetter_190 : decode cX8_lockLetter 190 = .ok (.iload_n 1, 1) := by decide +kernel
theorem dX8_lockLetter_191 : decode cX8_lockLetter 191 = .ok (.iconst 4, 1) := by decide +kernel
theorem dX8_lockLetter_192 : decode cX8_lockLetter 192 = .ok (.if_icmp .ne 8, 3) := by decide +kernel
theorem dX8_lockLetter_195 : decode cX8_lockLetter 195 = .ok (.bipush 101, 2) := by decide +kernel
theorem dX8_lockLetter_197 : decode cX8_lockLetter 197 = .ok (.goto 4, 3) := by decide +kernel
theorem dX8_lockLetter_200 : decode cX8_lockLetter 200 = .ok (.iconst 0, 1) := by decide +kernel
theorem dX8_lockLetter_201 : decode cX8_lockLetter 201 = .ok (.ireturn, 1) := by decide +kernel
theorem dX8_sees_0 : decode cX8_sees 0 = .ok (.aload_n 0, 1) := by decide +kernel
theorem dX8_sees_1 : decode cX8_sees 1 = .ok (.getfield 58, 3) := by decide +kernel
theorem dX8_sees_4 : decode cX8_sees 4 = .ok (.aload_n 0, 1) := by decide +kernel
theorem dX8_sees_5 : decode cX8_sees 5 = .ok (.getfield 54, 3) := by decide +kernel
theorem dX8_sees_8 : decode cX8_sees 8 = .ok (.if_icmp .ge 15, 3) := by decide +kernel
theorem dX8_sees_11 : decode cX8_sees 11 = .ok (.aload_n 0, 1) := by decide +kernel
theorem dX8_sees_12 : decode cX8_sees 12 = .ok (.getfield 23, 3) := by decide +kernel
theorem dX8_sees_15 : decode cX8_sees 15 = .ok (.aload_n 0, 1) := by decide +kernel
theorem dX8_sees_16 : decode cX8_sees 16 = .ok (.getfield 58, 3) := by decide +kernel
theorem dX8_sees_19 : decode cX8_sees 19 = .ok (.caload, 1) := by decide +kernel
theorem dX8_sees_20 : decode cX8_sees 20 = .ok (.goto 4, 3) := by decide +kernel
theorem dX8_sees_23 : decode cX8_sees 23 = .ok (.iconst 0, 1) := by decide +kernel
theorem dX8_sees_24 : decode cX8_sees 24 = .ok (.ireturn, 1) := by decide +kernel
theorem dX8_takes_0 : decode cX8_takes 0 = .ok (.aload_n 0, 1) := by decide +kernel
theorem dX8_takes_1 : decode cX8_takes 1 = .ok (.aload_n 0, 1) := by decide +kernel
theorem dX8_takes_2 : decode cX8_takes 2 = .ok (.getfield 61, 3) := by decide +kernel
theorem dX8_takes_5 : decode cX8_takes 5 = .ok (.ifCond .ne 22, 3) := by decide +kernel
theorem dX8_takes_8 : decode cX8_takes 8 = .ok (.aload_n 0, 1) := by decide +kernel
theorem dX8_takes_9 : decode cX8_takes 9 = .ok (.getfield 58, 3) := by decide +kernel
theorem dX8_takes_12 : decode cX8_takes 12 = .ok (.aload_n 0, 1) := by decide +kernel
theorem dX8_takes_13 : decode cX8_takes 13 = .ok (.getfield 54, 3) := by decide +kernel
theorem dX8_takes_16 : decode cX8_takes 16 = .ok (.if_icmp .ge 11, 3) := by decide +kernel
theorem dX8_takes_19 : decode cX8_takes 19 = .ok (.aload_n 0, 1) := by decide +kernel
theorem dX8_takes_20 : decode cX8_takes 20 = .ok (.invokevirtual 65, 3) := by decide +kernel
theorem dX8_takes_23 : decode cX8_takes 23 = .ok (.iload_n 1, 1) := by decide +kernel
theorem dX8_takes_24 : decode cX8_takes 24 = .ok (.if_icmp .eq 7, 3) := by decide +kernel
theorem dX8_takes_27 : decode cX8_takes 27 = .ok (.iconst 1, 1) := by decide +kernel
theorem dX8_takes_28 : decode cX8_takes 28 = .ok (.goto 4, 3) := by decide +kernel
theorem dX8_takes_31 : decode cX8_takes 31 = .ok (.iconst 0, 1) := by decide +kernel
theorem dX8_takes_32 : decode cX8_takes 32 = .ok (.putfield 61, 3) := by decide +kernel
theorem dX8_takes_35 : decode cX8_takes 35 = .ok (.aload_n 0, 1) := by decide +kernel
theorem dX8_takes_36 : decode cX8_takes 36 = .ok (.dup, 1) := by decide +kernel
theorem dX8_takes_37 : decode cX8_takes 37 = .ok (.getfield 58, 3) := by decide +kernel
theorem dX8_takes_40 : decode cX8_takes 40 = .ok (.aload_n 0, 1) := by decide +kernel
theorem dX8_takes_41 : decode cX8_takes 41 = .ok (.getfield 61, 3) := by decide +kernel
theorem dX8_takes_44 : decode cX8_takes 44 = .ok (.ifCond .eq 7, 3) := by decide +kernel
theorem dX8_takes_47 : decode cX8_takes 47 = .ok (.iconst 0, 1) := by decide +kernel
theorem dX8_takes_48 : decode cX8_takes 48 = .ok (.goto 4, 3) := by decide +kernel
theorem dX8_takes_51 : decode cX8_takes 51 = .ok (.iconst 1, 1) := by decide +kernel
theorem dX8_takes_52 : decode cX8_takes 52 = .ok (.iadd, 1) := by decide +kernel
theorem dX8_takes_53 : decode cX8_takes 53 = .ok (.putfield 58, 3) := by decide +kernel
theorem dX8_takes_56 : decode cX8_takes 56 = .ok (.return_, 1) := by decide +kernel
theorem dX8_seesDigit_0 : decode cX8_seesDigit 0 = .ok (.aload_n 0, 1) := by decide +kernel
theorem dX8_seesDigit_1 : decode cX8_seesDigit 1 = .ok (.getfield 58, 3) := by decide +kernel
theorem dX8_seesDigit_4 : decode cX8_seesDigit 4 = .ok (.aload_n 0, 1) := by decide +kernel
theorem dX8_seesDigit_5 : decode cX8_seesDigit 5 = .ok (.getfield 54, 3) := by decide +kernel
theorem dX8_seesDigit_8 : decode cX8_seesDigit 8 = .ok (.if_icmp .ge 21, 3) := by decide +kernel
theorem dX8_seesDigit_11 : decode cX8_seesDigit 11 = .ok (.aload_n 0, 1) := by decide +kernel
theorem dX8_seesDigit_12 : decode cX8_seesDigit 12 = .ok (.invokevirtual 65, 3) := by decide +kernel
theorem dX8_seesDigit_15 : decode cX8_seesDigit 15 = .ok (.bipush 48, 2) := by decide +kernel
theorem dX8_seesDigit_17 : decode cX8_seesDigit 17 = .ok (.bipush 57, 2) := by decide +kernel
theorem dX8_seesDigit_19 : decode cX8_seesDigit 19 = .ok (.invokestatic 30, 3) := by decide +kernel
theorem dX8_seesDigit_22 : decode cX8_seesDigit 22 = .ok (.ifCond .eq 7, 3) := by decide +kernel
theorem dX8_seesDigit_25 : decode cX8_seesDigit 25 = .ok (.iconst 1, 1) := by decide +kernel
theorem dX8_seesDigit_26 : decode cX8_seesDigit 26 = .ok (.goto 4, 3) := by decide +kernel
theorem dX8_seesDigit_29 : decode cX8_seesDigit 29 = .ok (.iconst 0, 1) := by decide +kernel
theorem dX8_seesDigit_30 : decode cX8_seesDigit 30 = .ok (.ireturn, 1) := by decide +kernel
theorem dX8_number_0 : decode cX8_number 0 = .ok (.iconst 0, 1) := by decide +kernel
theorem dX8_number_1 : decode cX8_number 1 = .ok (.istore_n 3, 1) := by decide +kernel
theorem dX8_number_2 : decode cX8_number 2 = .ok (.iconst 0, 1) := by decide +kernel
theorem dX8_number_3 : decode cX8_number 3 = .ok (.istore 4, 2) := by decide +kernel
theorem dX8_number_5 : decode cX8_number 5 = .ok (.aload_n 0, 1) := by decide +kernel
theorem dX8_number_6 : decode cX8_number 6 = .ok (.getfield 61, 3) := by decide +kernel
theorem dX8_number_9 : decode cX8_number 9 = .ok (.ifCond .ne 89, 3) := by decide +kernel
theorem dX8_number_12 : decode cX8_number 12 = .ok (.iload 4, 2) := by decide +kernel
theorem dX8_number_14 : decode cX8_number 14 = .ok (.iload_n 2, 1) := by decide +kernel
theorem dX8_number_15 : decode cX8_number 15 = .ok (.if_icmp .ge 83, 3) := by decide +kernel
theorem dX8_number_18 : decode cX8_number 18 = .ok (.iload 4, 2) := by decide +kernel
theorem dX8_number_20 : decode cX8_number 20 = .ok (.iload_n 1, 1) := by decide +kernel
theorem dX8_number_21 : decode cX8_number 21 = .ok (.if_icmp .lt 10, 3) := by decide +kernel
theorem dX8_number_24 : decode cX8_number 24 = .ok (.aload_n 0, 1) := by decide +kernel
theorem dX8_number_25 : decode cX8_number 25 = .ok (.invokevirtual 69, 3) := by decide +kernel
theorem dX8_number_28 : decode cX8_number 28 = .ok (.ifCond .eq 70, 3) := by decide +kernel
theorem dX8_number_31 : decode cX8_number 31 = .ok (.aload_n 0, 1) := by decide +kernel
theorem dX8_number_32 : decode cX8_number 32 = .ok (.aload_n 0, 1) := by decide +kernel
theorem dX8_number_33 : decode cX8_number 33 = .ok (.invokevirtual 69, 3) := by decide +kernel
theorem dX8_number_36 : decode cX8_number 36 = .ok (.ifCond .ne 7, 3) := by decide +kernel
theorem dX8_number_39 : decode cX8_number 39 = .ok (.iconst 1, 1) := by decide +kernel
theorem dX8_number_40 : decode cX8_number 40 = .ok (.goto 4, 3) := by decide +kernel
theorem dX8_number_43 : decode cX8_number 43 = .ok (.iconst 0, 1) := by decide +kernel
theorem dX8_number_44 : decode cX8_number 44 = .ok (.putfield 61, 3) := by decide +kernel
theorem dX8_number_47 : decode cX8_number 47 = .ok (.bipush 10, 2) := by decide +kernel
theorem dX8_number_49 : decode cX8_number 49 = .ok (.iload_n 3, 1) := by decide +kernel
theorem dX8_number_50 : decode cX8_number 50 = .ok (.imul, 1) := by decide +kernel
theorem dX8_number_51 : decode cX8_number 51 = .ok (.aload_n 0, 1) := by decide +kernel
theorem dX8_number_52 : decode cX8_number 52 = .ok (.getfield 61, 3) := by decide +kernel
theorem dX8_number_55 : decode cX8_number 55 = .ok (.ifCond .eq 7, 3) := by decide +kernel
theorem dX8_number_58 : decode cX8_number 58 = .ok (.iconst 0, 1) := by decide +kernel
theorem dX8_number_59 : decode cX8_number 59 = .ok (.goto 10, 3) := by decide +kernel
theorem dX8_number_62 : decode cX8_number 62 = .ok (.aload_n 0, 1) := by decide +kernel
theorem dX8_number_63 : decode cX8_number 63 = .ok (.invokevirtual 65, 3) := by decide +kernel
theorem dX8_number_66 : decode cX8_number 66 = .ok (.bipush 48, 2) := by decide +kernel
theorem dX8_number_68 : decode cX8_number 68 = .ok (.isub, 1) := by decide +kernel
theorem dX8_number_69 : decode cX8_number 69 = .ok (.iadd, 1) := by decide +kernel
theorem dX8_number_70 : decode cX8_number 70 = .ok (.istore_n 3, 1) := by decide +kernel
theorem dX8_number_71 : decode cX8_number 71 = .ok (.aload_n 0, 1) := by decide +kernel
theorem dX8_number_72 : decode cX8_number 72 = .ok (.dup, 1) := by decide +kernel
theorem dX8_number_73 : decode cX8_number 73 = .ok (.getfield 58, 3) := by decide +kernel
theorem dX8_number_76 : decode cX8_number 76 = .ok (.aload_n 0, 1) := by decide +kernel
theorem dX8_number_77 : decode cX8_number 77 = .ok (.getfield 61, 3) := by decide +kernel
theorem dX8_number_80 : decode cX8_number 80 = .ok (.ifCond .eq 7, 3) := by decide +kernel
theorem dX8_number_83 : decode cX8_number 83 = .ok (.iconst 0, 1) := by decide +kernel
theorem dX8_number_84 : decode cX8_number 84 = .ok (.goto 4, 3) := by decide +kernel
theorem dX8_number_87 : decode cX8_number 87 = .ok (.iconst 1, 1) := by decide +kernel
theorem dX8_number_88 : decode cX8_number 88 = .ok (.iadd, 1) := by decide +kernel
theorem dX8_number_89 : decode cX8_number 89 = .ok (.putfield 58, 3) := by decide +kernel
theorem dX8_number_92 : decode cX8_number 92 = .ok (.iinc 4 1, 3) := by decide +kernel
theorem dX8_number_95 : decode cX8_number 95 = .ok (.goto (-90), 3) := by decide +kernel
theorem dX8_number_98 : decode cX8_number 98 = .ok (.iload_n 3, 1) := by decide +kernel
theorem dX8_number_99 : decode cX8_number 99 = .ok (.ireturn, 1) := by decide +kernel
theorem dX8_readsLock_0 : decode cX8_readsLock 0 = .ok (.aload_n 0, 1) := by decide +kernel
theorem dX8_readsLock_1 : decode cX8_readsLock 1 = .ok (.bipush (-5), 2) := by decide +kernel
theorem dX8_readsLock_3 : decode cX8_readsLock 3 = .ok (.putfield 73, 3) := by decide +kernel
theorem dX8_readsLock_6 : decode cX8_readsLock 6 = .ok (.iconst 0, 1) := by decide +kernel
theorem dX8_readsLock_7 : decode cX8_readsLock 7 = .ok (.istore_n 1, 1) := by decide +kernel
theorem dX8_readsLock_8 : decode cX8_readsLock 8 = .ok (.iload_n 1, 1) := by decide +kernel
theorem dX8_readsLock_9 : decode cX8_readsLock 9 = .ok (.iconst 4, 1) := by decide +kernel
theorem dX8_readsLock_10 : decode cX8_readsLock 10 = .ok (.if_icmp .ge 44, 3) := by decide +kernel
theorem dX8_readsLock_13 : decode cX8_readsLock 13 = .ok (.aload_n 0, 1) := by decide +kernel
theorem dX8_readsLock_14 : decode cX8_readsLock 14 = .ok (.aload_n 0, 1) := by decide +kernel
theorem dX8_readsLock_15 : decode cX8_readsLock 15 = .ok (.getfield 58, 3) := by decide +kernel
theorem dX8_readsLock_18 : decode cX8_readsLock 18 = .ok (.aload_n 0, 1) := by decide +kernel
theorem dX8_readsLock_19 : decode cX8_readsLock 19 = .ok (.getfield 54, 3) := by decide +kernel
theorem dX8_readsLock_22 : decode cX8_readsLock 22 = .ok (.if_icmp .ge 19, 3) := by decide +kernel
theorem dX8_readsLock_25 : decode cX8_readsLock 25 = .ok (.aload_n 0, 1) := by decide +kernel
theorem dX8_readsLock_26 : decode cX8_readsLock 26 = .ok (.invokevirtual 65, 3) := by decide +kernel
theorem dX8_readsLock_29 : decode cX8_readsLock 29 = .ok (.iload_n 1, 1) := by decide +kernel
theorem dX8_readsLock_30 : decode cX8_readsLock 30 = .ok (.iconst 0, 1) := by decide +kernel
theorem dX8_readsLock_31 : decode cX8_readsLock 31 = .ok (.invokestatic 76, 3) := by decide +kernel
theorem dX8_readsLock_34 : decode cX8_readsLock 34 = .ok (.if_icmp .ne 7, 3) := by decide +kernel
theorem dX8_readsLock_37 : decode cX8_readsLock 37 = .ok (.iload_n 1, 1) := by decide +kernel
theorem dX8_readsLock_38 : decode cX8_readsLock 38 = .ok (.goto 7, 3) := by decide +kernel
theorem dX8_readsLock_41 : decode cX8_readsLock 41 = .ok (.aload_n 0, 1) := by decide +kernel
theorem dX8_readsLock_42 : decode cX8_readsLock 42 = .ok (.getfield 73, 3) := by decide +kernel
theorem dX8_readsLock_45 : decode cX8_readsLock 45 = .ok (.putfield 73, 3) := by decide +kernel
theorem dX8_readsLock_48 : decode cX8_readsLock 48 = .ok (.iinc 1 1, 3) := by decide +kernel
theorem dX8_readsLock_51 : decode cX8_readsLock 51 = .ok (.goto (-43), 3) := by decide +kernel
theorem dX8_readsLock_54 : decode cX8_readsLock 54 = .ok (.aload_n 0, 1) := by decide +kernel
theorem dX8_readsLock_55 : decode cX8_readsLock 55 = .ok (.aload_n 0, 1) := by decide +kernel
theorem dX8_readsLock_56 : decode cX8_readsLock 56 = .ok (.getfield 61, 3) := by decide +kernel
theorem dX8_readsLock_59 : decode cX8_readsLock 59 = .ok (.ifCond .ne 10, 3) := by decide +kernel
theorem dX8_readsLock_62 : decode cX8_readsLock 62 = .ok (.aload_n 0, 1) := by decide +kernel
theorem dX8_readsLock_63 : decode cX8_readsLock 63 = .ok (.getfield 73, 3) := by decide +kernel
theorem dX8_readsLock_66 : decode cX8_readsLock 66 = .ok (.ifCond .ge 7, 3) := by decide +kernel
theorem dX8_readsLock_69 : decode cX8_readsLock 69 = .ok (.iconst 1, 1) := by decide +kernel
theorem dX8_readsLock_70 : decode cX8_readsLock 70 = .ok (.goto 4, 3) := by decide +kernel
theorem dX8_readsLock_73 : decode cX8_readsLock 73 = .ok (.iconst 0, 1) := by decide +kernel
theorem dX8_readsLock_74 : decode cX8_readsLock 74 = .ok (.putfield 61, 3) := by decide +kernel
theorem dX8_readsLock_77 : decode cX8_readsLock 77 = .ok (.iconst 0, 1) := by decide +kernel
theorem dX8_readsLock_78 : decode cX8_readsLock 78 = .ok (.istore_n 1, 1) := by decide +kernel
theorem dX8_readsLock_79 : decode cX8_readsLock 79 = .ok (.aload_n 0, 1) := by decide +kernel
theorem dX8_readsLock_80 : decode cX8_readsLock 80 = .ok (.getfield 61, 3) := by decide +kernel
theorem dX8_readsLock_83 : decode cX8_readsLock 83 = .ok (.ifCond .ne 32, 3) := by decide +kernel
theorem dX8_readsLock_86 : decode cX8_readsLock 86 = .ok (.aload_n 0, 1) := by decide +kernel
theorem dX8_readsLock_87 : decode cX8_readsLock 87 = .ok (.getfield 73, 3) := by decide +kernel
theorem dX8_readsLock_90 : decode cX8_readsLock 90 = .ok (.iload_n 1, 1) := by decide +kernel
theorem dX8_readsLock_91 : decode cX8_readsLock 91 = .ok (.invokestatic 76, 3) := by decide +kernel
theorem dX8_readsLock_94 : decode cX8_readsLock 94 = .ok (.ifCond .le 21, 3) := by decide +kernel
theorem dX8_readsLock_97 : decode cX8_readsLock 97 = .ok (.aload_n 0, 1) := by decide +kernel
theorem dX8_readsLock_98 : decode cX8_readsLock 98 = .ok (.aload_n 0, 1) := by decide +kernel
theorem dX8_readsLock_99 : decode cX8_readsLock 99 = .ok (.getfield 73, 3) := by decide +kernel
theorem dX8_readsLock_102 : decode cX8_readsLock 102 = .ok (.iload_n 1, 1) := by decide +kernel
theorem dX8_readsLock_103 : decode cX8_readsLock 103 = .ok (.invokestatic 76, 3) := by decide +kernel
theorem dX8_readsLock_106 : decode cX8_readsLock 106 = .ok (.invokevirtual 80, 3) := by decide +kernel
theorem dX8_readsLock_109 : decode cX8_readsLock 109 = .ok (.iinc 1 1, 3) := by decide +kernel
theorem dX8_readsLock_112 : decode cX8_readsLock 112 = .ok (.goto (-33), 3) := by decide +kernel
theorem dX8_readsLock_115 : decode cX8_readsLock 115 = .ok (.aload_n 0, 1) := by decide +kernel
theorem dX8_readsLock_116 : decode cX8_readsLock 116 = .ok (.bipush (-5), 2) := by decide +kernel
theorem dX8_readsLock_118 : decode cX8_readsLock 118 = .ok (.putfield 84, 3) := by decide +kernel
theorem dX8_readsLock_121 : decode cX8_readsLock 121 = .ok (.aload_n 0, 1) := by decide +kernel
theorem dX8_readsLock_122 : decode cX8_readsLock 122 = .ok (.getfield 61, 3) := by decide +kernel
theorem dX8_readsLock_125 : decode cX8_readsLock 125 = .ok (.ifCond .ne 43, 3) := by decide +kernel
theorem dX8_readsLock_128 : decode cX8_readsLock 128 = .ok (.aload_n 0, 1) := by decide +kernel
theorem dX8_readsLock_129 : decode cX8_readsLock 129 = .ok (.getfield 73, 3) := by decide +kernel
theorem dX8_readsLock_132 : decode cX8_readsLock 132 = .ok (.ifCond .eq 36, 3) := by decide +kernel
theorem dX8_readsLock_135 : decode cX8_readsLock 135 = .ok (.aload_n 0, 1) := by decide +kernel
theorem dX8_readsLock_136 : decode cX8_readsLock 136 = .ok (.bipush 32, 2) := by decide +kernel
theorem dX8_readsLock_138 : decode cX8_readsLock 138 = .ok (.invokevirtual 80, 3) := by decide +kernel
theorem dX8_readsLock_141 : decode cX8_readsLock 141 = .ok (.aload_n 0, 1) := by decide +kernel
theorem dX8_readsLock_142 : decode cX8_readsLock 142 = .ok (.aload_n 0, 1) := by decide +kernel
theorem dX8_readsLock_143 : decode cX8_readsLock 143 = .ok (.getfield 73, 3) := by decide +kernel
theorem dX8_readsLock_146 : decode cX8_readsLock 146 = .ok (.iconst 2, 1) := by decide +kernel
theorem dX8_readsLock_147 : decode cX8_readsLock 147 = .ok (.if_icmp .ne 12, 3) := by decide +kernel
theorem dX8_readsLock_150 : decode cX8_readsLock 150 = .ok (.aload_n 0, 1) := by decide +kernel
theorem dX8_readsLock_151 : decode cX8_readsLock 151 = .ok (.iconst 4, 1) := by decide +kernel
theorem dX8_readsLock_152 : decode cX8_readsLock 152 = .ok (.iconst 4, 1) := by decide +kernel
theorem dX8_readsLock_153 : decode cX8_readsLock 153 = .ok (.invokevirtual 87, 3) := by decide +kernel
theorem dX8_readsLock_156 : decode cX8_readsLock 156 = .ok (.goto 9, 3) := by decide +kernel
theorem dX8_readsLock_159 : decode cX8_readsLock 159 = .ok (.aload_n 0, 1) := by decide +kernel
theorem dX8_readsLock_160 : decode cX8_readsLock 160 = .ok (.iconst 1, 1) := by decide +kernel
theorem dX8_readsLock_161 : decode cX8_readsLock 161 = .ok (.iconst 2, 1) := by decide +kernel
theorem dX8_readsLock_162 : decode cX8_readsLock 162 = .ok (.invokevirtual 87, 3) := by decide +kernel
theorem dX8_readsLock_165 : decode cX8_readsLock 165 = .ok (.putfield 84, 3) := by decide +kernel
theorem dX8_readsLock_168 : decode cX8_readsLock 168 = .ok (.return_, 1) := by decide +kernel
theorem dX8_faultOfText_0 : decode cX8_faultOfText 0 = .ok (.aload_n 0, 1) := by decide +kernel
theorem dX8_faultOfText_1 : decode cX8_faultOfText 1 = .ok (.iconst 0, 1) := by decide +kernel
theorem dX8_faultOfText_2 : decode cX8_faultOfText 2 = .ok (.putfield 58, 3) := by decide +kernel
theorem dX8_faultOfText_5 : decode cX8_faultOfText 5 = .ok (.aload_n 0, 1) := by decide +kernel
theorem dX8_faultOfText_6 : decode cX8_faultOfText 6 = .ok (.iconst 0, 1) := by decide +kernel
theorem dX8_faultOfText_7 : decode cX8_faultOfText 7 = .ok (.putfield 61, 3) := by decide +kernel
theorem dX8_faultOfText_10 : decode cX8_faultOfText 10 = .ok (.aload_n 0, 1) := by decide +kernel
theorem dX8_faultOfText_11 : decode cX8_faultOfText 11 = .ok (.aload_n 0, 1) := by decide +kernel
theorem dX8_faultOfText_12 : decode cX8_faultOfText 12 = .ok (.iconst 1, 1) := by decide +kernel
theorem dX8_faultOfText_13 : decode cX8_faultOfText 13 = .ok (.iconst 2, 1) := by decide +kernel
theorem dX8_faultOfText_14 : decode cX8_faultOfText 14 = .ok (.invokevirtual 87, 3) := by decide +kernel
theorem dX8_faultOfText_17 : decode cX8_faultOfText 17 = .ok (.putfield 90, 3) := by decide +kernel
theorem dX8_faultOfText_20 : decode cX8_faultOfText 20 = .ok (.aload_n 0, 1) := by decide +kernel
theorem dX8_faultOfText_21 : decode cX8_faultOfText 21 = .ok (.bipush 32, 2) := by decide +kernel
theorem dX8_faultOfText_23 : decode cX8_faultOfText 23 = .ok (.invokevirtual 80, 3) := by decide +kernel
theorem dX8_faultOfText_26 : decode cX8_faultOfText 26 = .ok (.aload_n 0, 1) := by decide +kernel
theorem dX8_faultOfText_27 : decode cX8_faultOfText 27 = .ok (.getfield 61, 3) := by decide +kernel
theorem dX8_faultOfText_30 : decode cX8_faultOfText 30 = .ok (.ifCond .ne 7, 3) := by decide +kernel
theorem dX8_faultOfText_33 : decode cX8_faultOfText 33 = .ok (.aload_n 0, 1) := by decide +kernel
theorem dX8_faultOfText_34 : decode cX8_faultOfText 34 = .ok (.invokevirtual 93, 3) := by decide +kernel
theorem dX8_faultOfText_37 : decode cX8_faultOfText 37 = .ok (.aload_n 0, 1) := by decide +kernel
theorem dX8_faultOfText_38 : decode cX8_faultOfText 38 = .ok (.getfield 61, 3) := by decide +kernel
theorem dX8_faultOfText_41 : decode cX8_faultOfText 41 = .ok (.ifCond .ne 14, 3) := by decide +kernel
theorem dX8_faultOfText_44 : decode cX8_faultOfText 44 = .ok (.aload_n 0, 1) := by decide +kernel
theorem dX8_faultOfText_45 : decode cX8_faultOfText 45 = .ok (.getfield 58, 3) := by decide +kernel
theorem dX8_faultOfText_48 : decode cX8_faultOfText 48 = .ok (.aload_n 0, 1) := by decide +kernel
theorem dX8_faultOfText_49 : decode cX8_faultOfText 49 = .ok (.getfield 54, 3) := by decide +kernel
theorem dX8_faultOfText_52 : decode cX8_faultOfText 52 = .ok (.if_icmp .ge 10, 3) := by decide +kernel
theorem dX8_faultOfText_55 : decode cX8_faultOfText 55 = .ok (.aload_n 0, 1) := by decide +kernel
theorem dX8_faultOfText_56 : decode cX8_faultOfText 56 = .ok (.getfield 58, 3) := by decide +kernel
theorem dX8_faultOfText_59 : decode cX8_faultOfText 59 = .ok (.goto 5, 3) := by decide +kernel
theorem dX8_faultOfText_62 : decode cX8_faultOfText 62 = .ok (.bipush (-5), 2) := by decide +kernel
theorem dX8_faultOfText_64 : decode cX8_faultOfText 64 = .ok (.ireturn, 1) := by decide +kernel
theorem dX8_addBox_0 : decode cX8_addBox 0 = .ok (.aload_n 0, 1) := by decide +kernel
theorem dX8_addBox_1 : decode cX8_addBox 1 = .ok (.invokevirtual 96, 3) := by decide +kernel
theorem dX8_addBox_4 : decode cX8_addBox 4 = .ok (.istore_n 1, 1) := by decide +kernel
theorem dX8_addBox_5 : decode cX8_addBox 5 = .ok (.iload_n 1, 1) := by decide +kernel
theorem dX8_addBox_6 : decode cX8_addBox 6 = .ok (.ifCond .lt 8, 3) := by decide +kernel
theorem dX8_addBox_9 : decode cX8_addBox 9 = .ok (.bipush (-100), 2) := by decide +kernel
theorem dX8_addBox_11 : decode cX8_addBox 11 = .ok (.iload_n 1, 1) := by decide +kernel
theorem dX8_addBox_12 : decode cX8_addBox 12 = .ok (.isub, 1) := by decide +kernel
theorem dX8_addBox_13 : decode cX8_addBox 13 = .ok (.ireturn, 1) := by decide +kernel
theorem dX8_addBox_14 : decode cX8_addBox 14 = .ok (.aload_n 0, 1) := by decide +kernel
theorem dX8_addBox_15 : decode cX8_addBox 15 = .ok (.getfield 73, 3) := by decide +kernel
theorem dX8_addBox_18 : decode cX8_addBox 18 = .ok (.iconst 1, 1) := by decide +kernel
theorem dX8_addBox_19 : decode cX8_addBox 19 = .ok (.if_icmp .eq 11, 3) := by decide +kernel
theorem dX8_addBox_22 : decode cX8_addBox 22 = .ok (.aload_n 0, 1) := by decide +kernel
theorem dX8_addBox_23 : decode cX8_addBox 23 = .ok (.getfield 73, 3) := by decide +kernel
theorem dX8_addBox_26 : decode cX8_addBox 26 = .ok (.iconst 2, 1) := by decide +kernel
theorem dX8_addBox_27 : decode cX8_addBox 27 = .ok (.if_icmp .le 7, 3) := by decide +kernel
theorem dX8_addBox_30 : decode cX8_addBox 30 = .ok (.iconst 1, 1) := by decide +kernel
theorem dX8_addBox_31 : decode cX8_addBox 31 = .ok (.goto 4, 3) := by decide +kernel
theorem dX8_addBox_34 : decode cX8_addBox 34 = .ok (.iconst 0, 1) := by decide +kernel
theorem dX8_addBox_35 : decode cX8_addBox 35 = .ok (.istore_n 2, 1) := by decide +kernel
theorem dX8_addBox_36 : decode cX8_addBox 36 = .ok (.aload_n 0, 1) := by decide +kernel
theorem dX8_addBox_37 : decode cX8_addBox 37 = .ok (.aload_n 0, 1) := by decide +kernel
theorem dX8_addBox_38 : decode cX8_addBox 38 = .ok (.getfield 90, 3) := by decide +kernel
theorem dX8_addBox_41 : decode cX8_addBox 41 = .ok (.invokevirtual 99, 3) := by decide +kernel
theorem dX8_addBox_44 : decode cX8_addBox 44 = .ok (.ifCond .ne 18, 3) := by decide +kernel
theorem dX8_addBox_47 : decode cX8_addBox 47 = .ok (.iload_n 2, 1) := by decide +kernel
theorem dX8_addBox_48 : decode cX8_addBox 48 = .ok (.ifCond .eq 16, 3) := by decide +kernel
theorem dX8_addBox_51 : decode cX8_addBox 51 = .ok (.aload_n 0, 1) := by decide +kernel
theorem dX8_addBox_52 : decode cX8_addBox 52 = .ok (.aload_n 0, 1) := by decide +kernel
theorem dX8_addBox_53 : decode cX8_addBox 53 = .ok (.getfield 84, 3) := by decide +kernel
theorem dX8_addBox_56 : decode cX8_addBox 56 = .ok (.invokevirtual 102, 3) := by decide +kernel
theorem dX8_addBox_59 : decode cX8_addBox 59 = .ok (.ifCond .eq 5, 3) := by decide +kernel
theorem dX8_addBox_62 : decode cX8_addBox 62 = .ok (.iconst (-1), 1) := by decide +kernel
theorem dX8_addBox_63 : decode cX8_addBox 63 = .ok (.ireturn, 1) := by decide +kernel
theorem dX8_addBox_64 : decode cX8_addBox 64 = .ok (.aload_n 0, 1) := by decide +kernel
theorem dX8_addBox_65 : decode cX8_addBox 65 = .ok (.invokevirtual 105, 3) := by decide +kernel
theorem dX8_addBox_68 : decode cX8_addBox 68 = .ok (.ifCond .eq 6, 3) := by decide +kernel
theorem dX8_addBox_71 : decode cX8_addBox 71 = .ok (.bipush (-4), 2) := by decide +kernel
theorem dX8_addBox_73 : decode cX8_addBox 73 = .ok (.ireturn, 1) := by decide +kernel
theorem dX8_addBox_74 : decode cX8_addBox 74 = .ok (.aload_n 0, 1) := by decide +kernel
theorem dX8_addBox_75 : decode cX8_addBox 75 = .ok (.getfield 7, 3) := by decide +kernel
theorem dX8_addBox_78 : decode cX8_addBox 78 = .ok (.iconst 0, 1) := by decide +kernel
theorem dX8_addBox_79 : decode cX8_addBox 79 = .ok (.iaload, 1) := by decide +kernel
theorem dX8_addBox_80 : decode cX8_addBox 80 = .ok (.istore_n 3, 1) := by decide +kernel
theorem dX8_addBox_81 : decode cX8_addBox 81 = .ok (.iload_n 3, 1) := by decide +kernel
theorem dX8_addBox_82 : decode cX8_addBox 82 = .ok (.bipush 12, 2) := by decide +kernel
theorem dX8_addBox_84 : decode cX8_addBox 84 = .ok (.if_icmp .ne 6, 3) := by decide +kernel
theorem dX8_addBox_87 : decode cX8_addBox 87 = .ok (.bipush (-3), 2) := by decide +kernel
theorem dX8_addBox_89 : decode cX8_addBox 89 = .ok (.ireturn, 1) := by decide +kernel
theorem dX8_addBox_90 : decode cX8_addBox 90 = .ok (.aload_n 0, 1) := by decide +kernel
theorem dX8_addBox_91 : decode cX8_addBox 91 = .ok (.getfield 7, 3) := by decide +kernel
theorem dX8_addBox_94 : decode cX8_addBox 94 = .ok (.bipush 20, 2) := by decide +kernel
theorem dX8_addBox_96 : decode cX8_addBox 96 = .ok (.iload_n 3, 1) := by decide +kernel
theorem dX8_addBox_97 : decode cX8_addBox 97 = .ok (.iadd, 1) := by decide +kernel
theorem dX8_addBox_98 : decode cX8_addBox 98 = .ok (.aload_n 0, 1) := by decide +kernel
theorem dX8_addBox_99 : decode cX8_addBox 99 = .ok (.getfield 90, 3) := by decide +kernel
theorem dX8_addBox_102 : decode cX8_addBox 102 = .ok (.iastore, 1) := by decide +kernel
theorem dX8_addBox_103 : decode cX8_addBox 103 = .ok (.aload_n 0, 1) := by decide +kernel
theorem dX8_addBox_104 : decode cX8_addBox 104 = .ok (.getfield 7, 3) := by decide +kernel
theorem dX8_addBox_107 : decode cX8_addBox 107 = .ok (.bipush 32, 2) := by decide +kernel
theorem dX8_addBox_109 : decode cX8_addBox 109 = .ok (.iload_n 3, 1) := by decide +kernel
theorem dX8_addBox_110 : decode cX8_addBox 110 = .ok (.iadd, 1) := by decide +kernel
theorem dX8_addBox_111 : decode cX8_addBox 111 = .ok (.aload_n 0, 1) := by decide +kernel
theorem dX8_addBox_112 : decode cX8_addBox 112 = .ok (.getfield 73, 3) := by decide +kernel
theorem dX8_addBox_115 : decode cX8_addBox 115 = .ok (.iastore, 1) := by decide +kernel
theorem dX8_addBox_116 : decode cX8_addBox 116 = .ok (.aload_n 0, 1) := by decide +kernel
theorem dX8_addBox_117 : decode cX8_addBox 117 = .ok (.getfield 7, 3) := by decide +kernel
theorem dX8_addBox_120 : decode cX8_addBox 120 = .ok (.bipush 44, 2) := by decide +kernel
theorem dX8_addBox_122 : decode cX8_addBox 122 = .ok (.iload_n 3, 1) := by decide +kernel
theorem dX8_addBox_123 : decode cX8_addBox 123 = .ok (.iadd, 1) := by decide +kernel
theorem dX8_addBox_124 : decode cX8_addBox 124 = .ok (.aload_n 0, 1) := by decide +kernel
theorem dX8_addBox_125 : decode cX8_addBox 125 = .ok (.getfield 84, 3) := by decide +kernel
theorem dX8_addBox_128 : decode cX8_addBox 128 = .ok (.iastore, 1) := by decide +kernel
theorem dX8_addBox_129 : decode cX8_addBox 129 = .ok (.aload_n 0, 1) := by decide +kernel
theorem dX8_addBox_130 : decode cX8_addBox 130 = .ok (.getfield 7, 3) := by decide +kernel
theorem dX8_addBox_133 : decode cX8_addBox 133 = .ok (.bipush 56, 2) := by decide +kernel
theorem dX8_addBox_135 : decode cX8_addBox 135 = .ok (.iload_n 3, 1) := by decide +kernel
theorem dX8_addBox_136 : decode cX8_addBox 136 = .ok (.iadd, 1) := by decide +kernel
theorem dX8_addBox_137 : decode cX8_addBox 137 = .ok (.iconst 0, 1) := by decide +kernel
theorem dX8_addBox_138 : decode cX8_addBox 138 = .ok (.iastore, 1) := by decide +kernel
theorem dX8_addBox_139 : decode cX8_addBox 139 = .ok (.aload_n 0, 1) := by decide +kernel
theorem dX8_addBox_140 : decode cX8_addBox 140 = .ok (.getfield 7, 3) := by decide +kernel
theorem dX8_addBox_143 : decode cX8_addBox 143 = .ok (.iconst 0, 1) := by decide +kernel
theorem dX8_addBox_144 : decode cX8_addBox 144 = .ok (.dup2, 1) := by decide +kernel
theorem dX8_addBox_145 : decode cX8_addBox 145 = .ok (.iaload, 1) := by decide +kernel
theorem dX8_addBox_146 : decode cX8_addBox 146 = .ok (.iconst 1, 1) := by decide +kernel
theorem dX8_addBox_147 : decode cX8_addBox 147 = .ok (.iadd, 1) := by decide +kernel
theorem dX8_addBox_148 : decode cX8_addBox 148 = .ok (.iastore, 1) := by decide +kernel
theorem dX8_addBox_149 : decode cX8_addBox 149 = .ok (.iload_n 3, 1) := by decide +kernel
theorem dX8_addBox_150 : decode cX8_addBox 150 = .ok (.ireturn, 1) := by decide +kernel
theorem dX8_addProp_0 : decode cX8_addProp 0 = .ok (.aload_n 0, 1) := by decide +kernel
theorem dX8_addProp_1 : decode cX8_addProp 1 = .ok (.iload_n 1, 1) := by decide +kernel
theorem dX8_addProp_2 : decode cX8_addProp 2 = .ok (.invokevirtual 99, 3) := by decide +kernel
theorem dX8_addProp_5 : decode cX8_addProp 5 = .ok (.ifCond .eq 5, 3) := by decide +kernel
theorem dX8_addProp_8 : decode cX8_addProp 8 = .ok (.iconst (-1), 1) := by decide +kernel
theorem dX8_addProp_9 : decode cX8_addProp 9 = .ok (.ireturn, 1) := by decide +kernel
theorem dX8_addProp_10 : decode cX8_addProp 10 = .ok (.aload_n 0, 1) := by decide +kernel
theorem dX8_addProp_11 : decode cX8_addProp 11 = .ok (.invokevirtual 105, 3) := by decide +kernel
theorem dX8_addProp_14 : decode cX8_addProp 14 = .ok (.ifCond .eq 6, 3) := by decide +kernel
theorem dX8_addProp_17 : decode cX8_addProp 17 = .ok (.bipush (-4), 2) := by decide +kernel
theorem dX8_addProp_19 : decode cX8_addProp 19 = .ok (.ireturn, 1) := by decide +kernel
theorem dX8_addProp_20 : decode cX8_addProp 20 = .ok (.aload_n 0, 1) := by decide +kernel
theorem dX8_addProp_21 : decode cX8_addProp 21 = .ok (.getfield 7, 3) := by decide +kernel
theorem dX8_addProp_24 : decode cX8_addProp 24 = .ok (.iconst 1, 1) := by decide +kernel
theorem dX8_addProp_25 : decode cX8_addProp 25 = .ok (.iaload, 1) := by decide +kernel
theorem dX8_addProp_26 : decode cX8_addProp 26 = .ok (.istore_n 2, 1) := by decide +kernel
theorem dX8_addProp_27 : decode cX8_addProp 27 = .ok (.iload_n 2, 1) := by decide +kernel
theorem dX8_addProp_28 : decode cX8_addProp 28 = .ok (.bipush 24, 2) := by decide +kernel
theorem dX8_addProp_30 : decode cX8_addProp 30 = .ok (.if_icmp .ne 6, 3) := by decide +kernel
theorem dX8_addProp_33 : decode cX8_addProp 33 = .ok (.bipush (-3), 2) := by decide +kernel
theorem dX8_addProp_35 : decode cX8_addProp 35 = .ok (.ireturn, 1) := by decide +kernel
theorem dX8_addProp_36 : decode cX8_addProp 36 = .ok (.aload_n 0, 1) := by decide +kernel
theorem dX8_addProp_37 : decode cX8_addProp 37 = .ok (.getfield 7, 3) := by decide +kernel
theorem dX8_addProp_40 : decode cX8_addProp 40 = .ok (.bipush 80, 2) := by decide +kernel
theorem dX8_addProp_42 : decode cX8_addProp 42 = .ok (.iload_n 2, 1) := by decide +kernel
theorem dX8_addProp_43 : decode cX8_addProp 43 = .ok (.iadd, 1) := by decide +kernel
theorem dX8_addProp_44 : decode cX8_addProp 44 = .ok (.iload_n 1, 1) := by decide +kernel
theorem dX8_addProp_45 : decode cX8_addProp 45 = .ok (.iastore, 1) := by decide +kernel
theorem dX8_addProp_46 : decode cX8_addProp 46 = .ok (.aload_n 0, 1) := by decide +kernel
theorem dX8_addProp_47 : decode cX8_addProp 47 = .ok (.getfield 7, 3) := by decide +kernel
theorem dX8_addProp_50 : decode cX8_addProp 50 = .ok (.bipush 104, 2) := by decide +kernel
theorem dX8_addProp_52 : decode cX8_addProp 52 = .ok (.iload_n 2, 1) := by decide +kernel
theorem dX8_addProp_53 : decode cX8_addProp 53 = .ok (.iadd, 1) := by decide +kernel
theorem dX8_addProp_54 : decode cX8_addProp 54 = .ok (.iload_n 1, 1) := by decide +kernel
theorem dX8_addProp_55 : decode cX8_addProp 55 = .ok (.iastore, 1) := by decide +kernel
theorem dX8_addProp_56 : decode cX8_addProp 56 = .ok (.aload_n 0, 1) := by decide +kernel
theorem dX8_addProp_57 : decode cX8_addProp 57 = .ok (.getfield 7, 3) := by decide +kernel
theorem dX8_addProp_60 : decode cX8_addProp 60 = .ok (.iconst 1, 1) := by decide +kernel
theorem dX8_addProp_61 : decode cX8_addProp 61 = .ok (.dup2, 1) := by decide +kernel
theorem dX8_addProp_62 : decode cX8_addProp 62 = .ok (.iaload, 1) := by decide +kernel
theorem dX8_addProp_63 : decode cX8_addProp 63 = .ok (.iconst 1, 1) := by decide +kernel
theorem dX8_addProp_64 : decode cX8_addProp 64 = .ok (.iadd, 1) := by decide +kernel
theorem dX8_addProp_65 : decode cX8_addProp 65 = .ok (.iastore, 1) := by decide +kernel
theorem dX8_addProp_66 : decode cX8_addProp 66 = .ok (.iload_n 2, 1) := by decide +kernel
theorem dX8_addProp_67 : decode cX8_addProp 67 = .ok (.ireturn, 1) := by decide +kernel
theorem dX8_addClue_0 : decode cX8_addClue 0 = .ok (.aload_n 0, 1) := by decide +kernel
theorem dX8_addClue_1 : decode cX8_addClue 1 = .ok (.iload_n 1, 1) := by decide +kernel
theorem dX8_addClue_2 : decode cX8_addClue 2 = .ok (.invokevirtual 102, 3) := by decide +kernel
theorem dX8_addClue_5 : decode cX8_addClue 5 = .ok (.ifCond .ne 11, 3) := by decide +kernel
theorem dX8_addClue_8 : decode cX8_addClue 8 = .ok (.aload_n 0, 1) := by decide +kernel
theorem dX8_addClue_9 : decode cX8_addClue 9 = .ok (.iload_n 2, 1) := by decide +kernel
theorem dX8_addClue_10 : decode cX8_addClue 10 = .ok (.invokevirtual 99, 3) := by decide +kernel
theorem dX8_addClue_13 : decode cX8_addClue 13 = .ok (.ifCond .eq 5, 3) := by decide +kernel
theorem dX8_addClue_16 : decode cX8_addClue 16 = .ok (.iconst (-1), 1) := by decide +kernel
theorem dX8_addClue_17 : decode cX8_addClue 17 = .ok (.ireturn, 1) := by decide +kernel
theorem dX8_addClue_18 : decode cX8_addClue 18 = .ok (.iload_n 3, 1) := by decide +kernel
theorem dX8_addClue_19 : decode cX8_addClue 19 = .ok (.iconst 0, 1) := by decide +kernel
theorem dX8_addClue_20 : decode cX8_addClue 20 = .ok (.iconst 3, 1) := by decide +kernel
theorem dX8_addClue_21 : decode cX8_addClue 21 = .ok (.invokestatic 30, 3) := by decide +kernel
theorem dX8_addClue_24 : decode cX8_addClue 24 = .ok (.ifCond .ne 6, 3) := by decide +kernel
theorem dX8_addClue_27 : decode cX8_addClue 27 = .ok (.bipush (-2), 2) := by decide +kernel
theorem dX8_addClue_29 : decode cX8_addClue 29 = .ok (.ireturn, 1) := by decide +kernel
theorem dX8_addClue_30 : decode cX8_addClue 30 = .ok (.iload_n 2, 1) := by decide +kernel
theorem dX8_addClue_31 : decode cX8_addClue 31 = .ok (.ifCond .eq 23, 3) := by decide +kernel
theorem dX8_addClue_34 : decode cX8_addClue 34 = .ok (.aload_n 0, 1) := by decide +kernel
theorem dX8_addClue_35 : decode cX8_addClue 35 = .ok (.getfield 7, 3) := by decide +kernel
theorem dX8_addClue_38 : decode cX8_addClue 38 = .ok (.bipush 32, 2) := by decide +kernel
theorem dX8_addClue_40 : decode cX8_addClue 40 = .ok (.iload_n 2, 1) := by decide +kernel
theorem dX8_addClue_41 : decode cX8_addClue 41 = .ok (.iadd, 1) := by decide +kernel
theorem dX8_addClue_42 : decode cX8_addClue 42 = .ok (.iaload, 1) := by decide +kernel
theorem dX8_addClue_43 : decode cX8_addClue 43 = .ok (.iconst 2, 1) := by decide +kernel
theorem dX8_addClue_44 : decode cX8_addClue 44 = .ok (.if_icmp .ne 10, 3) := by decide +kernel
theorem dX8_addClue_47 : decode cX8_addClue 47 = .ok (.aload_n 0, 1) := by decide +kernel
theorem dX8_addClue_48 : decode cX8_addClue 48 = .ok (.invokevirtual 105, 3) := by decide +kernel
theorem dX8_addClue_51 : decode cX8_addClue 51 = .ok (.ifCond .eq 6, 3) := by decide +kernel
theorem dX8_addClue_54 : decode cX8_addClue 54 = .ok (.bipush (-4), 2) := by decide +kernel
theorem dX8_addClue_56 : decode cX8_addClue 56 = .ok (.ireturn, 1) := by decide +kernel
theorem dX8_addClue_57 : decode cX8_addClue 57 = .ok (.aload_n 0, 1) := by decide +kernel
theorem dX8_addClue_58 : decode cX8_addClue 58 = .ok (.getfield 7, 3) := by decide +kernel
theorem dX8_addClue_61 : decode cX8_addClue 61 = .ok (.iconst 2, 1) := by decide +kernel
theorem dX8_addClue_62 : decode cX8_addClue 62 = .ok (.iaload, 1) := by decide +kernel
theorem dX8_addClue_63 : decode cX8_addClue 63 = .ok (.istore 4, 2) := by decide +kernel
theorem dX8_addClue_65 : decode cX8_addClue 65 = .ok (.iload 4, 2) := by decide +kernel
theorem dX8_addClue_67 : decode cX8_addClue 67 = .ok (.bipush 12, 2) := by decide +kernel
theorem dX8_addClue_69 : decode cX8_addClue 69 = .ok (.if_icmp .ne 6, 3) := by decide +kernel
theorem dX8_addClue_72 : decode cX8_addClue 72 = .ok (.bipush (-3), 2) := by decide +kernel
theorem dX8_addClue_74 : decode cX8_addClue 74 = .ok (.ireturn, 1) := by decide +kernel
theorem dX8_addClue_75 : decode cX8_addClue 75 = .ok (.aload_n 0, 1) := by decide +kernel
theorem dX8_addClue_76 : decode cX8_addClue 76 = .ok (.getfield 7, 3) := by decide +kernel
theorem dX8_addClue_79 : decode cX8_addClue 79 = .ok (.sipush 128, 3) := by decide +kernel
theorem dX8_addClue_82 : decode cX8_addClue 82 = .ok (.iload 4, 2) := by decide +kernel
theorem dX8_addClue_84 : decode cX8_addClue 84 = .ok (.iadd, 1) := by decide +kernel
theorem dX8_addClue_85 : decode cX8_addClue 85 = .ok (.iload_n 1, 1) := by decide +kernel
theorem dX8_addClue_86 : decode cX8_addClue 86 = .ok (.iastore, 1) := by decide +kernel
theorem dX8_addClue_87 : decode cX8_addClue 87 = .ok (.aload_n 0, 1) := by decide +kernel
theorem dX8_addClue_88 : decode cX8_addClue 88 = .ok (.getfield 7, 3) := by decide +kernel
theorem dX8_addClue_91 : decode cX8_addClue 91 = .ok (.sipush 140, 3) := by decide +kernel
theorem dX8_addClue_94 : decode cX8_addClue 94 = .ok (.iload 4, 2) := by decide +kernel
theorem dX8_addClue_96 : decode cX8_addClue 96 = .ok (.iadd, 1) := by decide +kernel
theorem dX8_addClue_97 : decode cX8_addClue 97 = .ok (.iload_n 2, 1) := by decide +kernel
theorem dX8_addClue_98 : decode cX8_addClue 98 = .ok (.iastore, 1) := by decide +kernel
theorem dX8_addClue_99 : decode cX8_addClue 99 = .ok (.aload_n 0, 1) := by decide +kernel
theorem dX8_addClue_100 : decode cX8_addClue 100 = .ok (.getfield 7, 3) := by decide +kernel
theorem dX8_addClue_103 : decode cX8_addClue 103 = .ok (.sipush 152, 3) := by decide +kernel
theorem dX8_addClue_106 : decode cX8_addClue 106 = .ok (.iload 4, 2) := by decide +kernel
theorem dX8_addClue_108 : decode cX8_addClue 108 = .ok (.iadd, 1) := by decide +kernel
theorem dX8_addClue_109 : decode cX8_addClue 109 = .ok (.iload_n 3, 1) := by decide +kernel
theorem dX8_addClue_110 : decode cX8_addClue 110 = .ok (.iastore, 1) := by decide +kernel
theorem dX8_addClue_111 : decode cX8_addClue 111 = .ok (.aload_n 0, 1) := by decide +kernel
theorem dX8_addClue_112 : decode cX8_addClue 112 = .ok (.getfield 7, 3) := by decide +kernel
theorem dX8_addClue_115 : decode cX8_addClue 115 = .ok (.sipush 164, 3) := by decide +kernel
theorem dX8_addClue_118 : decode cX8_addClue 118 = .ok (.iload 4, 2) := by decide +kernel
theorem dX8_addClue_120 : decode cX8_addClue 120 = .ok (.iadd, 1) := by decide +kernel
theorem dX8_addClue_121 : decode cX8_addClue 121 = .ok (.bipush 9, 2) := by decide +kernel
theorem dX8_addClue_123 : decode cX8_addClue 123 = .ok (.iastore, 1) := by decide +kernel
theorem dX8_addClue_124 : decode cX8_addClue 124 = .ok (.aload_n 0, 1) := by decide +kernel
theorem dX8_addClue_125 : decode cX8_addClue 125 = .ok (.getfield 7, 3) := by decide +kernel
theorem dX8_addClue_128 : decode cX8_addClue 128 = .ok (.iconst 2, 1) := by decide +kernel
theorem dX8_addClue_129 : decode cX8_addClue 129 = .ok (.dup2, 1) := by decide +kernel
theorem dX8_addClue_130 : decode cX8_addClue 130 = .ok (.iaload, 1) := by decide +kernel
theorem dX8_addClue_131 : decode cX8_addClue 131 = .ok (.iconst 1, 1) := by decide +kernel
theorem dX8_addClue_132 : decode cX8_addClue 132 = .ok (.iadd, 1) := by decide +kernel
theorem dX8_addClue_133 : decode cX8_addClue 133 = .ok (.iastore, 1) := by decide +kernel
theorem dX8_addClue_134 : decode cX8_addClue 134 = .ok (.iload 4, 2) := by decide +kernel
theorem dX8_addClue_136 : decode cX8_addClue 136 = .ok (.ireturn, 1) := by decide +kernel
theorem dX8_setExit_0 : decode cX8_setExit 0 = .ok (.aload_n 0, 1) := by decide +kernel
theorem dX8_setExit_1 : decode cX8_setExit 1 = .ok (.iload_n 1, 1) := by decide +kernel
theorem dX8_setExit_2 : decode cX8_setExit 2 = .ok (.invokevirtual 99, 3) := by decide +kernel
theorem dX8_setExit_5 : decode cX8_setExit 5 = .ok (.ifCond .eq 5, 3) := by decide +kernel
theorem dX8_setExit_8 : decode cX8_setExit 8 = .ok (.iconst (-1), 1) := by decide +kernel
theorem dX8_setExit_9 : decode cX8_setExit 9 = .ok (.ireturn, 1) := by decide +kernel
theorem dX8_setExit_10 : decode cX8_setExit 10 = .ok (.iload_n 1, 1) := by decide +kernel
theorem dX8_setExit_11 : decode cX8_setExit 11 = .ok (.ifCond .ne 6, 3) := by decide +kernel
theorem dX8_setExit_14 : decode cX8_setExit 14 = .ok (.bipush (-2), 2) := by decide +kernel
theorem dX8_setExit_16 : decode cX8_setExit 16 = .ok (.ireturn, 1) := by decide +kernel
theorem dX8_setExit_17 : decode cX8_setExit 17 = .ok (.aload_n 0, 1) := by decide +kernel
theorem dX8_setExit_18 : decode cX8_setExit 18 = .ok (.invokevirtual 105, 3) := by decide +kernel
theorem dX8_setExit_21 : decode cX8_setExit 21 = .ok (.ifCond .eq 6, 3) := by decide +kernel
theorem dX8_setExit_24 : decode cX8_setExit 24 = .ok (.bipush (-4), 2) := by decide +kernel
theorem dX8_setExit_26 : decode cX8_setExit 26 = .ok (.ireturn, 1) := by decide +kernel
theorem dX8_setExit_27 : decode cX8_setExit 27 = .ok (.aload_n 0, 1) := by decide +kernel
theorem dX8_setExit_28 : decode cX8_setExit 28 = .ok (.getfield 7, 3) := by decide +kernel
theorem dX8_setExit_31 : decode cX8_setExit 31 = .ok (.iconst 5, 1) := by decide +kernel
theorem dX8_setExit_32 : decode cX8_setExit 32 = .ok (.iaload, 1) := by decide +kernel
theorem dX8_setExit_33 : decode cX8_setExit 33 = .ok (.istore_n 2, 1) := by decide +kernel
theorem dX8_setExit_34 : decode cX8_setExit 34 = .ok (.aload_n 0, 1) := by decide +kernel
theorem dX8_setExit_35 : decode cX8_setExit 35 = .ok (.getfield 7, 3) := by decide +kernel
theorem dX8_setExit_38 : decode cX8_setExit 38 = .ok (.iconst 5, 1) := by decide +kernel
theorem dX8_setExit_39 : decode cX8_setExit 39 = .ok (.iload_n 1, 1) := by decide +kernel
theorem dX8_setExit_40 : decode cX8_setExit 40 = .ok (.iastore, 1) := by decide +kernel
theorem dX8_setExit_41 : decode cX8_setExit 41 = .ok (.iload_n 2, 1) := by decide +kernel
theorem dX8_setExit_42 : decode cX8_setExit 42 = .ok (.iload_n 1, 1) := by decide +kernel
theorem dX8_setExit_43 : decode cX8_setExit 43 = .ok (.if_icmp .ne 8, 3) := by decide +kernel
theorem dX8_setExit_46 : decode cX8_setExit 46 = .ok (.bipush (-5), 2) := by decide +kernel
theorem dX8_setExit_48 : decode cX8_setExit 48 = .ok (.goto 4, 3) := by decide +kernel
theorem dX8_setExit_51 : decode cX8_setExit 51 = .ok (.iload_n 2, 1) := by decide +kernel
theorem dX8_setExit_52 : decode cX8_setExit 52 = .ok (.ireturn, 1) := by decide +kernel
theorem dX8_setLimits_0 : decode cX8_setLimits 0 = .ok (.iload_n 1, 1) := by decide +kernel
theorem dX8_setLimits_1 : decode cX8_setLimits 1 = .ok (.bipush 10, 2) := by decide +kernel
theorem dX8_setLimits_3 : decode cX8_setLimits 3 = .ok (.bipush 120, 2) := by decide +kernel
