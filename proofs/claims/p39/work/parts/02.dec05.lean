theorem dX6_init_0 : decode cX6_init 0 = .ok (.aload_n 0, 1) := by decide +kernel
theorem dX6_init_1 : decode cX6_init 1 = .ok (.invokespecial 3, 3) := by decide +kernel
theorem dX6_init_4 : decode cX6_init 4 = .ok (.aload_n 0, 1) := by decide +kernel
theorem dX6_init_5 : decode cX6_init 5 = .ok (.new 9, 3) := by decide +kernel
theorem dX6_init_8 : decode cX6_init 8 = .ok (.dup, 1) := by decide +kernel
theorem dX6_init_9 : decode cX6_init 9 = .ok (.invokespecial 11, 3) := by decide +kernel
theorem dX6_init_12 : decode cX6_init 12 = .ok (.putfield 12, 3) := by decide +kernel
theorem dX6_init_15 : decode cX6_init 15 = .ok (.aload_n 0, 1) := by decide +kernel
theorem dX6_init_16 : decode cX6_init 16 = .ok (.new 18, 3) := by decide +kernel
theorem dX6_init_19 : decode cX6_init 19 = .ok (.dup, 1) := by decide +kernel
theorem dX6_init_20 : decode cX6_init 20 = .ok (.invokespecial 20, 3) := by decide +kernel
theorem dX6_init_23 : decode cX6_init 23 = .ok (.putfield 21, 3) := by decide +kernel
theorem dX6_init_26 : decode cX6_init 26 = .ok (.aload_n 0, 1) := by decide +kernel
theorem dX6_init_27 : decode cX6_init 27 = .ok (.new 25, 3) := by decide +kernel
theorem dX6_init_30 : decode cX6_init 30 = .ok (.dup, 1) := by decide +kernel
theorem dX6_init_31 : decode cX6_init 31 = .ok (.invokespecial 27, 3) := by decide +kernel
theorem dX6_init_34 : decode cX6_init 34 = .ok (.putfield 28, 3) := by decide +kernel
theorem dX6_init_37 : decode cX6_init 37 = .ok (.aload_n 0, 1) := by decide +kernel
theorem dX6_init_38 : decode cX6_init 38 = .ok (.new 32, 3) := by decide +kernel
theorem dX6_init_41 : decode cX6_init 41 = .ok (.dup, 1) := by decide +kernel
theorem dX6_init_42 : decode cX6_init 42 = .ok (.invokespecial 34, 3) := by decide +kernel
theorem dX6_init_45 : decode cX6_init 45 = .ok (.putfield 35, 3) := by decide +kernel
theorem dX6_init_48 : decode cX6_init 48 = .ok (.aload_n 0, 1) := by decide +kernel
theorem dX6_init_49 : decode cX6_init 49 = .ok (.new 39, 3) := by decide +kernel
theorem dX6_init_52 : decode cX6_init 52 = .ok (.dup, 1) := by decide +kernel
theorem dX6_init_53 : decode cX6_init 53 = .ok (.invokespecial 41, 3) := by decide +kernel
theorem dX6_init_56 : decode cX6_init 56 = .ok (.putfield 42, 3) := by decide +kernel
theorem dX6_init_59 : decode cX6_init 59 = .ok (.aload_n 0, 1) := by decide +kernel
theorem dX6_init_60 : decode cX6_init 60 = .ok (.bipush 60, 2) := by decide +kernel
theorem dX6_init_62 : decode cX6_init 62 = .ok (.putfield 46, 3) := by decide +kernel
theorem dX6_init_65 : decode cX6_init 65 = .ok (.aload_n 0, 1) := by decide +kernel
theorem dX6_init_66 : decode cX6_init 66 = .ok (.iconst 3, 1) := by decide +kernel
theorem dX6_init_67 : decode cX6_init 67 = .ok (.putfield 50, 3) := by decide +kernel
theorem dX6_init_70 : decode cX6_init 70 = .ok (.return_, 1) := by decide +kernel
theorem dX6_copyFrom_0 : decode cX6_copyFrom 0 = .ok (.aload_n 0, 1) := by decide +kernel
theorem dX6_copyFrom_1 : decode cX6_copyFrom 1 = .ok (.getfield 12, 3) := by decide +kernel
theorem dX6_copyFrom_4 : decode cX6_copyFrom 4 = .ok (.aload_n 1, 1) := by decide +kernel
theorem dX6_copyFrom_5 : decode cX6_copyFrom 5 = .ok (.getfield 12, 3) := by decide +kernel
theorem dX6_copyFrom_8 : decode cX6_copyFrom 8 = .ok (.invokevirtual 53, 3) := by decide +kernel
theorem dX6_copyFrom_11 : decode cX6_copyFrom 11 = .ok (.aload_n 0, 1) := by decide +kernel
theorem dX6_copyFrom_12 : decode cX6_copyFrom 12 = .ok (.getfield 21, 3) := by decide +kernel
theorem dX6_copyFrom_15 : decode cX6_copyFrom 15 = .ok (.aload_n 1, 1) := by decide +kernel
theorem dX6_copyFrom_16 : decode cX6_copyFrom 16 = .ok (.getfield 21, 3) := by decide +kernel
theorem dX6_copyFrom_19 : decode cX6_copyFrom 19 = .ok (.invokevirtual 57, 3) := by decide +kernel
theorem dX6_copyFrom_22 : decode cX6_copyFrom 22 = .ok (.aload_n 0, 1) := by decide +kernel
theorem dX6_copyFrom_23 : decode cX6_copyFrom 23 = .ok (.getfield 28, 3) := by decide +kernel
theorem dX6_copyFrom_26 : decode cX6_copyFrom 26 = .ok (.aload_n 1, 1) := by decide +kernel
theorem dX6_copyFrom_27 : decode cX6_copyFrom 27 = .ok (.getfield 28, 3) := by decide +kernel
theorem dX6_copyFrom_30 : decode cX6_copyFrom 30 = .ok (.invokevirtual 60, 3) := by decide +kernel
theorem dX6_copyFrom_33 : decode cX6_copyFrom 33 = .ok (.aload_n 0, 1) := by decide +kernel
theorem dX6_copyFrom_34 : decode cX6_copyFrom 34 = .ok (.getfield 35, 3) := by decide +kernel
theorem dX6_copyFrom_37 : decode cX6_copyFrom 37 = .ok (.aload_n 1, 1) := by decide +kernel
theorem dX6_copyFrom_38 : decode cX6_copyFrom 38 = .ok (.getfield 35, 3) := by decide +kernel
theorem dX6_copyFrom_41 : decode cX6_copyFrom 41 = .ok (.invokevirtual 63, 3) := by decide +kernel
theorem dX6_copyFrom_44 : decode cX6_copyFrom 44 = .ok (.aload_n 0, 1) := by decide +kernel
theorem dX6_copyFrom_45 : decode cX6_copyFrom 45 = .ok (.getfield 42, 3) := by decide +kernel
theorem dX6_copyFrom_48 : decode cX6_copyFrom 48 = .ok (.aload_n 1, 1) := by decide +kernel
theorem dX6_copyFrom_49 : decode cX6_copyFrom 49 = .ok (.getfield 42, 3) := by decide +kernel
theorem dX6_copyFrom_52 : decode cX6_copyFrom 52 = .ok (.invokevirtual 66, 3) := by decide +kernel
theorem dX6_copyFrom_55 : decode cX6_copyFrom 55 = .ok (.aload_n 0, 1) := by decide +kernel
theorem dX6_copyFrom_56 : decode cX6_copyFrom 56 = .ok (.aload_n 1, 1) := by decide +kernel
theorem dX6_copyFrom_57 : decode cX6_copyFrom 57 = .ok (.getfield 69, 3) := by decide +kernel
theorem dX6_copyFrom_60 : decode cX6_copyFrom 60 = .ok (.putfield 69, 3) := by decide +kernel
theorem dX6_copyFrom_63 : decode cX6_copyFrom 63 = .ok (.aload_n 0, 1) := by decide +kernel
theorem dX6_copyFrom_64 : decode cX6_copyFrom 64 = .ok (.aload_n 1, 1) := by decide +kernel
theorem dX6_copyFrom_65 : decode cX6_copyFrom 65 = .ok (.getfield 72, 3) := by decide +kernel
theorem dX6_copyFrom_68 : decode cX6_copyFrom 68 = .ok (.putfield 72, 3) := by decide +kernel
theorem dX6_copyFrom_71 : decode cX6_copyFrom 71 = .ok (.aload_n 0, 1) := by decide +kernel
theorem dX6_copyFrom_72 : decode cX6_copyFrom 72 = .ok (.aload_n 1, 1) := by decide +kernel
theorem dX6_copyFrom_73 : decode cX6_copyFrom 73 = .ok (.getfield 46, 3) := by decide +kernel
theorem dX6_copyFrom_76 : decode cX6_copyFrom 76 = .ok (.putfield 46, 3) := by decide +kernel
theorem dX6_copyFrom_79 : decode cX6_copyFrom 79 = .ok (.aload_n 0, 1) := by decide +kernel
theorem dX6_copyFrom_80 : decode cX6_copyFrom 80 = .ok (.aload_n 1, 1) := by decide +kernel
theorem dX6_copyFrom_81 : decode cX6_copyFrom 81 = .ok (.getfield 50, 3) := by decide +kernel
theorem dX6_copyFrom_84 : decode cX6_copyFrom 84 = .ok (.putfield 50, 3) := by decide +kernel
theorem dX6_copyFrom_87 : decode cX6_copyFrom 87 = .ok (.return_, 1) := by decide +kernel
theorem dX6_pass_0 : decode cX6_pass 0 = .ok (.aload_n 0, 1) := by decide +kernel
theorem dX6_pass_1 : decode cX6_pass 1 = .ok (.getfield 69, 3) := by decide +kernel
theorem dX6_pass_4 : decode cX6_pass 4 = .ok (.iload_n 1, 1) := by decide +kernel
theorem dX6_pass_5 : decode cX6_pass 5 = .ok (.iadd, 1) := by decide +kernel
theorem dX6_pass_6 : decode cX6_pass 6 = .ok (.bipush 60, 2) := by decide +kernel
theorem dX6_pass_8 : decode cX6_pass 8 = .ok (.idiv, 1) := by decide +kernel
theorem dX6_pass_9 : decode cX6_pass 9 = .ok (.aload_n 0, 1) := by decide +kernel
theorem dX6_pass_10 : decode cX6_pass 10 = .ok (.getfield 69, 3) := by decide +kernel
theorem dX6_pass_13 : decode cX6_pass 13 = .ok (.bipush 60, 2) := by decide +kernel
theorem dX6_pass_15 : decode cX6_pass 15 = .ok (.idiv, 1) := by decide +kernel
theorem dX6_pass_16 : decode cX6_pass 16 = .ok (.isub, 1) := by decide +kernel
theorem dX6_pass_17 : decode cX6_pass 17 = .ok (.istore_n 2, 1) := by decide +kernel
theorem dX6_pass_18 : decode cX6_pass 18 = .ok (.aload_n 0, 1) := by decide +kernel
theorem dX6_pass_19 : decode cX6_pass 19 = .ok (.dup, 1) := by decide +kernel
theorem dX6_pass_20 : decode cX6_pass 20 = .ok (.getfield 69, 3) := by decide +kernel
theorem dX6_pass_23 : decode cX6_pass 23 = .ok (.iload_n 1, 1) := by decide +kernel
theorem dX6_pass_24 : decode cX6_pass 24 = .ok (.iadd, 1) := by decide +kernel
theorem dX6_pass_25 : decode cX6_pass 25 = .ok (.putfield 69, 3) := by decide +kernel
theorem dX6_pass_28 : decode cX6_pass 28 = .ok (.iload_n 2, 1) := by decide +kernel
theorem dX6_pass_29 : decode cX6_pass 29 = .ok (.ifCond .le 11, 3) := by decide +kernel
theorem dX6_pass_32 : decode cX6_pass 32 = .ok (.aload_n 0, 1) := by decide +kernel
theorem dX6_pass_33 : decode cX6_pass 33 = .ok (.getfield 12, 3) := by decide +kernel
theorem dX6_pass_36 : decode cX6_pass 36 = .ok (.iload_n 2, 1) := by decide +kernel
theorem dX6_pass_37 : decode cX6_pass 37 = .ok (.invokevirtual 75, 3) := by decide +kernel
theorem dX6_pass_40 : decode cX6_pass 40 = .ok (.return_, 1) := by decide +kernel
theorem dX6_gameMinute_0 : decode cX6_gameMinute 0 = .ok (.aload_n 0, 1) := by decide +kernel
theorem dX6_gameMinute_1 : decode cX6_gameMinute 1 = .ok (.getfield 69, 3) := by decide +kernel
theorem dX6_gameMinute_4 : decode cX6_gameMinute 4 = .ok (.aload_n 0, 1) := by decide +kernel
theorem dX6_gameMinute_5 : decode cX6_gameMinute 5 = .ok (.getfield 28, 3) := by decide +kernel
theorem dX6_gameMinute_8 : decode cX6_gameMinute 8 = .ok (.getfield 79, 3) := by decide +kernel
theorem dX6_gameMinute_11 : decode cX6_gameMinute 11 = .ok (.isub, 1) := by decide +kernel
theorem dX6_gameMinute_12 : decode cX6_gameMinute 12 = .ok (.ireturn, 1) := by decide +kernel
theorem dX6_minutesLeft_0 : decode cX6_minutesLeft 0 = .ok (.aload_n 0, 1) := by decide +kernel
theorem dX6_minutesLeft_1 : decode cX6_minutesLeft 1 = .ok (.getfield 28, 3) := by decide +kernel
theorem dX6_minutesLeft_4 : decode cX6_minutesLeft 4 = .ok (.getfield 79, 3) := by decide +kernel
theorem dX6_minutesLeft_7 : decode cX6_minutesLeft 7 = .ok (.aload_n 0, 1) := by decide +kernel
theorem dX6_minutesLeft_8 : decode cX6_minutesLeft 8 = .ok (.getfield 46, 3) := by decide +kernel
theorem dX6_minutesLeft_11 : decode cX6_minutesLeft 11 = .ok (.iadd, 1) := by decide +kernel
theorem dX6_minutesLeft_12 : decode cX6_minutesLeft 12 = .ok (.aload_n 0, 1) := by decide +kernel
theorem dX6_minutesLeft_13 : decode cX6_minutesLeft 13 = .ok (.getfield 69, 3) := by decide +kernel
theorem dX6_minutesLeft_16 : decode cX6_minutesLeft 16 = .ok (.isub, 1) := by decide +kernel
theorem dX6_minutesLeft_17 : decode cX6_minutesLeft 17 = .ok (.ireturn, 1) := by decide +kernel
theorem dX6_hasTimeFor_0 : decode cX6_hasTimeFor 0 = .ok (.iload_n 1, 1) := by decide +kernel
theorem dX6_hasTimeFor_1 : decode cX6_hasTimeFor 1 = .ok (.aload_n 0, 1) := by decide +kernel
theorem dX6_hasTimeFor_2 : decode cX6_hasTimeFor 2 = .ok (.invokevirtual 82, 3) := by decide +kernel
theorem dX6_hasTimeFor_5 : decode cX6_hasTimeFor 5 = .ok (.if_icmp .gt 7, 3) := by decide +kernel
theorem dX6_hasTimeFor_8 : decode cX6_hasTimeFor 8 = .ok (.iconst 1, 1) := by decide +kernel
theorem dX6_hasTimeFor_9 : decode cX6_hasTimeFor 9 = .ok (.goto 4, 3) := by decide +kernel
theorem dX6_hasTimeFor_12 : decode cX6_hasTimeFor 12 = .ok (.iconst 0, 1) := by decide +kernel
theorem dX6_hasTimeFor_13 : decode cX6_hasTimeFor 13 = .ok (.ireturn, 1) := by decide +kernel
theorem dX6_note_0 : decode cX6_note 0 = .ok (.aload_n 0, 1) := by decide +kernel
theorem dX6_note_1 : decode cX6_note 1 = .ok (.getfield 42, 3) := by decide +kernel
theorem dX6_note_4 : decode cX6_note 4 = .ok (.aload_n 0, 1) := by decide +kernel
theorem dX6_note_5 : decode cX6_note 5 = .ok (.invokevirtual 86, 3) := by decide +kernel
theorem dX6_note_8 : decode cX6_note 8 = .ok (.aload_n 1, 1) := by decide +kernel
theorem dX6_note_9 : decode cX6_note 9 = .ok (.iload_n 2, 1) := by decide +kernel
theorem dX6_note_10 : decode cX6_note 10 = .ok (.iload_n 3, 1) := by decide +kernel
theorem dX6_note_11 : decode cX6_note 11 = .ok (.invokevirtual 89, 3) := by decide +kernel
theorem dX6_note_14 : decode cX6_note 14 = .ok (.return_, 1) := by decide +kernel
theorem dX6_beginGame_0 : decode cX6_beginGame 0 = .ok (.aload_n 0, 1) := by decide +kernel
theorem dX6_beginGame_1 : decode cX6_beginGame 1 = .ok (.getfield 28, 3) := by decide +kernel
theorem dX6_beginGame_4 : decode cX6_beginGame 4 = .ok (.aload_n 0, 1) := by decide +kernel
theorem dX6_beginGame_5 : decode cX6_beginGame 5 = .ok (.getfield 21, 3) := by decide +kernel
theorem dX6_beginGame_8 : decode cX6_beginGame 8 = .ok (.getfield 93, 3) := by decide +kernel
theorem dX6_beginGame_11 : decode cX6_beginGame 11 = .ok (.iconst 0, 1) := by decide +kernel
theorem dX6_beginGame_12 : decode cX6_beginGame 12 = .ok (.invokestatic 97, 3) := by decide +kernel
theorem dX6_beginGame_15 : decode cX6_beginGame 15 = .ok (.putfield 101, 3) := by decide +kernel
theorem dX6_beginGame_18 : decode cX6_beginGame 18 = .ok (.aload_n 0, 1) := by decide +kernel
theorem dX6_beginGame_19 : decode cX6_beginGame 19 = .ok (.getfield 28, 3) := by decide +kernel
theorem dX6_beginGame_22 : decode cX6_beginGame 22 = .ok (.aload_n 0, 1) := by decide +kernel
theorem dX6_beginGame_23 : decode cX6_beginGame 23 = .ok (.getfield 21, 3) := by decide +kernel
theorem dX6_beginGame_26 : decode cX6_beginGame 26 = .ok (.getfield 103, 3) := by decide +kernel
theorem dX6_beginGame_29 : decode cX6_beginGame 29 = .ok (.iconst 0, 1) := by decide +kernel
theorem dX6_beginGame_30 : decode cX6_beginGame 30 = .ok (.invokestatic 97, 3) := by decide +kernel
theorem dX6_beginGame_33 : decode cX6_beginGame 33 = .ok (.putfield 106, 3) := by decide +kernel
theorem dX6_beginGame_36 : decode cX6_beginGame 36 = .ok (.aload_n 0, 1) := by decide +kernel
theorem dX6_beginGame_37 : decode cX6_beginGame 37 = .ok (.getfield 21, 3) := by decide +kernel
theorem dX6_beginGame_40 : decode cX6_beginGame 40 = .ok (.iconst 0, 1) := by decide +kernel
theorem dX6_beginGame_41 : decode cX6_beginGame 41 = .ok (.invokevirtual 109, 3) := by decide +kernel
theorem dX6_beginGame_44 : decode cX6_beginGame 44 = .ok (.aload_n 0, 1) := by decide +kernel
theorem dX6_beginGame_45 : decode cX6_beginGame 45 = .ok (.getfield 28, 3) := by decide +kernel
theorem dX6_beginGame_48 : decode cX6_beginGame 48 = .ok (.aload_n 0, 1) := by decide +kernel
theorem dX6_beginGame_49 : decode cX6_beginGame 49 = .ok (.getfield 69, 3) := by decide +kernel
theorem dX6_beginGame_52 : decode cX6_beginGame 52 = .ok (.aload_n 0, 1) := by decide +kernel
theorem dX6_beginGame_53 : decode cX6_beginGame 53 = .ok (.getfield 28, 3) := by decide +kernel
theorem dX6_beginGame_56 : decode cX6_beginGame 56 = .ok (.getfield 106, 3) := by decide +kernel
theorem dX6_beginGame_59 : decode cX6_beginGame 59 = .ok (.invokestatic 112, 3) := by decide +kernel
theorem dX6_beginGame_62 : decode cX6_beginGame 62 = .ok (.putfield 79, 3) := by decide +kernel
theorem dX6_beginGame_65 : decode cX6_beginGame 65 = .ok (.aload_n 0, 1) := by decide +kernel
theorem dX6_beginGame_66 : decode cX6_beginGame 66 = .ok (.aload_n 0, 1) := by decide +kernel
theorem dX6_beginGame_67 : decode cX6_beginGame 67 = .ok (.getfield 28, 3) := by decide +kernel
theorem dX6_beginGame_70 : decode cX6_beginGame 70 = .ok (.getfield 79, 3) := by decide +kernel
theorem dX6_beginGame_73 : decode cX6_beginGame 73 = .ok (.aload_n 0, 1) := by decide +kernel
theorem dX6_beginGame_74 : decode cX6_beginGame 74 = .ok (.getfield 69, 3) := by decide +kernel
theorem dX6_beginGame_77 : decode cX6_beginGame 77 = .ok (.isub, 1) := by decide +kernel
theorem dX6_beginGame_78 : decode cX6_beginGame 78 = .ok (.invokevirtual 118, 3) := by decide +kernel
theorem dX6_beginGame_81 : decode cX6_beginGame 81 = .ok (.aload_n 0, 1) := by decide +kernel
theorem dX6_beginGame_82 : decode cX6_beginGame 82 = .ok (.getfield 28, 3) := by decide +kernel
theorem dX6_beginGame_85 : decode cX6_beginGame 85 = .ok (.iconst 0, 1) := by decide +kernel
theorem dX6_beginGame_86 : decode cX6_beginGame 86 = .ok (.putfield 121, 3) := by decide +kernel
theorem dX6_beginGame_89 : decode cX6_beginGame 89 = .ok (.aload_n 0, 1) := by decide +kernel
theorem dX6_beginGame_90 : decode cX6_beginGame 90 = .ok (.getfield 28, 3) := by decide +kernel
theorem dX6_beginGame_93 : decode cX6_beginGame 93 = .ok (.iconst 0, 1) := by decide +kernel
theorem dX6_beginGame_94 : decode cX6_beginGame 94 = .ok (.putfield 124, 3) := by decide +kernel
theorem dX6_beginGame_97 : decode cX6_beginGame 97 = .ok (.aload_n 0, 1) := by decide +kernel
theorem dX6_beginGame_98 : decode cX6_beginGame 98 = .ok (.getfield 28, 3) := by decide +kernel
theorem dX6_beginGame_101 : decode cX6_beginGame 101 = .ok (.aload_n 0, 1) := by decide +kernel
theorem dX6_beginGame_102 : decode cX6_beginGame 102 = .ok (.getfield 12, 3) := by decide +kernel
theorem dX6_beginGame_105 : decode cX6_beginGame 105 = .ok (.invokevirtual 127, 3) := by decide +kernel
theorem dX6_beginGame_108 : decode cX6_beginGame 108 = .ok (.aload_n 0, 1) := by decide +kernel
theorem dX6_beginGame_109 : decode cX6_beginGame 109 = .ok (.getfield 12, 3) := by decide +kernel
theorem dX6_beginGame_112 : decode cX6_beginGame 112 = .ok (.invokevirtual 130, 3) := by decide +kernel
theorem dX6_beginGame_115 : decode cX6_beginGame 115 = .ok (.iadd, 1) := by decide +kernel
theorem dX6_beginGame_116 : decode cX6_beginGame 116 = .ok (.putfield 133, 3) := by decide +kernel
theorem dX6_beginGame_119 : decode cX6_beginGame 119 = .ok (.aload_n 0, 1) := by decide +kernel
theorem dX6_beginGame_120 : decode cX6_beginGame 120 = .ok (.getfield 28, 3) := by decide +kernel
theorem dX6_beginGame_123 : decode cX6_beginGame 123 = .ok (.iconst 1, 1) := by decide +kernel
theorem dX6_beginGame_124 : decode cX6_beginGame 124 = .ok (.putfield 136, 3) := by decide +kernel
theorem dX6_beginGame_127 : decode cX6_beginGame 127 = .ok (.aload_n 0, 1) := by decide +kernel
theorem dX6_beginGame_128 : decode cX6_beginGame 128 = .ok (.getfield 12, 3) := by decide +kernel
theorem dX6_beginGame_131 : decode cX6_beginGame 131 = .ok (.aload_n 0, 1) := by decide +kernel
theorem dX6_beginGame_132 : decode cX6_beginGame 132 = .ok (.getfield 28, 3) := by decide +kernel
theorem dX6_beginGame_135 : decode cX6_beginGame 135 = .ok (.getfield 101, 3) := by decide +kernel
theorem dX6_beginGame_138 : decode cX6_beginGame 138 = .ok (.putfield 140, 3) := by decide +kernel
theorem dX6_beginGame_141 : decode cX6_beginGame 141 = .ok (.aload_n 0, 1) := by decide +kernel
theorem dX6_beginGame_142 : decode cX6_beginGame 142 = .ok (.getfield 42, 3) := by decide +kernel
theorem dX6_beginGame_145 : decode cX6_beginGame 145 = .ok (.iconst 0, 1) := by decide +kernel
theorem dX6_beginGame_146 : decode cX6_beginGame 146 = .ok (.putfield 143, 3) := by decide +kernel
theorem dX6_beginGame_149 : decode cX6_beginGame 149 = .ok (.aload_n 0, 1) := by decide +kernel
theorem dX6_beginGame_150 : decode cX6_beginGame 150 = .ok (.getfield 28, 3) := by decide +kernel
theorem dX6_beginGame_153 : decode cX6_beginGame 153 = .ok (.getfield 79, 3) := by decide +kernel
theorem dX6_beginGame_156 : decode cX6_beginGame 156 = .ok (.aload_n 0, 1) := by decide +kernel
theorem dX6_beginGame_157 : decode cX6_beginGame 157 = .ok (.getfield 28, 3) := by decide +kernel
theorem dX6_beginGame_160 : decode cX6_beginGame 160 = .ok (.getfield 106, 3) := by decide +kernel
theorem dX6_beginGame_163 : decode cX6_beginGame 163 = .ok (.isub, 1) := by decide +kernel
theorem dX6_beginGame_164 : decode cX6_beginGame 164 = .ok (.ireturn, 1) := by decide +kernel
theorem dX6_endGame_0 : decode cX6_endGame 0 = .ok (.aload_n 0, 1) := by decide +kernel
theorem dX6_endGame_1 : decode cX6_endGame 1 = .ok (.getfield 35, 3) := by decide +kernel
theorem dX6_endGame_4 : decode cX6_endGame 4 = .ok (.aload_n 0, 1) := by decide +kernel
theorem dX6_endGame_5 : decode cX6_endGame 5 = .ok (.getfield 28, 3) := by decide +kernel
theorem dX6_endGame_8 : decode cX6_endGame 8 = .ok (.aload_n 0, 1) := by decide +kernel
theorem dX6_endGame_9 : decode cX6_endGame 9 = .ok (.invokevirtual 86, 3) := by decide +kernel
theorem dX6_endGame_12 : decode cX6_endGame 12 = .ok (.iload_n 1, 1) := by decide +kernel
theorem dX6_endGame_13 : decode cX6_endGame 13 = .ok (.invokestatic 146, 3) := by decide +kernel
theorem dX6_endGame_16 : decode cX6_endGame 16 = .ok (.invokevirtual 150, 3) := by decide +kernel
theorem dX6_endGame_19 : decode cX6_endGame 19 = .ok (.aload_n 0, 1) := by decide +kernel
theorem dX6_endGame_20 : decode cX6_endGame 20 = .ok (.getfield 28, 3) := by decide +kernel
theorem dX6_endGame_23 : decode cX6_endGame 23 = .ok (.iconst 0, 1) := by decide +kernel
theorem dX6_endGame_24 : decode cX6_endGame 24 = .ok (.putfield 136, 3) := by decide +kernel
theorem dX6_endGame_27 : decode cX6_endGame 27 = .ok (.aload_n 0, 1) := by decide +kernel
theorem dX6_endGame_28 : decode cX6_endGame 28 = .ok (.getfield 12, 3) := by decide +kernel
theorem dX6_endGame_31 : decode cX6_endGame 31 = .ok (.invokevirtual 153, 3) := by decide +kernel
theorem dX6_endGame_34 : decode cX6_endGame 34 = .ok (.aload_n 0, 1) := by decide +kernel
theorem dX6_endGame_35 : decode cX6_endGame 35 = .ok (.getfield 12, 3) := by decide +kernel
theorem dX6_endGame_38 : decode cX6_endGame 38 = .ok (.invokevirtual 156, 3) := by decide +kernel
theorem dX6_endGame_41 : decode cX6_endGame 41 = .ok (.return_, 1) := by decide +kernel
theorem dX6_runOutOfTime_0 : decode cX6_runOutOfTime 0 = .ok (.aload_n 0, 1) := by decide +kernel
theorem dX6_runOutOfTime_1 : decode cX6_runOutOfTime 1 = .ok (.getfield 42, 3) := by decide +kernel
theorem dX6_runOutOfTime_4 : decode cX6_runOutOfTime 4 = .ok (.aload_n 0, 1) := by decide +kernel
theorem dX6_runOutOfTime_5 : decode cX6_runOutOfTime 5 = .ok (.invokevirtual 86, 3) := by decide +kernel
theorem dX6_runOutOfTime_8 : decode cX6_runOutOfTime 8 = .ok (.ldc 159, 2) := by decide +kernel
theorem dX6_runOutOfTime_10 : decode cX6_runOutOfTime 10 = .ok (.iconst (-1), 1) := by decide +kernel
theorem dX6_runOutOfTime_11 : decode cX6_runOutOfTime 11 = .ok (.iconst (-1), 1) := by decide +kernel
theorem dX6_runOutOfTime_12 : decode cX6_runOutOfTime 12 = .ok (.invokevirtual 89, 3) := by decide +kernel
theorem dX6_runOutOfTime_15 : decode cX6_runOutOfTime 15 = .ok (.aload_n 0, 1) := by decide +kernel
theorem dX6_runOutOfTime_16 : decode cX6_runOutOfTime 16 = .ok (.aload_n 0, 1) := by decide +kernel
theorem dX6_runOutOfTime_17 : decode cX6_runOutOfTime 17 = .ok (.invokevirtual 82, 3) := by decide +kernel
theorem dX6_runOutOfTime_20 : decode cX6_runOutOfTime 20 = .ok (.invokevirtual 118, 3) := by decide +kernel
theorem dX6_runOutOfTime_23 : decode cX6_runOutOfTime 23 = .ok (.aload_n 0, 1) := by decide +kernel
theorem dX6_runOutOfTime_24 : decode cX6_runOutOfTime 24 = .ok (.iconst 0, 1) := by decide +kernel
theorem dX6_runOutOfTime_25 : decode cX6_runOutOfTime 25 = .ok (.invokevirtual 161, 3) := by decide +kernel
theorem dX6_runOutOfTime_28 : decode cX6_runOutOfTime 28 = .ok (.bipush (-6), 2) := by decide +kernel
theorem dX6_runOutOfTime_30 : decode cX6_runOutOfTime 30 = .ok (.ireturn, 1) := by decide +kernel
theorem dX6_latestStart_0 : decode cX6_latestStart 0 = .ok (.aload_n 0, 1) := by decide +kernel
theorem dX6_latestStart_1 : decode cX6_latestStart 1 = .ok (.getfield 28, 3) := by decide +kernel
theorem dX6_latestStart_4 : decode cX6_latestStart 4 = .ok (.getfield 136, 3) := by decide +kernel
theorem dX6_latestStart_7 : decode cX6_latestStart 7 = .ok (.ifCond .eq 21, 3) := by decide +kernel
theorem dX6_latestStart_10 : decode cX6_latestStart 10 = .ok (.aload_n 0, 1) := by decide +kernel
theorem dX6_latestStart_11 : decode cX6_latestStart 11 = .ok (.getfield 28, 3) := by decide +kernel
theorem dX6_latestStart_14 : decode cX6_latestStart 14 = .ok (.getfield 79, 3) := by decide +kernel
theorem dX6_latestStart_17 : decode cX6_latestStart 17 = .ok (.aload_n 0, 1) := by decide +kernel
theorem dX6_latestStart_18 : decode cX6_latestStart 18 = .ok (.getfield 46, 3) := by decide +kernel
theorem dX6_latestStart_21 : decode cX6_latestStart 21 = .ok (.iadd, 1) := by decide +kernel
theorem dX6_latestStart_22 : decode cX6_latestStart 22 = .ok (.bipush 10, 2) := by decide +kernel
theorem dX6_latestStart_24 : decode cX6_latestStart 24 = .ok (.iadd, 1) := by decide +kernel
theorem dX6_latestStart_25 : decode cX6_latestStart 25 = .ok (.goto 7, 3) := by decide +kernel
theorem dX6_latestStart_28 : decode cX6_latestStart 28 = .ok (.aload_n 0, 1) := by decide +kernel
theorem dX6_latestStart_29 : decode cX6_latestStart 29 = .ok (.getfield 69, 3) := by decide +kernel
theorem dX6_latestStart_32 : decode cX6_latestStart 32 = .ok (.istore_n 2, 1) := by decide +kernel
theorem dX6_latestStart_33 : decode cX6_latestStart 33 = .ok (.iconst 0, 1) := by decide +kernel
theorem dX6_latestStart_34 : decode cX6_latestStart 34 = .ok (.istore_n 3, 1) := by decide +kernel
theorem dX6_latestStart_35 : decode cX6_latestStart 35 = .ok (.iload_n 3, 1) := by decide +kernel
theorem dX6_latestStart_36 : decode cX6_latestStart 36 = .ok (.iload_n 1, 1) := by decide +kernel
theorem dX6_latestStart_37 : decode cX6_latestStart 37 = .ok (.if_icmp .ge 33, 3) := by decide +kernel
theorem dX6_latestStart_40 : decode cX6_latestStart 40 = .ok (.iload_n 2, 1) := by decide +kernel
theorem dX6_latestStart_41 : decode cX6_latestStart 41 = .ok (.aload_n 0, 1) := by decide +kernel
theorem dX6_latestStart_42 : decode cX6_latestStart 42 = .ok (.getfield 21, 3) := by decide +kernel
theorem dX6_latestStart_45 : decode cX6_latestStart 45 = .ok (.getfield 103, 3) := by decide +kernel
theorem dX6_latestStart_48 : decode cX6_latestStart 48 = .ok (.iload_n 3, 1) := by decide +kernel
theorem dX6_latestStart_49 : decode cX6_latestStart 49 = .ok (.invokestatic 97, 3) := by decide +kernel
theorem dX6_latestStart_52 : decode cX6_latestStart 52 = .ok (.invokestatic 112, 3) := by decide +kernel
theorem dX6_latestStart_55 : decode cX6_latestStart 55 = .ok (.aload_n 0, 1) := by decide +kernel
theorem dX6_latestStart_56 : decode cX6_latestStart 56 = .ok (.getfield 46, 3) := by decide +kernel
theorem dX6_latestStart_59 : decode cX6_latestStart 59 = .ok (.iadd, 1) := by decide +kernel
theorem dX6_latestStart_60 : decode cX6_latestStart 60 = .ok (.bipush 10, 2) := by decide +kernel
theorem dX6_latestStart_62 : decode cX6_latestStart 62 = .ok (.iadd, 1) := by decide +kernel
theorem dX6_latestStart_63 : decode cX6_latestStart 63 = .ok (.istore_n 2, 1) := by decide +kernel
theorem dX6_latestStart_64 : decode cX6_latestStart 64 = .ok (.iinc 3 1, 3) := by decide +kernel
theorem dX6_latestStart_67 : decode cX6_latestStart 67 = .ok (.goto (-32), 3) := by decide +kernel
theorem dX6_latestStart_70 : decode cX6_latestStart 70 = .ok (.iload_n 2, 1) := by decide +kernel
theorem dX6_latestStart_71 : decode cX6_latestStart 71 = .ok (.aload_n 0, 1) := by decide +kernel
theorem dX6_latestStart_72 : decode cX6_latestStart 72 = .ok (.getfield 21, 3) := by decide +kernel
theorem dX6_latestStart_75 : decode cX6_latestStart 75 = .ok (.getfield 103, 3) := by decide +kernel
theorem dX6_latestStart_78 : decode cX6_latestStart 78 = .ok (.iload_n 1, 1) := by decide +kernel
theorem dX6_latestStart_79 : decode cX6_latestStart 79 = .ok (.invokestatic 97, 3) := by decide +kernel
theorem dX6_latestStart_82 : decode cX6_latestStart 82 = .ok (.invokestatic 112, 3) := by decide +kernel
theorem dX6_latestStart_85 : decode cX6_latestStart 85 = .ok (.ireturn, 1) := by decide +kernel
theorem dX6_refill_0 : decode cX6_refill 0 = .ok (.aload_n 0, 1) := by decide +kernel
theorem dX6_refill_1 : decode cX6_refill 1 = .ok (.dup, 1) := by decide +kernel
theorem dX6_refill_2 : decode cX6_refill 2 = .ok (.getfield 72, 3) := by decide +kernel
theorem dX6_refill_5 : decode cX6_refill 5 = .ok (.aload_n 0, 1) := by decide +kernel
theorem dX6_refill_6 : decode cX6_refill 6 = .ok (.getfield 12, 3) := by decide +kernel
theorem dX6_refill_9 : decode cX6_refill 9 = .ok (.iload_n 1, 1) := by decide +kernel
theorem dX6_refill_10 : decode cX6_refill 10 = .ok (.invokevirtual 165, 3) := by decide +kernel
theorem dX6_refill_13 : decode cX6_refill 13 = .ok (.isub, 1) := by decide +kernel
theorem dX6_refill_14 : decode cX6_refill 14 = .ok (.putfield 72, 3) := by decide +kernel
theorem dX6_refill_17 : decode cX6_refill 17 = .ok (.aload_n 0, 1) := by decide +kernel
theorem dX6_refill_18 : decode cX6_refill 18 = .ok (.getfield 12, 3) := by decide +kernel
theorem dX6_refill_21 : decode cX6_refill 21 = .ok (.getfield 169, 3) := by decide +kernel
theorem dX6_refill_24 : decode cX6_refill 24 = .ok (.iload_n 1, 1) := by decide +kernel
theorem dX6_refill_25 : decode cX6_refill 25 = .ok (.bipush 9, 2) := by decide +kernel
theorem dX6_refill_27 : decode cX6_refill 27 = .ok (.invokestatic 172, 3) := by decide +kernel
theorem dX6_refill_30 : decode cX6_refill 30 = .ok (.return_, 1) := by decide +kernel
theorem dX6_cluesOfReset_0 : decode cX6_cluesOfReset 0 = .ok (.iconst 0, 1) := by decide +kernel
theorem dX6_cluesOfReset_1 : decode cX6_cluesOfReset 1 = .ok (.istore_n 1, 1) := by decide +kernel
theorem dX6_cluesOfReset_2 : decode cX6_cluesOfReset 2 = .ok (.aload_n 0, 1) := by decide +kernel
theorem dX6_cluesOfReset_3 : decode cX6_cluesOfReset 3 = .ok (.getfield 72, 3) := by decide +kernel
theorem dX6_cluesOfReset_6 : decode cX6_cluesOfReset 6 = .ok (.istore_n 2, 1) := by decide +kernel
theorem dX6_cluesOfReset_7 : decode cX6_cluesOfReset 7 = .ok (.iconst 0, 1) := by decide +kernel
theorem dX6_cluesOfReset_8 : decode cX6_cluesOfReset 8 = .ok (.istore_n 3, 1) := by decide +kernel
theorem dX6_cluesOfReset_9 : decode cX6_cluesOfReset 9 = .ok (.iload_n 3, 1) := by decide +kernel
theorem dX6_cluesOfReset_10 : decode cX6_cluesOfReset 10 = .ok (.aload_n 0, 1) := by decide +kernel
theorem dX6_cluesOfReset_11 : decode cX6_cluesOfReset 11 = .ok (.getfield 12, 3) := by decide +kernel
theorem dX6_cluesOfReset_14 : decode cX6_cluesOfReset 14 = .ok (.getfield 176, 3) := by decide +kernel
theorem dX6_cluesOfReset_17 : decode cX6_cluesOfReset 17 = .ok (.if_icmp .ge 49, 3) := by decide +kernel
theorem dX6_cluesOfReset_20 : decode cX6_cluesOfReset 20 = .ok (.aload_n 0, 1) := by decide +kernel
theorem dX6_cluesOfReset_21 : decode cX6_cluesOfReset 21 = .ok (.getfield 12, 3) := by decide +kernel
theorem dX6_cluesOfReset_24 : decode cX6_cluesOfReset 24 = .ok (.iload_n 3, 1) := by decide +kernel
theorem dX6_cluesOfReset_25 : decode cX6_cluesOfReset 25 = .ok (.invokevirtual 179, 3) := by decide +kernel
theorem dX6_cluesOfReset_28 : decode cX6_cluesOfReset 28 = .ok (.ifCond .eq 32, 3) := by decide +kernel
theorem dX6_cluesOfReset_31 : decode cX6_cluesOfReset 31 = .ok (.aload_n 0, 1) := by decide +kernel
theorem dX6_cluesOfReset_32 : decode cX6_cluesOfReset 32 = .ok (.getfield 12, 3) := by decide +kernel
theorem dX6_cluesOfReset_35 : decode cX6_cluesOfReset 35 = .ok (.iload_n 3, 1) := by decide +kernel
theorem dX6_cluesOfReset_36 : decode cX6_cluesOfReset 36 = .ok (.invokevirtual 165, 3) := by decide +kernel
theorem dX6_cluesOfReset_39 : decode cX6_cluesOfReset 39 = .ok (.iload_n 2, 1) := by decide +kernel
theorem dX6_cluesOfReset_40 : decode cX6_cluesOfReset 40 = .ok (.if_icmp .gt 20, 3) := by decide +kernel
theorem dX6_cluesOfReset_43 : decode cX6_cluesOfReset 43 = .ok (.iload_n 2, 1) := by decide +kernel
theorem dX6_cluesOfReset_44 : decode cX6_cluesOfReset 44 = .ok (.aload_n 0, 1) := by decide +kernel
theorem dX6_cluesOfReset_45 : decode cX6_cluesOfReset 45 = .ok (.getfield 12, 3) := by decide +kernel
theorem dX6_cluesOfReset_48 : decode cX6_cluesOfReset 48 = .ok (.iload_n 3, 1) := by decide +kernel
theorem dX6_cluesOfReset_49 : decode cX6_cluesOfReset 49 = .ok (.invokevirtual 165, 3) := by decide +kernel
theorem dX6_cluesOfReset_52 : decode cX6_cluesOfReset 52 = .ok (.isub, 1) := by decide +kernel
theorem dX6_cluesOfReset_53 : decode cX6_cluesOfReset 53 = .ok (.istore_n 2, 1) := by decide +kernel
theorem dX6_cluesOfReset_54 : decode cX6_cluesOfReset 54 = .ok (.iload_n 1, 1) := by decide +kernel
theorem dX6_cluesOfReset_55 : decode cX6_cluesOfReset 55 = .ok (.iconst 1, 1) := by decide +kernel
theorem dX6_cluesOfReset_56 : decode cX6_cluesOfReset 56 = .ok (.iload_n 3, 1) := by decide +kernel
theorem dX6_cluesOfReset_57 : decode cX6_cluesOfReset 57 = .ok (.ishl, 1) := by decide +kernel
theorem dX6_cluesOfReset_58 : decode cX6_cluesOfReset 58 = .ok (.ior, 1) := by decide +kernel
theorem dX6_cluesOfReset_59 : decode cX6_cluesOfReset 59 = .ok (.istore_n 1, 1) := by decide +kernel
theorem dX6_cluesOfReset_60 : decode cX6_cluesOfReset 60 = .ok (.iinc 3 1, 3) := by decide +kernel
theorem dX6_cluesOfReset_63 : decode cX6_cluesOfReset 63 = .ok (.goto (-54), 3) := by decide +kernel
theorem dX6_cluesOfReset_66 : decode cX6_cluesOfReset 66 = .ok (.iload_n 1, 1) := by decide +kernel
theorem dX6_cluesOfReset_67 : decode cX6_cluesOfReset 67 = .ok (.ireturn, 1) := by decide +kernel
theorem dX6_resetMinutes_0 : decode cX6_resetMinutes 0 = .ok (.aload_n 0, 1) := by decide +kernel
theorem dX6_resetMinutes_1 : decode cX6_resetMinutes 1 = .ok (.getfield 12, 3) := by decide +kernel
theorem dX6_resetMinutes_4 : decode cX6_resetMinutes 4 = .ok (.invokevirtual 127, 3) := by decide +kernel
theorem dX6_resetMinutes_7 : decode cX6_resetMinutes 7 = .ok (.aload_n 0, 1) := by decide +kernel
theorem dX6_resetMinutes_8 : decode cX6_resetMinutes 8 = .ok (.getfield 12, 3) := by decide +kernel
theorem dX6_resetMinutes_11 : decode cX6_resetMinutes 11 = .ok (.invokevirtual 130, 3) := by decide +kernel
theorem dX6_resetMinutes_14 : decode cX6_resetMinutes 14 = .ok (.iadd, 1) := by decide +kernel
theorem dX6_resetMinutes_15 : decode cX6_resetMinutes 15 = .ok (.aload_n 0, 1) := by decide +kernel
theorem dX6_resetMinutes_16 : decode cX6_resetMinutes 16 = .ok (.invokevirtual 183, 3) := by decide +kernel
theorem dX6_resetMinutes_19 : decode cX6_resetMinutes 19 = .ok (.invokestatic 186, 3) := by decide +kernel
theorem dX6_resetMinutes_22 : decode cX6_resetMinutes 22 = .ok (.iadd, 1) := by decide +kernel
theorem dX6_resetMinutes_23 : decode cX6_resetMinutes 23 = .ok (.ireturn, 1) := by decide +kernel
theorem dX6_resetPaint_0 : decode cX6_resetPaint 0 = .ok (.aload_n 0, 1) := by decide +kernel
theorem dX6_resetPaint_1 : decode cX6_resetPaint 1 = .ok (.invokevirtual 183, 3) := by decide +kernel
theorem dX6_resetPaint_4 : decode cX6_resetPaint 4 = .ok (.istore_n 1, 1) := by decide +kernel
theorem dX6_resetPaint_5 : decode cX6_resetPaint 5 = .ok (.iconst 0, 1) := by decide +kernel
theorem dX6_resetPaint_6 : decode cX6_resetPaint 6 = .ok (.istore_n 2, 1) := by decide +kernel
theorem dX6_resetPaint_7 : decode cX6_resetPaint 7 = .ok (.iconst 0, 1) := by decide +kernel
theorem dX6_resetPaint_8 : decode cX6_resetPaint 8 = .ok (.istore_n 3, 1) := by decide +kernel
theorem dX6_resetPaint_9 : decode cX6_resetPaint 9 = .ok (.iload_n 3, 1) := by decide +kernel
theorem dX6_resetPaint_10 : decode cX6_resetPaint 10 = .ok (.aload_n 0, 1) := by decide +kernel
theorem dX6_resetPaint_11 : decode cX6_resetPaint 11 = .ok (.getfield 12, 3) := by decide +kernel
theorem dX6_resetPaint_14 : decode cX6_resetPaint 14 = .ok (.getfield 176, 3) := by decide +kernel
theorem dX6_resetPaint_17 : decode cX6_resetPaint 17 = .ok (.if_icmp .ge 26, 3) := by decide +kernel
theorem dX6_resetPaint_20 : decode cX6_resetPaint 20 = .ok (.iload_n 2, 1) := by decide +kernel
theorem dX6_resetPaint_21 : decode cX6_resetPaint 21 = .ok (.iload_n 1, 1) := by decide +kernel
theorem dX6_resetPaint_22 : decode cX6_resetPaint 22 = .ok (.iload_n 3, 1) := by decide +kernel
theorem dX6_resetPaint_23 : decode cX6_resetPaint 23 = .ok (.ishr, 1) := by decide +kernel
theorem dX6_resetPaint_24 : decode cX6_resetPaint 24 = .ok (.iconst 1, 1) := by decide +kernel
theorem dX6_resetPaint_25 : decode cX6_resetPaint 25 = .ok (.iand, 1) := by decide +kernel
theorem dX6_resetPaint_26 : decode cX6_resetPaint 26 = .ok (.aload_n 0, 1) := by decide +kernel
theorem dX6_resetPaint_27 : decode cX6_resetPaint 27 = .ok (.getfield 12, 3) := by decide +kernel
theorem dX6_resetPaint_30 : decode cX6_resetPaint 30 = .ok (.iload_n 3, 1) := by decide +kernel
theorem dX6_resetPaint_31 : decode cX6_resetPaint 31 = .ok (.invokevirtual 165, 3) := by decide +kernel
theorem dX6_resetPaint_34 : decode cX6_resetPaint 34 = .ok (.imul, 1) := by decide +kernel
theorem dX6_resetPaint_35 : decode cX6_resetPaint 35 = .ok (.iadd, 1) := by decide +kernel
theorem dX6_resetPaint_36 : decode cX6_resetPaint 36 = .ok (.istore_n 2, 1) := by decide +kernel
theorem dX6_resetPaint_37 : decode cX6_resetPaint 37 = .ok (.iinc 3 1, 3) := by decide +kernel
theorem dX6_resetPaint_40 : decode cX6_resetPaint 40 = .ok (.goto (-31), 3) := by decide +kernel
theorem dX6_resetPaint_43 : decode cX6_resetPaint 43 = .ok (.iload_n 2, 1) := by decide +kernel
theorem dX6_resetPaint_44 : decode cX6_resetPaint 44 = .ok (.ireturn, 1) := by decide +kernel
theorem dX6_bringToOrder_0 : decode cX6_bringToOrder 0 = .ok (.aload_n 0, 1) := by decide +kernel
theorem dX6_bringToOrder_1 : decode cX6_bringToOrder 1 = .ok (.invokevirtual 183, 3) := by decide +kernel
theorem dX6_bringToOrder_4 : decode cX6_bringToOrder 4 = .ok (.istore_n 1, 1) := by decide +kernel
theorem dX6_bringToOrder_5 : decode cX6_bringToOrder 5 = .ok (.aload_n 0, 1) := by decide +kernel
theorem dX6_bringToOrder_6 : decode cX6_bringToOrder 6 = .ok (.getfield 12, 3) := by decide +kernel
theorem dX6_bringToOrder_9 : decode cX6_bringToOrder 9 = .ok (.invokevirtual 191, 3) := by decide +kernel
theorem dX6_bringToOrder_12 : decode cX6_bringToOrder 12 = .ok (.aload_n 0, 1) := by decide +kernel
theorem dX6_bringToOrder_13 : decode cX6_bringToOrder 13 = .ok (.getfield 12, 3) := by decide +kernel
theorem dX6_bringToOrder_16 : decode cX6_bringToOrder 16 = .ok (.invokevirtual 194, 3) := by decide +kernel
theorem dX6_bringToOrder_19 : decode cX6_bringToOrder 19 = .ok (.iconst 0, 1) := by decide +kernel
theorem dX6_bringToOrder_20 : decode cX6_bringToOrder 20 = .ok (.istore_n 2, 1) := by decide +kernel
theorem dX6_bringToOrder_21 : decode cX6_bringToOrder 21 = .ok (.iload_n 2, 1) := by decide +kernel
theorem dX6_bringToOrder_22 : decode cX6_bringToOrder 22 = .ok (.aload_n 0, 1) := by decide +kernel
theorem dX6_bringToOrder_23 : decode cX6_bringToOrder 23 = .ok (.getfield 12, 3) := by decide +kernel
theorem dX6_bringToOrder_26 : decode cX6_bringToOrder 26 = .ok (.getfield 176, 3) := by decide +kernel
theorem dX6_bringToOrder_29 : decode cX6_bringToOrder 29 = .ok (.if_icmp .ge 23, 3) := by decide +kernel
theorem dX6_bringToOrder_32 : decode cX6_bringToOrder 32 = .ok (.iload_n 1, 1) := by decide +kernel
theorem dX6_bringToOrder_33 : decode cX6_bringToOrder 33 = .ok (.iload_n 2, 1) := by decide +kernel
theorem dX6_bringToOrder_34 : decode cX6_bringToOrder 34 = .ok (.ishr, 1) := by decide +kernel
theorem dX6_bringToOrder_35 : decode cX6_bringToOrder 35 = .ok (.iconst 1, 1) := by decide +kernel
theorem dX6_bringToOrder_36 : decode cX6_bringToOrder 36 = .ok (.iand, 1) := by decide +kernel
theorem dX6_bringToOrder_37 : decode cX6_bringToOrder 37 = .ok (.iconst 1, 1) := by decide +kernel
theorem dX6_bringToOrder_38 : decode cX6_bringToOrder 38 = .ok (.if_icmp .ne 8, 3) := by decide +kernel
theorem dX6_bringToOrder_41 : decode cX6_bringToOrder 41 = .ok (.aload_n 0, 1) := by decide +kernel
theorem dX6_bringToOrder_42 : decode cX6_bringToOrder 42 = .ok (.iload_n 2, 1) := by decide +kernel
theorem dX6_bringToOrder_43 : decode cX6_bringToOrder 43 = .ok (.invokevirtual 197, 3) := by decide +kernel
theorem dX6_bringToOrder_46 : decode cX6_bringToOrder 46 = .ok (.iinc 2 1, 3) := by decide +kernel
theorem dX6_bringToOrder_49 : decode cX6_bringToOrder 49 = .ok (.goto (-28), 3) := by decide +kernel
theorem dX6_bringToOrder_52 : decode cX6_bringToOrder 52 = .ok (.return_, 1) := by decide +kernel
