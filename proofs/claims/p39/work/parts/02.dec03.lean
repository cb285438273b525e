theorem dX5_init_0 : decode cX5_init 0 = .ok (.aload_n 0, 1) := by decide +kernel
theorem dX5_init_1 : decode cX5_init 1 = .ok (.invokespecial 3, 3) := by decide +kernel
theorem dX5_init_4 : decode cX5_init 4 = .ok (.aload_n 0, 1) := by decide +kernel
theorem dX5_init_5 : decode cX5_init 5 = .ok (.bipush 12, 2) := by decide +kernel
theorem dX5_init_7 : decode cX5_init 7 = .ok (.newarray .int, 2) := by decide +kernel
theorem dX5_init_9 : decode cX5_init 9 = .ok (.putfield 9, 3) := by decide +kernel
theorem dX5_init_12 : decode cX5_init 12 = .ok (.aload_n 0, 1) := by decide +kernel
theorem dX5_init_13 : decode cX5_init 13 = .ok (.bipush 12, 2) := by decide +kernel
theorem dX5_init_15 : decode cX5_init 15 = .ok (.newarray .int, 2) := by decide +kernel
theorem dX5_init_17 : decode cX5_init 17 = .ok (.putfield 15, 3) := by decide +kernel
theorem dX5_init_20 : decode cX5_init 20 = .ok (.aload_n 0, 1) := by decide +kernel
theorem dX5_init_21 : decode cX5_init 21 = .ok (.bipush 12, 2) := by decide +kernel
theorem dX5_init_23 : decode cX5_init 23 = .ok (.newarray .int, 2) := by decide +kernel
theorem dX5_init_25 : decode cX5_init 25 = .ok (.putfield 18, 3) := by decide +kernel
theorem dX5_init_28 : decode cX5_init 28 = .ok (.aload_n 0, 1) := by decide +kernel
theorem dX5_init_29 : decode cX5_init 29 = .ok (.bipush 12, 2) := by decide +kernel
theorem dX5_init_31 : decode cX5_init 31 = .ok (.newarray .int, 2) := by decide +kernel
theorem dX5_init_33 : decode cX5_init 33 = .ok (.putfield 21, 3) := by decide +kernel
theorem dX5_init_36 : decode cX5_init 36 = .ok (.aload_n 0, 1) := by decide +kernel
theorem dX5_init_37 : decode cX5_init 37 = .ok (.bipush 12, 2) := by decide +kernel
theorem dX5_init_39 : decode cX5_init 39 = .ok (.newarray .int, 2) := by decide +kernel
theorem dX5_init_41 : decode cX5_init 41 = .ok (.putfield 24, 3) := by decide +kernel
theorem dX5_init_44 : decode cX5_init 44 = .ok (.aload_n 0, 1) := by decide +kernel
theorem dX5_init_45 : decode cX5_init 45 = .ok (.bipush 24, 2) := by decide +kernel
theorem dX5_init_47 : decode cX5_init 47 = .ok (.newarray .int, 2) := by decide +kernel
theorem dX5_init_49 : decode cX5_init 49 = .ok (.putfield 27, 3) := by decide +kernel
theorem dX5_init_52 : decode cX5_init 52 = .ok (.aload_n 0, 1) := by decide +kernel
theorem dX5_init_53 : decode cX5_init 53 = .ok (.bipush 24, 2) := by decide +kernel
theorem dX5_init_55 : decode cX5_init 55 = .ok (.newarray .int, 2) := by decide +kernel
theorem dX5_init_57 : decode cX5_init 57 = .ok (.putfield 30, 3) := by decide +kernel
theorem dX5_init_60 : decode cX5_init 60 = .ok (.aload_n 0, 1) := by decide +kernel
theorem dX5_init_61 : decode cX5_init 61 = .ok (.bipush 12, 2) := by decide +kernel
theorem dX5_init_63 : decode cX5_init 63 = .ok (.newarray .int, 2) := by decide +kernel
theorem dX5_init_65 : decode cX5_init 65 = .ok (.putfield 33, 3) := by decide +kernel
theorem dX5_init_68 : decode cX5_init 68 = .ok (.aload_n 0, 1) := by decide +kernel
theorem dX5_init_69 : decode cX5_init 69 = .ok (.bipush 12, 2) := by decide +kernel
theorem dX5_init_71 : decode cX5_init 71 = .ok (.newarray .int, 2) := by decide +kernel
theorem dX5_init_73 : decode cX5_init 73 = .ok (.putfield 36, 3) := by decide +kernel
theorem dX5_init_76 : decode cX5_init 76 = .ok (.aload_n 0, 1) := by decide +kernel
theorem dX5_init_77 : decode cX5_init 77 = .ok (.bipush 12, 2) := by decide +kernel
theorem dX5_init_79 : decode cX5_init 79 = .ok (.newarray .int, 2) := by decide +kernel
theorem dX5_init_81 : decode cX5_init 81 = .ok (.putfield 39, 3) := by decide +kernel
theorem dX5_init_84 : decode cX5_init 84 = .ok (.aload_n 0, 1) := by decide +kernel
theorem dX5_init_85 : decode cX5_init 85 = .ok (.bipush 12, 2) := by decide +kernel
theorem dX5_init_87 : decode cX5_init 87 = .ok (.newarray .int, 2) := by decide +kernel
theorem dX5_init_89 : decode cX5_init 89 = .ok (.putfield 42, 3) := by decide +kernel
theorem dX5_init_92 : decode cX5_init 92 = .ok (.aload_n 0, 1) := by decide +kernel
theorem dX5_init_93 : decode cX5_init 93 = .ok (.iconst 1, 1) := by decide +kernel
theorem dX5_init_94 : decode cX5_init 94 = .ok (.putfield 45, 3) := by decide +kernel
theorem dX5_init_97 : decode cX5_init 97 = .ok (.aload_n 0, 1) := by decide +kernel
theorem dX5_init_98 : decode cX5_init 98 = .ok (.getfield 21, 3) := by decide +kernel
theorem dX5_init_101 : decode cX5_init 101 = .ok (.iconst 0, 1) := by decide +kernel
theorem dX5_init_102 : decode cX5_init 102 = .ok (.iconst 1, 1) := by decide +kernel
theorem dX5_init_103 : decode cX5_init 103 = .ok (.invokestatic 49, 3) := by decide +kernel
theorem dX5_init_106 : decode cX5_init 106 = .ok (.return_, 1) := by decide +kernel
theorem dX5_copyFrom_0 : decode cX5_copyFrom 0 = .ok (.aload_n 0, 1) := by decide +kernel
theorem dX5_copyFrom_1 : decode cX5_copyFrom 1 = .ok (.aload_n 1, 1) := by decide +kernel
theorem dX5_copyFrom_2 : decode cX5_copyFrom 2 = .ok (.getfield 45, 3) := by decide +kernel
theorem dX5_copyFrom_5 : decode cX5_copyFrom 5 = .ok (.putfield 45, 3) := by decide +kernel
theorem dX5_copyFrom_8 : decode cX5_copyFrom 8 = .ok (.aload_n 1, 1) := by decide +kernel
theorem dX5_copyFrom_9 : decode cX5_copyFrom 9 = .ok (.getfield 9, 3) := by decide +kernel
theorem dX5_copyFrom_12 : decode cX5_copyFrom 12 = .ok (.aload_n 0, 1) := by decide +kernel
theorem dX5_copyFrom_13 : decode cX5_copyFrom 13 = .ok (.getfield 9, 3) := by decide +kernel
theorem dX5_copyFrom_16 : decode cX5_copyFrom 16 = .ok (.invokestatic 53, 3) := by decide +kernel
theorem dX5_copyFrom_19 : decode cX5_copyFrom 19 = .ok (.aload_n 1, 1) := by decide +kernel
theorem dX5_copyFrom_20 : decode cX5_copyFrom 20 = .ok (.getfield 15, 3) := by decide +kernel
theorem dX5_copyFrom_23 : decode cX5_copyFrom 23 = .ok (.aload_n 0, 1) := by decide +kernel
theorem dX5_copyFrom_24 : decode cX5_copyFrom 24 = .ok (.getfield 15, 3) := by decide +kernel
theorem dX5_copyFrom_27 : decode cX5_copyFrom 27 = .ok (.invokestatic 53, 3) := by decide +kernel
theorem dX5_copyFrom_30 : decode cX5_copyFrom 30 = .ok (.aload_n 1, 1) := by decide +kernel
theorem dX5_copyFrom_31 : decode cX5_copyFrom 31 = .ok (.getfield 18, 3) := by decide +kernel
theorem dX5_copyFrom_34 : decode cX5_copyFrom 34 = .ok (.aload_n 0, 1) := by decide +kernel
theorem dX5_copyFrom_35 : decode cX5_copyFrom 35 = .ok (.getfield 18, 3) := by decide +kernel
theorem dX5_copyFrom_38 : decode cX5_copyFrom 38 = .ok (.invokestatic 53, 3) := by decide +kernel
theorem dX5_copyFrom_41 : decode cX5_copyFrom 41 = .ok (.aload_n 1, 1) := by decide +kernel
theorem dX5_copyFrom_42 : decode cX5_copyFrom 42 = .ok (.getfield 21, 3) := by decide +kernel
theorem dX5_copyFrom_45 : decode cX5_copyFrom 45 = .ok (.aload_n 0, 1) := by decide +kernel
theorem dX5_copyFrom_46 : decode cX5_copyFrom 46 = .ok (.getfield 21, 3) := by decide +kernel
theorem dX5_copyFrom_49 : decode cX5_copyFrom 49 = .ok (.invokestatic 53, 3) := by decide +kernel
theorem dX5_copyFrom_52 : decode cX5_copyFrom 52 = .ok (.aload_n 1, 1) := by decide +kernel
theorem dX5_copyFrom_53 : decode cX5_copyFrom 53 = .ok (.getfield 24, 3) := by decide +kernel
theorem dX5_copyFrom_56 : decode cX5_copyFrom 56 = .ok (.aload_n 0, 1) := by decide +kernel
theorem dX5_copyFrom_57 : decode cX5_copyFrom 57 = .ok (.getfield 24, 3) := by decide +kernel
theorem dX5_copyFrom_60 : decode cX5_copyFrom 60 = .ok (.invokestatic 53, 3) := by decide +kernel
theorem dX5_copyFrom_63 : decode cX5_copyFrom 63 = .ok (.aload_n 0, 1) := by decide +kernel
theorem dX5_copyFrom_64 : decode cX5_copyFrom 64 = .ok (.aload_n 1, 1) := by decide +kernel
theorem dX5_copyFrom_65 : decode cX5_copyFrom 65 = .ok (.getfield 57, 3) := by decide +kernel
theorem dX5_copyFrom_68 : decode cX5_copyFrom 68 = .ok (.putfield 57, 3) := by decide +kernel
theorem dX5_copyFrom_71 : decode cX5_copyFrom 71 = .ok (.aload_n 1, 1) := by decide +kernel
theorem dX5_copyFrom_72 : decode cX5_copyFrom 72 = .ok (.getfield 27, 3) := by decide +kernel
theorem dX5_copyFrom_75 : decode cX5_copyFrom 75 = .ok (.aload_n 0, 1) := by decide +kernel
theorem dX5_copyFrom_76 : decode cX5_copyFrom 76 = .ok (.getfield 27, 3) := by decide +kernel
theorem dX5_copyFrom_79 : decode cX5_copyFrom 79 = .ok (.invokestatic 53, 3) := by decide +kernel
theorem dX5_copyFrom_82 : decode cX5_copyFrom 82 = .ok (.aload_n 1, 1) := by decide +kernel
theorem dX5_copyFrom_83 : decode cX5_copyFrom 83 = .ok (.getfield 30, 3) := by decide +kernel
theorem dX5_copyFrom_86 : decode cX5_copyFrom 86 = .ok (.aload_n 0, 1) := by decide +kernel
theorem dX5_copyFrom_87 : decode cX5_copyFrom 87 = .ok (.getfield 30, 3) := by decide +kernel
theorem dX5_copyFrom_90 : decode cX5_copyFrom 90 = .ok (.invokestatic 53, 3) := by decide +kernel
theorem dX5_copyFrom_93 : decode cX5_copyFrom 93 = .ok (.aload_n 0, 1) := by decide +kernel
theorem dX5_copyFrom_94 : decode cX5_copyFrom 94 = .ok (.aload_n 1, 1) := by decide +kernel
theorem dX5_copyFrom_95 : decode cX5_copyFrom 95 = .ok (.getfield 60, 3) := by decide +kernel
theorem dX5_copyFrom_98 : decode cX5_copyFrom 98 = .ok (.putfield 60, 3) := by decide +kernel
theorem dX5_copyFrom_101 : decode cX5_copyFrom 101 = .ok (.aload_n 1, 1) := by decide +kernel
theorem dX5_copyFrom_102 : decode cX5_copyFrom 102 = .ok (.getfield 33, 3) := by decide +kernel
theorem dX5_copyFrom_105 : decode cX5_copyFrom 105 = .ok (.aload_n 0, 1) := by decide +kernel
theorem dX5_copyFrom_106 : decode cX5_copyFrom 106 = .ok (.getfield 33, 3) := by decide +kernel
theorem dX5_copyFrom_109 : decode cX5_copyFrom 109 = .ok (.invokestatic 53, 3) := by decide +kernel
theorem dX5_copyFrom_112 : decode cX5_copyFrom 112 = .ok (.aload_n 1, 1) := by decide +kernel
theorem dX5_copyFrom_113 : decode cX5_copyFrom 113 = .ok (.getfield 36, 3) := by decide +kernel
theorem dX5_copyFrom_116 : decode cX5_copyFrom 116 = .ok (.aload_n 0, 1) := by decide +kernel
theorem dX5_copyFrom_117 : decode cX5_copyFrom 117 = .ok (.getfield 36, 3) := by decide +kernel
theorem dX5_copyFrom_120 : decode cX5_copyFrom 120 = .ok (.invokestatic 53, 3) := by decide +kernel
theorem dX5_copyFrom_123 : decode cX5_copyFrom 123 = .ok (.aload_n 1, 1) := by decide +kernel
theorem dX5_copyFrom_124 : decode cX5_copyFrom 124 = .ok (.getfield 39, 3) := by decide +kernel
theorem dX5_copyFrom_127 : decode cX5_copyFrom 127 = .ok (.aload_n 0, 1) := by decide +kernel
theorem dX5_copyFrom_128 : decode cX5_copyFrom 128 = .ok (.getfield 39, 3) := by decide +kernel
theorem dX5_copyFrom_131 : decode cX5_copyFrom 131 = .ok (.invokestatic 53, 3) := by decide +kernel
theorem dX5_copyFrom_134 : decode cX5_copyFrom 134 = .ok (.aload_n 1, 1) := by decide +kernel
theorem dX5_copyFrom_135 : decode cX5_copyFrom 135 = .ok (.getfield 42, 3) := by decide +kernel
theorem dX5_copyFrom_138 : decode cX5_copyFrom 138 = .ok (.aload_n 0, 1) := by decide +kernel
theorem dX5_copyFrom_139 : decode cX5_copyFrom 139 = .ok (.getfield 42, 3) := by decide +kernel
theorem dX5_copyFrom_142 : decode cX5_copyFrom 142 = .ok (.invokestatic 53, 3) := by decide +kernel
theorem dX5_copyFrom_145 : decode cX5_copyFrom 145 = .ok (.aload_n 0, 1) := by decide +kernel
theorem dX5_copyFrom_146 : decode cX5_copyFrom 146 = .ok (.aload_n 1, 1) := by decide +kernel
theorem dX5_copyFrom_147 : decode cX5_copyFrom 147 = .ok (.getfield 63, 3) := by decide +kernel
theorem dX5_copyFrom_150 : decode cX5_copyFrom 150 = .ok (.putfield 63, 3) := by decide +kernel
theorem dX5_copyFrom_153 : decode cX5_copyFrom 153 = .ok (.aload_n 0, 1) := by decide +kernel
theorem dX5_copyFrom_154 : decode cX5_copyFrom 154 = .ok (.aload_n 1, 1) := by decide +kernel
theorem dX5_copyFrom_155 : decode cX5_copyFrom 155 = .ok (.getfield 66, 3) := by decide +kernel
theorem dX5_copyFrom_158 : decode cX5_copyFrom 158 = .ok (.putfield 66, 3) := by decide +kernel
theorem dX5_copyFrom_161 : decode cX5_copyFrom 161 = .ok (.return_, 1) := by decide +kernel
theorem dX5_appendBox_0 : decode cX5_appendBox 0 = .ok (.aload_n 0, 1) := by decide +kernel
theorem dX5_appendBox_1 : decode cX5_appendBox 1 = .ok (.getfield 45, 3) := by decide +kernel
theorem dX5_appendBox_4 : decode cX5_appendBox 4 = .ok (.istore 4, 2) := by decide +kernel
theorem dX5_appendBox_6 : decode cX5_appendBox 6 = .ok (.aload_n 0, 1) := by decide +kernel
theorem dX5_appendBox_7 : decode cX5_appendBox 7 = .ok (.getfield 9, 3) := by decide +kernel
theorem dX5_appendBox_10 : decode cX5_appendBox 10 = .ok (.iload 4, 2) := by decide +kernel
theorem dX5_appendBox_12 : decode cX5_appendBox 12 = .ok (.iload_n 1, 1) := by decide +kernel
theorem dX5_appendBox_13 : decode cX5_appendBox 13 = .ok (.invokestatic 49, 3) := by decide +kernel
theorem dX5_appendBox_16 : decode cX5_appendBox 16 = .ok (.aload_n 0, 1) := by decide +kernel
theorem dX5_appendBox_17 : decode cX5_appendBox 17 = .ok (.getfield 15, 3) := by decide +kernel
theorem dX5_appendBox_20 : decode cX5_appendBox 20 = .ok (.iload 4, 2) := by decide +kernel
theorem dX5_appendBox_22 : decode cX5_appendBox 22 = .ok (.iload_n 2, 1) := by decide +kernel
theorem dX5_appendBox_23 : decode cX5_appendBox 23 = .ok (.invokestatic 49, 3) := by decide +kernel
theorem dX5_appendBox_26 : decode cX5_appendBox 26 = .ok (.aload_n 0, 1) := by decide +kernel
theorem dX5_appendBox_27 : decode cX5_appendBox 27 = .ok (.getfield 18, 3) := by decide +kernel
theorem dX5_appendBox_30 : decode cX5_appendBox 30 = .ok (.iload 4, 2) := by decide +kernel
theorem dX5_appendBox_32 : decode cX5_appendBox 32 = .ok (.iload_n 3, 1) := by decide +kernel
theorem dX5_appendBox_33 : decode cX5_appendBox 33 = .ok (.invokestatic 49, 3) := by decide +kernel
theorem dX5_appendBox_36 : decode cX5_appendBox 36 = .ok (.aload_n 0, 1) := by decide +kernel
theorem dX5_appendBox_37 : decode cX5_appendBox 37 = .ok (.getfield 21, 3) := by decide +kernel
theorem dX5_appendBox_40 : decode cX5_appendBox 40 = .ok (.iload 4, 2) := by decide +kernel
theorem dX5_appendBox_42 : decode cX5_appendBox 42 = .ok (.iconst 0, 1) := by decide +kernel
theorem dX5_appendBox_43 : decode cX5_appendBox 43 = .ok (.invokestatic 49, 3) := by decide +kernel
theorem dX5_appendBox_46 : decode cX5_appendBox 46 = .ok (.aload_n 0, 1) := by decide +kernel
theorem dX5_appendBox_47 : decode cX5_appendBox 47 = .ok (.getfield 24, 3) := by decide +kernel
theorem dX5_appendBox_50 : decode cX5_appendBox 50 = .ok (.iload 4, 2) := by decide +kernel
theorem dX5_appendBox_52 : decode cX5_appendBox 52 = .ok (.iconst 0, 1) := by decide +kernel
theorem dX5_appendBox_53 : decode cX5_appendBox 53 = .ok (.invokestatic 49, 3) := by decide +kernel
theorem dX5_appendBox_56 : decode cX5_appendBox 56 = .ok (.aload_n 0, 1) := by decide +kernel
theorem dX5_appendBox_57 : decode cX5_appendBox 57 = .ok (.dup, 1) := by decide +kernel
theorem dX5_appendBox_58 : decode cX5_appendBox 58 = .ok (.getfield 45, 3) := by decide +kernel
theorem dX5_appendBox_61 : decode cX5_appendBox 61 = .ok (.iconst 1, 1) := by decide +kernel
theorem dX5_appendBox_62 : decode cX5_appendBox 62 = .ok (.iadd, 1) := by decide +kernel
theorem dX5_appendBox_63 : decode cX5_appendBox 63 = .ok (.putfield 45, 3) := by decide +kernel
theorem dX5_appendBox_66 : decode cX5_appendBox 66 = .ok (.iload 4, 2) := by decide +kernel
theorem dX5_appendBox_68 : decode cX5_appendBox 68 = .ok (.ireturn, 1) := by decide +kernel
theorem dX5_appendProp_0 : decode cX5_appendProp 0 = .ok (.aload_n 0, 1) := by decide +kernel
theorem dX5_appendProp_1 : decode cX5_appendProp 1 = .ok (.getfield 57, 3) := by decide +kernel
theorem dX5_appendProp_4 : decode cX5_appendProp 4 = .ok (.istore_n 2, 1) := by decide +kernel
theorem dX5_appendProp_5 : decode cX5_appendProp 5 = .ok (.aload_n 0, 1) := by decide +kernel
theorem dX5_appendProp_6 : decode cX5_appendProp 6 = .ok (.getfield 27, 3) := by decide +kernel
theorem dX5_appendProp_9 : decode cX5_appendProp 9 = .ok (.iload_n 2, 1) := by decide +kernel
theorem dX5_appendProp_10 : decode cX5_appendProp 10 = .ok (.iload_n 1, 1) := by decide +kernel
theorem dX5_appendProp_11 : decode cX5_appendProp 11 = .ok (.invokestatic 49, 3) := by decide +kernel
theorem dX5_appendProp_14 : decode cX5_appendProp 14 = .ok (.aload_n 0, 1) := by decide +kernel
theorem dX5_appendProp_15 : decode cX5_appendProp 15 = .ok (.getfield 30, 3) := by decide +kernel
theorem dX5_appendProp_18 : decode cX5_appendProp 18 = .ok (.iload_n 2, 1) := by decide +kernel
theorem dX5_appendProp_19 : decode cX5_appendProp 19 = .ok (.iload_n 1, 1) := by decide +kernel
theorem dX5_appendProp_20 : decode cX5_appendProp 20 = .ok (.invokestatic 49, 3) := by decide +kernel
theorem dX5_appendProp_23 : decode cX5_appendProp 23 = .ok (.aload_n 0, 1) := by decide +kernel
theorem dX5_appendProp_24 : decode cX5_appendProp 24 = .ok (.dup, 1) := by decide +kernel
theorem dX5_appendProp_25 : decode cX5_appendProp 25 = .ok (.getfield 57, 3) := by decide +kernel
theorem dX5_appendProp_28 : decode cX5_appendProp 28 = .ok (.iconst 1, 1) := by decide +kernel
theorem dX5_appendProp_29 : decode cX5_appendProp 29 = .ok (.iadd, 1) := by decide +kernel
theorem dX5_appendProp_30 : decode cX5_appendProp 30 = .ok (.putfield 57, 3) := by decide +kernel
theorem dX5_appendProp_33 : decode cX5_appendProp 33 = .ok (.iload_n 2, 1) := by decide +kernel
theorem dX5_appendProp_34 : decode cX5_appendProp 34 = .ok (.ireturn, 1) := by decide +kernel
theorem dX5_appendClue_0 : decode cX5_appendClue 0 = .ok (.aload_n 0, 1) := by decide +kernel
theorem dX5_appendClue_1 : decode cX5_appendClue 1 = .ok (.getfield 60, 3) := by decide +kernel
theorem dX5_appendClue_4 : decode cX5_appendClue 4 = .ok (.istore 4, 2) := by decide +kernel
theorem dX5_appendClue_6 : decode cX5_appendClue 6 = .ok (.aload_n 0, 1) := by decide +kernel
theorem dX5_appendClue_7 : decode cX5_appendClue 7 = .ok (.getfield 33, 3) := by decide +kernel
theorem dX5_appendClue_10 : decode cX5_appendClue 10 = .ok (.iload 4, 2) := by decide +kernel
theorem dX5_appendClue_12 : decode cX5_appendClue 12 = .ok (.iload_n 1, 1) := by decide +kernel
theorem dX5_appendClue_13 : decode cX5_appendClue 13 = .ok (.invokestatic 49, 3) := by decide +kernel
theorem dX5_appendClue_16 : decode cX5_appendClue 16 = .ok (.aload_n 0, 1) := by decide +kernel
theorem dX5_appendClue_17 : decode cX5_appendClue 17 = .ok (.getfield 36, 3) := by decide +kernel
theorem dX5_appendClue_20 : decode cX5_appendClue 20 = .ok (.iload 4, 2) := by decide +kernel
theorem dX5_appendClue_22 : decode cX5_appendClue 22 = .ok (.iload_n 2, 1) := by decide +kernel
theorem dX5_appendClue_23 : decode cX5_appendClue 23 = .ok (.invokestatic 49, 3) := by decide +kernel
theorem dX5_appendClue_26 : decode cX5_appendClue 26 = .ok (.aload_n 0, 1) := by decide +kernel
theorem dX5_appendClue_27 : decode cX5_appendClue 27 = .ok (.getfield 39, 3) := by decide +kernel
theorem dX5_appendClue_30 : decode cX5_appendClue 30 = .ok (.iload 4, 2) := by decide +kernel
theorem dX5_appendClue_32 : decode cX5_appendClue 32 = .ok (.iload_n 3, 1) := by decide +kernel
theorem dX5_appendClue_33 : decode cX5_appendClue 33 = .ok (.invokestatic 49, 3) := by decide +kernel
theorem dX5_appendClue_36 : decode cX5_appendClue 36 = .ok (.aload_n 0, 1) := by decide +kernel
theorem dX5_appendClue_37 : decode cX5_appendClue 37 = .ok (.getfield 42, 3) := by decide +kernel
theorem dX5_appendClue_40 : decode cX5_appendClue 40 = .ok (.iload 4, 2) := by decide +kernel
theorem dX5_appendClue_42 : decode cX5_appendClue 42 = .ok (.bipush 9, 2) := by decide +kernel
theorem dX5_appendClue_44 : decode cX5_appendClue 44 = .ok (.invokestatic 49, 3) := by decide +kernel
theorem dX5_appendClue_47 : decode cX5_appendClue 47 = .ok (.aload_n 0, 1) := by decide +kernel
theorem dX5_appendClue_48 : decode cX5_appendClue 48 = .ok (.dup, 1) := by decide +kernel
theorem dX5_appendClue_49 : decode cX5_appendClue 49 = .ok (.getfield 60, 3) := by decide +kernel
theorem dX5_appendClue_52 : decode cX5_appendClue 52 = .ok (.iconst 1, 1) := by decide +kernel
theorem dX5_appendClue_53 : decode cX5_appendClue 53 = .ok (.iadd, 1) := by decide +kernel
theorem dX5_appendClue_54 : decode cX5_appendClue 54 = .ok (.putfield 60, 3) := by decide +kernel
theorem dX5_appendClue_57 : decode cX5_appendClue 57 = .ok (.iload 4, 2) := by decide +kernel
theorem dX5_appendClue_59 : decode cX5_appendClue 59 = .ok (.ireturn, 1) := by decide +kernel
theorem dX5_hasBox_0 : decode cX5_hasBox 0 = .ok (.iload_n 1, 1) := by decide +kernel
theorem dX5_hasBox_1 : decode cX5_hasBox 1 = .ok (.ifCond .lt 15, 3) := by decide +kernel
theorem dX5_hasBox_4 : decode cX5_hasBox 4 = .ok (.iload_n 1, 1) := by decide +kernel
theorem dX5_hasBox_5 : decode cX5_hasBox 5 = .ok (.aload_n 0, 1) := by decide +kernel
theorem dX5_hasBox_6 : decode cX5_hasBox 6 = .ok (.getfield 45, 3) := by decide +kernel
theorem dX5_hasBox_9 : decode cX5_hasBox 9 = .ok (.if_icmp .ge 7, 3) := by decide +kernel
theorem dX5_hasBox_12 : decode cX5_hasBox 12 = .ok (.iconst 1, 1) := by decide +kernel
theorem dX5_hasBox_13 : decode cX5_hasBox 13 = .ok (.goto 4, 3) := by decide +kernel
theorem dX5_hasBox_16 : decode cX5_hasBox 16 = .ok (.iconst 0, 1) := by decide +kernel
theorem dX5_hasBox_17 : decode cX5_hasBox 17 = .ok (.ireturn, 1) := by decide +kernel
theorem dX5_hasProp_0 : decode cX5_hasProp 0 = .ok (.iload_n 1, 1) := by decide +kernel
theorem dX5_hasProp_1 : decode cX5_hasProp 1 = .ok (.ifCond .lt 15, 3) := by decide +kernel
theorem dX5_hasProp_4 : decode cX5_hasProp 4 = .ok (.iload_n 1, 1) := by decide +kernel
theorem dX5_hasProp_5 : decode cX5_hasProp 5 = .ok (.aload_n 0, 1) := by decide +kernel
theorem dX5_hasProp_6 : decode cX5_hasProp 6 = .ok (.getfield 57, 3) := by decide +kernel
theorem dX5_hasProp_9 : decode cX5_hasProp 9 = .ok (.if_icmp .ge 7, 3) := by decide +kernel
theorem dX5_hasProp_12 : decode cX5_hasProp 12 = .ok (.iconst 1, 1) := by decide +kernel
theorem dX5_hasProp_13 : decode cX5_hasProp 13 = .ok (.goto 4, 3) := by decide +kernel
theorem dX5_hasProp_16 : decode cX5_hasProp 16 = .ok (.iconst 0, 1) := by decide +kernel
theorem dX5_hasProp_17 : decode cX5_hasProp 17 = .ok (.ireturn, 1) := by decide +kernel
theorem dX5_hasClue_0 : decode cX5_hasClue 0 = .ok (.iload_n 1, 1) := by decide +kernel
theorem dX5_hasClue_1 : decode cX5_hasClue 1 = .ok (.ifCond .lt 15, 3) := by decide +kernel
theorem dX5_hasClue_4 : decode cX5_hasClue 4 = .ok (.iload_n 1, 1) := by decide +kernel
theorem dX5_hasClue_5 : decode cX5_hasClue 5 = .ok (.aload_n 0, 1) := by decide +kernel
theorem dX5_hasClue_6 : decode cX5_hasClue 6 = .ok (.getfield 60, 3) := by decide +kernel
theorem dX5_hasClue_9 : decode cX5_hasClue 9 = .ok (.if_icmp .ge 7, 3) := by decide +kernel
theorem dX5_hasClue_12 : decode cX5_hasClue 12 = .ok (.iconst 1, 1) := by decide +kernel
theorem dX5_hasClue_13 : decode cX5_hasClue 13 = .ok (.goto 4, 3) := by decide +kernel
theorem dX5_hasClue_16 : decode cX5_hasClue 16 = .ok (.iconst 0, 1) := by decide +kernel
theorem dX5_hasClue_17 : decode cX5_hasClue 17 = .ok (.ireturn, 1) := by decide +kernel
theorem dX5_hasLock_0 : decode cX5_hasLock 0 = .ok (.iload_n 1, 1) := by decide +kernel
theorem dX5_hasLock_1 : decode cX5_hasLock 1 = .ok (.ifCond .le 19, 3) := by decide +kernel
theorem dX5_hasLock_4 : decode cX5_hasLock 4 = .ok (.aload_n 0, 1) := by decide +kernel
theorem dX5_hasLock_5 : decode cX5_hasLock 5 = .ok (.getfield 15, 3) := by decide +kernel
theorem dX5_hasLock_8 : decode cX5_hasLock 8 = .ok (.iload_n 1, 1) := by decide +kernel
theorem dX5_hasLock_9 : decode cX5_hasLock 9 = .ok (.invokestatic 69, 3) := by decide +kernel
theorem dX5_hasLock_12 : decode cX5_hasLock 12 = .ok (.iload_n 2, 1) := by decide +kernel
theorem dX5_hasLock_13 : decode cX5_hasLock 13 = .ok (.if_icmp .ne 7, 3) := by decide +kernel
theorem dX5_hasLock_16 : decode cX5_hasLock 16 = .ok (.iconst 1, 1) := by decide +kernel
theorem dX5_hasLock_17 : decode cX5_hasLock 17 = .ok (.goto 4, 3) := by decide +kernel
theorem dX5_hasLock_20 : decode cX5_hasLock 20 = .ok (.iconst 0, 1) := by decide +kernel
theorem dX5_hasLock_21 : decode cX5_hasLock 21 = .ok (.ireturn, 1) := by decide +kernel
theorem dX5_isOpen_0 : decode cX5_isOpen 0 = .ok (.aload_n 0, 1) := by decide +kernel
theorem dX5_isOpen_1 : decode cX5_isOpen 1 = .ok (.getfield 21, 3) := by decide +kernel
theorem dX5_isOpen_4 : decode cX5_isOpen 4 = .ok (.iload_n 1, 1) := by decide +kernel
theorem dX5_isOpen_5 : decode cX5_isOpen 5 = .ok (.invokestatic 69, 3) := by decide +kernel
theorem dX5_isOpen_8 : decode cX5_isOpen 8 = .ok (.iconst 1, 1) := by decide +kernel
theorem dX5_isOpen_9 : decode cX5_isOpen 9 = .ok (.if_icmp .ne 7, 3) := by decide +kernel
theorem dX5_isOpen_12 : decode cX5_isOpen 12 = .ok (.iconst 1, 1) := by decide +kernel
theorem dX5_isOpen_13 : decode cX5_isOpen 13 = .ok (.goto 4, 3) := by decide +kernel
theorem dX5_isOpen_16 : decode cX5_isOpen 16 = .ok (.iconst 0, 1) := by decide +kernel
theorem dX5_isOpen_17 : decode cX5_isOpen 17 = .ok (.ireturn, 1) := by decide +kernel
theorem dX5_isHeld_0 : decode cX5_isHeld 0 = .ok (.aload_n 0, 1) := by decide +kernel
theorem dX5_isHeld_1 : decode cX5_isHeld 1 = .ok (.getfield 30, 3) := by decide +kernel
theorem dX5_isHeld_4 : decode cX5_isHeld 4 = .ok (.iload_n 1, 1) := by decide +kernel
theorem dX5_isHeld_5 : decode cX5_isHeld 5 = .ok (.invokestatic 69, 3) := by decide +kernel
theorem dX5_isHeld_8 : decode cX5_isHeld 8 = .ok (.iconst (-1), 1) := by decide +kernel
theorem dX5_isHeld_9 : decode cX5_isHeld 9 = .ok (.if_icmp .ne 7, 3) := by decide +kernel
theorem dX5_isHeld_12 : decode cX5_isHeld 12 = .ok (.iconst 1, 1) := by decide +kernel
theorem dX5_isHeld_13 : decode cX5_isHeld 13 = .ok (.goto 4, 3) := by decide +kernel
theorem dX5_isHeld_16 : decode cX5_isHeld 16 = .ok (.iconst 0, 1) := by decide +kernel
theorem dX5_isHeld_17 : decode cX5_isHeld 17 = .ok (.ireturn, 1) := by decide +kernel
theorem dX5_outermostClosed_0 : decode cX5_outermostClosed 0 = .ok (.iconst 0, 1) := by decide +kernel
theorem dX5_outermostClosed_1 : decode cX5_outermostClosed 1 = .ok (.istore_n 2, 1) := by decide +kernel
theorem dX5_outermostClosed_2 : decode cX5_outermostClosed 2 = .ok (.iload_n 1, 1) := by decide +kernel
theorem dX5_outermostClosed_3 : decode cX5_outermostClosed 3 = .ok (.istore_n 3, 1) := by decide +kernel
theorem dX5_outermostClosed_4 : decode cX5_outermostClosed 4 = .ok (.iconst 0, 1) := by decide +kernel
theorem dX5_outermostClosed_5 : decode cX5_outermostClosed 5 = .ok (.istore 4, 2) := by decide +kernel
theorem dX5_outermostClosed_7 : decode cX5_outermostClosed 7 = .ok (.iload 4, 2) := by decide +kernel
theorem dX5_outermostClosed_9 : decode cX5_outermostClosed 9 = .ok (.bipush 12, 2) := by decide +kernel
theorem dX5_outermostClosed_11 : decode cX5_outermostClosed 11 = .ok (.if_icmp .ge 35, 3) := by decide +kernel
theorem dX5_outermostClosed_14 : decode cX5_outermostClosed 14 = .ok (.iload_n 3, 1) := by decide +kernel
theorem dX5_outermostClosed_15 : decode cX5_outermostClosed 15 = .ok (.ifCond .le 31, 3) := by decide +kernel
theorem dX5_outermostClosed_18 : decode cX5_outermostClosed 18 = .ok (.aload_n 0, 1) := by decide +kernel
theorem dX5_outermostClosed_19 : decode cX5_outermostClosed 19 = .ok (.getfield 21, 3) := by decide +kernel
theorem dX5_outermostClosed_22 : decode cX5_outermostClosed 22 = .ok (.iload_n 3, 1) := by decide +kernel
theorem dX5_outermostClosed_23 : decode cX5_outermostClosed 23 = .ok (.invokestatic 69, 3) := by decide +kernel
theorem dX5_outermostClosed_26 : decode cX5_outermostClosed 26 = .ok (.ifCond .ne 5, 3) := by decide +kernel
theorem dX5_outermostClosed_29 : decode cX5_outermostClosed 29 = .ok (.iload_n 3, 1) := by decide +kernel
theorem dX5_outermostClosed_30 : decode cX5_outermostClosed 30 = .ok (.istore_n 2, 1) := by decide +kernel
theorem dX5_outermostClosed_31 : decode cX5_outermostClosed 31 = .ok (.aload_n 0, 1) := by decide +kernel
theorem dX5_outermostClosed_32 : decode cX5_outermostClosed 32 = .ok (.getfield 9, 3) := by decide +kernel
theorem dX5_outermostClosed_35 : decode cX5_outermostClosed 35 = .ok (.iload_n 3, 1) := by decide +kernel
theorem dX5_outermostClosed_36 : decode cX5_outermostClosed 36 = .ok (.invokestatic 69, 3) := by decide +kernel
theorem dX5_outermostClosed_39 : decode cX5_outermostClosed 39 = .ok (.istore_n 3, 1) := by decide +kernel
theorem dX5_outermostClosed_40 : decode cX5_outermostClosed 40 = .ok (.iinc 4 1, 3) := by decide +kernel
theorem dX5_outermostClosed_43 : decode cX5_outermostClosed 43 = .ok (.goto (-36), 3) := by decide +kernel
theorem dX5_outermostClosed_46 : decode cX5_outermostClosed 46 = .ok (.iload_n 2, 1) := by decide +kernel
theorem dX5_outermostClosed_47 : decode cX5_outermostClosed 47 = .ok (.ireturn, 1) := by decide +kernel
theorem dX5_boxAtHand_0 : decode cX5_boxAtHand 0 = .ok (.iload_n 1, 1) := by decide +kernel
theorem dX5_boxAtHand_1 : decode cX5_boxAtHand 1 = .ok (.ifCond .eq 18, 3) := by decide +kernel
theorem dX5_boxAtHand_4 : decode cX5_boxAtHand 4 = .ok (.aload_n 0, 1) := by decide +kernel
theorem dX5_boxAtHand_5 : decode cX5_boxAtHand 5 = .ok (.aload_n 0, 1) := by decide +kernel
theorem dX5_boxAtHand_6 : decode cX5_boxAtHand 6 = .ok (.getfield 9, 3) := by decide +kernel
theorem dX5_boxAtHand_9 : decode cX5_boxAtHand 9 = .ok (.iload_n 1, 1) := by decide +kernel
theorem dX5_boxAtHand_10 : decode cX5_boxAtHand 10 = .ok (.invokestatic 69, 3) := by decide +kernel
theorem dX5_boxAtHand_13 : decode cX5_boxAtHand 13 = .ok (.invokevirtual 73, 3) := by decide +kernel
theorem dX5_boxAtHand_16 : decode cX5_boxAtHand 16 = .ok (.ifCond .ne 7, 3) := by decide +kernel
theorem dX5_boxAtHand_19 : decode cX5_boxAtHand 19 = .ok (.iconst 1, 1) := by decide +kernel
theorem dX5_boxAtHand_20 : decode cX5_boxAtHand 20 = .ok (.goto 4, 3) := by decide +kernel
theorem dX5_boxAtHand_23 : decode cX5_boxAtHand 23 = .ok (.iconst 0, 1) := by decide +kernel
theorem dX5_boxAtHand_24 : decode cX5_boxAtHand 24 = .ok (.ireturn, 1) := by decide +kernel
theorem dX5_propAtHand_0 : decode cX5_propAtHand 0 = .ok (.aload_n 0, 1) := by decide +kernel
theorem dX5_propAtHand_1 : decode cX5_propAtHand 1 = .ok (.aload_n 0, 1) := by decide +kernel
theorem dX5_propAtHand_2 : decode cX5_propAtHand 2 = .ok (.getfield 30, 3) := by decide +kernel
theorem dX5_propAtHand_5 : decode cX5_propAtHand 5 = .ok (.iload_n 1, 1) := by decide +kernel
theorem dX5_propAtHand_6 : decode cX5_propAtHand 6 = .ok (.invokestatic 69, 3) := by decide +kernel
theorem dX5_propAtHand_9 : decode cX5_propAtHand 9 = .ok (.invokevirtual 73, 3) := by decide +kernel
theorem dX5_propAtHand_12 : decode cX5_propAtHand 12 = .ok (.ifCond .ne 7, 3) := by decide +kernel
theorem dX5_propAtHand_15 : decode cX5_propAtHand 15 = .ok (.iconst 1, 1) := by decide +kernel
theorem dX5_propAtHand_16 : decode cX5_propAtHand 16 = .ok (.goto 4, 3) := by decide +kernel
theorem dX5_propAtHand_19 : decode cX5_propAtHand 19 = .ok (.iconst 0, 1) := by decide +kernel
theorem dX5_propAtHand_20 : decode cX5_propAtHand 20 = .ok (.ireturn, 1) := by decide +kernel
theorem dX5_clueAtHand_0 : decode cX5_clueAtHand 0 = .ok (.aload_n 0, 1) := by decide +kernel
theorem dX5_clueAtHand_1 : decode cX5_clueAtHand 1 = .ok (.aload_n 0, 1) := by decide +kernel
theorem dX5_clueAtHand_2 : decode cX5_clueAtHand 2 = .ok (.getfield 30, 3) := by decide +kernel
theorem dX5_clueAtHand_5 : decode cX5_clueAtHand 5 = .ok (.aload_n 0, 1) := by decide +kernel
theorem dX5_clueAtHand_6 : decode cX5_clueAtHand 6 = .ok (.getfield 33, 3) := by decide +kernel
theorem dX5_clueAtHand_9 : decode cX5_clueAtHand 9 = .ok (.iload_n 1, 1) := by decide +kernel
theorem dX5_clueAtHand_10 : decode cX5_clueAtHand 10 = .ok (.invokestatic 69, 3) := by decide +kernel
theorem dX5_clueAtHand_13 : decode cX5_clueAtHand 13 = .ok (.invokestatic 69, 3) := by decide +kernel
theorem dX5_clueAtHand_16 : decode cX5_clueAtHand 16 = .ok (.invokevirtual 73, 3) := by decide +kernel
theorem dX5_clueAtHand_19 : decode cX5_clueAtHand 19 = .ok (.ifCond .ne 7, 3) := by decide +kernel
theorem dX5_clueAtHand_22 : decode cX5_clueAtHand 22 = .ok (.iconst 1, 1) := by decide +kernel
theorem dX5_clueAtHand_23 : decode cX5_clueAtHand 23 = .ok (.goto 4, 3) := by decide +kernel
theorem dX5_clueAtHand_26 : decode cX5_clueAtHand 26 = .ok (.iconst 0, 1) := by decide +kernel
theorem dX5_clueAtHand_27 : decode cX5_clueAtHand 27 = .ok (.ireturn, 1) := by decide +kernel
theorem dX5_canBeOpened_0 : decode cX5_canBeOpened 0 = .ok (.aload_n 0, 1) := by decide +kernel
theorem dX5_canBeOpened_1 : decode cX5_canBeOpened 1 = .ok (.iload_n 1, 1) := by decide +kernel
theorem dX5_canBeOpened_2 : decode cX5_canBeOpened 2 = .ok (.invokevirtual 77, 3) := by decide +kernel
theorem dX5_canBeOpened_5 : decode cX5_canBeOpened 5 = .ok (.ifCond .ne 11, 3) := by decide +kernel
theorem dX5_canBeOpened_8 : decode cX5_canBeOpened 8 = .ok (.aload_n 0, 1) := by decide +kernel
theorem dX5_canBeOpened_9 : decode cX5_canBeOpened 9 = .ok (.iload_n 1, 1) := by decide +kernel
theorem dX5_canBeOpened_10 : decode cX5_canBeOpened 10 = .ok (.invokevirtual 81, 3) := by decide +kernel
theorem dX5_canBeOpened_13 : decode cX5_canBeOpened 13 = .ok (.ifCond .ne 5, 3) := by decide +kernel
theorem dX5_canBeOpened_16 : decode cX5_canBeOpened 16 = .ok (.iconst 0, 1) := by decide +kernel
theorem dX5_canBeOpened_17 : decode cX5_canBeOpened 17 = .ok (.ireturn, 1) := by decide +kernel
theorem dX5_canBeOpened_18 : decode cX5_canBeOpened 18 = .ok (.aload_n 0, 1) := by decide +kernel
theorem dX5_canBeOpened_19 : decode cX5_canBeOpened 19 = .ok (.iload_n 1, 1) := by decide +kernel
theorem dX5_canBeOpened_20 : decode cX5_canBeOpened 20 = .ok (.iconst 1, 1) := by decide +kernel
theorem dX5_canBeOpened_21 : decode cX5_canBeOpened 21 = .ok (.invokevirtual 84, 3) := by decide +kernel
theorem dX5_canBeOpened_24 : decode cX5_canBeOpened 24 = .ok (.ifCond .eq 16, 3) := by decide +kernel
theorem dX5_canBeOpened_27 : decode cX5_canBeOpened 27 = .ok (.aload_n 0, 1) := by decide +kernel
theorem dX5_canBeOpened_28 : decode cX5_canBeOpened 28 = .ok (.aload_n 0, 1) := by decide +kernel
theorem dX5_canBeOpened_29 : decode cX5_canBeOpened 29 = .ok (.getfield 18, 3) := by decide +kernel
theorem dX5_canBeOpened_32 : decode cX5_canBeOpened 32 = .ok (.iload_n 1, 1) := by decide +kernel
theorem dX5_canBeOpened_33 : decode cX5_canBeOpened 33 = .ok (.invokestatic 69, 3) := by decide +kernel
theorem dX5_canBeOpened_36 : decode cX5_canBeOpened 36 = .ok (.invokevirtual 88, 3) := by decide +kernel
theorem dX5_canBeOpened_39 : decode cX5_canBeOpened 39 = .ok (.ireturn, 1) := by decide +kernel
theorem dX5_canBeOpened_40 : decode cX5_canBeOpened 40 = .ok (.aload_n 0, 1) := by decide +kernel
theorem dX5_canBeOpened_41 : decode cX5_canBeOpened 41 = .ok (.iload_n 1, 1) := by decide +kernel
theorem dX5_canBeOpened_42 : decode cX5_canBeOpened 42 = .ok (.iconst 3, 1) := by decide +kernel
theorem dX5_canBeOpened_43 : decode cX5_canBeOpened 43 = .ok (.invokevirtual 84, 3) := by decide +kernel
theorem dX5_canBeOpened_46 : decode cX5_canBeOpened 46 = .ok (.ifCond .eq 29, 3) := by decide +kernel
theorem dX5_canBeOpened_49 : decode cX5_canBeOpened 49 = .ok (.aload_n 0, 1) := by decide +kernel
theorem dX5_canBeOpened_50 : decode cX5_canBeOpened 50 = .ok (.getfield 30, 3) := by decide +kernel
theorem dX5_canBeOpened_53 : decode cX5_canBeOpened 53 = .ok (.aload_n 0, 1) := by decide +kernel
theorem dX5_canBeOpened_54 : decode cX5_canBeOpened 54 = .ok (.getfield 18, 3) := by decide +kernel
theorem dX5_canBeOpened_57 : decode cX5_canBeOpened 57 = .ok (.iload_n 1, 1) := by decide +kernel
theorem dX5_canBeOpened_58 : decode cX5_canBeOpened 58 = .ok (.invokestatic 69, 3) := by decide +kernel
theorem dX5_canBeOpened_61 : decode cX5_canBeOpened 61 = .ok (.invokestatic 69, 3) := by decide +kernel
theorem dX5_canBeOpened_64 : decode cX5_canBeOpened 64 = .ok (.aload_n 0, 1) := by decide +kernel
theorem dX5_canBeOpened_65 : decode cX5_canBeOpened 65 = .ok (.getfield 9, 3) := by decide +kernel
theorem dX5_canBeOpened_68 : decode cX5_canBeOpened 68 = .ok (.iload_n 1, 1) := by decide +kernel
theorem dX5_canBeOpened_69 : decode cX5_canBeOpened 69 = .ok (.invokestatic 69, 3) := by decide +kernel
theorem dX5_canBeOpened_72 : decode cX5_canBeOpened 72 = .ok (.if_icmp .ne 7, 3) := by decide +kernel
theorem dX5_canBeOpened_75 : decode cX5_canBeOpened 75 = .ok (.iconst 1, 1) := by decide +kernel
theorem dX5_canBeOpened_76 : decode cX5_canBeOpened 76 = .ok (.goto 4, 3) := by decide +kernel
theorem dX5_canBeOpened_79 : decode cX5_canBeOpened 79 = .ok (.iconst 0, 1) := by decide +kernel
theorem dX5_canBeOpened_80 : decode cX5_canBeOpened 80 = .ok (.ireturn, 1) := by decide +kernel
theorem dX5_propsIn_0 : decode cX5_propsIn 0 = .ok (.iconst 0, 1) := by decide +kernel
theorem dX5_propsIn_1 : decode cX5_propsIn 1 = .ok (.istore_n 2, 1) := by decide +kernel
theorem dX5_propsIn_2 : decode cX5_propsIn 2 = .ok (.iconst 0, 1) := by decide +kernel
theorem dX5_propsIn_3 : decode cX5_propsIn 3 = .ok (.istore_n 3, 1) := by decide +kernel
theorem dX5_propsIn_4 : decode cX5_propsIn 4 = .ok (.iload_n 3, 1) := by decide +kernel
theorem dX5_propsIn_5 : decode cX5_propsIn 5 = .ok (.aload_n 0, 1) := by decide +kernel
theorem dX5_propsIn_6 : decode cX5_propsIn 6 = .ok (.getfield 57, 3) := by decide +kernel
theorem dX5_propsIn_9 : decode cX5_propsIn 9 = .ok (.if_icmp .ge 24, 3) := by decide +kernel
theorem dX5_propsIn_12 : decode cX5_propsIn 12 = .ok (.aload_n 0, 1) := by decide +kernel
theorem dX5_propsIn_13 : decode cX5_propsIn 13 = .ok (.getfield 30, 3) := by decide +kernel
theorem dX5_propsIn_16 : decode cX5_propsIn 16 = .ok (.iload_n 3, 1) := by decide +kernel
theorem dX5_propsIn_17 : decode cX5_propsIn 17 = .ok (.invokestatic 69, 3) := by decide +kernel
theorem dX5_propsIn_20 : decode cX5_propsIn 20 = .ok (.iload_n 1, 1) := by decide +kernel
theorem dX5_propsIn_21 : decode cX5_propsIn 21 = .ok (.if_icmp .ne 6, 3) := by decide +kernel
theorem dX5_propsIn_24 : decode cX5_propsIn 24 = .ok (.iinc 2 1, 3) := by decide +kernel
theorem dX5_propsIn_27 : decode cX5_propsIn 27 = .ok (.iinc 3 1, 3) := by decide +kernel
theorem dX5_propsIn_30 : decode cX5_propsIn 30 = .ok (.goto (-26), 3) := by decide +kernel
theorem dX5_propsIn_33 : decode cX5_propsIn 33 = .ok (.iload_n 2, 1) := by decide +kernel
theorem dX5_propsIn_34 : decode cX5_propsIn 34 = .ok (.ireturn, 1) := by decide +kernel
theorem dX5_heldProps_0 : decode cX5_heldProps 0 = .ok (.aload_n 0, 1) := by decide +kernel
theorem dX5_heldProps_1 : decode cX5_heldProps 1 = .ok (.iconst (-1), 1) := by decide +kernel
theorem dX5_heldProps_2 : decode cX5_heldProps 2 = .ok (.invokevirtual 91, 3) := by decide +kernel
theorem dX5_heldProps_5 : decode cX5_heldProps 5 = .ok (.ireturn, 1) := by decide +kernel
theorem dX5_heldBits_0 : decode cX5_heldBits 0 = .ok (.iconst 0, 1) := by decide +kernel
theorem dX5_heldBits_1 : decode cX5_heldBits 1 = .ok (.istore_n 1, 1) := by decide +kernel
theorem dX5_heldBits_2 : decode cX5_heldBits 2 = .ok (.iconst 0, 1) := by decide +kernel
theorem dX5_heldBits_3 : decode cX5_heldBits 3 = .ok (.istore_n 2, 1) := by decide +kernel
theorem dX5_heldBits_4 : decode cX5_heldBits 4 = .ok (.iload_n 2, 1) := by decide +kernel
theorem dX5_heldBits_5 : decode cX5_heldBits 5 = .ok (.aload_n 0, 1) := by decide +kernel
theorem dX5_heldBits_6 : decode cX5_heldBits 6 = .ok (.getfield 57, 3) := by decide +kernel
theorem dX5_heldBits_9 : decode cX5_heldBits 9 = .ok (.if_icmp .ge 23, 3) := by decide +kernel
theorem dX5_heldBits_12 : decode cX5_heldBits 12 = .ok (.aload_n 0, 1) := by decide +kernel
theorem dX5_heldBits_13 : decode cX5_heldBits 13 = .ok (.iload_n 2, 1) := by decide +kernel
theorem dX5_heldBits_14 : decode cX5_heldBits 14 = .ok (.invokevirtual 88, 3) := by decide +kernel
theorem dX5_heldBits_17 : decode cX5_heldBits 17 = .ok (.ifCond .eq 9, 3) := by decide +kernel
theorem dX5_heldBits_20 : decode cX5_heldBits 20 = .ok (.iload_n 1, 1) := by decide +kernel
theorem dX5_heldBits_21 : decode cX5_heldBits 21 = .ok (.iconst 1, 1) := by decide +kernel
theorem dX5_heldBits_22 : decode cX5_heldBits 22 = .ok (.iload_n 2, 1) := by decide +kernel
theorem dX5_heldBits_23 : decode cX5_heldBits 23 = .ok (.ishl, 1) := by decide +kernel
theorem dX5_heldBits_24 : decode cX5_heldBits 24 = .ok (.ior, 1) := by decide +kernel
theorem dX5_heldBits_25 : decode cX5_heldBits 25 = .ok (.istore_n 1, 1) := by decide +kernel
theorem dX5_heldBits_26 : decode cX5_heldBits 26 = .ok (.iinc 2 1, 3) := by decide +kernel
theorem dX5_heldBits_29 : decode cX5_heldBits 29 = .ok (.goto (-25), 3) := by decide +kernel
theorem dX5_heldBits_32 : decode cX5_heldBits 32 = .ok (.iload_n 1, 1) := by decide +kernel
theorem dX5_heldBits_33 : decode cX5_heldBits 33 = .ok (.ireturn, 1) := by decide +kernel
theorem dX5_boxesIn_0 : decode cX5_boxesIn 0 = .ok (.iconst 0, 1) := by decide +kernel
theorem dX5_boxesIn_1 : decode cX5_boxesIn 1 = .ok (.istore_n 2, 1) := by decide +kernel
theorem dX5_boxesIn_2 : decode cX5_boxesIn 2 = .ok (.iconst 1, 1) := by decide +kernel
theorem dX5_boxesIn_3 : decode cX5_boxesIn 3 = .ok (.istore_n 3, 1) := by decide +kernel
theorem dX5_boxesIn_4 : decode cX5_boxesIn 4 = .ok (.iload_n 3, 1) := by decide +kernel
theorem dX5_boxesIn_5 : decode cX5_boxesIn 5 = .ok (.aload_n 0, 1) := by decide +kernel
theorem dX5_boxesIn_6 : decode cX5_boxesIn 6 = .ok (.getfield 45, 3) := by decide +kernel
theorem dX5_boxesIn_9 : decode cX5_boxesIn 9 = .ok (.if_icmp .ge 24, 3) := by decide +kernel
theorem dX5_boxesIn_12 : decode cX5_boxesIn 12 = .ok (.aload_n 0, 1) := by decide +kernel
theorem dX5_boxesIn_13 : decode cX5_boxesIn 13 = .ok (.getfield 9, 3) := by decide +kernel
theorem dX5_boxesIn_16 : decode cX5_boxesIn 16 = .ok (.iload_n 3, 1) := by decide +kernel
theorem dX5_boxesIn_17 : decode cX5_boxesIn 17 = .ok (.invokestatic 69, 3) := by decide +kernel
theorem dX5_boxesIn_20 : decode cX5_boxesIn 20 = .ok (.iload_n 1, 1) := by decide +kernel
theorem dX5_boxesIn_21 : decode cX5_boxesIn 21 = .ok (.if_icmp .ne 6, 3) := by decide +kernel
theorem dX5_boxesIn_24 : decode cX5_boxesIn 24 = .ok (.iinc 2 1, 3) := by decide +kernel
theorem dX5_boxesIn_27 : decode cX5_boxesIn 27 = .ok (.iinc 3 1, 3) := by decide +kernel
theorem dX5_boxesIn_30 : decode cX5_boxesIn 30 = .ok (.goto (-26), 3) := by decide +kernel
theorem dX5_boxesIn_33 : decode cX5_boxesIn 33 = .ok (.iload_n 2, 1) := by decide +kernel
theorem dX5_boxesIn_34 : decode cX5_boxesIn 34 = .ok (.ireturn, 1) := by decide +kernel
theorem dX5_cluesOn_0 : decode cX5_cluesOn 0 = .ok (.iconst 0, 1) := by decide +kernel
theorem dX5_cluesOn_1 : decode cX5_cluesOn 1 = .ok (.istore_n 2, 1) := by decide +kernel
theorem dX5_cluesOn_2 : decode cX5_cluesOn 2 = .ok (.iconst 0, 1) := by decide +kernel
theorem dX5_cluesOn_3 : decode cX5_cluesOn 3 = .ok (.istore_n 3, 1) := by decide +kernel
theorem dX5_cluesOn_4 : decode cX5_cluesOn 4 = .ok (.iload_n 3, 1) := by decide +kernel
theorem dX5_cluesOn_5 : decode cX5_cluesOn 5 = .ok (.aload_n 0, 1) := by decide +kernel
theorem dX5_cluesOn_6 : decode cX5_cluesOn 6 = .ok (.getfield 60, 3) := by decide +kernel
theorem dX5_cluesOn_9 : decode cX5_cluesOn 9 = .ok (.if_icmp .ge 24, 3) := by decide +kernel
theorem dX5_cluesOn_12 : decode cX5_cluesOn 12 = .ok (.aload_n 0, 1) := by decide +kernel
theorem dX5_cluesOn_13 : decode cX5_cluesOn 13 = .ok (.getfield 33, 3) := by decide +kernel
theorem dX5_cluesOn_16 : decode cX5_cluesOn 16 = .ok (.iload_n 3, 1) := by decide +kernel
theorem dX5_cluesOn_17 : decode cX5_cluesOn 17 = .ok (.invokestatic 69, 3) := by decide +kernel
theorem dX5_cluesOn_20 : decode cX5_cluesOn 20 = .ok (.iload_n 1, 1) := by decide +kernel
theorem dX5_cluesOn_21 : decode cX5_cluesOn 21 = .ok (.if_icmp .ne 6, 3) := by decide +kernel
theorem dX5_cluesOn_24 : decode cX5_cluesOn 24 = .ok (.iinc 2 1, 3) := by decide +kernel
theorem dX5_cluesOn_27 : decode cX5_cluesOn 27 = .ok (.iinc 3 1, 3) := by decide +kernel
theorem dX5_cluesOn_30 : decode cX5_cluesOn 30 = .ok (.goto (-26), 3) := by decide +kernel
theorem dX5_cluesOn_33 : decode cX5_cluesOn 33 = .ok (.iload_n 2, 1) := by decide +kernel
theorem dX5_cluesOn_34 : decode cX5_cluesOn 34 = .ok (.ireturn, 1) := by decide +kernel
theorem dX5_locksWith_0 : decode cX5_locksWith 0 = .ok (.iconst 0, 1) := by decide +kernel
theorem dX5_locksWith_1 : decode cX5_locksWith 1 = .ok (.istore_n 2, 1) := by decide +kernel
theorem dX5_locksWith_2 : decode cX5_locksWith 2 = .ok (.iconst 1, 1) := by decide +kernel
theorem dX5_locksWith_3 : decode cX5_locksWith 3 = .ok (.istore_n 3, 1) := by decide +kernel
theorem dX5_locksWith_4 : decode cX5_locksWith 4 = .ok (.iload_n 3, 1) := by decide +kernel
theorem dX5_locksWith_5 : decode cX5_locksWith 5 = .ok (.aload_n 0, 1) := by decide +kernel
theorem dX5_locksWith_6 : decode cX5_locksWith 6 = .ok (.getfield 45, 3) := by decide +kernel
theorem dX5_locksWith_9 : decode cX5_locksWith 9 = .ok (.if_icmp .ge 42, 3) := by decide +kernel
theorem dX5_locksWith_12 : decode cX5_locksWith 12 = .ok (.aload_n 0, 1) := by decide +kernel
theorem dX5_locksWith_13 : decode cX5_locksWith 13 = .ok (.iload_n 3, 1) := by decide +kernel
theorem dX5_locksWith_14 : decode cX5_locksWith 14 = .ok (.iconst 1, 1) := by decide +kernel
theorem dX5_locksWith_15 : decode cX5_locksWith 15 = .ok (.invokevirtual 84, 3) := by decide +kernel
theorem dX5_locksWith_18 : decode cX5_locksWith 18 = .ok (.ifCond .ne 12, 3) := by decide +kernel
theorem dX5_locksWith_21 : decode cX5_locksWith 21 = .ok (.aload_n 0, 1) := by decide +kernel
theorem dX5_locksWith_22 : decode cX5_locksWith 22 = .ok (.iload_n 3, 1) := by decide +kernel
theorem dX5_locksWith_23 : decode cX5_locksWith 23 = .ok (.iconst 3, 1) := by decide +kernel
theorem dX5_locksWith_24 : decode cX5_locksWith 24 = .ok (.invokevirtual 84, 3) := by decide +kernel
theorem dX5_locksWith_27 : decode cX5_locksWith 27 = .ok (.ifCond .eq 18, 3) := by decide +kernel
theorem dX5_locksWith_30 : decode cX5_locksWith 30 = .ok (.aload_n 0, 1) := by decide +kernel
theorem dX5_locksWith_31 : decode cX5_locksWith 31 = .ok (.getfield 18, 3) := by decide +kernel
theorem dX5_locksWith_34 : decode cX5_locksWith 34 = .ok (.iload_n 3, 1) := by decide +kernel
theorem dX5_locksWith_35 : decode cX5_locksWith 35 = .ok (.invokestatic 69, 3) := by decide +kernel
theorem dX5_locksWith_38 : decode cX5_locksWith 38 = .ok (.iload_n 1, 1) := by decide +kernel
theorem dX5_locksWith_39 : decode cX5_locksWith 39 = .ok (.if_icmp .ne 6, 3) := by decide +kernel
theorem dX5_locksWith_42 : decode cX5_locksWith 42 = .ok (.iinc 2 1, 3) := by decide +kernel
theorem dX5_locksWith_45 : decode cX5_locksWith 45 = .ok (.iinc 3 1, 3) := by decide +kernel
theorem dX5_locksWith_48 : decode cX5_locksWith 48 = .ok (.goto (-44), 3) := by decide +kernel
theorem dX5_locksWith_51 : decode cX5_locksWith 51 = .ok (.iload_n 2, 1) := by decide +kernel
theorem dX5_locksWith_52 : decode cX5_locksWith 52 = .ok (.ireturn, 1) := by decide +kernel
theorem dX5_propsAway_0 : decode cX5_propsAway 0 = .ok (.iconst 0, 1) := by decide +kernel
theorem dX5_propsAway_1 : decode cX5_propsAway 1 = .ok (.istore_n 1, 1) := by decide +kernel
theorem dX5_propsAway_2 : decode cX5_propsAway 2 = .ok (.iconst 0, 1) := by decide +kernel
theorem dX5_propsAway_3 : decode cX5_propsAway 3 = .ok (.istore_n 2, 1) := by decide +kernel
theorem dX5_propsAway_4 : decode cX5_propsAway 4 = .ok (.iload_n 2, 1) := by decide +kernel
theorem dX5_propsAway_5 : decode cX5_propsAway 5 = .ok (.aload_n 0, 1) := by decide +kernel
theorem dX5_propsAway_6 : decode cX5_propsAway 6 = .ok (.getfield 57, 3) := by decide +kernel
theorem dX5_propsAway_9 : decode cX5_propsAway 9 = .ok (.if_icmp .ge 31, 3) := by decide +kernel
theorem dX5_propsAway_12 : decode cX5_propsAway 12 = .ok (.aload_n 0, 1) := by decide +kernel
theorem dX5_propsAway_13 : decode cX5_propsAway 13 = .ok (.getfield 30, 3) := by decide +kernel
theorem dX5_propsAway_16 : decode cX5_propsAway 16 = .ok (.iload_n 2, 1) := by decide +kernel
theorem dX5_propsAway_17 : decode cX5_propsAway 17 = .ok (.invokestatic 69, 3) := by decide +kernel
theorem dX5_propsAway_20 : decode cX5_propsAway 20 = .ok (.aload_n 0, 1) := by decide +kernel
theorem dX5_propsAway_21 : decode cX5_propsAway 21 = .ok (.getfield 27, 3) := by decide +kernel
theorem dX5_propsAway_24 : decode cX5_propsAway 24 = .ok (.iload_n 2, 1) := by decide +kernel
theorem dX5_propsAway_25 : decode cX5_propsAway 25 = .ok (.invokestatic 69, 3) := by decide +kernel
theorem dX5_propsAway_28 : decode cX5_propsAway 28 = .ok (.if_icmp .eq 6, 3) := by decide +kernel
theorem dX5_propsAway_31 : decode cX5_propsAway 31 = .ok (.iinc 1 1, 3) := by decide +kernel
theorem dX5_propsAway_34 : decode cX5_propsAway 34 = .ok (.iinc 2 1, 3) := by decide +kernel
theorem dX5_propsAway_37 : decode cX5_propsAway 37 = .ok (.goto (-33), 3) := by decide +kernel
theorem dX5_propsAway_40 : decode cX5_propsAway 40 = .ok (.iload_n 1, 1) := by decide +kernel
theorem dX5_propsAway_41 : decode cX5_propsAway 41 = .ok (.ireturn, 1) := by decide +kernel
theorem dX5_openBoxes_0 : decode cX5_openBoxes 0 = .ok (.iconst 0, 1) := by decide +kernel
theorem dX5_openBoxes_1 : decode cX5_openBoxes 1 = .ok (.istore_n 1, 1) := by decide +kernel
theorem dX5_openBoxes_2 : decode cX5_openBoxes 2 = .ok (.iconst 1, 1) := by decide +kernel
theorem dX5_openBoxes_3 : decode cX5_openBoxes 3 = .ok (.istore_n 2, 1) := by decide +kernel
theorem dX5_openBoxes_4 : decode cX5_openBoxes 4 = .ok (.iload_n 2, 1) := by decide +kernel
theorem dX5_openBoxes_5 : decode cX5_openBoxes 5 = .ok (.aload_n 0, 1) := by decide +kernel
theorem dX5_openBoxes_6 : decode cX5_openBoxes 6 = .ok (.getfield 45, 3) := by decide +kernel
theorem dX5_openBoxes_9 : decode cX5_openBoxes 9 = .ok (.if_icmp .ge 20, 3) := by decide +kernel
theorem dX5_openBoxes_12 : decode cX5_openBoxes 12 = .ok (.aload_n 0, 1) := by decide +kernel
theorem dX5_openBoxes_13 : decode cX5_openBoxes 13 = .ok (.iload_n 2, 1) := by decide +kernel
theorem dX5_openBoxes_14 : decode cX5_openBoxes 14 = .ok (.invokevirtual 77, 3) := by decide +kernel
theorem dX5_openBoxes_17 : decode cX5_openBoxes 17 = .ok (.ifCond .eq 6, 3) := by decide +kernel
theorem dX5_openBoxes_20 : decode cX5_openBoxes 20 = .ok (.iinc 1 1, 3) := by decide +kernel
theorem dX5_openBoxes_23 : decode cX5_openBoxes 23 = .ok (.iinc 2 1, 3) := by decide +kernel
theorem dX5_openBoxes_26 : decode cX5_openBoxes 26 = .ok (.goto (-22), 3) := by decide +kernel
theorem dX5_openBoxes_29 : decode cX5_openBoxes 29 = .ok (.iload_n 1, 1) := by decide +kernel
theorem dX5_openBoxes_30 : decode cX5_openBoxes 30 = .ok (.ireturn, 1) := by decide +kernel
theorem dX5_paleClues_0 : decode cX5_paleClues 0 = .ok (.iconst 0, 1) := by decide +kernel
theorem dX5_paleClues_1 : decode cX5_paleClues 1 = .ok (.istore_n 1, 1) := by decide +kernel
theorem dX5_paleClues_2 : decode cX5_paleClues 2 = .ok (.iconst 0, 1) := by decide +kernel
theorem dX5_paleClues_3 : decode cX5_paleClues 3 = .ok (.istore_n 2, 1) := by decide +kernel
theorem dX5_paleClues_4 : decode cX5_paleClues 4 = .ok (.iload_n 2, 1) := by decide +kernel
theorem dX5_paleClues_5 : decode cX5_paleClues 5 = .ok (.aload_n 0, 1) := by decide +kernel
theorem dX5_paleClues_6 : decode cX5_paleClues 6 = .ok (.getfield 60, 3) := by decide +kernel
theorem dX5_paleClues_9 : decode cX5_paleClues 9 = .ok (.if_icmp .ge 20, 3) := by decide +kernel
theorem dX5_paleClues_12 : decode cX5_paleClues 12 = .ok (.aload_n 0, 1) := by decide +kernel
theorem dX5_paleClues_13 : decode cX5_paleClues 13 = .ok (.iload_n 2, 1) := by decide +kernel
theorem dX5_paleClues_14 : decode cX5_paleClues 14 = .ok (.invokevirtual 94, 3) := by decide +kernel
theorem dX5_paleClues_17 : decode cX5_paleClues 17 = .ok (.ifCond .eq 6, 3) := by decide +kernel
theorem dX5_paleClues_20 : decode cX5_paleClues 20 = .ok (.iinc 1 1, 3) := by decide +kernel
theorem dX5_paleClues_23 : decode cX5_paleClues 23 = .ok (.iinc 2 1, 3) := by decide +kernel
theorem dX5_paleClues_26 : decode cX5_paleClues 26 = .ok (.goto (-22), 3) := by decide +kernel
theorem dX5_paleClues_29 : decode cX5_paleClues 29 = .ok (.iload_n 1, 1) := by decide +kernel
theorem dX5_paleClues_30 : decode cX5_paleClues 30 = .ok (.ireturn, 1) := by decide +kernel
theorem dX5_isPale_0 : decode cX5_isPale 0 = .ok (.aload_n 0, 1) := by decide +kernel
theorem dX5_isPale_1 : decode cX5_isPale 1 = .ok (.getfield 42, 3) := by decide +kernel
theorem dX5_isPale_4 : decode cX5_isPale 4 = .ok (.iload_n 1, 1) := by decide +kernel
theorem dX5_isPale_5 : decode cX5_isPale 5 = .ok (.invokestatic 69, 3) := by decide +kernel
theorem dX5_isPale_8 : decode cX5_isPale 8 = .ok (.iconst 3, 1) := by decide +kernel
theorem dX5_isPale_9 : decode cX5_isPale 9 = .ok (.if_icmp .gt 7, 3) := by decide +kernel
theorem dX5_isPale_12 : decode cX5_isPale 12 = .ok (.iconst 1, 1) := by decide +kernel
theorem dX5_isPale_13 : decode cX5_isPale 13 = .ok (.goto 4, 3) := by decide +kernel
theorem dX5_isPale_16 : decode cX5_isPale 16 = .ok (.iconst 0, 1) := by decide +kernel
theorem dX5_isPale_17 : decode cX5_isPale 17 = .ok (.ireturn, 1) := by decide +kernel
theorem dX5_inkLack_0 : decode cX5_inkLack 0 = .ok (.bipush 9, 2) := by decide +kernel
theorem dX5_inkLack_2 : decode cX5_inkLack 2 = .ok (.aload_n 0, 1) := by decide +kernel
theorem dX5_inkLack_3 : decode cX5_inkLack 3 = .ok (.getfield 42, 3) := by decide +kernel
theorem dX5_inkLack_6 : decode cX5_inkLack 6 = .ok (.iload_n 1, 1) := by decide +kernel
theorem dX5_inkLack_7 : decode cX5_inkLack 7 = .ok (.invokestatic 69, 3) := by decide +kernel
theorem dX5_inkLack_10 : decode cX5_inkLack 10 = .ok (.isub, 1) := by decide +kernel
theorem dX5_inkLack_11 : decode cX5_inkLack 11 = .ok (.ireturn, 1) := by decide +kernel
theorem dX5_fade_0 : decode cX5_fade 0 = .ok (.iconst 0, 1) := by decide +kernel
theorem dX5_fade_1 : decode cX5_fade 1 = .ok (.istore_n 2, 1) := by decide +kernel
theorem dX5_fade_2 : decode cX5_fade 2 = .ok (.iload_n 2, 1) := by decide +kernel
theorem dX5_fade_3 : decode cX5_fade 3 = .ok (.aload_n 0, 1) := by decide +kernel
theorem dX5_fade_4 : decode cX5_fade 4 = .ok (.getfield 60, 3) := by decide +kernel
theorem dX5_fade_7 : decode cX5_fade 7 = .ok (.if_icmp .ge 39, 3) := by decide +kernel
theorem dX5_fade_10 : decode cX5_fade 10 = .ok (.aload_n 0, 1) := by decide +kernel
theorem dX5_fade_11 : decode cX5_fade 11 = .ok (.iload_n 2, 1) := by decide +kernel
theorem dX5_fade_12 : decode cX5_fade 12 = .ok (.invokevirtual 97, 3) := by decide +kernel
theorem dX5_fade_15 : decode cX5_fade 15 = .ok (.ifCond .eq 25, 3) := by decide +kernel
theorem dX5_fade_18 : decode cX5_fade 18 = .ok (.aload_n 0, 1) := by decide +kernel
theorem dX5_fade_19 : decode cX5_fade 19 = .ok (.getfield 42, 3) := by decide +kernel
theorem dX5_fade_22 : decode cX5_fade 22 = .ok (.iload_n 2, 1) := by decide +kernel
theorem dX5_fade_23 : decode cX5_fade 23 = .ok (.iconst 0, 1) := by decide +kernel
theorem dX5_fade_24 : decode cX5_fade 24 = .ok (.aload_n 0, 1) := by decide +kernel
theorem dX5_fade_25 : decode cX5_fade 25 = .ok (.getfield 42, 3) := by decide +kernel
theorem dX5_fade_28 : decode cX5_fade 28 = .ok (.iload_n 2, 1) := by decide +kernel
theorem dX5_fade_29 : decode cX5_fade 29 = .ok (.invokestatic 69, 3) := by decide +kernel
theorem dX5_fade_32 : decode cX5_fade 32 = .ok (.iload_n 1, 1) := by decide +kernel
theorem dX5_fade_33 : decode cX5_fade 33 = .ok (.isub, 1) := by decide +kernel
theorem dX5_fade_34 : decode cX5_fade 34 = .ok (.invokestatic 100, 3) := by decide +kernel
theorem dX5_fade_37 : decode cX5_fade 37 = .ok (.invokestatic 49, 3) := by decide +kernel
theorem dX5_fade_40 : decode cX5_fade 40 = .ok (.iinc 2 1, 3) := by decide +kernel
theorem dX5_fade_43 : decode cX5_fade 43 = .ok (.goto (-41), 3) := by decide +kernel
theorem dX5_fade_46 : decode cX5_fade 46 = .ok (.return_, 1) := by decide +kernel
theorem dX5_clueDigit_0 : decode cX5_clueDigit 0 = .ok (.aload_n 0, 1) := by decide +kernel
theorem dX5_clueDigit_1 : decode cX5_clueDigit 1 = .ok (.getfield 18, 3) := by decide +kernel
theorem dX5_clueDigit_4 : decode cX5_clueDigit 4 = .ok (.aload_n 0, 1) := by decide +kernel
theorem dX5_clueDigit_5 : decode cX5_clueDigit 5 = .ok (.getfield 36, 3) := by decide +kernel
theorem dX5_clueDigit_8 : decode cX5_clueDigit 8 = .ok (.iload_n 1, 1) := by decide +kernel
theorem dX5_clueDigit_9 : decode cX5_clueDigit 9 = .ok (.invokestatic 69, 3) := by decide +kernel
theorem dX5_clueDigit_12 : decode cX5_clueDigit 12 = .ok (.invokestatic 69, 3) := by decide +kernel
theorem dX5_clueDigit_15 : decode cX5_clueDigit 15 = .ok (.istore_n 2, 1) := by decide +kernel
theorem dX5_clueDigit_16 : decode cX5_clueDigit 16 = .ok (.aload_n 0, 1) := by decide +kernel
theorem dX5_clueDigit_17 : decode cX5_clueDigit 17 = .ok (.getfield 39, 3) := by decide +kernel
theorem dX5_clueDigit_20 : decode cX5_clueDigit 20 = .ok (.iload_n 1, 1) := by decide +kernel
theorem dX5_clueDigit_21 : decode cX5_clueDigit 21 = .ok (.invokestatic 69, 3) := by decide +kernel
theorem dX5_clueDigit_24 : decode cX5_clueDigit 24 = .ok (.tableswitch 53 0 2 #[28, 37, 45], 28) := by decide +kernel
theorem dX5_clueDigit_52 : decode cX5_clueDigit 52 = .ok (.iload_n 2, 1) := by decide +kernel
theorem dX5_clueDigit_53 : decode cX5_clueDigit 53 = .ok (.sipush 1000, 3) := by decide +kernel
theorem dX5_clueDigit_56 : decode cX5_clueDigit 56 = .ok (.idiv, 1) := by decide +kernel
theorem dX5_clueDigit_57 : decode cX5_clueDigit 57 = .ok (.bipush 10, 2) := by decide +kernel
theorem dX5_clueDigit_59 : decode cX5_clueDigit 59 = .ok (.irem, 1) := by decide +kernel
theorem dX5_clueDigit_60 : decode cX5_clueDigit 60 = .ok (.ireturn, 1) := by decide +kernel
theorem dX5_clueDigit_61 : decode cX5_clueDigit 61 = .ok (.iload_n 2, 1) := by decide +kernel
theorem dX5_clueDigit_62 : decode cX5_clueDigit 62 = .ok (.bipush 100, 2) := by decide +kernel
theorem dX5_clueDigit_64 : decode cX5_clueDigit 64 = .ok (.idiv, 1) := by decide +kernel
theorem dX5_clueDigit_65 : decode cX5_clueDigit 65 = .ok (.bipush 10, 2) := by decide +kernel
theorem dX5_clueDigit_67 : decode cX5_clueDigit 67 = .ok (.irem, 1) := by decide +kernel
theorem dX5_clueDigit_68 : decode cX5_clueDigit 68 = .ok (.ireturn, 1) := by decide +kernel
theorem dX5_clueDigit_69 : decode cX5_clueDigit 69 = .ok (.iload_n 2, 1) := by decide +kernel
theorem dX5_clueDigit_70 : decode cX5_clueDigit 70 = .ok (.bipush 10, 2) := by decide +kernel
theorem dX5_clueDigit_72 : decode cX5_clueDigit 72 = .ok (.idiv, 1) := by decide +kernel
theorem dX5_clueDigit_73 : decode cX5_clueDigit 73 = .ok (.bipush 10, 2) := by decide +kernel
theorem dX5_clueDigit_75 : decode cX5_clueDigit 75 = .ok (.irem, 1) := by decide +kernel
theorem dX5_clueDigit_76 : decode cX5_clueDigit 76 = .ok (.ireturn, 1) := by decide +kernel
theorem dX5_clueDigit_77 : decode cX5_clueDigit 77 = .ok (.iload_n 2, 1) := by decide +kernel
theorem dX5_clueDigit_78 : decode cX5_clueDigit 78 = .ok (.bipush 10, 2) := by decide +kernel
theorem dX5_clueDigit_80 : decode cX5_clueDigit 80 = .ok (.irem, 1) := by decide +kernel
theorem dX5_clueDigit_81 : decode cX5_clueDigit 81 = .ok (.ireturn, 1) := by decide +kernel
theorem dX5_readingMinutes_0 : decode cX5_readingMinutes 0 = .ok (.iconst 3, 1) := by decide +kernel
theorem dX5_readingMinutes_1 : decode cX5_readingMinutes 1 = .ok (.aload_n 0, 1) := by decide +kernel
theorem dX5_readingMinutes_2 : decode cX5_readingMinutes 2 = .ok (.getfield 66, 3) := by decide +kernel
theorem dX5_readingMinutes_5 : decode cX5_readingMinutes 5 = .ok (.invokestatic 106, 3) := by decide +kernel
theorem dX5_readingMinutes_8 : decode cX5_readingMinutes 8 = .ok (.aload_n 0, 1) := by decide +kernel
theorem dX5_readingMinutes_9 : decode cX5_readingMinutes 9 = .ok (.iload_n 1, 1) := by decide +kernel
theorem dX5_readingMinutes_10 : decode cX5_readingMinutes 10 = .ok (.invokevirtual 94, 3) := by decide +kernel
theorem dX5_readingMinutes_13 : decode cX5_readingMinutes 13 = .ok (.ifCond .eq 7, 3) := by decide +kernel
theorem dX5_readingMinutes_16 : decode cX5_readingMinutes 16 = .ok (.iconst 2, 1) := by decide +kernel
theorem dX5_readingMinutes_17 : decode cX5_readingMinutes 17 = .ok (.goto 4, 3) := by decide +kernel
theorem dX5_readingMinutes_20 : decode cX5_readingMinutes 20 = .ok (.iconst 1, 1) := by decide +kernel
theorem dX5_readingMinutes_21 : decode cX5_readingMinutes 21 = .ok (.imul, 1) := by decide +kernel
theorem dX5_readingMinutes_22 : decode cX5_readingMinutes 22 = .ok (.ireturn, 1) := by decide +kernel
theorem dX5_learnFromClue_0 : decode cX5_learnFromClue 0 = .ok (.aload_n 0, 1) := by decide +kernel
theorem dX5_learnFromClue_1 : decode cX5_learnFromClue 1 = .ok (.aload_n 0, 1) := by decide +kernel
theorem dX5_learnFromClue_2 : decode cX5_learnFromClue 2 = .ok (.getfield 36, 3) := by decide +kernel
theorem dX5_learnFromClue_5 : decode cX5_learnFromClue 5 = .ok (.iload_n 1, 1) := by decide +kernel
theorem dX5_learnFromClue_6 : decode cX5_learnFromClue 6 = .ok (.invokestatic 69, 3) := by decide +kernel
theorem dX5_learnFromClue_9 : decode cX5_learnFromClue 9 = .ok (.aload_n 0, 1) := by decide +kernel
theorem dX5_learnFromClue_10 : decode cX5_learnFromClue 10 = .ok (.getfield 39, 3) := by decide +kernel
theorem dX5_learnFromClue_13 : decode cX5_learnFromClue 13 = .ok (.iload_n 1, 1) := by decide +kernel
theorem dX5_learnFromClue_14 : decode cX5_learnFromClue 14 = .ok (.invokestatic 69, 3) := by decide +kernel
theorem dX5_learnFromClue_17 : decode cX5_learnFromClue 17 = .ok (.invokevirtual 109, 3) := by decide +kernel
theorem dX5_learnFromClue_20 : decode cX5_learnFromClue 20 = .ok (.aload_n 0, 1) := by decide +kernel
theorem dX5_learnFromClue_21 : decode cX5_learnFromClue 21 = .ok (.getfield 42, 3) := by decide +kernel
theorem dX5_learnFromClue_24 : decode cX5_learnFromClue 24 = .ok (.iload_n 1, 1) := by decide +kernel
theorem dX5_learnFromClue_25 : decode cX5_learnFromClue 25 = .ok (.iconst 0, 1) := by decide +kernel
theorem dX5_learnFromClue_26 : decode cX5_learnFromClue 26 = .ok (.aload_n 0, 1) := by decide +kernel
theorem dX5_learnFromClue_27 : decode cX5_learnFromClue 27 = .ok (.getfield 42, 3) := by decide +kernel
theorem dX5_learnFromClue_30 : decode cX5_learnFromClue 30 = .ok (.iload_n 1, 1) := by decide +kernel
theorem dX5_learnFromClue_31 : decode cX5_learnFromClue 31 = .ok (.invokestatic 69, 3) := by decide +kernel
theorem dX5_learnFromClue_34 : decode cX5_learnFromClue 34 = .ok (.iconst 1, 1) := by decide +kernel
theorem dX5_learnFromClue_35 : decode cX5_learnFromClue 35 = .ok (.isub, 1) := by decide +kernel
theorem dX5_learnFromClue_36 : decode cX5_learnFromClue 36 = .ok (.invokestatic 100, 3) := by decide +kernel
theorem dX5_learnFromClue_39 : decode cX5_learnFromClue 39 = .ok (.invokestatic 49, 3) := by decide +kernel
theorem dX5_learnFromClue_42 : decode cX5_learnFromClue 42 = .ok (.return_, 1) := by decide +kernel
theorem dX5_learnDigit_0 : decode cX5_learnDigit 0 = .ok (.aload_n 0, 1) := by decide +kernel
theorem dX5_learnDigit_1 : decode cX5_learnDigit 1 = .ok (.getfield 24, 3) := by decide +kernel
theorem dX5_learnDigit_4 : decode cX5_learnDigit 4 = .ok (.iload_n 1, 1) := by decide +kernel
theorem dX5_learnDigit_5 : decode cX5_learnDigit 5 = .ok (.aload_n 0, 1) := by decide +kernel
theorem dX5_learnDigit_6 : decode cX5_learnDigit 6 = .ok (.getfield 24, 3) := by decide +kernel
theorem dX5_learnDigit_9 : decode cX5_learnDigit 9 = .ok (.iload_n 1, 1) := by decide +kernel
theorem dX5_learnDigit_10 : decode cX5_learnDigit 10 = .ok (.invokestatic 69, 3) := by decide +kernel
theorem dX5_learnDigit_13 : decode cX5_learnDigit 13 = .ok (.iconst 1, 1) := by decide +kernel
theorem dX5_learnDigit_14 : decode cX5_learnDigit 14 = .ok (.iload_n 2, 1) := by decide +kernel
theorem dX5_learnDigit_15 : decode cX5_learnDigit 15 = .ok (.ishl, 1) := by decide +kernel
theorem dX5_learnDigit_16 : decode cX5_learnDigit 16 = .ok (.ior, 1) := by decide +kernel
theorem dX5_learnDigit_17 : decode cX5_learnDigit 17 = .ok (.invokestatic 49, 3) := by decide +kernel
theorem dX5_learnDigit_20 : decode cX5_learnDigit 20 = .ok (.return_, 1) := by decide +kernel
theorem dX5_forgetDigits_0 : decode cX5_forgetDigits 0 = .ok (.iconst 0, 1) := by decide +kernel
theorem dX5_forgetDigits_1 : decode cX5_forgetDigits 1 = .ok (.istore_n 1, 1) := by decide +kernel
theorem dX5_forgetDigits_2 : decode cX5_forgetDigits 2 = .ok (.iload_n 1, 1) := by decide +kernel
theorem dX5_forgetDigits_3 : decode cX5_forgetDigits 3 = .ok (.aload_n 0, 1) := by decide +kernel
theorem dX5_forgetDigits_4 : decode cX5_forgetDigits 4 = .ok (.getfield 45, 3) := by decide +kernel
theorem dX5_forgetDigits_7 : decode cX5_forgetDigits 7 = .ok (.if_icmp .ge 18, 3) := by decide +kernel
theorem dX5_forgetDigits_10 : decode cX5_forgetDigits 10 = .ok (.aload_n 0, 1) := by decide +kernel
theorem dX5_forgetDigits_11 : decode cX5_forgetDigits 11 = .ok (.getfield 24, 3) := by decide +kernel
theorem dX5_forgetDigits_14 : decode cX5_forgetDigits 14 = .ok (.iload_n 1, 1) := by decide +kernel
theorem dX5_forgetDigits_15 : decode cX5_forgetDigits 15 = .ok (.iconst 0, 1) := by decide +kernel
theorem dX5_forgetDigits_16 : decode cX5_forgetDigits 16 = .ok (.invokestatic 49, 3) := by decide +kernel
theorem dX5_forgetDigits_19 : decode cX5_forgetDigits 19 = .ok (.iinc 1 1, 3) := by decide +kernel
theorem dX5_forgetDigits_22 : decode cX5_forgetDigits 22 = .ok (.goto (-20), 3) := by decide +kernel
theorem dX5_forgetDigits_25 : decode cX5_forgetDigits 25 = .ok (.return_, 1) := by decide +kernel
theorem dX5_dropHeldProps_0 : decode cX5_dropHeldProps 0 = .ok (.iconst 0, 1) := by decide +kernel
theorem dX5_dropHeldProps_1 : decode cX5_dropHeldProps 1 = .ok (.istore_n 1, 1) := by decide +kernel
theorem dX5_dropHeldProps_2 : decode cX5_dropHeldProps 2 = .ok (.iload_n 1, 1) := by decide +kernel
theorem dX5_dropHeldProps_3 : decode cX5_dropHeldProps 3 = .ok (.aload_n 0, 1) := by decide +kernel
theorem dX5_dropHeldProps_4 : decode cX5_dropHeldProps 4 = .ok (.getfield 57, 3) := by decide +kernel
theorem dX5_dropHeldProps_7 : decode cX5_dropHeldProps 7 = .ok (.if_icmp .ge 26, 3) := by decide +kernel
theorem dX5_dropHeldProps_10 : decode cX5_dropHeldProps 10 = .ok (.aload_n 0, 1) := by decide +kernel
theorem dX5_dropHeldProps_11 : decode cX5_dropHeldProps 11 = .ok (.iload_n 1, 1) := by decide +kernel
theorem dX5_dropHeldProps_12 : decode cX5_dropHeldProps 12 = .ok (.invokevirtual 88, 3) := by decide +kernel
theorem dX5_dropHeldProps_15 : decode cX5_dropHeldProps 15 = .ok (.ifCond .eq 12, 3) := by decide +kernel
theorem dX5_dropHeldProps_18 : decode cX5_dropHeldProps 18 = .ok (.aload_n 0, 1) := by decide +kernel
theorem dX5_dropHeldProps_19 : decode cX5_dropHeldProps 19 = .ok (.getfield 30, 3) := by decide +kernel
theorem dX5_dropHeldProps_22 : decode cX5_dropHeldProps 22 = .ok (.iload_n 1, 1) := by decide +kernel
theorem dX5_dropHeldProps_23 : decode cX5_dropHeldProps 23 = .ok (.iconst 0, 1) := by decide +kernel
theorem dX5_dropHeldProps_24 : decode cX5_dropHeldProps 24 = .ok (.invokestatic 49, 3) := by decide +kernel
theorem dX5_dropHeldProps_27 : decode cX5_dropHeldProps 27 = .ok (.iinc 1 1, 3) := by decide +kernel
theorem dX5_dropHeldProps_30 : decode cX5_dropHeldProps 30 = .ok (.goto (-28), 3) := by decide +kernel
theorem dX5_dropHeldProps_33 : decode cX5_dropHeldProps 33 = .ok (.return_, 1) := by decide +kernel
theorem dX5_bringPropsHome_0 : decode cX5_bringPropsHome 0 = .ok (.iconst 0, 1) := by decide +kernel
theorem dX5_bringPropsHome_1 : decode cX5_bringPropsHome 1 = .ok (.istore_n 1, 1) := by decide +kernel
theorem dX5_bringPropsHome_2 : decode cX5_bringPropsHome 2 = .ok (.iload_n 1, 1) := by decide +kernel
theorem dX5_bringPropsHome_3 : decode cX5_bringPropsHome 3 = .ok (.aload_n 0, 1) := by decide +kernel
theorem dX5_bringPropsHome_4 : decode cX5_bringPropsHome 4 = .ok (.getfield 57, 3) := by decide +kernel
theorem dX5_bringPropsHome_7 : decode cX5_bringPropsHome 7 = .ok (.if_icmp .ge 25, 3) := by decide +kernel
theorem dX5_bringPropsHome_10 : decode cX5_bringPropsHome 10 = .ok (.aload_n 0, 1) := by decide +kernel
theorem dX5_bringPropsHome_11 : decode cX5_bringPropsHome 11 = .ok (.getfield 30, 3) := by decide +kernel
theorem dX5_bringPropsHome_14 : decode cX5_bringPropsHome 14 = .ok (.iload_n 1, 1) := by decide +kernel
theorem dX5_bringPropsHome_15 : decode cX5_bringPropsHome 15 = .ok (.aload_n 0, 1) := by decide +kernel
theorem dX5_bringPropsHome_16 : decode cX5_bringPropsHome 16 = .ok (.getfield 27, 3) := by decide +kernel
theorem dX5_bringPropsHome_19 : decode cX5_bringPropsHome 19 = .ok (.iload_n 1, 1) := by decide +kernel
theorem dX5_bringPropsHome_20 : decode cX5_bringPropsHome 20 = .ok (.invokestatic 69, 3) := by decide +kernel
theorem dX5_bringPropsHome_23 : decode cX5_bringPropsHome 23 = .ok (.invokestatic 49, 3) := by decide +kernel
theorem dX5_bringPropsHome_26 : decode cX5_bringPropsHome 26 = .ok (.iinc 1 1, 3) := by decide +kernel
theorem dX5_bringPropsHome_29 : decode cX5_bringPropsHome 29 = .ok (.goto (-27), 3) := by decide +kernel
theorem dX5_bringPropsHome_32 : decode cX5_bringPropsHome 32 = .ok (.return_, 1) := by decide +kernel
theorem dX5_closeBoxes_0 : decode cX5_closeBoxes 0 = .ok (.iconst 1, 1) := by decide +kernel
theorem dX5_closeBoxes_1 : decode cX5_closeBoxes 1 = .ok (.istore_n 1, 1) := by decide +kernel
theorem dX5_closeBoxes_2 : decode cX5_closeBoxes 2 = .ok (.iload_n 1, 1) := by decide +kernel
theorem dX5_closeBoxes_3 : decode cX5_closeBoxes 3 = .ok (.aload_n 0, 1) := by decide +kernel
theorem dX5_closeBoxes_4 : decode cX5_closeBoxes 4 = .ok (.getfield 45, 3) := by decide +kernel
theorem dX5_closeBoxes_7 : decode cX5_closeBoxes 7 = .ok (.if_icmp .ge 18, 3) := by decide +kernel
theorem dX5_closeBoxes_10 : decode cX5_closeBoxes 10 = .ok (.aload_n 0, 1) := by decide +kernel
theorem dX5_closeBoxes_11 : decode cX5_closeBoxes 11 = .ok (.getfield 21, 3) := by decide +kernel
theorem dX5_closeBoxes_14 : decode cX5_closeBoxes 14 = .ok (.iload_n 1, 1) := by decide +kernel
theorem dX5_closeBoxes_15 : decode cX5_closeBoxes 15 = .ok (.iconst 0, 1) := by decide +kernel
theorem dX5_closeBoxes_16 : decode cX5_closeBoxes 16 = .ok (.invokestatic 49, 3) := by decide +kernel
theorem dX5_closeBoxes_19 : decode cX5_closeBoxes 19 = .ok (.iinc 1 1, 3) := by decide +kernel
theorem dX5_closeBoxes_22 : decode cX5_closeBoxes 22 = .ok (.goto (-20), 3) := by decide +kernel
theorem dX5_closeBoxes_25 : decode cX5_closeBoxes 25 = .ok (.return_, 1) := by decide +kernel
theorem dX5_stepFor_0 : decode cX5_stepFor 0 = .ok (.iconst 0, 1) := by decide +kernel
theorem dX5_stepFor_1 : decode cX5_stepFor 1 = .ok (.istore_n 2, 1) := by decide +kernel
theorem dX5_stepFor_2 : decode cX5_stepFor 2 = .ok (.iload_n 1, 1) := by decide +kernel
theorem dX5_stepFor_3 : decode cX5_stepFor 3 = .ok (.istore_n 3, 1) := by decide +kernel
theorem dX5_stepFor_4 : decode cX5_stepFor 4 = .ok (.iconst 0, 1) := by decide +kernel
theorem dX5_stepFor_5 : decode cX5_stepFor 5 = .ok (.istore 4, 2) := by decide +kernel
theorem dX5_stepFor_7 : decode cX5_stepFor 7 = .ok (.iload 4, 2) := by decide +kernel
theorem dX5_stepFor_9 : decode cX5_stepFor 9 = .ok (.bipush 12, 2) := by decide +kernel
theorem dX5_stepFor_11 : decode cX5_stepFor 11 = .ok (.if_icmp .ge 87, 3) := by decide +kernel
theorem dX5_stepFor_14 : decode cX5_stepFor 14 = .ok (.iload_n 3, 1) := by decide +kernel
theorem dX5_stepFor_15 : decode cX5_stepFor 15 = .ok (.ifCond .le 12, 3) := by decide +kernel
theorem dX5_stepFor_18 : decode cX5_stepFor 18 = .ok (.iload_n 2, 1) := by decide +kernel
theorem dX5_stepFor_19 : decode cX5_stepFor 19 = .ok (.iload_n 3, 1) := by decide +kernel
theorem dX5_stepFor_20 : decode cX5_stepFor 20 = .ok (.ishr, 1) := by decide +kernel
theorem dX5_stepFor_21 : decode cX5_stepFor 21 = .ok (.iconst 1, 1) := by decide +kernel
theorem dX5_stepFor_22 : decode cX5_stepFor 22 = .ok (.iand, 1) := by decide +kernel
theorem dX5_stepFor_23 : decode cX5_stepFor 23 = .ok (.iconst 1, 1) := by decide +kernel
theorem dX5_stepFor_24 : decode cX5_stepFor 24 = .ok (.if_icmp .ne 6, 3) := by decide +kernel
theorem dX5_stepFor_27 : decode cX5_stepFor 27 = .ok (.bipush (-5), 2) := by decide +kernel
theorem dX5_stepFor_29 : decode cX5_stepFor 29 = .ok (.ireturn, 1) := by decide +kernel
theorem dX5_stepFor_30 : decode cX5_stepFor 30 = .ok (.iload_n 2, 1) := by decide +kernel
theorem dX5_stepFor_31 : decode cX5_stepFor 31 = .ok (.iconst 1, 1) := by decide +kernel
theorem dX5_stepFor_32 : decode cX5_stepFor 32 = .ok (.iload_n 3, 1) := by decide +kernel
theorem dX5_stepFor_33 : decode cX5_stepFor 33 = .ok (.ishl, 1) := by decide +kernel
theorem dX5_stepFor_34 : decode cX5_stepFor 34 = .ok (.ior, 1) := by decide +kernel
theorem dX5_stepFor_35 : decode cX5_stepFor 35 = .ok (.istore_n 2, 1) := by decide +kernel
theorem dX5_stepFor_36 : decode cX5_stepFor 36 = .ok (.aload_n 0, 1) := by decide +kernel
theorem dX5_stepFor_37 : decode cX5_stepFor 37 = .ok (.aload_n 0, 1) := by decide +kernel
theorem dX5_stepFor_38 : decode cX5_stepFor 38 = .ok (.getfield 9, 3) := by decide +kernel
theorem dX5_stepFor_41 : decode cX5_stepFor 41 = .ok (.iload_n 3, 1) := by decide +kernel
theorem dX5_stepFor_42 : decode cX5_stepFor 42 = .ok (.invokestatic 69, 3) := by decide +kernel
theorem dX5_stepFor_45 : decode cX5_stepFor 45 = .ok (.invokevirtual 73, 3) := by decide +kernel
theorem dX5_stepFor_48 : decode cX5_stepFor 48 = .ok (.istore 5, 2) := by decide +kernel
theorem dX5_stepFor_50 : decode cX5_stepFor 50 = .ok (.iload 5, 2) := by decide +kernel
theorem dX5_stepFor_52 : decode cX5_stepFor 52 = .ok (.ifCond .ne 27, 3) := by decide +kernel
theorem dX5_stepFor_55 : decode cX5_stepFor 55 = .ok (.aload_n 0, 1) := by decide +kernel
theorem dX5_stepFor_56 : decode cX5_stepFor 56 = .ok (.iload_n 3, 1) := by decide +kernel
theorem dX5_stepFor_57 : decode cX5_stepFor 57 = .ok (.iconst 2, 1) := by decide +kernel
theorem dX5_stepFor_58 : decode cX5_stepFor 58 = .ok (.invokevirtual 84, 3) := by decide +kernel
theorem dX5_stepFor_61 : decode cX5_stepFor 61 = .ok (.ifCond .eq 11, 3) := by decide +kernel
theorem dX5_stepFor_64 : decode cX5_stepFor 64 = .ok (.aload_n 0, 1) := by decide +kernel
theorem dX5_stepFor_65 : decode cX5_stepFor 65 = .ok (.iload_n 3, 1) := by decide +kernel
theorem dX5_stepFor_66 : decode cX5_stepFor 66 = .ok (.invokevirtual 113, 3) := by decide +kernel
theorem dX5_stepFor_69 : decode cX5_stepFor 69 = .ok (.goto 8, 3) := by decide +kernel
theorem dX5_stepFor_72 : decode cX5_stepFor 72 = .ok (.aload_n 0, 1) := by decide +kernel
theorem dX5_stepFor_73 : decode cX5_stepFor 73 = .ok (.iload_n 3, 1) := by decide +kernel
theorem dX5_stepFor_74 : decode cX5_stepFor 74 = .ok (.invokevirtual 116, 3) := by decide +kernel
theorem dX5_stepFor_77 : decode cX5_stepFor 77 = .ok (.istore 5, 2) := by decide +kernel
theorem dX5_stepFor_79 : decode cX5_stepFor 79 = .ok (.iload 5, 2) := by decide +kernel
theorem dX5_stepFor_81 : decode cX5_stepFor 81 = .ok (.bipush 100, 2) := by decide +kernel
theorem dX5_stepFor_83 : decode cX5_stepFor 83 = .ok (.if_icmp .lt 6, 3) := by decide +kernel
theorem dX5_stepFor_86 : decode cX5_stepFor 86 = .ok (.iload 5, 2) := by decide +kernel
theorem dX5_stepFor_88 : decode cX5_stepFor 88 = .ok (.ireturn, 1) := by decide +kernel
theorem dX5_stepFor_89 : decode cX5_stepFor 89 = .ok (.iload 5, 2) := by decide +kernel
theorem dX5_stepFor_91 : decode cX5_stepFor 91 = .ok (.istore_n 3, 1) := by decide +kernel
theorem dX5_stepFor_92 : decode cX5_stepFor 92 = .ok (.iinc 4 1, 3) := by decide +kernel
theorem dX5_stepFor_95 : decode cX5_stepFor 95 = .ok (.goto (-88), 3) := by decide +kernel
theorem dX5_stepFor_98 : decode cX5_stepFor 98 = .ok (.bipush (-5), 2) := by decide +kernel
theorem dX5_stepFor_100 : decode cX5_stepFor 100 = .ok (.ireturn, 1) := by decide +kernel
theorem dX5_stepForThing_0 : decode cX5_stepForThing 0 = .ok (.aload_n 0, 1) := by decide +kernel
theorem dX5_stepForThing_1 : decode cX5_stepForThing 1 = .ok (.getfield 18, 3) := by decide +kernel
theorem dX5_stepForThing_4 : decode cX5_stepForThing 4 = .ok (.iload_n 1, 1) := by decide +kernel
theorem dX5_stepForThing_5 : decode cX5_stepForThing 5 = .ok (.invokestatic 69, 3) := by decide +kernel
theorem dX5_stepForThing_8 : decode cX5_stepForThing 8 = .ok (.istore_n 2, 1) := by decide +kernel
theorem dX5_stepForThing_9 : decode cX5_stepForThing 9 = .ok (.aload_n 0, 1) := by decide +kernel
theorem dX5_stepForThing_10 : decode cX5_stepForThing 10 = .ok (.getfield 30, 3) := by decide +kernel
theorem dX5_stepForThing_13 : decode cX5_stepForThing 13 = .ok (.iload_n 2, 1) := by decide +kernel
theorem dX5_stepForThing_14 : decode cX5_stepForThing 14 = .ok (.invokestatic 69, 3) := by decide +kernel
theorem dX5_stepForThing_17 : decode cX5_stepForThing 17 = .ok (.istore_n 3, 1) := by decide +kernel
theorem dX5_stepForThing_18 : decode cX5_stepForThing 18 = .ok (.aload_n 0, 1) := by decide +kernel
theorem dX5_stepForThing_19 : decode cX5_stepForThing 19 = .ok (.iload_n 1, 1) := by decide +kernel
theorem dX5_stepForThing_20 : decode cX5_stepForThing 20 = .ok (.iconst 0, 1) := by decide +kernel
theorem dX5_stepForThing_21 : decode cX5_stepForThing 21 = .ok (.invokevirtual 84, 3) := by decide +kernel
theorem dX5_stepForThing_24 : decode cX5_stepForThing 24 = .ok (.ifCond .ne 38, 3) := by decide +kernel
theorem dX5_stepForThing_27 : decode cX5_stepForThing 27 = .ok (.aload_n 0, 1) := by decide +kernel
theorem dX5_stepForThing_28 : decode cX5_stepForThing 28 = .ok (.iload_n 1, 1) := by decide +kernel
theorem dX5_stepForThing_29 : decode cX5_stepForThing 29 = .ok (.iconst 1, 1) := by decide +kernel
theorem dX5_stepForThing_30 : decode cX5_stepForThing 30 = .ok (.invokevirtual 84, 3) := by decide +kernel
theorem dX5_stepForThing_33 : decode cX5_stepForThing 33 = .ok (.ifCond .eq 8, 3) := by decide +kernel
theorem dX5_stepForThing_36 : decode cX5_stepForThing 36 = .ok (.iload_n 3, 1) := by decide +kernel
theorem dX5_stepForThing_37 : decode cX5_stepForThing 37 = .ok (.iconst (-1), 1) := by decide +kernel
theorem dX5_stepForThing_38 : decode cX5_stepForThing 38 = .ok (.if_icmp .eq 24, 3) := by decide +kernel
theorem dX5_stepForThing_41 : decode cX5_stepForThing 41 = .ok (.aload_n 0, 1) := by decide +kernel
theorem dX5_stepForThing_42 : decode cX5_stepForThing 42 = .ok (.iload_n 1, 1) := by decide +kernel
theorem dX5_stepForThing_43 : decode cX5_stepForThing 43 = .ok (.iconst 3, 1) := by decide +kernel
theorem dX5_stepForThing_44 : decode cX5_stepForThing 44 = .ok (.invokevirtual 84, 3) := by decide +kernel
theorem dX5_stepForThing_47 : decode cX5_stepForThing 47 = .ok (.ifCond .eq 21, 3) := by decide +kernel
theorem dX5_stepForThing_50 : decode cX5_stepForThing 50 = .ok (.iload_n 3, 1) := by decide +kernel
theorem dX5_stepForThing_51 : decode cX5_stepForThing 51 = .ok (.aload_n 0, 1) := by decide +kernel
theorem dX5_stepForThing_52 : decode cX5_stepForThing 52 = .ok (.getfield 9, 3) := by decide +kernel
theorem dX5_stepForThing_55 : decode cX5_stepForThing 55 = .ok (.iload_n 1, 1) := by decide +kernel
theorem dX5_stepForThing_56 : decode cX5_stepForThing 56 = .ok (.invokestatic 69, 3) := by decide +kernel
theorem dX5_stepForThing_59 : decode cX5_stepForThing 59 = .ok (.if_icmp .ne 9, 3) := by decide +kernel
theorem dX5_stepForThing_62 : decode cX5_stepForThing 62 = .ok (.sipush 300, 3) := by decide +kernel
theorem dX5_stepForThing_65 : decode cX5_stepForThing 65 = .ok (.iload_n 1, 1) := by decide +kernel
theorem dX5_stepForThing_66 : decode cX5_stepForThing 66 = .ok (.iadd, 1) := by decide +kernel
theorem dX5_stepForThing_67 : decode cX5_stepForThing 67 = .ok (.ireturn, 1) := by decide +kernel
theorem dX5_stepForThing_68 : decode cX5_stepForThing 68 = .ok (.iload_n 3, 1) := by decide +kernel
theorem dX5_stepForThing_69 : decode cX5_stepForThing 69 = .ok (.iconst (-1), 1) := by decide +kernel
theorem dX5_stepForThing_70 : decode cX5_stepForThing 70 = .ok (.if_icmp .ne 22, 3) := by decide +kernel
theorem dX5_stepForThing_73 : decode cX5_stepForThing 73 = .ok (.sipush 200, 3) := by decide +kernel
theorem dX5_stepForThing_76 : decode cX5_stepForThing 76 = .ok (.iload_n 2, 1) := by decide +kernel
theorem dX5_stepForThing_77 : decode cX5_stepForThing 77 = .ok (.iadd, 1) := by decide +kernel
theorem dX5_stepForThing_78 : decode cX5_stepForThing 78 = .ok (.sipush 1000, 3) := by decide +kernel
theorem dX5_stepForThing_81 : decode cX5_stepForThing 81 = .ok (.aload_n 0, 1) := by decide +kernel
theorem dX5_stepForThing_82 : decode cX5_stepForThing 82 = .ok (.getfield 9, 3) := by decide +kernel
theorem dX5_stepForThing_85 : decode cX5_stepForThing 85 = .ok (.iload_n 1, 1) := by decide +kernel
theorem dX5_stepForThing_86 : decode cX5_stepForThing 86 = .ok (.invokestatic 69, 3) := by decide +kernel
theorem dX5_stepForThing_89 : decode cX5_stepForThing 89 = .ok (.imul, 1) := by decide +kernel
theorem dX5_stepForThing_90 : decode cX5_stepForThing 90 = .ok (.iadd, 1) := by decide +kernel
theorem dX5_stepForThing_91 : decode cX5_stepForThing 91 = .ok (.ireturn, 1) := by decide +kernel
theorem dX5_stepForThing_92 : decode cX5_stepForThing 92 = .ok (.aload_n 0, 1) := by decide +kernel
theorem dX5_stepForThing_93 : decode cX5_stepForThing 93 = .ok (.iload_n 2, 1) := by decide +kernel
theorem dX5_stepForThing_94 : decode cX5_stepForThing 94 = .ok (.invokevirtual 119, 3) := by decide +kernel
theorem dX5_stepForThing_97 : decode cX5_stepForThing 97 = .ok (.ireturn, 1) := by decide +kernel
theorem dX5_stepToHold_0 : decode cX5_stepToHold 0 = .ok (.aload_n 0, 1) := by decide +kernel
theorem dX5_stepToHold_1 : decode cX5_stepToHold 1 = .ok (.aload_n 0, 1) := by decide +kernel
theorem dX5_stepToHold_2 : decode cX5_stepToHold 2 = .ok (.getfield 30, 3) := by decide +kernel
theorem dX5_stepToHold_5 : decode cX5_stepToHold 5 = .ok (.iload_n 1, 1) := by decide +kernel
theorem dX5_stepToHold_6 : decode cX5_stepToHold 6 = .ok (.invokestatic 69, 3) := by decide +kernel
theorem dX5_stepToHold_9 : decode cX5_stepToHold 9 = .ok (.invokevirtual 73, 3) := by decide +kernel
theorem dX5_stepToHold_12 : decode cX5_stepToHold 12 = .ok (.istore_n 2, 1) := by decide +kernel
theorem dX5_stepToHold_13 : decode cX5_stepToHold 13 = .ok (.iload_n 2, 1) := by decide +kernel
theorem dX5_stepToHold_14 : decode cX5_stepToHold 14 = .ok (.ifCond .le 5, 3) := by decide +kernel
theorem dX5_stepToHold_17 : decode cX5_stepToHold 17 = .ok (.iload_n 2, 1) := by decide +kernel
theorem dX5_stepToHold_18 : decode cX5_stepToHold 18 = .ok (.ireturn, 1) := by decide +kernel
theorem dX5_stepToHold_19 : decode cX5_stepToHold 19 = .ok (.aload_n 0, 1) := by decide +kernel
theorem dX5_stepToHold_20 : decode cX5_stepToHold 20 = .ok (.invokevirtual 122, 3) := by decide +kernel
theorem dX5_stepToHold_23 : decode cX5_stepToHold 23 = .ok (.aload_n 0, 1) := by decide +kernel
theorem dX5_stepToHold_24 : decode cX5_stepToHold 24 = .ok (.getfield 66, 3) := by decide +kernel
theorem dX5_stepToHold_27 : decode cX5_stepToHold 27 = .ok (.if_icmp .ge 10, 3) := by decide +kernel
theorem dX5_stepToHold_30 : decode cX5_stepToHold 30 = .ok (.bipush 100, 2) := by decide +kernel
theorem dX5_stepToHold_32 : decode cX5_stepToHold 32 = .ok (.iload_n 1, 1) := by decide +kernel
theorem dX5_stepToHold_33 : decode cX5_stepToHold 33 = .ok (.iadd, 1) := by decide +kernel
theorem dX5_stepToHold_34 : decode cX5_stepToHold 34 = .ok (.goto 11, 3) := by decide +kernel
theorem dX5_stepToHold_37 : decode cX5_stepToHold 37 = .ok (.sipush 200, 3) := by decide +kernel
theorem dX5_stepToHold_40 : decode cX5_stepToHold 40 = .ok (.aload_n 0, 1) := by decide +kernel
theorem dX5_stepToHold_41 : decode cX5_stepToHold 41 = .ok (.invokevirtual 126, 3) := by decide +kernel
theorem dX5_stepToHold_44 : decode cX5_stepToHold 44 = .ok (.iadd, 1) := by decide +kernel
theorem dX5_stepToHold_45 : decode cX5_stepToHold 45 = .ok (.ireturn, 1) := by decide +kernel
theorem dX5_lowestHeld_0 : decode cX5_lowestHeld 0 = .ok (.iconst 0, 1) := by decide +kernel
theorem dX5_lowestHeld_1 : decode cX5_lowestHeld 1 = .ok (.istore_n 1, 1) := by decide +kernel
theorem dX5_lowestHeld_2 : decode cX5_lowestHeld 2 = .ok (.iload_n 1, 1) := by decide +kernel
theorem dX5_lowestHeld_3 : decode cX5_lowestHeld 3 = .ok (.aload_n 0, 1) := by decide +kernel
theorem dX5_lowestHeld_4 : decode cX5_lowestHeld 4 = .ok (.getfield 57, 3) := by decide +kernel
theorem dX5_lowestHeld_7 : decode cX5_lowestHeld 7 = .ok (.if_icmp .ge 17, 3) := by decide +kernel
theorem dX5_lowestHeld_10 : decode cX5_lowestHeld 10 = .ok (.aload_n 0, 1) := by decide +kernel
theorem dX5_lowestHeld_11 : decode cX5_lowestHeld 11 = .ok (.iload_n 1, 1) := by decide +kernel
theorem dX5_lowestHeld_12 : decode cX5_lowestHeld 12 = .ok (.invokevirtual 88, 3) := by decide +kernel
theorem dX5_lowestHeld_15 : decode cX5_lowestHeld 15 = .ok (.ifCond .ne 9, 3) := by decide +kernel
theorem dX5_lowestHeld_18 : decode cX5_lowestHeld 18 = .ok (.iinc 1 1, 3) := by decide +kernel
theorem dX5_lowestHeld_21 : decode cX5_lowestHeld 21 = .ok (.goto (-19), 3) := by decide +kernel
theorem dX5_lowestHeld_24 : decode cX5_lowestHeld 24 = .ok (.iload_n 1, 1) := by decide +kernel
theorem dX5_lowestHeld_25 : decode cX5_lowestHeld 25 = .ok (.ireturn, 1) := by decide +kernel
theorem dX5_stepForCode_0 : decode cX5_stepForCode 0 = .ok (.aload_n 0, 1) := by decide +kernel
theorem dX5_stepForCode_1 : decode cX5_stepForCode 1 = .ok (.iload_n 1, 1) := by decide +kernel
theorem dX5_stepForCode_2 : decode cX5_stepForCode 2 = .ok (.invokevirtual 129, 3) := by decide +kernel
theorem dX5_stepForCode_5 : decode cX5_stepForCode 5 = .ok (.istore_n 2, 1) := by decide +kernel
theorem dX5_stepForCode_6 : decode cX5_stepForCode 6 = .ok (.iload_n 2, 1) := by decide +kernel
theorem dX5_stepForCode_7 : decode cX5_stepForCode 7 = .ok (.iconst 4, 1) := by decide +kernel
theorem dX5_stepForCode_8 : decode cX5_stepForCode 8 = .ok (.if_icmp .ne 9, 3) := by decide +kernel
theorem dX5_stepForCode_11 : decode cX5_stepForCode 11 = .ok (.sipush 300, 3) := by decide +kernel
theorem dX5_stepForCode_14 : decode cX5_stepForCode 14 = .ok (.iload_n 1, 1) := by decide +kernel
theorem dX5_stepForCode_15 : decode cX5_stepForCode 15 = .ok (.iadd, 1) := by decide +kernel
theorem dX5_stepForCode_16 : decode cX5_stepForCode 16 = .ok (.ireturn, 1) := by decide +kernel
theorem dX5_stepForCode_17 : decode cX5_stepForCode 17 = .ok (.iconst (-1), 1) := by decide +kernel
theorem dX5_stepForCode_18 : decode cX5_stepForCode 18 = .ok (.istore_n 3, 1) := by decide +kernel
theorem dX5_stepForCode_19 : decode cX5_stepForCode 19 = .ok (.iconst (-1), 1) := by decide +kernel
theorem dX5_stepForCode_20 : decode cX5_stepForCode 20 = .ok (.istore 4, 2) := by decide +kernel
theorem dX5_stepForCode_22 : decode cX5_stepForCode 22 = .ok (.aload_n 0, 1) := by decide +kernel
theorem dX5_stepForCode_23 : decode cX5_stepForCode 23 = .ok (.getfield 60, 3) := by decide +kernel
theorem dX5_stepForCode_26 : decode cX5_stepForCode 26 = .ok (.iconst 1, 1) := by decide +kernel
theorem dX5_stepForCode_27 : decode cX5_stepForCode 27 = .ok (.isub, 1) := by decide +kernel
theorem dX5_stepForCode_28 : decode cX5_stepForCode 28 = .ok (.istore 5, 2) := by decide +kernel
theorem dX5_stepForCode_30 : decode cX5_stepForCode 30 = .ok (.iload 5, 2) := by decide +kernel
theorem dX5_stepForCode_32 : decode cX5_stepForCode 32 = .ok (.ifCond .lt 87, 3) := by decide +kernel
theorem dX5_stepForCode_35 : decode cX5_stepForCode 35 = .ok (.aload_n 0, 1) := by decide +kernel
theorem dX5_stepForCode_36 : decode cX5_stepForCode 36 = .ok (.getfield 36, 3) := by decide +kernel
theorem dX5_stepForCode_39 : decode cX5_stepForCode 39 = .ok (.iload 5, 2) := by decide +kernel
theorem dX5_stepForCode_41 : decode cX5_stepForCode 41 = .ok (.invokestatic 69, 3) := by decide +kernel
theorem dX5_stepForCode_44 : decode cX5_stepForCode 44 = .ok (.iload_n 1, 1) := by decide +kernel
theorem dX5_stepForCode_45 : decode cX5_stepForCode 45 = .ok (.if_icmp .ne 68, 3) := by decide +kernel
theorem dX5_stepForCode_48 : decode cX5_stepForCode 48 = .ok (.aload_n 0, 1) := by decide +kernel
theorem dX5_stepForCode_49 : decode cX5_stepForCode 49 = .ok (.getfield 39, 3) := by decide +kernel
theorem dX5_stepForCode_52 : decode cX5_stepForCode 52 = .ok (.iload 5, 2) := by decide +kernel
theorem dX5_stepForCode_54 : decode cX5_stepForCode 54 = .ok (.invokestatic 69, 3) := by decide +kernel
theorem dX5_stepForCode_57 : decode cX5_stepForCode 57 = .ok (.iload_n 2, 1) := by decide +kernel
theorem dX5_stepForCode_58 : decode cX5_stepForCode 58 = .ok (.if_icmp .ne 55, 3) := by decide +kernel
theorem dX5_stepForCode_61 : decode cX5_stepForCode 61 = .ok (.aload_n 0, 1) := by decide +kernel
theorem dX5_stepForCode_62 : decode cX5_stepForCode 62 = .ok (.getfield 42, 3) := by decide +kernel
theorem dX5_stepForCode_65 : decode cX5_stepForCode 65 = .ok (.iload 5, 2) := by decide +kernel
theorem dX5_stepForCode_67 : decode cX5_stepForCode 67 = .ok (.invokestatic 69, 3) := by decide +kernel
theorem dX5_stepForCode_70 : decode cX5_stepForCode 70 = .ok (.ifCond .le 43, 3) := by decide +kernel
theorem dX5_stepForCode_73 : decode cX5_stepForCode 73 = .ok (.iload 5, 2) := by decide +kernel
theorem dX5_stepForCode_75 : decode cX5_stepForCode 75 = .ok (.istore 4, 2) := by decide +kernel
theorem dX5_stepForCode_77 : decode cX5_stepForCode 77 = .ok (.aload_n 0, 1) := by decide +kernel
theorem dX5_stepForCode_78 : decode cX5_stepForCode 78 = .ok (.iload 5, 2) := by decide +kernel
theorem dX5_stepForCode_80 : decode cX5_stepForCode 80 = .ok (.invokevirtual 97, 3) := by decide +kernel
theorem dX5_stepForCode_83 : decode cX5_stepForCode 83 = .ok (.ifCond .eq 30, 3) := by decide +kernel
theorem dX5_stepForCode_86 : decode cX5_stepForCode 86 = .ok (.iload_n 3, 1) := by decide +kernel
theorem dX5_stepForCode_87 : decode cX5_stepForCode 87 = .ok (.ifCond .lt 23, 3) := by decide +kernel
theorem dX5_stepForCode_90 : decode cX5_stepForCode 90 = .ok (.aload_n 0, 1) := by decide +kernel
theorem dX5_stepForCode_91 : decode cX5_stepForCode 91 = .ok (.getfield 42, 3) := by decide +kernel
theorem dX5_stepForCode_94 : decode cX5_stepForCode 94 = .ok (.iload 5, 2) := by decide +kernel
theorem dX5_stepForCode_96 : decode cX5_stepForCode 96 = .ok (.invokestatic 69, 3) := by decide +kernel
theorem dX5_stepForCode_99 : decode cX5_stepForCode 99 = .ok (.aload_n 0, 1) := by decide +kernel
theorem dX5_stepForCode_100 : decode cX5_stepForCode 100 = .ok (.getfield 42, 3) := by decide +kernel
theorem dX5_stepForCode_103 : decode cX5_stepForCode 103 = .ok (.iload_n 3, 1) := by decide +kernel
theorem dX5_stepForCode_104 : decode cX5_stepForCode 104 = .ok (.invokestatic 69, 3) := by decide +kernel
theorem dX5_stepForCode_107 : decode cX5_stepForCode 107 = .ok (.if_icmp .lt 6, 3) := by decide +kernel
theorem dX5_stepForCode_110 : decode cX5_stepForCode 110 = .ok (.iload 5, 2) := by decide +kernel
theorem dX5_stepForCode_112 : decode cX5_stepForCode 112 = .ok (.istore_n 3, 1) := by decide +kernel
theorem dX5_stepForCode_113 : decode cX5_stepForCode 113 = .ok (.iinc 5 (-1), 3) := by decide +kernel
theorem dX5_stepForCode_116 : decode cX5_stepForCode 116 = .ok (.goto (-86), 3) := by decide +kernel
theorem dX5_stepForCode_119 : decode cX5_stepForCode 119 = .ok (.iload_n 3, 1) := by decide +kernel
theorem dX5_stepForCode_120 : decode cX5_stepForCode 120 = .ok (.ifCond .lt 9, 3) := by decide +kernel
theorem dX5_stepForCode_123 : decode cX5_stepForCode 123 = .ok (.sipush 400, 3) := by decide +kernel
theorem dX5_stepForCode_126 : decode cX5_stepForCode 126 = .ok (.iload_n 3, 1) := by decide +kernel
theorem dX5_stepForCode_127 : decode cX5_stepForCode 127 = .ok (.iadd, 1) := by decide +kernel
theorem dX5_stepForCode_128 : decode cX5_stepForCode 128 = .ok (.ireturn, 1) := by decide +kernel
theorem dX5_stepForCode_129 : decode cX5_stepForCode 129 = .ok (.iload 4, 2) := by decide +kernel
theorem dX5_stepForCode_131 : decode cX5_stepForCode 131 = .ok (.ifCond .lt 26, 3) := by decide +kernel
theorem dX5_stepForCode_134 : decode cX5_stepForCode 134 = .ok (.aload_n 0, 1) := by decide +kernel
theorem dX5_stepForCode_135 : decode cX5_stepForCode 135 = .ok (.aload_n 0, 1) := by decide +kernel
theorem dX5_stepForCode_136 : decode cX5_stepForCode 136 = .ok (.getfield 30, 3) := by decide +kernel
theorem dX5_stepForCode_139 : decode cX5_stepForCode 139 = .ok (.aload_n 0, 1) := by decide +kernel
theorem dX5_stepForCode_140 : decode cX5_stepForCode 140 = .ok (.getfield 33, 3) := by decide +kernel
theorem dX5_stepForCode_143 : decode cX5_stepForCode 143 = .ok (.iload 4, 2) := by decide +kernel
theorem dX5_stepForCode_145 : decode cX5_stepForCode 145 = .ok (.invokestatic 69, 3) := by decide +kernel
theorem dX5_stepForCode_148 : decode cX5_stepForCode 148 = .ok (.invokestatic 69, 3) := by decide +kernel
theorem dX5_stepForCode_151 : decode cX5_stepForCode 151 = .ok (.invokevirtual 73, 3) := by decide +kernel
theorem dX5_stepForCode_154 : decode cX5_stepForCode 154 = .ok (.goto 14, 3) := by decide +kernel
theorem dX5_stepForCode_157 : decode cX5_stepForCode 157 = .ok (.sipush 500, 3) := by decide +kernel
theorem dX5_stepForCode_160 : decode cX5_stepForCode 160 = .ok (.iload_n 2, 1) := by decide +kernel
theorem dX5_stepForCode_161 : decode cX5_stepForCode 161 = .ok (.iadd, 1) := by decide +kernel
theorem dX5_stepForCode_162 : decode cX5_stepForCode 162 = .ok (.sipush 1000, 3) := by decide +kernel
theorem dX5_stepForCode_165 : decode cX5_stepForCode 165 = .ok (.iload_n 1, 1) := by decide +kernel
theorem dX5_stepForCode_166 : decode cX5_stepForCode 166 = .ok (.imul, 1) := by decide +kernel
theorem dX5_stepForCode_167 : decode cX5_stepForCode 167 = .ok (.iadd, 1) := by decide +kernel
theorem dX5_stepForCode_168 : decode cX5_stepForCode 168 = .ok (.ireturn, 1) := by decide +kernel
theorem dX5_lowestUnknownPlace_0 : decode cX5_lowestUnknownPlace 0 = .ok (.iconst 0, 1) := by decide +kernel
theorem dX5_lowestUnknownPlace_1 : decode cX5_lowestUnknownPlace 1 = .ok (.istore_n 2, 1) := by decide +kernel
theorem dX5_lowestUnknownPlace_2 : decode cX5_lowestUnknownPlace 2 = .ok (.iload_n 2, 1) := by decide +kernel
theorem dX5_lowestUnknownPlace_3 : decode cX5_lowestUnknownPlace 3 = .ok (.iconst 4, 1) := by decide +kernel
theorem dX5_lowestUnknownPlace_4 : decode cX5_lowestUnknownPlace 4 = .ok (.if_icmp .ge 25, 3) := by decide +kernel
theorem dX5_lowestUnknownPlace_7 : decode cX5_lowestUnknownPlace 7 = .ok (.aload_n 0, 1) := by decide +kernel
theorem dX5_lowestUnknownPlace_8 : decode cX5_lowestUnknownPlace 8 = .ok (.getfield 24, 3) := by decide +kernel
theorem dX5_lowestUnknownPlace_11 : decode cX5_lowestUnknownPlace 11 = .ok (.iload_n 1, 1) := by decide +kernel
theorem dX5_lowestUnknownPlace_12 : decode cX5_lowestUnknownPlace 12 = .ok (.invokestatic 69, 3) := by decide +kernel
theorem dX5_lowestUnknownPlace_15 : decode cX5_lowestUnknownPlace 15 = .ok (.iload_n 2, 1) := by decide +kernel
theorem dX5_lowestUnknownPlace_16 : decode cX5_lowestUnknownPlace 16 = .ok (.ishr, 1) := by decide +kernel
theorem dX5_lowestUnknownPlace_17 : decode cX5_lowestUnknownPlace 17 = .ok (.iconst 1, 1) := by decide +kernel
theorem dX5_lowestUnknownPlace_18 : decode cX5_lowestUnknownPlace 18 = .ok (.iand, 1) := by decide +kernel
theorem dX5_lowestUnknownPlace_19 : decode cX5_lowestUnknownPlace 19 = .ok (.iconst 1, 1) := by decide +kernel
