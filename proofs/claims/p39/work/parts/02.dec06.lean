theorem dX7_init_0 : decode cX7_init 0 = .ok (.aload_n 0, 1) := by decide +kernel
theorem dX7_init_1 : decode cX7_init 1 = .ok (.invokespecial 1, 3) := by decide +kernel
theorem dX7_init_4 : decode cX7_init 4 = .ok (.aload_n 0, 1) := by decide +kernel
theorem dX7_init_5 : decode cX7_init 5 = .ok (.new 7, 3) := by decide +kernel
theorem dX7_init_8 : decode cX7_init 8 = .ok (.dup, 1) := by decide +kernel
theorem dX7_init_9 : decode cX7_init 9 = .ok (.invokespecial 9, 3) := by decide +kernel
theorem dX7_init_12 : decode cX7_init 12 = .ok (.putfield 10, 3) := by decide +kernel
theorem dX7_init_15 : decode cX7_init 15 = .ok (.aload_n 0, 1) := by decide +kernel
theorem dX7_init_16 : decode cX7_init 16 = .ok (.new 16, 3) := by decide +kernel
theorem dX7_init_19 : decode cX7_init 19 = .ok (.dup, 1) := by decide +kernel
theorem dX7_init_20 : decode cX7_init 20 = .ok (.invokespecial 18, 3) := by decide +kernel
theorem dX7_init_23 : decode cX7_init 23 = .ok (.putfield 19, 3) := by decide +kernel
theorem dX7_init_26 : decode cX7_init 26 = .ok (.aload_n 0, 1) := by decide +kernel
theorem dX7_init_27 : decode cX7_init 27 = .ok (.new 16, 3) := by decide +kernel
theorem dX7_init_30 : decode cX7_init 30 = .ok (.dup, 1) := by decide +kernel
theorem dX7_init_31 : decode cX7_init 31 = .ok (.invokespecial 18, 3) := by decide +kernel
theorem dX7_init_34 : decode cX7_init 34 = .ok (.putfield 23, 3) := by decide +kernel
theorem dX7_init_37 : decode cX7_init 37 = .ok (.aload_n 0, 1) := by decide +kernel
theorem dX7_init_38 : decode cX7_init 38 = .ok (.new 16, 3) := by decide +kernel
theorem dX7_init_41 : decode cX7_init 41 = .ok (.dup, 1) := by decide +kernel
theorem dX7_init_42 : decode cX7_init 42 = .ok (.invokespecial 18, 3) := by decide +kernel
theorem dX7_init_45 : decode cX7_init 45 = .ok (.putfield 26, 3) := by decide +kernel
theorem dX7_init_48 : decode cX7_init 48 = .ok (.aload_n 0, 1) := by decide +kernel
theorem dX7_init_49 : decode cX7_init 49 = .ok (.new 29, 3) := by decide +kernel
theorem dX7_init_52 : decode cX7_init 52 = .ok (.dup, 1) := by decide +kernel
theorem dX7_init_53 : decode cX7_init 53 = .ok (.invokespecial 31, 3) := by decide +kernel
theorem dX7_init_56 : decode cX7_init 56 = .ok (.putfield 32, 3) := by decide +kernel
theorem dX7_init_59 : decode cX7_init 59 = .ok (.aload_n 0, 1) := by decide +kernel
theorem dX7_init_60 : decode cX7_init 60 = .ok (.iconst 0, 1) := by decide +kernel
theorem dX7_init_61 : decode cX7_init 61 = .ok (.putfield 36, 3) := by decide +kernel
theorem dX7_init_64 : decode cX7_init 64 = .ok (.return_, 1) := by decide +kernel
theorem dX7_type_0 : decode cX7_type 0 = .ok (.aload_n 0, 1) := by decide +kernel
theorem dX7_type_1 : decode cX7_type 1 = .ok (.getfield 10, 3) := by decide +kernel
theorem dX7_type_4 : decode cX7_type 4 = .ok (.getfield 40, 3) := by decide +kernel
theorem dX7_type_7 : decode cX7_type 7 = .ok (.bipush 20, 2) := by decide +kernel
theorem dX7_type_9 : decode cX7_type 9 = .ok (.if_icmp .lt 6, 3) := by decide +kernel
theorem dX7_type_12 : decode cX7_type 12 = .ok (.bipush (-3), 2) := by decide +kernel
theorem dX7_type_14 : decode cX7_type 14 = .ok (.ireturn, 1) := by decide +kernel
theorem dX7_type_15 : decode cX7_type 15 = .ok (.aload_n 0, 1) := by decide +kernel
theorem dX7_type_16 : decode cX7_type 16 = .ok (.getfield 10, 3) := by decide +kernel
theorem dX7_type_19 : decode cX7_type 19 = .ok (.getfield 43, 3) := by decide +kernel
theorem dX7_type_22 : decode cX7_type 22 = .ok (.aload_n 0, 1) := by decide +kernel
theorem dX7_type_23 : decode cX7_type 23 = .ok (.getfield 10, 3) := by decide +kernel
theorem dX7_type_26 : decode cX7_type 26 = .ok (.getfield 40, 3) := by decide +kernel
theorem dX7_type_29 : decode cX7_type 29 = .ok (.iload_n 1, 1) := by decide +kernel
theorem dX7_type_30 : decode cX7_type 30 = .ok (.invokestatic 47, 3) := by decide +kernel
theorem dX7_type_33 : decode cX7_type 33 = .ok (.aload_n 0, 1) := by decide +kernel
theorem dX7_type_34 : decode cX7_type 34 = .ok (.getfield 10, 3) := by decide +kernel
theorem dX7_type_37 : decode cX7_type 37 = .ok (.dup, 1) := by decide +kernel
theorem dX7_type_38 : decode cX7_type 38 = .ok (.getfield 40, 3) := by decide +kernel
theorem dX7_type_41 : decode cX7_type 41 = .ok (.iconst 1, 1) := by decide +kernel
theorem dX7_type_42 : decode cX7_type 42 = .ok (.iadd, 1) := by decide +kernel
theorem dX7_type_43 : decode cX7_type 43 = .ok (.putfield 40, 3) := by decide +kernel
theorem dX7_type_46 : decode cX7_type 46 = .ok (.aload_n 0, 1) := by decide +kernel
theorem dX7_type_47 : decode cX7_type 47 = .ok (.getfield 10, 3) := by decide +kernel
theorem dX7_type_50 : decode cX7_type 50 = .ok (.getfield 40, 3) := by decide +kernel
theorem dX7_type_53 : decode cX7_type 53 = .ok (.ireturn, 1) := by decide +kernel
theorem dX7_clearText_0 : decode cX7_clearText 0 = .ok (.aload_n 0, 1) := by decide +kernel
theorem dX7_clearText_1 : decode cX7_clearText 1 = .ok (.getfield 10, 3) := by decide +kernel
theorem dX7_clearText_4 : decode cX7_clearText 4 = .ok (.getfield 40, 3) := by decide +kernel
theorem dX7_clearText_7 : decode cX7_clearText 7 = .ok (.istore_n 1, 1) := by decide +kernel
theorem dX7_clearText_8 : decode cX7_clearText 8 = .ok (.aload_n 0, 1) := by decide +kernel
theorem dX7_clearText_9 : decode cX7_clearText 9 = .ok (.getfield 10, 3) := by decide +kernel
theorem dX7_clearText_12 : decode cX7_clearText 12 = .ok (.iconst 0, 1) := by decide +kernel
theorem dX7_clearText_13 : decode cX7_clearText 13 = .ok (.putfield 40, 3) := by decide +kernel
theorem dX7_clearText_16 : decode cX7_clearText 16 = .ok (.iload_n 1, 1) := by decide +kernel
theorem dX7_clearText_17 : decode cX7_clearText 17 = .ok (.ireturn, 1) := by decide +kernel
theorem dX7_addBox_0 : decode cX7_addBox 0 = .ok (.aload_n 0, 1) := by decide +kernel
theorem dX7_addBox_1 : decode cX7_addBox 1 = .ok (.getfield 19, 3) := by decide +kernel
theorem dX7_addBox_4 : decode cX7_addBox 4 = .ok (.getfield 51, 3) := by decide +kernel
theorem dX7_addBox_7 : decode cX7_addBox 7 = .ok (.astore_n 1, 1) := by decide +kernel
theorem dX7_addBox_8 : decode cX7_addBox 8 = .ok (.aload_n 0, 1) := by decide +kernel
theorem dX7_addBox_9 : decode cX7_addBox 9 = .ok (.getfield 10, 3) := by decide +kernel
theorem dX7_addBox_12 : decode cX7_addBox 12 = .ok (.invokevirtual 54, 3) := by decide +kernel
theorem dX7_addBox_15 : decode cX7_addBox 15 = .ok (.istore_n 2, 1) := by decide +kernel
theorem dX7_addBox_16 : decode cX7_addBox 16 = .ok (.iload_n 2, 1) := by decide +kernel
theorem dX7_addBox_17 : decode cX7_addBox 17 = .ok (.iconst (-1), 1) := by decide +kernel
theorem dX7_addBox_18 : decode cX7_addBox 18 = .ok (.if_icmp .eq 8, 3) := by decide +kernel
theorem dX7_addBox_21 : decode cX7_addBox 21 = .ok (.bipush (-100), 2) := by decide +kernel
theorem dX7_addBox_23 : decode cX7_addBox 23 = .ok (.iload_n 2, 1) := by decide +kernel
theorem dX7_addBox_24 : decode cX7_addBox 24 = .ok (.isub, 1) := by decide +kernel
theorem dX7_addBox_25 : decode cX7_addBox 25 = .ok (.ireturn, 1) := by decide +kernel
theorem dX7_addBox_26 : decode cX7_addBox 26 = .ok (.aload_n 0, 1) := by decide +kernel
theorem dX7_addBox_27 : decode cX7_addBox 27 = .ok (.getfield 10, 3) := by decide +kernel
theorem dX7_addBox_30 : decode cX7_addBox 30 = .ok (.getfield 58, 3) := by decide +kernel
theorem dX7_addBox_33 : decode cX7_addBox 33 = .ok (.iconst 1, 1) := by decide +kernel
theorem dX7_addBox_34 : decode cX7_addBox 34 = .ok (.if_icmp .eq 14, 3) := by decide +kernel
theorem dX7_addBox_37 : decode cX7_addBox 37 = .ok (.aload_n 0, 1) := by decide +kernel
theorem dX7_addBox_38 : decode cX7_addBox 38 = .ok (.getfield 10, 3) := by decide +kernel
theorem dX7_addBox_41 : decode cX7_addBox 41 = .ok (.getfield 58, 3) := by decide +kernel
theorem dX7_addBox_44 : decode cX7_addBox 44 = .ok (.iconst 3, 1) := by decide +kernel
theorem dX7_addBox_45 : decode cX7_addBox 45 = .ok (.if_icmp .ne 7, 3) := by decide +kernel
theorem dX7_addBox_48 : decode cX7_addBox 48 = .ok (.iconst 1, 1) := by decide +kernel
theorem dX7_addBox_49 : decode cX7_addBox 49 = .ok (.goto 4, 3) := by decide +kernel
theorem dX7_addBox_52 : decode cX7_addBox 52 = .ok (.iconst 0, 1) := by decide +kernel
theorem dX7_addBox_53 : decode cX7_addBox 53 = .ok (.istore_n 3, 1) := by decide +kernel
theorem dX7_addBox_54 : decode cX7_addBox 54 = .ok (.aload_n 1, 1) := by decide +kernel
theorem dX7_addBox_55 : decode cX7_addBox 55 = .ok (.aload_n 0, 1) := by decide +kernel
theorem dX7_addBox_56 : decode cX7_addBox 56 = .ok (.getfield 10, 3) := by decide +kernel
theorem dX7_addBox_59 : decode cX7_addBox 59 = .ok (.getfield 61, 3) := by decide +kernel
theorem dX7_addBox_62 : decode cX7_addBox 62 = .ok (.invokevirtual 64, 3) := by decide +kernel
theorem dX7_addBox_65 : decode cX7_addBox 65 = .ok (.ifCond .eq 21, 3) := by decide +kernel
theorem dX7_addBox_68 : decode cX7_addBox 68 = .ok (.iload_n 3, 1) := by decide +kernel
theorem dX7_addBox_69 : decode cX7_addBox 69 = .ok (.ifCond .eq 19, 3) := by decide +kernel
theorem dX7_addBox_72 : decode cX7_addBox 72 = .ok (.aload_n 1, 1) := by decide +kernel
theorem dX7_addBox_73 : decode cX7_addBox 73 = .ok (.aload_n 0, 1) := by decide +kernel
theorem dX7_addBox_74 : decode cX7_addBox 74 = .ok (.getfield 10, 3) := by decide +kernel
theorem dX7_addBox_77 : decode cX7_addBox 77 = .ok (.getfield 68, 3) := by decide +kernel
theorem dX7_addBox_80 : decode cX7_addBox 80 = .ok (.invokevirtual 71, 3) := by decide +kernel
theorem dX7_addBox_83 : decode cX7_addBox 83 = .ok (.ifCond .ne 5, 3) := by decide +kernel
theorem dX7_addBox_86 : decode cX7_addBox 86 = .ok (.iconst (-1), 1) := by decide +kernel
theorem dX7_addBox_87 : decode cX7_addBox 87 = .ok (.ireturn, 1) := by decide +kernel
theorem dX7_addBox_88 : decode cX7_addBox 88 = .ok (.aload_n 0, 1) := by decide +kernel
theorem dX7_addBox_89 : decode cX7_addBox 89 = .ok (.getfield 19, 3) := by decide +kernel
theorem dX7_addBox_92 : decode cX7_addBox 92 = .ok (.getfield 74, 3) := by decide +kernel
theorem dX7_addBox_95 : decode cX7_addBox 95 = .ok (.getfield 78, 3) := by decide +kernel
theorem dX7_addBox_98 : decode cX7_addBox 98 = .ok (.ifCond .eq 6, 3) := by decide +kernel
theorem dX7_addBox_101 : decode cX7_addBox 101 = .ok (.bipush (-4), 2) := by decide +kernel
theorem dX7_addBox_103 : decode cX7_addBox 103 = .ok (.ireturn, 1) := by decide +kernel
theorem dX7_addBox_104 : decode cX7_addBox 104 = .ok (.aload_n 1, 1) := by decide +kernel
theorem dX7_addBox_105 : decode cX7_addBox 105 = .ok (.getfield 84, 3) := by decide +kernel
theorem dX7_addBox_108 : decode cX7_addBox 108 = .ok (.bipush 12, 2) := by decide +kernel
theorem dX7_addBox_110 : decode cX7_addBox 110 = .ok (.if_icmp .lt 6, 3) := by decide +kernel
theorem dX7_addBox_113 : decode cX7_addBox 113 = .ok (.bipush (-3), 2) := by decide +kernel
theorem dX7_addBox_115 : decode cX7_addBox 115 = .ok (.ireturn, 1) := by decide +kernel
theorem dX7_addBox_116 : decode cX7_addBox 116 = .ok (.aload_n 1, 1) := by decide +kernel
theorem dX7_addBox_117 : decode cX7_addBox 117 = .ok (.aload_n 0, 1) := by decide +kernel
theorem dX7_addBox_118 : decode cX7_addBox 118 = .ok (.getfield 10, 3) := by decide +kernel
theorem dX7_addBox_121 : decode cX7_addBox 121 = .ok (.getfield 61, 3) := by decide +kernel
theorem dX7_addBox_124 : decode cX7_addBox 124 = .ok (.aload_n 0, 1) := by decide +kernel
theorem dX7_addBox_125 : decode cX7_addBox 125 = .ok (.getfield 10, 3) := by decide +kernel
theorem dX7_addBox_128 : decode cX7_addBox 128 = .ok (.getfield 58, 3) := by decide +kernel
theorem dX7_addBox_131 : decode cX7_addBox 131 = .ok (.aload_n 0, 1) := by decide +kernel
theorem dX7_addBox_132 : decode cX7_addBox 132 = .ok (.getfield 10, 3) := by decide +kernel
theorem dX7_addBox_135 : decode cX7_addBox 135 = .ok (.getfield 68, 3) := by decide +kernel
theorem dX7_addBox_138 : decode cX7_addBox 138 = .ok (.invokevirtual 87, 3) := by decide +kernel
theorem dX7_addBox_141 : decode cX7_addBox 141 = .ok (.ireturn, 1) := by decide +kernel
theorem dX7_addProp_0 : decode cX7_addProp 0 = .ok (.aload_n 0, 1) := by decide +kernel
theorem dX7_addProp_1 : decode cX7_addProp 1 = .ok (.getfield 19, 3) := by decide +kernel
theorem dX7_addProp_4 : decode cX7_addProp 4 = .ok (.getfield 51, 3) := by decide +kernel
theorem dX7_addProp_7 : decode cX7_addProp 7 = .ok (.iload_n 1, 1) := by decide +kernel
theorem dX7_addProp_8 : decode cX7_addProp 8 = .ok (.invokevirtual 64, 3) := by decide +kernel
theorem dX7_addProp_11 : decode cX7_addProp 11 = .ok (.ifCond .ne 5, 3) := by decide +kernel
theorem dX7_addProp_14 : decode cX7_addProp 14 = .ok (.iconst (-1), 1) := by decide +kernel
theorem dX7_addProp_15 : decode cX7_addProp 15 = .ok (.ireturn, 1) := by decide +kernel
theorem dX7_addProp_16 : decode cX7_addProp 16 = .ok (.aload_n 0, 1) := by decide +kernel
theorem dX7_addProp_17 : decode cX7_addProp 17 = .ok (.getfield 19, 3) := by decide +kernel
theorem dX7_addProp_20 : decode cX7_addProp 20 = .ok (.getfield 74, 3) := by decide +kernel
theorem dX7_addProp_23 : decode cX7_addProp 23 = .ok (.getfield 78, 3) := by decide +kernel
theorem dX7_addProp_26 : decode cX7_addProp 26 = .ok (.ifCond .eq 6, 3) := by decide +kernel
theorem dX7_addProp_29 : decode cX7_addProp 29 = .ok (.bipush (-4), 2) := by decide +kernel
theorem dX7_addProp_31 : decode cX7_addProp 31 = .ok (.ireturn, 1) := by decide +kernel
theorem dX7_addProp_32 : decode cX7_addProp 32 = .ok (.aload_n 0, 1) := by decide +kernel
theorem dX7_addProp_33 : decode cX7_addProp 33 = .ok (.getfield 19, 3) := by decide +kernel
theorem dX7_addProp_36 : decode cX7_addProp 36 = .ok (.getfield 51, 3) := by decide +kernel
theorem dX7_addProp_39 : decode cX7_addProp 39 = .ok (.getfield 91, 3) := by decide +kernel
theorem dX7_addProp_42 : decode cX7_addProp 42 = .ok (.bipush 24, 2) := by decide +kernel
theorem dX7_addProp_44 : decode cX7_addProp 44 = .ok (.if_icmp .lt 6, 3) := by decide +kernel
theorem dX7_addProp_47 : decode cX7_addProp 47 = .ok (.bipush (-3), 2) := by decide +kernel
theorem dX7_addProp_49 : decode cX7_addProp 49 = .ok (.ireturn, 1) := by decide +kernel
theorem dX7_addProp_50 : decode cX7_addProp 50 = .ok (.aload_n 0, 1) := by decide +kernel
theorem dX7_addProp_51 : decode cX7_addProp 51 = .ok (.getfield 19, 3) := by decide +kernel
theorem dX7_addProp_54 : decode cX7_addProp 54 = .ok (.getfield 51, 3) := by decide +kernel
theorem dX7_addProp_57 : decode cX7_addProp 57 = .ok (.iload_n 1, 1) := by decide +kernel
theorem dX7_addProp_58 : decode cX7_addProp 58 = .ok (.invokevirtual 94, 3) := by decide +kernel
theorem dX7_addProp_61 : decode cX7_addProp 61 = .ok (.ireturn, 1) := by decide +kernel
theorem dX7_addClue_0 : decode cX7_addClue 0 = .ok (.aload_n 0, 1) := by decide +kernel
theorem dX7_addClue_1 : decode cX7_addClue 1 = .ok (.getfield 19, 3) := by decide +kernel
theorem dX7_addClue_4 : decode cX7_addClue 4 = .ok (.getfield 51, 3) := by decide +kernel
theorem dX7_addClue_7 : decode cX7_addClue 7 = .ok (.astore 4, 2) := by decide +kernel
theorem dX7_addClue_9 : decode cX7_addClue 9 = .ok (.aload 4, 2) := by decide +kernel
theorem dX7_addClue_11 : decode cX7_addClue 11 = .ok (.iload_n 1, 1) := by decide +kernel
theorem dX7_addClue_12 : decode cX7_addClue 12 = .ok (.invokevirtual 71, 3) := by decide +kernel
theorem dX7_addClue_15 : decode cX7_addClue 15 = .ok (.ifCond .eq 12, 3) := by decide +kernel
theorem dX7_addClue_18 : decode cX7_addClue 18 = .ok (.aload 4, 2) := by decide +kernel
theorem dX7_addClue_20 : decode cX7_addClue 20 = .ok (.iload_n 2, 1) := by decide +kernel
theorem dX7_addClue_21 : decode cX7_addClue 21 = .ok (.invokevirtual 64, 3) := by decide +kernel
theorem dX7_addClue_24 : decode cX7_addClue 24 = .ok (.ifCond .ne 5, 3) := by decide +kernel
theorem dX7_addClue_27 : decode cX7_addClue 27 = .ok (.iconst (-1), 1) := by decide +kernel
theorem dX7_addClue_28 : decode cX7_addClue 28 = .ok (.ireturn, 1) := by decide +kernel
theorem dX7_addClue_29 : decode cX7_addClue 29 = .ok (.iload_n 3, 1) := by decide +kernel
theorem dX7_addClue_30 : decode cX7_addClue 30 = .ok (.ifCond .lt 8, 3) := by decide +kernel
theorem dX7_addClue_33 : decode cX7_addClue 33 = .ok (.iload_n 3, 1) := by decide +kernel
theorem dX7_addClue_34 : decode cX7_addClue 34 = .ok (.iconst 4, 1) := by decide +kernel
theorem dX7_addClue_35 : decode cX7_addClue 35 = .ok (.if_icmp .lt 6, 3) := by decide +kernel
theorem dX7_addClue_38 : decode cX7_addClue 38 = .ok (.bipush (-2), 2) := by decide +kernel
theorem dX7_addClue_40 : decode cX7_addClue 40 = .ok (.ireturn, 1) := by decide +kernel
theorem dX7_addClue_41 : decode cX7_addClue 41 = .ok (.aload 4, 2) := by decide +kernel
theorem dX7_addClue_43 : decode cX7_addClue 43 = .ok (.iload_n 2, 1) := by decide +kernel
theorem dX7_addClue_44 : decode cX7_addClue 44 = .ok (.iconst 2, 1) := by decide +kernel
theorem dX7_addClue_45 : decode cX7_addClue 45 = .ok (.invokevirtual 98, 3) := by decide +kernel
theorem dX7_addClue_48 : decode cX7_addClue 48 = .ok (.ifCond .eq 16, 3) := by decide +kernel
theorem dX7_addClue_51 : decode cX7_addClue 51 = .ok (.aload_n 0, 1) := by decide +kernel
theorem dX7_addClue_52 : decode cX7_addClue 52 = .ok (.getfield 19, 3) := by decide +kernel
theorem dX7_addClue_55 : decode cX7_addClue 55 = .ok (.getfield 74, 3) := by decide +kernel
theorem dX7_addClue_58 : decode cX7_addClue 58 = .ok (.getfield 78, 3) := by decide +kernel
theorem dX7_addClue_61 : decode cX7_addClue 61 = .ok (.ifCond .eq 6, 3) := by decide +kernel
theorem dX7_addClue_64 : decode cX7_addClue 64 = .ok (.bipush (-4), 2) := by decide +kernel
theorem dX7_addClue_66 : decode cX7_addClue 66 = .ok (.ireturn, 1) := by decide +kernel
theorem dX7_addClue_67 : decode cX7_addClue 67 = .ok (.aload 4, 2) := by decide +kernel
theorem dX7_addClue_69 : decode cX7_addClue 69 = .ok (.getfield 102, 3) := by decide +kernel
theorem dX7_addClue_72 : decode cX7_addClue 72 = .ok (.bipush 12, 2) := by decide +kernel
theorem dX7_addClue_74 : decode cX7_addClue 74 = .ok (.if_icmp .lt 6, 3) := by decide +kernel
theorem dX7_addClue_77 : decode cX7_addClue 77 = .ok (.bipush (-3), 2) := by decide +kernel
theorem dX7_addClue_79 : decode cX7_addClue 79 = .ok (.ireturn, 1) := by decide +kernel
theorem dX7_addClue_80 : decode cX7_addClue 80 = .ok (.aload 4, 2) := by decide +kernel
theorem dX7_addClue_82 : decode cX7_addClue 82 = .ok (.iload_n 1, 1) := by decide +kernel
theorem dX7_addClue_83 : decode cX7_addClue 83 = .ok (.iload_n 2, 1) := by decide +kernel
theorem dX7_addClue_84 : decode cX7_addClue 84 = .ok (.iload_n 3, 1) := by decide +kernel
theorem dX7_addClue_85 : decode cX7_addClue 85 = .ok (.invokevirtual 105, 3) := by decide +kernel
theorem dX7_addClue_88 : decode cX7_addClue 88 = .ok (.ireturn, 1) := by decide +kernel
theorem dX7_setExit_0 : decode cX7_setExit 0 = .ok (.aload_n 0, 1) := by decide +kernel
theorem dX7_setExit_1 : decode cX7_setExit 1 = .ok (.getfield 19, 3) := by decide +kernel
theorem dX7_setExit_4 : decode cX7_setExit 4 = .ok (.getfield 51, 3) := by decide +kernel
theorem dX7_setExit_7 : decode cX7_setExit 7 = .ok (.iload_n 1, 1) := by decide +kernel
theorem dX7_setExit_8 : decode cX7_setExit 8 = .ok (.invokevirtual 64, 3) := by decide +kernel
theorem dX7_setExit_11 : decode cX7_setExit 11 = .ok (.ifCond .ne 5, 3) := by decide +kernel
theorem dX7_setExit_14 : decode cX7_setExit 14 = .ok (.iconst (-1), 1) := by decide +kernel
theorem dX7_setExit_15 : decode cX7_setExit 15 = .ok (.ireturn, 1) := by decide +kernel
theorem dX7_setExit_16 : decode cX7_setExit 16 = .ok (.iload_n 1, 1) := by decide +kernel
theorem dX7_setExit_17 : decode cX7_setExit 17 = .ok (.ifCond .ne 6, 3) := by decide +kernel
theorem dX7_setExit_20 : decode cX7_setExit 20 = .ok (.bipush (-2), 2) := by decide +kernel
theorem dX7_setExit_22 : decode cX7_setExit 22 = .ok (.ireturn, 1) := by decide +kernel
theorem dX7_setExit_23 : decode cX7_setExit 23 = .ok (.aload_n 0, 1) := by decide +kernel
theorem dX7_setExit_24 : decode cX7_setExit 24 = .ok (.getfield 19, 3) := by decide +kernel
theorem dX7_setExit_27 : decode cX7_setExit 27 = .ok (.getfield 74, 3) := by decide +kernel
theorem dX7_setExit_30 : decode cX7_setExit 30 = .ok (.getfield 78, 3) := by decide +kernel
theorem dX7_setExit_33 : decode cX7_setExit 33 = .ok (.ifCond .eq 6, 3) := by decide +kernel
theorem dX7_setExit_36 : decode cX7_setExit 36 = .ok (.bipush (-4), 2) := by decide +kernel
theorem dX7_setExit_38 : decode cX7_setExit 38 = .ok (.ireturn, 1) := by decide +kernel
theorem dX7_setExit_39 : decode cX7_setExit 39 = .ok (.aload_n 0, 1) := by decide +kernel
theorem dX7_setExit_40 : decode cX7_setExit 40 = .ok (.getfield 19, 3) := by decide +kernel
theorem dX7_setExit_43 : decode cX7_setExit 43 = .ok (.getfield 51, 3) := by decide +kernel
theorem dX7_setExit_46 : decode cX7_setExit 46 = .ok (.getfield 108, 3) := by decide +kernel
theorem dX7_setExit_49 : decode cX7_setExit 49 = .ok (.istore_n 2, 1) := by decide +kernel
theorem dX7_setExit_50 : decode cX7_setExit 50 = .ok (.iload_n 2, 1) := by decide +kernel
theorem dX7_setExit_51 : decode cX7_setExit 51 = .ok (.iload_n 1, 1) := by decide +kernel
theorem dX7_setExit_52 : decode cX7_setExit 52 = .ok (.if_icmp .ne 6, 3) := by decide +kernel
theorem dX7_setExit_55 : decode cX7_setExit 55 = .ok (.bipush (-5), 2) := by decide +kernel
theorem dX7_setExit_57 : decode cX7_setExit 57 = .ok (.ireturn, 1) := by decide +kernel
theorem dX7_setExit_58 : decode cX7_setExit 58 = .ok (.aload_n 0, 1) := by decide +kernel
theorem dX7_setExit_59 : decode cX7_setExit 59 = .ok (.getfield 19, 3) := by decide +kernel
theorem dX7_setExit_62 : decode cX7_setExit 62 = .ok (.getfield 51, 3) := by decide +kernel
theorem dX7_setExit_65 : decode cX7_setExit 65 = .ok (.iload_n 1, 1) := by decide +kernel
theorem dX7_setExit_66 : decode cX7_setExit 66 = .ok (.putfield 108, 3) := by decide +kernel
theorem dX7_setExit_69 : decode cX7_setExit 69 = .ok (.iload_n 2, 1) := by decide +kernel
theorem dX7_setExit_70 : decode cX7_setExit 70 = .ok (.ireturn, 1) := by decide +kernel
theorem dX7_setLimits_0 : decode cX7_setLimits 0 = .ok (.iload_n 1, 1) := by decide +kernel
theorem dX7_setLimits_1 : decode cX7_setLimits 1 = .ok (.bipush 10, 2) := by decide +kernel
theorem dX7_setLimits_3 : decode cX7_setLimits 3 = .ok (.if_icmp .lt 19, 3) := by decide +kernel
theorem dX7_setLimits_6 : decode cX7_setLimits 6 = .ok (.iload_n 1, 1) := by decide +kernel
theorem dX7_setLimits_7 : decode cX7_setLimits 7 = .ok (.bipush 120, 2) := by decide +kernel
theorem dX7_setLimits_9 : decode cX7_setLimits 9 = .ok (.if_icmp .gt 13, 3) := by decide +kernel
theorem dX7_setLimits_12 : decode cX7_setLimits 12 = .ok (.iload_n 2, 1) := by decide +kernel
theorem dX7_setLimits_13 : decode cX7_setLimits 13 = .ok (.ifCond .lt 9, 3) := by decide +kernel
theorem dX7_setLimits_16 : decode cX7_setLimits 16 = .ok (.iload_n 2, 1) := by decide +kernel
theorem dX7_setLimits_17 : decode cX7_setLimits 17 = .ok (.bipush 9, 2) := by decide +kernel
theorem dX7_setLimits_19 : decode cX7_setLimits 19 = .ok (.if_icmp .le 6, 3) := by decide +kernel
theorem dX7_setLimits_22 : decode cX7_setLimits 22 = .ok (.bipush (-2), 2) := by decide +kernel
theorem dX7_setLimits_24 : decode cX7_setLimits 24 = .ok (.ireturn, 1) := by decide +kernel
theorem dX7_setLimits_25 : decode cX7_setLimits 25 = .ok (.aload_n 0, 1) := by decide +kernel
theorem dX7_setLimits_26 : decode cX7_setLimits 26 = .ok (.getfield 19, 3) := by decide +kernel
theorem dX7_setLimits_29 : decode cX7_setLimits 29 = .ok (.getfield 74, 3) := by decide +kernel
theorem dX7_setLimits_32 : decode cX7_setLimits 32 = .ok (.getfield 78, 3) := by decide +kernel
theorem dX7_setLimits_35 : decode cX7_setLimits 35 = .ok (.ifCond .eq 6, 3) := by decide +kernel
theorem dX7_setLimits_38 : decode cX7_setLimits 38 = .ok (.bipush (-4), 2) := by decide +kernel
theorem dX7_setLimits_40 : decode cX7_setLimits 40 = .ok (.ireturn, 1) := by decide +kernel
theorem dX7_setLimits_41 : decode cX7_setLimits 41 = .ok (.aload_n 0, 1) := by decide +kernel
theorem dX7_setLimits_42 : decode cX7_setLimits 42 = .ok (.getfield 19, 3) := by decide +kernel
theorem dX7_setLimits_45 : decode cX7_setLimits 45 = .ok (.getfield 111, 3) := by decide +kernel
theorem dX7_setLimits_48 : decode cX7_setLimits 48 = .ok (.istore_n 3, 1) := by decide +kernel
theorem dX7_setLimits_49 : decode cX7_setLimits 49 = .ok (.iload_n 3, 1) := by decide +kernel
theorem dX7_setLimits_50 : decode cX7_setLimits 50 = .ok (.iload_n 1, 1) := by decide +kernel
theorem dX7_setLimits_51 : decode cX7_setLimits 51 = .ok (.if_icmp .ne 17, 3) := by decide +kernel
theorem dX7_setLimits_54 : decode cX7_setLimits 54 = .ok (.aload_n 0, 1) := by decide +kernel
theorem dX7_setLimits_55 : decode cX7_setLimits 55 = .ok (.getfield 19, 3) := by decide +kernel
theorem dX7_setLimits_58 : decode cX7_setLimits 58 = .ok (.getfield 114, 3) := by decide +kernel
theorem dX7_setLimits_61 : decode cX7_setLimits 61 = .ok (.iload_n 2, 1) := by decide +kernel
theorem dX7_setLimits_62 : decode cX7_setLimits 62 = .ok (.if_icmp .ne 6, 3) := by decide +kernel
theorem dX7_setLimits_65 : decode cX7_setLimits 65 = .ok (.bipush (-5), 2) := by decide +kernel
theorem dX7_setLimits_67 : decode cX7_setLimits 67 = .ok (.ireturn, 1) := by decide +kernel
theorem dX7_setLimits_68 : decode cX7_setLimits 68 = .ok (.aload_n 0, 1) := by decide +kernel
theorem dX7_setLimits_69 : decode cX7_setLimits 69 = .ok (.getfield 19, 3) := by decide +kernel
theorem dX7_setLimits_72 : decode cX7_setLimits 72 = .ok (.iload_n 1, 1) := by decide +kernel
theorem dX7_setLimits_73 : decode cX7_setLimits 73 = .ok (.putfield 111, 3) := by decide +kernel
theorem dX7_setLimits_76 : decode cX7_setLimits 76 = .ok (.aload_n 0, 1) := by decide +kernel
theorem dX7_setLimits_77 : decode cX7_setLimits 77 = .ok (.getfield 19, 3) := by decide +kernel
theorem dX7_setLimits_80 : decode cX7_setLimits 80 = .ok (.iload_n 2, 1) := by decide +kernel
theorem dX7_setLimits_81 : decode cX7_setLimits 81 = .ok (.putfield 114, 3) := by decide +kernel
theorem dX7_setLimits_84 : decode cX7_setLimits 84 = .ok (.iload_n 3, 1) := by decide +kernel
theorem dX7_setLimits_85 : decode cX7_setLimits 85 = .ok (.ireturn, 1) := by decide +kernel
theorem dX7_addPaint_0 : decode cX7_addPaint 0 = .ok (.iload_n 1, 1) := by decide +kernel
theorem dX7_addPaint_1 : decode cX7_addPaint 1 = .ok (.iconst 1, 1) := by decide +kernel
theorem dX7_addPaint_2 : decode cX7_addPaint 2 = .ok (.if_icmp .lt 10, 3) := by decide +kernel
theorem dX7_addPaint_5 : decode cX7_addPaint 5 = .ok (.iload_n 1, 1) := by decide +kernel
theorem dX7_addPaint_6 : decode cX7_addPaint 6 = .ok (.sipush 1000, 3) := by decide +kernel
theorem dX7_addPaint_9 : decode cX7_addPaint 9 = .ok (.if_icmp .le 6, 3) := by decide +kernel
theorem dX7_addPaint_12 : decode cX7_addPaint 12 = .ok (.bipush (-2), 2) := by decide +kernel
theorem dX7_addPaint_14 : decode cX7_addPaint 14 = .ok (.ireturn, 1) := by decide +kernel
theorem dX7_addPaint_15 : decode cX7_addPaint 15 = .ok (.aload_n 0, 1) := by decide +kernel
theorem dX7_addPaint_16 : decode cX7_addPaint 16 = .ok (.getfield 19, 3) := by decide +kernel
theorem dX7_addPaint_19 : decode cX7_addPaint 19 = .ok (.dup, 1) := by decide +kernel
theorem dX7_addPaint_20 : decode cX7_addPaint 20 = .ok (.getfield 117, 3) := by decide +kernel
theorem dX7_addPaint_23 : decode cX7_addPaint 23 = .ok (.iload_n 1, 1) := by decide +kernel
theorem dX7_addPaint_24 : decode cX7_addPaint 24 = .ok (.iadd, 1) := by decide +kernel
theorem dX7_addPaint_25 : decode cX7_addPaint 25 = .ok (.putfield 117, 3) := by decide +kernel
theorem dX7_addPaint_28 : decode cX7_addPaint 28 = .ok (.aload_n 0, 1) := by decide +kernel
theorem dX7_addPaint_29 : decode cX7_addPaint 29 = .ok (.getfield 19, 3) := by decide +kernel
theorem dX7_addPaint_32 : decode cX7_addPaint 32 = .ok (.getfield 117, 3) := by decide +kernel
theorem dX7_addPaint_35 : decode cX7_addPaint 35 = .ok (.ireturn, 1) := by decide +kernel
theorem dX7_book_0 : decode cX7_book 0 = .ok (.aload_n 0, 1) := by decide +kernel
theorem dX7_book_1 : decode cX7_book 1 = .ok (.getfield 19, 3) := by decide +kernel
theorem dX7_book_4 : decode cX7_book 4 = .ok (.getfield 120, 3) := by decide +kernel
theorem dX7_book_7 : decode cX7_book 7 = .ok (.astore_n 3, 1) := by decide +kernel
theorem dX7_book_8 : decode cX7_book 8 = .ok (.iload_n 1, 1) := by decide +kernel
theorem dX7_book_9 : decode cX7_book 9 = .ok (.invokestatic 124, 3) := by decide +kernel
theorem dX7_book_12 : decode cX7_book 12 = .ok (.ifCond .eq 13, 3) := by decide +kernel
theorem dX7_book_15 : decode cX7_book 15 = .ok (.iload_n 2, 1) := by decide +kernel
theorem dX7_book_16 : decode cX7_book 16 = .ok (.ifCond .lt 9, 3) := by decide +kernel
theorem dX7_book_19 : decode cX7_book 19 = .ok (.iload_n 2, 1) := by decide +kernel
theorem dX7_book_20 : decode cX7_book 20 = .ok (.ldc 127, 2) := by decide +kernel
theorem dX7_book_22 : decode cX7_book 22 = .ok (.if_icmp .le 6, 3) := by decide +kernel
theorem dX7_book_25 : decode cX7_book 25 = .ok (.bipush (-2), 2) := by decide +kernel
theorem dX7_book_27 : decode cX7_book 27 = .ok (.ireturn, 1) := by decide +kernel
theorem dX7_book_28 : decode cX7_book 28 = .ok (.aload_n 3, 1) := by decide +kernel
theorem dX7_book_29 : decode cX7_book 29 = .ok (.getfield 128, 3) := by decide +kernel
theorem dX7_book_32 : decode cX7_book 32 = .ok (.ifCond .le 23, 3) := by decide +kernel
theorem dX7_book_35 : decode cX7_book 35 = .ok (.aload_n 3, 1) := by decide +kernel
theorem dX7_book_36 : decode cX7_book 36 = .ok (.getfield 133, 3) := by decide +kernel
theorem dX7_book_39 : decode cX7_book 39 = .ok (.aload_n 3, 1) := by decide +kernel
theorem dX7_book_40 : decode cX7_book 40 = .ok (.getfield 128, 3) := by decide +kernel
theorem dX7_book_43 : decode cX7_book 43 = .ok (.iconst 1, 1) := by decide +kernel
theorem dX7_book_44 : decode cX7_book 44 = .ok (.isub, 1) := by decide +kernel
theorem dX7_book_45 : decode cX7_book 45 = .ok (.invokestatic 136, 3) := by decide +kernel
theorem dX7_book_48 : decode cX7_book 48 = .ok (.iload_n 2, 1) := by decide +kernel
theorem dX7_book_49 : decode cX7_book 49 = .ok (.if_icmp .le 6, 3) := by decide +kernel
theorem dX7_book_52 : decode cX7_book 52 = .ok (.bipush (-4), 2) := by decide +kernel
theorem dX7_book_54 : decode cX7_book 54 = .ok (.ireturn, 1) := by decide +kernel
theorem dX7_book_55 : decode cX7_book 55 = .ok (.aload_n 3, 1) := by decide +kernel
theorem dX7_book_56 : decode cX7_book 56 = .ok (.getfield 128, 3) := by decide +kernel
theorem dX7_book_59 : decode cX7_book 59 = .ok (.bipush 8, 2) := by decide +kernel
theorem dX7_book_61 : decode cX7_book 61 = .ok (.if_icmp .lt 6, 3) := by decide +kernel
theorem dX7_book_64 : decode cX7_book 64 = .ok (.bipush (-3), 2) := by decide +kernel
theorem dX7_book_66 : decode cX7_book 66 = .ok (.ireturn, 1) := by decide +kernel
theorem dX7_book_67 : decode cX7_book 67 = .ok (.aload_n 3, 1) := by decide +kernel
theorem dX7_book_68 : decode cX7_book 68 = .ok (.iload_n 1, 1) := by decide +kernel
theorem dX7_book_69 : decode cX7_book 69 = .ok (.iload_n 2, 1) := by decide +kernel
theorem dX7_book_70 : decode cX7_book 70 = .ok (.invokevirtual 140, 3) := by decide +kernel
theorem dX7_book_73 : decode cX7_book 73 = .ok (.aload_n 3, 1) := by decide +kernel
theorem dX7_book_74 : decode cX7_book 74 = .ok (.getfield 128, 3) := by decide +kernel
theorem dX7_book_77 : decode cX7_book 77 = .ok (.ireturn, 1) := by decide +kernel
theorem dX7_cancel_0 : decode cX7_cancel 0 = .ok (.aload_n 0, 1) := by decide +kernel
theorem dX7_cancel_1 : decode cX7_cancel 1 = .ok (.getfield 19, 3) := by decide +kernel
theorem dX7_cancel_4 : decode cX7_cancel 4 = .ok (.getfield 120, 3) := by decide +kernel
theorem dX7_cancel_7 : decode cX7_cancel 7 = .ok (.iload_n 1, 1) := by decide +kernel
theorem dX7_cancel_8 : decode cX7_cancel 8 = .ok (.invokevirtual 144, 3) := by decide +kernel
theorem dX7_cancel_11 : decode cX7_cancel 11 = .ok (.ifCond .ne 5, 3) := by decide +kernel
theorem dX7_cancel_14 : decode cX7_cancel 14 = .ok (.iconst (-1), 1) := by decide +kernel
theorem dX7_cancel_15 : decode cX7_cancel 15 = .ok (.ireturn, 1) := by decide +kernel
theorem dX7_cancel_16 : decode cX7_cancel 16 = .ok (.aload_n 0, 1) := by decide +kernel
theorem dX7_cancel_17 : decode cX7_cancel 17 = .ok (.getfield 19, 3) := by decide +kernel
theorem dX7_cancel_20 : decode cX7_cancel 20 = .ok (.getfield 120, 3) := by decide +kernel
theorem dX7_cancel_23 : decode cX7_cancel 23 = .ok (.iload_n 1, 1) := by decide +kernel
theorem dX7_cancel_24 : decode cX7_cancel 24 = .ok (.invokevirtual 147, 3) := by decide +kernel
theorem dX7_cancel_27 : decode cX7_cancel 27 = .ok (.aload_n 0, 1) := by decide +kernel
theorem dX7_cancel_28 : decode cX7_cancel 28 = .ok (.getfield 19, 3) := by decide +kernel
theorem dX7_cancel_31 : decode cX7_cancel 31 = .ok (.getfield 120, 3) := by decide +kernel
theorem dX7_cancel_34 : decode cX7_cancel 34 = .ok (.getfield 128, 3) := by decide +kernel
theorem dX7_cancel_37 : decode cX7_cancel 37 = .ok (.ireturn, 1) := by decide +kernel
theorem dX7_startGame_0 : decode cX7_startGame 0 = .ok (.aload_n 0, 1) := by decide +kernel
theorem dX7_startGame_1 : decode cX7_startGame 1 = .ok (.getfield 19, 3) := by decide +kernel
theorem dX7_startGame_4 : decode cX7_startGame 4 = .ok (.getfield 51, 3) := by decide +kernel
theorem dX7_startGame_7 : decode cX7_startGame 7 = .ok (.astore_n 1, 1) := by decide +kernel
theorem dX7_startGame_8 : decode cX7_startGame 8 = .ok (.aload_n 0, 1) := by decide +kernel
theorem dX7_startGame_9 : decode cX7_startGame 9 = .ok (.getfield 19, 3) := by decide +kernel
theorem dX7_startGame_12 : decode cX7_startGame 12 = .ok (.getfield 74, 3) := by decide +kernel
theorem dX7_startGame_15 : decode cX7_startGame 15 = .ok (.getfield 78, 3) := by decide +kernel
theorem dX7_startGame_18 : decode cX7_startGame 18 = .ok (.ifCond .ne 34, 3) := by decide +kernel
theorem dX7_startGame_21 : decode cX7_startGame 21 = .ok (.aload_n 0, 1) := by decide +kernel
theorem dX7_startGame_22 : decode cX7_startGame 22 = .ok (.getfield 19, 3) := by decide +kernel
theorem dX7_startGame_25 : decode cX7_startGame 25 = .ok (.getfield 120, 3) := by decide +kernel
theorem dX7_startGame_28 : decode cX7_startGame 28 = .ok (.getfield 128, 3) := by decide +kernel
theorem dX7_startGame_31 : decode cX7_startGame 31 = .ok (.ifCond .eq 21, 3) := by decide +kernel
theorem dX7_startGame_34 : decode cX7_startGame 34 = .ok (.aload_n 1, 1) := by decide +kernel
theorem dX7_startGame_35 : decode cX7_startGame 35 = .ok (.getfield 108, 3) := by decide +kernel
theorem dX7_startGame_38 : decode cX7_startGame 38 = .ok (.ifCond .eq 14, 3) := by decide +kernel
theorem dX7_startGame_41 : decode cX7_startGame 41 = .ok (.aload_n 1, 1) := by decide +kernel
theorem dX7_startGame_42 : decode cX7_startGame 42 = .ok (.aload_n 1, 1) := by decide +kernel
theorem dX7_startGame_43 : decode cX7_startGame 43 = .ok (.getfield 108, 3) := by decide +kernel
theorem dX7_startGame_46 : decode cX7_startGame 46 = .ok (.invokevirtual 151, 3) := by decide +kernel
theorem dX7_startGame_49 : decode cX7_startGame 49 = .ok (.ifCond .eq 6, 3) := by decide +kernel
theorem dX7_startGame_52 : decode cX7_startGame 52 = .ok (.bipush (-4), 2) := by decide +kernel
theorem dX7_startGame_54 : decode cX7_startGame 54 = .ok (.ireturn, 1) := by decide +kernel
theorem dX7_startGame_55 : decode cX7_startGame 55 = .ok (.aload_n 0, 1) := by decide +kernel
theorem dX7_startGame_56 : decode cX7_startGame 56 = .ok (.getfield 19, 3) := by decide +kernel
theorem dX7_startGame_59 : decode cX7_startGame 59 = .ok (.getfield 154, 3) := by decide +kernel
theorem dX7_startGame_62 : decode cX7_startGame 62 = .ok (.getfield 158, 3) := by decide +kernel
theorem dX7_startGame_65 : decode cX7_startGame 65 = .ok (.bipush 30, 2) := by decide +kernel
theorem dX7_startGame_67 : decode cX7_startGame 67 = .ok (.if_icmp .lt 6, 3) := by decide +kernel
theorem dX7_startGame_70 : decode cX7_startGame 70 = .ok (.bipush (-3), 2) := by decide +kernel
theorem dX7_startGame_72 : decode cX7_startGame 72 = .ok (.ireturn, 1) := by decide +kernel
theorem dX7_startGame_73 : decode cX7_startGame 73 = .ok (.aload_n 0, 1) := by decide +kernel
theorem dX7_startGame_74 : decode cX7_startGame 74 = .ok (.getfield 19, 3) := by decide +kernel
theorem dX7_startGame_77 : decode cX7_startGame 77 = .ok (.invokevirtual 163, 3) := by decide +kernel
theorem dX7_startGame_80 : decode cX7_startGame 80 = .ok (.ireturn, 1) := by decide +kernel
theorem dX7_take_0 : decode cX7_take 0 = .ok (.aload_n 0, 1) := by decide +kernel
theorem dX7_take_1 : decode cX7_take 1 = .ok (.getfield 19, 3) := by decide +kernel
theorem dX7_take_4 : decode cX7_take 4 = .ok (.getfield 51, 3) := by decide +kernel
theorem dX7_take_7 : decode cX7_take 7 = .ok (.astore_n 2, 1) := by decide +kernel
theorem dX7_take_8 : decode cX7_take 8 = .ok (.aload_n 2, 1) := by decide +kernel
theorem dX7_take_9 : decode cX7_take 9 = .ok (.iload_n 1, 1) := by decide +kernel
theorem dX7_take_10 : decode cX7_take 10 = .ok (.invokevirtual 71, 3) := by decide +kernel
theorem dX7_take_13 : decode cX7_take 13 = .ok (.ifCond .ne 5, 3) := by decide +kernel
theorem dX7_take_16 : decode cX7_take 16 = .ok (.iconst (-1), 1) := by decide +kernel
theorem dX7_take_17 : decode cX7_take 17 = .ok (.ireturn, 1) := by decide +kernel
theorem dX7_take_18 : decode cX7_take 18 = .ok (.aload_n 0, 1) := by decide +kernel
theorem dX7_take_19 : decode cX7_take 19 = .ok (.getfield 19, 3) := by decide +kernel
theorem dX7_take_22 : decode cX7_take 22 = .ok (.getfield 74, 3) := by decide +kernel
theorem dX7_take_25 : decode cX7_take 25 = .ok (.getfield 78, 3) := by decide +kernel
theorem dX7_take_28 : decode cX7_take 28 = .ok (.ifCond .eq 19, 3) := by decide +kernel
theorem dX7_take_31 : decode cX7_take 31 = .ok (.aload_n 2, 1) := by decide +kernel
theorem dX7_take_32 : decode cX7_take 32 = .ok (.iload_n 1, 1) := by decide +kernel
theorem dX7_take_33 : decode cX7_take 33 = .ok (.invokevirtual 166, 3) := by decide +kernel
theorem dX7_take_36 : decode cX7_take 36 = .ok (.ifCond .ne 11, 3) := by decide +kernel
theorem dX7_take_39 : decode cX7_take 39 = .ok (.aload_n 2, 1) := by decide +kernel
theorem dX7_take_40 : decode cX7_take 40 = .ok (.iload_n 1, 1) := by decide +kernel
theorem dX7_take_41 : decode cX7_take 41 = .ok (.invokevirtual 169, 3) := by decide +kernel
theorem dX7_take_44 : decode cX7_take 44 = .ok (.ifCond .ne 6, 3) := by decide +kernel
theorem dX7_take_47 : decode cX7_take 47 = .ok (.bipush (-4), 2) := by decide +kernel
theorem dX7_take_49 : decode cX7_take 49 = .ok (.ireturn, 1) := by decide +kernel
theorem dX7_take_50 : decode cX7_take 50 = .ok (.aload_n 2, 1) := by decide +kernel
theorem dX7_take_51 : decode cX7_take 51 = .ok (.invokevirtual 172, 3) := by decide +kernel
theorem dX7_take_54 : decode cX7_take 54 = .ok (.aload_n 2, 1) := by decide +kernel
theorem dX7_take_55 : decode cX7_take 55 = .ok (.getfield 175, 3) := by decide +kernel
theorem dX7_take_58 : decode cX7_take 58 = .ok (.if_icmp .lt 6, 3) := by decide +kernel
theorem dX7_take_61 : decode cX7_take 61 = .ok (.bipush (-3), 2) := by decide +kernel
theorem dX7_take_63 : decode cX7_take 63 = .ok (.ireturn, 1) := by decide +kernel
theorem dX7_take_64 : decode cX7_take 64 = .ok (.iconst 3, 1) := by decide +kernel
theorem dX7_take_65 : decode cX7_take 65 = .ok (.aload_n 2, 1) := by decide +kernel
theorem dX7_take_66 : decode cX7_take 66 = .ok (.getfield 175, 3) := by decide +kernel
theorem dX7_take_69 : decode cX7_take 69 = .ok (.invokestatic 178, 3) := by decide +kernel
theorem dX7_take_72 : decode cX7_take 72 = .ok (.istore_n 3, 1) := by decide +kernel
theorem dX7_take_73 : decode cX7_take 73 = .ok (.aload_n 0, 1) := by decide +kernel
theorem dX7_take_74 : decode cX7_take 74 = .ok (.getfield 19, 3) := by decide +kernel
theorem dX7_take_77 : decode cX7_take 77 = .ok (.iload_n 3, 1) := by decide +kernel
theorem dX7_take_78 : decode cX7_take 78 = .ok (.invokevirtual 182, 3) := by decide +kernel
theorem dX7_take_81 : decode cX7_take 81 = .ok (.ifCond .ne 11, 3) := by decide +kernel
theorem dX7_take_84 : decode cX7_take 84 = .ok (.aload_n 0, 1) := by decide +kernel
theorem dX7_take_85 : decode cX7_take 85 = .ok (.getfield 19, 3) := by decide +kernel
theorem dX7_take_88 : decode cX7_take 88 = .ok (.invokevirtual 185, 3) := by decide +kernel
theorem dX7_take_91 : decode cX7_take 91 = .ok (.ireturn, 1) := by decide +kernel
theorem dX7_take_92 : decode cX7_take 92 = .ok (.aload_n 0, 1) := by decide +kernel
theorem dX7_take_93 : decode cX7_take 93 = .ok (.getfield 19, 3) := by decide +kernel
theorem dX7_take_96 : decode cX7_take 96 = .ok (.ldc 188, 2) := by decide +kernel
theorem dX7_take_98 : decode cX7_take 98 = .ok (.iload_n 1, 1) := by decide +kernel
theorem dX7_take_99 : decode cX7_take 99 = .ok (.iconst (-1), 1) := by decide +kernel
theorem dX7_take_100 : decode cX7_take 100 = .ok (.invokevirtual 190, 3) := by decide +kernel
theorem dX7_take_103 : decode cX7_take 103 = .ok (.aload_n 2, 1) := by decide +kernel
theorem dX7_take_104 : decode cX7_take 104 = .ok (.getfield 194, 3) := by decide +kernel
theorem dX7_take_107 : decode cX7_take 107 = .ok (.iload_n 1, 1) := by decide +kernel
theorem dX7_take_108 : decode cX7_take 108 = .ok (.iconst (-1), 1) := by decide +kernel
theorem dX7_take_109 : decode cX7_take 109 = .ok (.invokestatic 47, 3) := by decide +kernel
theorem dX7_take_112 : decode cX7_take 112 = .ok (.aload_n 0, 1) := by decide +kernel
theorem dX7_take_113 : decode cX7_take 113 = .ok (.getfield 19, 3) := by decide +kernel
theorem dX7_take_116 : decode cX7_take 116 = .ok (.iload_n 3, 1) := by decide +kernel
theorem dX7_take_117 : decode cX7_take 117 = .ok (.invokevirtual 197, 3) := by decide +kernel
theorem dX7_take_120 : decode cX7_take 120 = .ok (.aload_n 2, 1) := by decide +kernel
theorem dX7_take_121 : decode cX7_take 121 = .ok (.invokevirtual 172, 3) := by decide +kernel
theorem dX7_take_124 : decode cX7_take 124 = .ok (.ireturn, 1) := by decide +kernel
theorem dX7_lay_0 : decode cX7_lay 0 = .ok (.aload_n 0, 1) := by decide +kernel
theorem dX7_lay_1 : decode cX7_lay 1 = .ok (.getfield 19, 3) := by decide +kernel
theorem dX7_lay_4 : decode cX7_lay 4 = .ok (.getfield 51, 3) := by decide +kernel
theorem dX7_lay_7 : decode cX7_lay 7 = .ok (.astore_n 3, 1) := by decide +kernel
theorem dX7_lay_8 : decode cX7_lay 8 = .ok (.aload_n 3, 1) := by decide +kernel
theorem dX7_lay_9 : decode cX7_lay 9 = .ok (.iload_n 1, 1) := by decide +kernel
theorem dX7_lay_10 : decode cX7_lay 10 = .ok (.invokevirtual 71, 3) := by decide +kernel
theorem dX7_lay_13 : decode cX7_lay 13 = .ok (.ifCond .eq 11, 3) := by decide +kernel
theorem dX7_lay_16 : decode cX7_lay 16 = .ok (.aload_n 3, 1) := by decide +kernel
theorem dX7_lay_17 : decode cX7_lay 17 = .ok (.iload_n 2, 1) := by decide +kernel
theorem dX7_lay_18 : decode cX7_lay 18 = .ok (.invokevirtual 64, 3) := by decide +kernel
theorem dX7_lay_21 : decode cX7_lay 21 = .ok (.ifCond .ne 5, 3) := by decide +kernel
theorem dX7_lay_24 : decode cX7_lay 24 = .ok (.iconst (-1), 1) := by decide +kernel
theorem dX7_lay_25 : decode cX7_lay 25 = .ok (.ireturn, 1) := by decide +kernel
theorem dX7_lay_26 : decode cX7_lay 26 = .ok (.aload_n 0, 1) := by decide +kernel
theorem dX7_lay_27 : decode cX7_lay 27 = .ok (.getfield 19, 3) := by decide +kernel
theorem dX7_lay_30 : decode cX7_lay 30 = .ok (.getfield 74, 3) := by decide +kernel
theorem dX7_lay_33 : decode cX7_lay 33 = .ok (.getfield 78, 3) := by decide +kernel
theorem dX7_lay_36 : decode cX7_lay 36 = .ok (.ifCond .eq 19, 3) := by decide +kernel
theorem dX7_lay_39 : decode cX7_lay 39 = .ok (.aload_n 3, 1) := by decide +kernel
theorem dX7_lay_40 : decode cX7_lay 40 = .ok (.iload_n 1, 1) := by decide +kernel
theorem dX7_lay_41 : decode cX7_lay 41 = .ok (.invokevirtual 166, 3) := by decide +kernel
theorem dX7_lay_44 : decode cX7_lay 44 = .ok (.ifCond .eq 11, 3) := by decide +kernel
theorem dX7_lay_47 : decode cX7_lay 47 = .ok (.aload_n 3, 1) := by decide +kernel
theorem dX7_lay_48 : decode cX7_lay 48 = .ok (.iload_n 2, 1) := by decide +kernel
theorem dX7_lay_49 : decode cX7_lay 49 = .ok (.invokevirtual 200, 3) := by decide +kernel
theorem dX7_lay_52 : decode cX7_lay 52 = .ok (.ifCond .eq 6, 3) := by decide +kernel
theorem dX7_lay_55 : decode cX7_lay 55 = .ok (.bipush (-4), 2) := by decide +kernel
theorem dX7_lay_57 : decode cX7_lay 57 = .ok (.ireturn, 1) := by decide +kernel
theorem dX7_lay_58 : decode cX7_lay 58 = .ok (.iconst 2, 1) := by decide +kernel
theorem dX7_lay_59 : decode cX7_lay 59 = .ok (.aload_n 3, 1) := by decide +kernel
theorem dX7_lay_60 : decode cX7_lay 60 = .ok (.getfield 175, 3) := by decide +kernel
theorem dX7_lay_63 : decode cX7_lay 63 = .ok (.invokestatic 178, 3) := by decide +kernel
theorem dX7_lay_66 : decode cX7_lay 66 = .ok (.istore 4, 2) := by decide +kernel
theorem dX7_lay_68 : decode cX7_lay 68 = .ok (.aload_n 0, 1) := by decide +kernel
theorem dX7_lay_69 : decode cX7_lay 69 = .ok (.getfield 19, 3) := by decide +kernel
theorem dX7_lay_72 : decode cX7_lay 72 = .ok (.iload 4, 2) := by decide +kernel
theorem dX7_lay_74 : decode cX7_lay 74 = .ok (.invokevirtual 182, 3) := by decide +kernel
theorem dX7_lay_77 : decode cX7_lay 77 = .ok (.ifCond .ne 11, 3) := by decide +kernel
theorem dX7_lay_80 : decode cX7_lay 80 = .ok (.aload_n 0, 1) := by decide +kernel
theorem dX7_lay_81 : decode cX7_lay 81 = .ok (.getfield 19, 3) := by decide +kernel
theorem dX7_lay_84 : decode cX7_lay 84 = .ok (.invokevirtual 185, 3) := by decide +kernel
theorem dX7_lay_87 : decode cX7_lay 87 = .ok (.ireturn, 1) := by decide +kernel
theorem dX7_lay_88 : decode cX7_lay 88 = .ok (.aload_n 0, 1) := by decide +kernel
theorem dX7_lay_89 : decode cX7_lay 89 = .ok (.getfield 19, 3) := by decide +kernel
theorem dX7_lay_92 : decode cX7_lay 92 = .ok (.ldc 203, 2) := by decide +kernel
theorem dX7_lay_94 : decode cX7_lay 94 = .ok (.iload_n 1, 1) := by decide +kernel
theorem dX7_lay_95 : decode cX7_lay 95 = .ok (.iload_n 2, 1) := by decide +kernel
theorem dX7_lay_96 : decode cX7_lay 96 = .ok (.invokevirtual 190, 3) := by decide +kernel
theorem dX7_lay_99 : decode cX7_lay 99 = .ok (.aload_n 3, 1) := by decide +kernel
theorem dX7_lay_100 : decode cX7_lay 100 = .ok (.getfield 194, 3) := by decide +kernel
theorem dX7_lay_103 : decode cX7_lay 103 = .ok (.iload_n 1, 1) := by decide +kernel
theorem dX7_lay_104 : decode cX7_lay 104 = .ok (.iload_n 2, 1) := by decide +kernel
theorem dX7_lay_105 : decode cX7_lay 105 = .ok (.invokestatic 47, 3) := by decide +kernel
theorem dX7_lay_108 : decode cX7_lay 108 = .ok (.aload_n 0, 1) := by decide +kernel
theorem dX7_lay_109 : decode cX7_lay 109 = .ok (.getfield 19, 3) := by decide +kernel
theorem dX7_lay_112 : decode cX7_lay 112 = .ok (.iload 4, 2) := by decide +kernel
theorem dX7_lay_114 : decode cX7_lay 114 = .ok (.invokevirtual 197, 3) := by decide +kernel
theorem dX7_lay_117 : decode cX7_lay 117 = .ok (.aload_n 3, 1) := by decide +kernel
theorem dX7_lay_118 : decode cX7_lay 118 = .ok (.invokevirtual 172, 3) := by decide +kernel
theorem dX7_lay_121 : decode cX7_lay 121 = .ok (.ireturn, 1) := by decide +kernel
theorem dX7_open_0 : decode cX7_open 0 = .ok (.aload_n 0, 1) := by decide +kernel
theorem dX7_open_1 : decode cX7_open 1 = .ok (.getfield 19, 3) := by decide +kernel
theorem dX7_open_4 : decode cX7_open 4 = .ok (.getfield 51, 3) := by decide +kernel
theorem dX7_open_7 : decode cX7_open 7 = .ok (.astore_n 3, 1) := by decide +kernel
theorem dX7_open_8 : decode cX7_open 8 = .ok (.aload_n 3, 1) := by decide +kernel
theorem dX7_open_9 : decode cX7_open 9 = .ok (.iload_n 1, 1) := by decide +kernel
theorem dX7_open_10 : decode cX7_open 10 = .ok (.invokevirtual 64, 3) := by decide +kernel
theorem dX7_open_13 : decode cX7_open 13 = .ok (.ifCond .ne 5, 3) := by decide +kernel
theorem dX7_open_16 : decode cX7_open 16 = .ok (.iconst (-1), 1) := by decide +kernel
theorem dX7_open_17 : decode cX7_open 17 = .ok (.ireturn, 1) := by decide +kernel
theorem dX7_open_18 : decode cX7_open 18 = .ok (.aload_n 0, 1) := by decide +kernel
theorem dX7_open_19 : decode cX7_open 19 = .ok (.getfield 19, 3) := by decide +kernel
theorem dX7_open_22 : decode cX7_open 22 = .ok (.getfield 74, 3) := by decide +kernel
theorem dX7_open_25 : decode cX7_open 25 = .ok (.getfield 78, 3) := by decide +kernel
theorem dX7_open_28 : decode cX7_open 28 = .ok (.ifCond .eq 11, 3) := by decide +kernel
theorem dX7_open_31 : decode cX7_open 31 = .ok (.aload_n 3, 1) := by decide +kernel
theorem dX7_open_32 : decode cX7_open 32 = .ok (.iload_n 1, 1) := by decide +kernel
theorem dX7_open_33 : decode cX7_open 33 = .ok (.invokevirtual 205, 3) := by decide +kernel
theorem dX7_open_36 : decode cX7_open 36 = .ok (.ifCond .ne 6, 3) := by decide +kernel
theorem dX7_open_39 : decode cX7_open 39 = .ok (.bipush (-4), 2) := by decide +kernel
theorem dX7_open_41 : decode cX7_open 41 = .ok (.ireturn, 1) := by decide +kernel
theorem dX7_open_42 : decode cX7_open 42 = .ok (.aload_n 3, 1) := by decide +kernel
theorem dX7_open_43 : decode cX7_open 43 = .ok (.iload_n 1, 1) := by decide +kernel
theorem dX7_open_44 : decode cX7_open 44 = .ok (.iconst 2, 1) := by decide +kernel
theorem dX7_open_45 : decode cX7_open 45 = .ok (.invokevirtual 98, 3) := by decide +kernel
theorem dX7_open_48 : decode cX7_open 48 = .ok (.ifCond .eq 19, 3) := by decide +kernel
theorem dX7_open_51 : decode cX7_open 51 = .ok (.aload_n 3, 1) := by decide +kernel
theorem dX7_open_52 : decode cX7_open 52 = .ok (.getfield 208, 3) := by decide +kernel
theorem dX7_open_55 : decode cX7_open 55 = .ok (.iload_n 1, 1) := by decide +kernel
theorem dX7_open_56 : decode cX7_open 56 = .ok (.invokestatic 136, 3) := by decide +kernel
theorem dX7_open_59 : decode cX7_open 59 = .ok (.iload_n 2, 1) := by decide +kernel
theorem dX7_open_60 : decode cX7_open 60 = .ok (.if_icmp .eq 7, 3) := by decide +kernel
theorem dX7_open_63 : decode cX7_open 63 = .ok (.iconst 1, 1) := by decide +kernel
theorem dX7_open_64 : decode cX7_open 64 = .ok (.goto 4, 3) := by decide +kernel
theorem dX7_open_67 : decode cX7_open 67 = .ok (.iconst 0, 1) := by decide +kernel
theorem dX7_open_68 : decode cX7_open 68 = .ok (.istore 4, 2) := by decide +kernel
theorem dX7_open_70 : decode cX7_open 70 = .ok (.iconst 4, 1) := by decide +kernel
theorem dX7_open_71 : decode cX7_open 71 = .ok (.aload_n 3, 1) := by decide +kernel
theorem dX7_open_72 : decode cX7_open 72 = .ok (.getfield 175, 3) := by decide +kernel
theorem dX7_open_75 : decode cX7_open 75 = .ok (.invokestatic 178, 3) := by decide +kernel
theorem dX7_open_78 : decode cX7_open 78 = .ok (.iload 4, 2) := by decide +kernel
theorem dX7_open_80 : decode cX7_open 80 = .ok (.ifCond .eq 7, 3) := by decide +kernel
theorem dX7_open_83 : decode cX7_open 83 = .ok (.iconst 2, 1) := by decide +kernel
theorem dX7_open_84 : decode cX7_open 84 = .ok (.goto 4, 3) := by decide +kernel
theorem dX7_open_87 : decode cX7_open 87 = .ok (.iconst 1, 1) := by decide +kernel
theorem dX7_open_88 : decode cX7_open 88 = .ok (.imul, 1) := by decide +kernel
theorem dX7_open_89 : decode cX7_open 89 = .ok (.istore 5, 2) := by decide +kernel
theorem dX7_open_91 : decode cX7_open 91 = .ok (.aload_n 0, 1) := by decide +kernel
theorem dX7_open_92 : decode cX7_open 92 = .ok (.getfield 19, 3) := by decide +kernel
theorem dX7_open_95 : decode cX7_open 95 = .ok (.iload 5, 2) := by decide +kernel
theorem dX7_open_97 : decode cX7_open 97 = .ok (.invokevirtual 182, 3) := by decide +kernel
theorem dX7_open_100 : decode cX7_open 100 = .ok (.ifCond .ne 11, 3) := by decide +kernel
theorem dX7_open_103 : decode cX7_open 103 = .ok (.aload_n 0, 1) := by decide +kernel
theorem dX7_open_104 : decode cX7_open 104 = .ok (.getfield 19, 3) := by decide +kernel
theorem dX7_open_107 : decode cX7_open 107 = .ok (.invokevirtual 185, 3) := by decide +kernel
theorem dX7_open_110 : decode cX7_open 110 = .ok (.ireturn, 1) := by decide +kernel
theorem dX7_open_111 : decode cX7_open 111 = .ok (.aload_n 0, 1) := by decide +kernel
theorem dX7_open_112 : decode cX7_open 112 = .ok (.getfield 19, 3) := by decide +kernel
theorem dX7_open_115 : decode cX7_open 115 = .ok (.ldc 210, 2) := by decide +kernel
theorem dX7_open_117 : decode cX7_open 117 = .ok (.iload_n 1, 1) := by decide +kernel
theorem dX7_open_118 : decode cX7_open 118 = .ok (.iconst (-1), 1) := by decide +kernel
theorem dX7_open_119 : decode cX7_open 119 = .ok (.invokevirtual 190, 3) := by decide +kernel
theorem dX7_open_122 : decode cX7_open 122 = .ok (.iload 4, 2) := by decide +kernel
theorem dX7_open_124 : decode cX7_open 124 = .ok (.ifCond .eq 30, 3) := by decide +kernel
theorem dX7_open_127 : decode cX7_open 127 = .ok (.aload_n 0, 1) := by decide +kernel
theorem dX7_open_128 : decode cX7_open 128 = .ok (.getfield 19, 3) := by decide +kernel
theorem dX7_open_131 : decode cX7_open 131 = .ok (.getfield 74, 3) := by decide +kernel
theorem dX7_open_134 : decode cX7_open 134 = .ok (.dup, 1) := by decide +kernel
theorem dX7_open_135 : decode cX7_open 135 = .ok (.getfield 212, 3) := by decide +kernel
theorem dX7_open_138 : decode cX7_open 138 = .ok (.iconst 1, 1) := by decide +kernel
theorem dX7_open_139 : decode cX7_open 139 = .ok (.iadd, 1) := by decide +kernel
theorem dX7_open_140 : decode cX7_open 140 = .ok (.putfield 212, 3) := by decide +kernel
theorem dX7_open_143 : decode cX7_open 143 = .ok (.aload_n 0, 1) := by decide +kernel
theorem dX7_open_144 : decode cX7_open 144 = .ok (.getfield 19, 3) := by decide +kernel
theorem dX7_open_147 : decode cX7_open 147 = .ok (.iload 5, 2) := by decide +kernel
theorem dX7_open_149 : decode cX7_open 149 = .ok (.invokevirtual 197, 3) := by decide +kernel
theorem dX7_open_152 : decode cX7_open 152 = .ok (.iconst 0, 1) := by decide +kernel
theorem dX7_open_153 : decode cX7_open 153 = .ok (.ireturn, 1) := by decide +kernel
theorem dX7_open_154 : decode cX7_open 154 = .ok (.aload_n 3, 1) := by decide +kernel
theorem dX7_open_155 : decode cX7_open 155 = .ok (.getfield 215, 3) := by decide +kernel
theorem dX7_open_158 : decode cX7_open 158 = .ok (.iload_n 1, 1) := by decide +kernel
theorem dX7_open_159 : decode cX7_open 159 = .ok (.iconst 1, 1) := by decide +kernel
theorem dX7_open_160 : decode cX7_open 160 = .ok (.invokestatic 47, 3) := by decide +kernel
theorem dX7_open_163 : decode cX7_open 163 = .ok (.aload_n 0, 1) := by decide +kernel
theorem dX7_open_164 : decode cX7_open 164 = .ok (.getfield 19, 3) := by decide +kernel
theorem dX7_open_167 : decode cX7_open 167 = .ok (.iload 5, 2) := by decide +kernel
theorem dX7_open_169 : decode cX7_open 169 = .ok (.invokevirtual 197, 3) := by decide +kernel
theorem dX7_open_172 : decode cX7_open 172 = .ok (.iload_n 1, 1) := by decide +kernel
theorem dX7_open_173 : decode cX7_open 173 = .ok (.aload_n 3, 1) := by decide +kernel
theorem dX7_open_174 : decode cX7_open 174 = .ok (.getfield 108, 3) := by decide +kernel
theorem dX7_open_177 : decode cX7_open 177 = .ok (.if_icmp .eq 5, 3) := by decide +kernel
theorem dX7_open_180 : decode cX7_open 180 = .ok (.iconst 1, 1) := by decide +kernel
theorem dX7_open_181 : decode cX7_open 181 = .ok (.ireturn, 1) := by decide +kernel
theorem dX7_open_182 : decode cX7_open 182 = .ok (.aload_n 0, 1) := by decide +kernel
theorem dX7_open_183 : decode cX7_open 183 = .ok (.getfield 19, 3) := by decide +kernel
theorem dX7_open_186 : decode cX7_open 186 = .ok (.iconst 1, 1) := by decide +kernel
theorem dX7_open_187 : decode cX7_open 187 = .ok (.invokevirtual 218, 3) := by decide +kernel
theorem dX7_open_190 : decode cX7_open 190 = .ok (.iconst 2, 1) := by decide +kernel
theorem dX7_open_191 : decode cX7_open 191 = .ok (.ireturn, 1) := by decide +kernel
theorem dX7_read_0 : decode cX7_read 0 = .ok (.aload_n 0, 1) := by decide +kernel
theorem dX7_read_1 : decode cX7_read 1 = .ok (.getfield 19, 3) := by decide +kernel
theorem dX7_read_4 : decode cX7_read 4 = .ok (.getfield 51, 3) := by decide +kernel
theorem dX7_read_7 : decode cX7_read 7 = .ok (.astore_n 2, 1) := by decide +kernel
theorem dX7_read_8 : decode cX7_read 8 = .ok (.aload_n 2, 1) := by decide +kernel
theorem dX7_read_9 : decode cX7_read 9 = .ok (.iload_n 1, 1) := by decide +kernel
theorem dX7_read_10 : decode cX7_read 10 = .ok (.invokevirtual 222, 3) := by decide +kernel
theorem dX7_read_13 : decode cX7_read 13 = .ok (.ifCond .ne 5, 3) := by decide +kernel
theorem dX7_read_16 : decode cX7_read 16 = .ok (.iconst (-1), 1) := by decide +kernel
theorem dX7_read_17 : decode cX7_read 17 = .ok (.ireturn, 1) := by decide +kernel
theorem dX7_read_18 : decode cX7_read 18 = .ok (.aload_n 0, 1) := by decide +kernel
theorem dX7_read_19 : decode cX7_read 19 = .ok (.getfield 19, 3) := by decide +kernel
theorem dX7_read_22 : decode cX7_read 22 = .ok (.getfield 74, 3) := by decide +kernel
theorem dX7_read_25 : decode cX7_read 25 = .ok (.getfield 78, 3) := by decide +kernel
theorem dX7_read_28 : decode cX7_read 28 = .ok (.ifCond .eq 11, 3) := by decide +kernel
theorem dX7_read_31 : decode cX7_read 31 = .ok (.aload_n 2, 1) := by decide +kernel
theorem dX7_read_32 : decode cX7_read 32 = .ok (.iload_n 1, 1) := by decide +kernel
theorem dX7_read_33 : decode cX7_read 33 = .ok (.invokevirtual 225, 3) := by decide +kernel
theorem dX7_read_36 : decode cX7_read 36 = .ok (.ifCond .ne 6, 3) := by decide +kernel
theorem dX7_read_39 : decode cX7_read 39 = .ok (.bipush (-4), 2) := by decide +kernel
theorem dX7_read_41 : decode cX7_read 41 = .ok (.ireturn, 1) := by decide +kernel
theorem dX7_read_42 : decode cX7_read 42 = .ok (.aload_n 2, 1) := by decide +kernel
theorem dX7_read_43 : decode cX7_read 43 = .ok (.getfield 228, 3) := by decide +kernel
theorem dX7_read_46 : decode cX7_read 46 = .ok (.iload_n 1, 1) := by decide +kernel
theorem dX7_read_47 : decode cX7_read 47 = .ok (.invokestatic 136, 3) := by decide +kernel
theorem dX7_read_50 : decode cX7_read 50 = .ok (.ifCond .ne 6, 3) := by decide +kernel
theorem dX7_read_53 : decode cX7_read 53 = .ok (.bipush (-5), 2) := by decide +kernel
theorem dX7_read_55 : decode cX7_read 55 = .ok (.ireturn, 1) := by decide +kernel
theorem dX7_read_56 : decode cX7_read 56 = .ok (.aload_n 2, 1) := by decide +kernel
theorem dX7_read_57 : decode cX7_read 57 = .ok (.iload_n 1, 1) := by decide +kernel
theorem dX7_read_58 : decode cX7_read 58 = .ok (.invokevirtual 231, 3) := by decide +kernel
theorem dX7_read_61 : decode cX7_read 61 = .ok (.istore_n 3, 1) := by decide +kernel
theorem dX7_read_62 : decode cX7_read 62 = .ok (.aload_n 0, 1) := by decide +kernel
theorem dX7_read_63 : decode cX7_read 63 = .ok (.getfield 19, 3) := by decide +kernel
theorem dX7_read_66 : decode cX7_read 66 = .ok (.iload_n 3, 1) := by decide +kernel
theorem dX7_read_67 : decode cX7_read 67 = .ok (.invokevirtual 182, 3) := by decide +kernel
theorem dX7_read_70 : decode cX7_read 70 = .ok (.ifCond .ne 11, 3) := by decide +kernel
theorem dX7_read_73 : decode cX7_read 73 = .ok (.aload_n 0, 1) := by decide +kernel
theorem dX7_read_74 : decode cX7_read 74 = .ok (.getfield 19, 3) := by decide +kernel
theorem dX7_read_77 : decode cX7_read 77 = .ok (.invokevirtual 185, 3) := by decide +kernel
theorem dX7_read_80 : decode cX7_read 80 = .ok (.ireturn, 1) := by decide +kernel
theorem dX7_read_81 : decode cX7_read 81 = .ok (.aload_n 0, 1) := by decide +kernel
theorem dX7_read_82 : decode cX7_read 82 = .ok (.getfield 19, 3) := by decide +kernel
theorem dX7_read_85 : decode cX7_read 85 = .ok (.ldc 234, 2) := by decide +kernel
theorem dX7_read_87 : decode cX7_read 87 = .ok (.iload_n 1, 1) := by decide +kernel
theorem dX7_read_88 : decode cX7_read 88 = .ok (.iconst (-1), 1) := by decide +kernel
theorem dX7_read_89 : decode cX7_read 89 = .ok (.invokevirtual 190, 3) := by decide +kernel
theorem dX7_read_92 : decode cX7_read 92 = .ok (.aload_n 2, 1) := by decide +kernel
theorem dX7_read_93 : decode cX7_read 93 = .ok (.iload_n 1, 1) := by decide +kernel
theorem dX7_read_94 : decode cX7_read 94 = .ok (.invokevirtual 236, 3) := by decide +kernel
theorem dX7_read_97 : decode cX7_read 97 = .ok (.aload_n 0, 1) := by decide +kernel
theorem dX7_read_98 : decode cX7_read 98 = .ok (.getfield 19, 3) := by decide +kernel
theorem dX7_read_101 : decode cX7_read 101 = .ok (.iload_n 3, 1) := by decide +kernel
theorem dX7_read_102 : decode cX7_read 102 = .ok (.invokevirtual 197, 3) := by decide +kernel
theorem dX7_read_105 : decode cX7_read 105 = .ok (.aload_n 2, 1) := by decide +kernel
theorem dX7_read_106 : decode cX7_read 106 = .ok (.iload_n 1, 1) := by decide +kernel
theorem dX7_read_107 : decode cX7_read 107 = .ok (.invokevirtual 239, 3) := by decide +kernel
theorem dX7_read_110 : decode cX7_read 110 = .ok (.ireturn, 1) := by decide +kernel
theorem dX7_rest_0 : decode cX7_rest 0 = .ok (.iload_n 1, 1) := by decide +kernel
theorem dX7_rest_1 : decode cX7_rest 1 = .ok (.iconst 1, 1) := by decide +kernel
theorem dX7_rest_2 : decode cX7_rest 2 = .ok (.if_icmp .lt 9, 3) := by decide +kernel
theorem dX7_rest_5 : decode cX7_rest 5 = .ok (.iload_n 1, 1) := by decide +kernel
theorem dX7_rest_6 : decode cX7_rest 6 = .ok (.bipush 60, 2) := by decide +kernel
theorem dX7_rest_8 : decode cX7_rest 8 = .ok (.if_icmp .le 6, 3) := by decide +kernel
theorem dX7_rest_11 : decode cX7_rest 11 = .ok (.bipush (-2), 2) := by decide +kernel
theorem dX7_rest_13 : decode cX7_rest 13 = .ok (.ireturn, 1) := by decide +kernel
theorem dX7_rest_14 : decode cX7_rest 14 = .ok (.aload_n 0, 1) := by decide +kernel
theorem dX7_rest_15 : decode cX7_rest 15 = .ok (.getfield 19, 3) := by decide +kernel
theorem dX7_rest_18 : decode cX7_rest 18 = .ok (.getfield 74, 3) := by decide +kernel
theorem dX7_rest_21 : decode cX7_rest 21 = .ok (.getfield 78, 3) := by decide +kernel
theorem dX7_rest_24 : decode cX7_rest 24 = .ok (.ifCond .ne 6, 3) := by decide +kernel
theorem dX7_rest_27 : decode cX7_rest 27 = .ok (.bipush (-4), 2) := by decide +kernel
theorem dX7_rest_29 : decode cX7_rest 29 = .ok (.ireturn, 1) := by decide +kernel
theorem dX7_rest_30 : decode cX7_rest 30 = .ok (.aload_n 0, 1) := by decide +kernel
theorem dX7_rest_31 : decode cX7_rest 31 = .ok (.getfield 19, 3) := by decide +kernel
theorem dX7_rest_34 : decode cX7_rest 34 = .ok (.iload_n 1, 1) := by decide +kernel
theorem dX7_rest_35 : decode cX7_rest 35 = .ok (.invokevirtual 182, 3) := by decide +kernel
theorem dX7_rest_38 : decode cX7_rest 38 = .ok (.ifCond .ne 11, 3) := by decide +kernel
theorem dX7_rest_41 : decode cX7_rest 41 = .ok (.aload_n 0, 1) := by decide +kernel
theorem dX7_rest_42 : decode cX7_rest 42 = .ok (.getfield 19, 3) := by decide +kernel
theorem dX7_rest_45 : decode cX7_rest 45 = .ok (.invokevirtual 185, 3) := by decide +kernel
theorem dX7_rest_48 : decode cX7_rest 48 = .ok (.ireturn, 1) := by decide +kernel
theorem dX7_rest_49 : decode cX7_rest 49 = .ok (.aload_n 0, 1) := by decide +kernel
theorem dX7_rest_50 : decode cX7_rest 50 = .ok (.getfield 19, 3) := by decide +kernel
theorem dX7_rest_53 : decode cX7_rest 53 = .ok (.ldc 242, 2) := by decide +kernel
theorem dX7_rest_55 : decode cX7_rest 55 = .ok (.iload_n 1, 1) := by decide +kernel
theorem dX7_rest_56 : decode cX7_rest 56 = .ok (.iconst (-1), 1) := by decide +kernel
theorem dX7_rest_57 : decode cX7_rest 57 = .ok (.invokevirtual 190, 3) := by decide +kernel
theorem dX7_rest_60 : decode cX7_rest 60 = .ok (.aload_n 0, 1) := by decide +kernel
theorem dX7_rest_61 : decode cX7_rest 61 = .ok (.getfield 19, 3) := by decide +kernel
theorem dX7_rest_64 : decode cX7_rest 64 = .ok (.iload_n 1, 1) := by decide +kernel
theorem dX7_rest_65 : decode cX7_rest 65 = .ok (.invokevirtual 197, 3) := by decide +kernel
theorem dX7_rest_68 : decode cX7_rest 68 = .ok (.aload_n 0, 1) := by decide +kernel
theorem dX7_rest_69 : decode cX7_rest 69 = .ok (.getfield 19, 3) := by decide +kernel
theorem dX7_rest_72 : decode cX7_rest 72 = .ok (.invokevirtual 244, 3) := by decide +kernel
theorem dX7_rest_75 : decode cX7_rest 75 = .ok (.ireturn, 1) := by decide +kernel
theorem dX7_nudge_0 : decode cX7_nudge 0 = .ok (.aload_n 0, 1) := by decide +kernel
theorem dX7_nudge_1 : decode cX7_nudge 1 = .ok (.getfield 19, 3) := by decide +kernel
theorem dX7_nudge_4 : decode cX7_nudge 4 = .ok (.getfield 74, 3) := by decide +kernel
theorem dX7_nudge_7 : decode cX7_nudge 7 = .ok (.getfield 78, 3) := by decide +kernel
theorem dX7_nudge_10 : decode cX7_nudge 10 = .ok (.ifCond .ne 6, 3) := by decide +kernel
theorem dX7_nudge_13 : decode cX7_nudge 13 = .ok (.bipush (-4), 2) := by decide +kernel
theorem dX7_nudge_15 : decode cX7_nudge 15 = .ok (.ireturn, 1) := by decide +kernel
theorem dX7_nudge_16 : decode cX7_nudge 16 = .ok (.aload_n 0, 1) := by decide +kernel
theorem dX7_nudge_17 : decode cX7_nudge 17 = .ok (.getfield 19, 3) := by decide +kernel
theorem dX7_nudge_20 : decode cX7_nudge 20 = .ok (.getfield 74, 3) := by decide +kernel
theorem dX7_nudge_23 : decode cX7_nudge 23 = .ok (.getfield 247, 3) := by decide +kernel
theorem dX7_nudge_26 : decode cX7_nudge 26 = .ok (.aload_n 0, 1) := by decide +kernel
theorem dX7_nudge_27 : decode cX7_nudge 27 = .ok (.getfield 19, 3) := by decide +kernel
theorem dX7_nudge_30 : decode cX7_nudge 30 = .ok (.getfield 114, 3) := by decide +kernel
theorem dX7_nudge_33 : decode cX7_nudge 33 = .ok (.if_icmp .lt 6, 3) := by decide +kernel
theorem dX7_nudge_36 : decode cX7_nudge 36 = .ok (.bipush (-3), 2) := by decide +kernel
theorem dX7_nudge_38 : decode cX7_nudge 38 = .ok (.ireturn, 1) := by decide +kernel
theorem dX7_nudge_39 : decode cX7_nudge 39 = .ok (.aload_n 0, 1) := by decide +kernel
theorem dX7_nudge_40 : decode cX7_nudge 40 = .ok (.getfield 19, 3) := by decide +kernel
theorem dX7_nudge_43 : decode cX7_nudge 43 = .ok (.getfield 51, 3) := by decide +kernel
theorem dX7_nudge_46 : decode cX7_nudge 46 = .ok (.aload_n 0, 1) := by decide +kernel
theorem dX7_nudge_47 : decode cX7_nudge 47 = .ok (.getfield 19, 3) := by decide +kernel
theorem dX7_nudge_50 : decode cX7_nudge 50 = .ok (.getfield 51, 3) := by decide +kernel
theorem dX7_nudge_53 : decode cX7_nudge 53 = .ok (.getfield 108, 3) := by decide +kernel
theorem dX7_nudge_56 : decode cX7_nudge 56 = .ok (.invokevirtual 250, 3) := by decide +kernel
theorem dX7_nudge_59 : decode cX7_nudge 59 = .ok (.istore_n 1, 1) := by decide +kernel
theorem dX7_nudge_60 : decode cX7_nudge 60 = .ok (.iload_n 1, 1) := by decide +kernel
theorem dX7_nudge_61 : decode cX7_nudge 61 = .ok (.bipush (-5), 2) := by decide +kernel
theorem dX7_nudge_63 : decode cX7_nudge 63 = .ok (.if_icmp .ne 6, 3) := by decide +kernel
theorem dX7_nudge_66 : decode cX7_nudge 66 = .ok (.bipush (-5), 2) := by decide +kernel
theorem dX7_nudge_68 : decode cX7_nudge 68 = .ok (.ireturn, 1) := by decide +kernel
theorem dX7_nudge_69 : decode cX7_nudge 69 = .ok (.aload_n 0, 1) := by decide +kernel
theorem dX7_nudge_70 : decode cX7_nudge 70 = .ok (.getfield 19, 3) := by decide +kernel
theorem dX7_nudge_73 : decode cX7_nudge 73 = .ok (.iconst 2, 1) := by decide +kernel
theorem dX7_nudge_74 : decode cX7_nudge 74 = .ok (.invokevirtual 182, 3) := by decide +kernel
theorem dX7_nudge_77 : decode cX7_nudge 77 = .ok (.ifCond .ne 11, 3) := by decide +kernel
theorem dX7_nudge_80 : decode cX7_nudge 80 = .ok (.aload_n 0, 1) := by decide +kernel
theorem dX7_nudge_81 : decode cX7_nudge 81 = .ok (.getfield 19, 3) := by decide +kernel
theorem dX7_nudge_84 : decode cX7_nudge 84 = .ok (.invokevirtual 185, 3) := by decide +kernel
theorem dX7_nudge_87 : decode cX7_nudge 87 = .ok (.ireturn, 1) := by decide +kernel
theorem dX7_nudge_88 : decode cX7_nudge 88 = .ok (.aload_n 0, 1) := by decide +kernel
theorem dX7_nudge_89 : decode cX7_nudge 89 = .ok (.getfield 19, 3) := by decide +kernel
theorem dX7_nudge_92 : decode cX7_nudge 92 = .ok (.ldc 253, 2) := by decide +kernel
theorem dX7_nudge_94 : decode cX7_nudge 94 = .ok (.iload_n 1, 1) := by decide +kernel
theorem dX7_nudge_95 : decode cX7_nudge 95 = .ok (.invokestatic 255, 3) := by decide +kernel
theorem dX7_nudge_98 : decode cX7_nudge 98 = .ok (.iconst (-1), 1) := by decide +kernel
theorem dX7_nudge_99 : decode cX7_nudge 99 = .ok (.invokevirtual 190, 3) := by decide +kernel
theorem dX7_nudge_102 : decode cX7_nudge 102 = .ok (.aload_n 0, 1) := by decide +kernel
theorem dX7_nudge_103 : decode cX7_nudge 103 = .ok (.getfield 19, 3) := by decide +kernel
theorem dX7_nudge_106 : decode cX7_nudge 106 = .ok (.getfield 74, 3) := by decide +kernel
theorem dX7_nudge_109 : decode cX7_nudge 109 = .ok (.dup, 1) := by decide +kernel
theorem dX7_nudge_110 : decode cX7_nudge 110 = .ok (.getfield 247, 3) := by decide +kernel
theorem dX7_nudge_113 : decode cX7_nudge 113 = .ok (.iconst 1, 1) := by decide +kernel
theorem dX7_nudge_114 : decode cX7_nudge 114 = .ok (.iadd, 1) := by decide +kernel
theorem dX7_nudge_115 : decode cX7_nudge 115 = .ok (.putfield 247, 3) := by decide +kernel
theorem dX7_nudge_118 : decode cX7_nudge 118 = .ok (.iload_n 1, 1) := by decide +kernel
theorem dX7_nudge_119 : decode cX7_nudge 119 = .ok (.invokestatic 258, 3) := by decide +kernel
theorem dX7_nudge_122 : decode cX7_nudge 122 = .ok (.sipush 500, 3) := by decide +kernel
theorem dX7_nudge_125 : decode cX7_nudge 125 = .ok (.if_icmp .ne 22, 3) := by decide +kernel
theorem dX7_nudge_128 : decode cX7_nudge 128 = .ok (.aload_n 0, 1) := by decide +kernel
theorem dX7_nudge_129 : decode cX7_nudge 129 = .ok (.getfield 19, 3) := by decide +kernel
theorem dX7_nudge_132 : decode cX7_nudge 132 = .ok (.getfield 51, 3) := by decide +kernel
theorem dX7_nudge_135 : decode cX7_nudge 135 = .ok (.iload_n 1, 1) := by decide +kernel
theorem dX7_nudge_136 : decode cX7_nudge 136 = .ok (.sipush 1000, 3) := by decide +kernel
theorem dX7_nudge_139 : decode cX7_nudge 139 = .ok (.idiv, 1) := by decide +kernel
theorem dX7_nudge_140 : decode cX7_nudge 140 = .ok (.iload_n 1, 1) := by decide +kernel
theorem dX7_nudge_141 : decode cX7_nudge 141 = .ok (.bipush 100, 2) := by decide +kernel
theorem dX7_nudge_143 : decode cX7_nudge 143 = .ok (.irem, 1) := by decide +kernel
theorem dX7_nudge_144 : decode cX7_nudge 144 = .ok (.invokevirtual 261, 3) := by decide +kernel
theorem dX7_nudge_147 : decode cX7_nudge 147 = .ok (.aload_n 0, 1) := by decide +kernel
theorem dX7_nudge_148 : decode cX7_nudge 148 = .ok (.getfield 19, 3) := by decide +kernel
theorem dX7_nudge_151 : decode cX7_nudge 151 = .ok (.iconst 2, 1) := by decide +kernel
theorem dX7_nudge_152 : decode cX7_nudge 152 = .ok (.invokevirtual 197, 3) := by decide +kernel
theorem dX7_nudge_155 : decode cX7_nudge 155 = .ok (.iload_n 1, 1) := by decide +kernel
theorem dX7_nudge_156 : decode cX7_nudge 156 = .ok (.invokestatic 255, 3) := by decide +kernel
theorem dX7_nudge_159 : decode cX7_nudge 159 = .ok (.ireturn, 1) := by decide +kernel
theorem dX7_giveUp_0 : decode cX7_giveUp 0 = .ok (.aload_n 0, 1) := by decide +kernel
theorem dX7_giveUp_1 : decode cX7_giveUp 1 = .ok (.getfield 19, 3) := by decide +kernel
theorem dX7_giveUp_4 : decode cX7_giveUp 4 = .ok (.getfield 74, 3) := by decide +kernel
theorem dX7_giveUp_7 : decode cX7_giveUp 7 = .ok (.getfield 78, 3) := by decide +kernel
theorem dX7_giveUp_10 : decode cX7_giveUp 10 = .ok (.ifCond .ne 6, 3) := by decide +kernel
theorem dX7_giveUp_13 : decode cX7_giveUp 13 = .ok (.bipush (-4), 2) := by decide +kernel
theorem dX7_giveUp_15 : decode cX7_giveUp 15 = .ok (.ireturn, 1) := by decide +kernel
theorem dX7_giveUp_16 : decode cX7_giveUp 16 = .ok (.aload_n 0, 1) := by decide +kernel
theorem dX7_giveUp_17 : decode cX7_giveUp 17 = .ok (.getfield 19, 3) := by decide +kernel
theorem dX7_giveUp_20 : decode cX7_giveUp 20 = .ok (.invokevirtual 264, 3) := by decide +kernel
theorem dX7_giveUp_23 : decode cX7_giveUp 23 = .ok (.istore_n 1, 1) := by decide +kernel
theorem dX7_giveUp_24 : decode cX7_giveUp 24 = .ok (.aload_n 0, 1) := by decide +kernel
theorem dX7_giveUp_25 : decode cX7_giveUp 25 = .ok (.getfield 19, 3) := by decide +kernel
theorem dX7_giveUp_28 : decode cX7_giveUp 28 = .ok (.ldc_w 267, 3) := by decide +kernel
theorem dX7_giveUp_31 : decode cX7_giveUp 31 = .ok (.iconst (-1), 1) := by decide +kernel
theorem dX7_giveUp_32 : decode cX7_giveUp 32 = .ok (.iconst (-1), 1) := by decide +kernel
theorem dX7_giveUp_33 : decode cX7_giveUp 33 = .ok (.invokevirtual 190, 3) := by decide +kernel
theorem dX7_giveUp_36 : decode cX7_giveUp 36 = .ok (.aload_n 0, 1) := by decide +kernel
theorem dX7_giveUp_37 : decode cX7_giveUp 37 = .ok (.getfield 19, 3) := by decide +kernel
theorem dX7_giveUp_40 : decode cX7_giveUp 40 = .ok (.iconst 0, 1) := by decide +kernel
theorem dX7_giveUp_41 : decode cX7_giveUp 41 = .ok (.invokevirtual 218, 3) := by decide +kernel
theorem dX7_giveUp_44 : decode cX7_giveUp 44 = .ok (.iload_n 1, 1) := by decide +kernel
theorem dX7_giveUp_45 : decode cX7_giveUp 45 = .ok (.ireturn, 1) := by decide +kernel
theorem dX7_idle_0 : decode cX7_idle 0 = .ok (.iload_n 1, 1) := by decide +kernel
theorem dX7_idle_1 : decode cX7_idle 1 = .ok (.iconst 1, 1) := by decide +kernel
theorem dX7_idle_2 : decode cX7_idle 2 = .ok (.if_icmp .lt 10, 3) := by decide +kernel
theorem dX7_idle_5 : decode cX7_idle 5 = .ok (.iload_n 1, 1) := by decide +kernel
theorem dX7_idle_6 : decode cX7_idle 6 = .ok (.sipush 1000, 3) := by decide +kernel
theorem dX7_idle_9 : decode cX7_idle 9 = .ok (.if_icmp .le 6, 3) := by decide +kernel
theorem dX7_idle_12 : decode cX7_idle 12 = .ok (.bipush (-2), 2) := by decide +kernel
theorem dX7_idle_14 : decode cX7_idle 14 = .ok (.ireturn, 1) := by decide +kernel
theorem dX7_idle_15 : decode cX7_idle 15 = .ok (.aload_n 0, 1) := by decide +kernel
theorem dX7_idle_16 : decode cX7_idle 16 = .ok (.getfield 19, 3) := by decide +kernel
theorem dX7_idle_19 : decode cX7_idle 19 = .ok (.getfield 74, 3) := by decide +kernel
theorem dX7_idle_22 : decode cX7_idle 22 = .ok (.getfield 78, 3) := by decide +kernel
theorem dX7_idle_25 : decode cX7_idle 25 = .ok (.ifCond .eq 6, 3) := by decide +kernel
theorem dX7_idle_28 : decode cX7_idle 28 = .ok (.bipush (-4), 2) := by decide +kernel
theorem dX7_idle_30 : decode cX7_idle 30 = .ok (.ireturn, 1) := by decide +kernel
theorem dX7_idle_31 : decode cX7_idle 31 = .ok (.aload_n 0, 1) := by decide +kernel
theorem dX7_idle_32 : decode cX7_idle 32 = .ok (.getfield 19, 3) := by decide +kernel
theorem dX7_idle_35 : decode cX7_idle 35 = .ok (.iload_n 1, 1) := by decide +kernel
theorem dX7_idle_36 : decode cX7_idle 36 = .ok (.invokevirtual 197, 3) := by decide +kernel
theorem dX7_idle_39 : decode cX7_idle 39 = .ok (.aload_n 0, 1) := by decide +kernel
theorem dX7_idle_40 : decode cX7_idle 40 = .ok (.getfield 19, 3) := by decide +kernel
theorem dX7_idle_43 : decode cX7_idle 43 = .ok (.getfield 269, 3) := by decide +kernel
theorem dX7_idle_46 : decode cX7_idle 46 = .ok (.ireturn, 1) := by decide +kernel
theorem dX7_putHome_0 : decode cX7_putHome 0 = .ok (.aload_n 0, 1) := by decide +kernel
theorem dX7_putHome_1 : decode cX7_putHome 1 = .ok (.getfield 19, 3) := by decide +kernel
theorem dX7_putHome_4 : decode cX7_putHome 4 = .ok (.getfield 51, 3) := by decide +kernel
theorem dX7_putHome_7 : decode cX7_putHome 7 = .ok (.astore_n 2, 1) := by decide +kernel
theorem dX7_putHome_8 : decode cX7_putHome 8 = .ok (.aload_n 2, 1) := by decide +kernel
theorem dX7_putHome_9 : decode cX7_putHome 9 = .ok (.iload_n 1, 1) := by decide +kernel
theorem dX7_putHome_10 : decode cX7_putHome 10 = .ok (.invokevirtual 71, 3) := by decide +kernel
theorem dX7_putHome_13 : decode cX7_putHome 13 = .ok (.ifCond .ne 5, 3) := by decide +kernel
theorem dX7_putHome_16 : decode cX7_putHome 16 = .ok (.iconst (-1), 1) := by decide +kernel
theorem dX7_putHome_17 : decode cX7_putHome 17 = .ok (.ireturn, 1) := by decide +kernel
theorem dX7_putHome_18 : decode cX7_putHome 18 = .ok (.aload_n 0, 1) := by decide +kernel
theorem dX7_putHome_19 : decode cX7_putHome 19 = .ok (.getfield 19, 3) := by decide +kernel
theorem dX7_putHome_22 : decode cX7_putHome 22 = .ok (.getfield 74, 3) := by decide +kernel
theorem dX7_putHome_25 : decode cX7_putHome 25 = .ok (.getfield 78, 3) := by decide +kernel
theorem dX7_putHome_28 : decode cX7_putHome 28 = .ok (.ifCond .eq 6, 3) := by decide +kernel
theorem dX7_putHome_31 : decode cX7_putHome 31 = .ok (.bipush (-4), 2) := by decide +kernel
theorem dX7_putHome_33 : decode cX7_putHome 33 = .ok (.ireturn, 1) := by decide +kernel
theorem dX7_putHome_34 : decode cX7_putHome 34 = .ok (.aload_n 2, 1) := by decide +kernel
theorem dX7_putHome_35 : decode cX7_putHome 35 = .ok (.getfield 194, 3) := by decide +kernel
theorem dX7_putHome_38 : decode cX7_putHome 38 = .ok (.iload_n 1, 1) := by decide +kernel
theorem dX7_putHome_39 : decode cX7_putHome 39 = .ok (.invokestatic 136, 3) := by decide +kernel
theorem dX7_putHome_42 : decode cX7_putHome 42 = .ok (.istore_n 3, 1) := by decide +kernel
theorem dX7_putHome_43 : decode cX7_putHome 43 = .ok (.iload_n 3, 1) := by decide +kernel
theorem dX7_putHome_44 : decode cX7_putHome 44 = .ok (.aload_n 2, 1) := by decide +kernel
theorem dX7_putHome_45 : decode cX7_putHome 45 = .ok (.getfield 272, 3) := by decide +kernel
theorem dX7_putHome_48 : decode cX7_putHome 48 = .ok (.iload_n 1, 1) := by decide +kernel
theorem dX7_putHome_49 : decode cX7_putHome 49 = .ok (.invokestatic 136, 3) := by decide +kernel
theorem dX7_putHome_52 : decode cX7_putHome 52 = .ok (.if_icmp .ne 6, 3) := by decide +kernel
theorem dX7_putHome_55 : decode cX7_putHome 55 = .ok (.bipush (-5), 2) := by decide +kernel
theorem dX7_putHome_57 : decode cX7_putHome 57 = .ok (.ireturn, 1) := by decide +kernel
theorem dX7_putHome_58 : decode cX7_putHome 58 = .ok (.aload_n 2, 1) := by decide +kernel
theorem dX7_putHome_59 : decode cX7_putHome 59 = .ok (.getfield 194, 3) := by decide +kernel
theorem dX7_putHome_62 : decode cX7_putHome 62 = .ok (.iload_n 1, 1) := by decide +kernel
theorem dX7_putHome_63 : decode cX7_putHome 63 = .ok (.aload_n 2, 1) := by decide +kernel
theorem dX7_putHome_64 : decode cX7_putHome 64 = .ok (.getfield 272, 3) := by decide +kernel
theorem dX7_putHome_67 : decode cX7_putHome 67 = .ok (.iload_n 1, 1) := by decide +kernel
theorem dX7_putHome_68 : decode cX7_putHome 68 = .ok (.invokestatic 136, 3) := by decide +kernel
theorem dX7_putHome_71 : decode cX7_putHome 71 = .ok (.invokestatic 47, 3) := by decide +kernel
theorem dX7_putHome_74 : decode cX7_putHome 74 = .ok (.aload_n 0, 1) := by decide +kernel
theorem dX7_putHome_75 : decode cX7_putHome 75 = .ok (.getfield 19, 3) := by decide +kernel
theorem dX7_putHome_78 : decode cX7_putHome 78 = .ok (.iconst 1, 1) := by decide +kernel
theorem dX7_putHome_79 : decode cX7_putHome 79 = .ok (.invokevirtual 197, 3) := by decide +kernel
theorem dX7_putHome_82 : decode cX7_putHome 82 = .ok (.iload_n 3, 1) := by decide +kernel
theorem dX7_putHome_83 : decode cX7_putHome 83 = .ok (.ireturn, 1) := by decide +kernel
theorem dX7_close_0 : decode cX7_close 0 = .ok (.aload_n 0, 1) := by decide +kernel
theorem dX7_close_1 : decode cX7_close 1 = .ok (.getfield 19, 3) := by decide +kernel
theorem dX7_close_4 : decode cX7_close 4 = .ok (.getfield 51, 3) := by decide +kernel
theorem dX7_close_7 : decode cX7_close 7 = .ok (.astore_n 2, 1) := by decide +kernel
theorem dX7_close_8 : decode cX7_close 8 = .ok (.aload_n 2, 1) := by decide +kernel
theorem dX7_close_9 : decode cX7_close 9 = .ok (.iload_n 1, 1) := by decide +kernel
theorem dX7_close_10 : decode cX7_close 10 = .ok (.invokevirtual 64, 3) := by decide +kernel
theorem dX7_close_13 : decode cX7_close 13 = .ok (.ifCond .ne 5, 3) := by decide +kernel
theorem dX7_close_16 : decode cX7_close 16 = .ok (.iconst (-1), 1) := by decide +kernel
theorem dX7_close_17 : decode cX7_close 17 = .ok (.ireturn, 1) := by decide +kernel
theorem dX7_close_18 : decode cX7_close 18 = .ok (.iload_n 1, 1) := by decide +kernel
theorem dX7_close_19 : decode cX7_close 19 = .ok (.ifCond .ne 6, 3) := by decide +kernel
theorem dX7_close_22 : decode cX7_close 22 = .ok (.bipush (-2), 2) := by decide +kernel
theorem dX7_close_24 : decode cX7_close 24 = .ok (.ireturn, 1) := by decide +kernel
theorem dX7_close_25 : decode cX7_close 25 = .ok (.aload_n 0, 1) := by decide +kernel
theorem dX7_close_26 : decode cX7_close 26 = .ok (.getfield 19, 3) := by decide +kernel
theorem dX7_close_29 : decode cX7_close 29 = .ok (.getfield 74, 3) := by decide +kernel
theorem dX7_close_32 : decode cX7_close 32 = .ok (.getfield 78, 3) := by decide +kernel
theorem dX7_close_35 : decode cX7_close 35 = .ok (.ifCond .eq 6, 3) := by decide +kernel
theorem dX7_close_38 : decode cX7_close 38 = .ok (.bipush (-4), 2) := by decide +kernel
theorem dX7_close_40 : decode cX7_close 40 = .ok (.ireturn, 1) := by decide +kernel
theorem dX7_close_41 : decode cX7_close 41 = .ok (.aload_n 2, 1) := by decide +kernel
theorem dX7_close_42 : decode cX7_close 42 = .ok (.iload_n 1, 1) := by decide +kernel
theorem dX7_close_43 : decode cX7_close 43 = .ok (.invokevirtual 151, 3) := by decide +kernel
theorem dX7_close_46 : decode cX7_close 46 = .ok (.ifCond .ne 6, 3) := by decide +kernel
theorem dX7_close_49 : decode cX7_close 49 = .ok (.bipush (-5), 2) := by decide +kernel
theorem dX7_close_51 : decode cX7_close 51 = .ok (.ireturn, 1) := by decide +kernel
theorem dX7_close_52 : decode cX7_close 52 = .ok (.aload_n 2, 1) := by decide +kernel
theorem dX7_close_53 : decode cX7_close 53 = .ok (.getfield 215, 3) := by decide +kernel
theorem dX7_close_56 : decode cX7_close 56 = .ok (.iload_n 1, 1) := by decide +kernel
theorem dX7_close_57 : decode cX7_close 57 = .ok (.iconst 0, 1) := by decide +kernel
theorem dX7_close_58 : decode cX7_close 58 = .ok (.invokestatic 47, 3) := by decide +kernel
theorem dX7_close_61 : decode cX7_close 61 = .ok (.aload_n 0, 1) := by decide +kernel
theorem dX7_close_62 : decode cX7_close 62 = .ok (.getfield 19, 3) := by decide +kernel
theorem dX7_close_65 : decode cX7_close 65 = .ok (.iconst 1, 1) := by decide +kernel
theorem dX7_close_66 : decode cX7_close 66 = .ok (.invokevirtual 197, 3) := by decide +kernel
theorem dX7_close_69 : decode cX7_close 69 = .ok (.aload_n 2, 1) := by decide +kernel
theorem dX7_close_70 : decode cX7_close 70 = .ok (.invokevirtual 275, 3) := by decide +kernel
theorem dX7_close_73 : decode cX7_close 73 = .ok (.ireturn, 1) := by decide +kernel
theorem dX7_writeOver_0 : decode cX7_writeOver 0 = .ok (.aload_n 0, 1) := by decide +kernel
theorem dX7_writeOver_1 : decode cX7_writeOver 1 = .ok (.getfield 19, 3) := by decide +kernel
theorem dX7_writeOver_4 : decode cX7_writeOver 4 = .ok (.getfield 51, 3) := by decide +kernel
theorem dX7_writeOver_7 : decode cX7_writeOver 7 = .ok (.astore_n 2, 1) := by decide +kernel
theorem dX7_writeOver_8 : decode cX7_writeOver 8 = .ok (.aload_n 2, 1) := by decide +kernel
theorem dX7_writeOver_9 : decode cX7_writeOver 9 = .ok (.iload_n 1, 1) := by decide +kernel
theorem dX7_writeOver_10 : decode cX7_writeOver 10 = .ok (.invokevirtual 222, 3) := by decide +kernel
theorem dX7_writeOver_13 : decode cX7_writeOver 13 = .ok (.ifCond .ne 5, 3) := by decide +kernel
theorem dX7_writeOver_16 : decode cX7_writeOver 16 = .ok (.iconst (-1), 1) := by decide +kernel
theorem dX7_writeOver_17 : decode cX7_writeOver 17 = .ok (.ireturn, 1) := by decide +kernel
theorem dX7_writeOver_18 : decode cX7_writeOver 18 = .ok (.aload_n 2, 1) := by decide +kernel
theorem dX7_writeOver_19 : decode cX7_writeOver 19 = .ok (.iload_n 1, 1) := by decide +kernel
theorem dX7_writeOver_20 : decode cX7_writeOver 20 = .ok (.invokevirtual 278, 3) := by decide +kernel
theorem dX7_writeOver_23 : decode cX7_writeOver 23 = .ok (.istore_n 3, 1) := by decide +kernel
theorem dX7_writeOver_24 : decode cX7_writeOver 24 = .ok (.aload_n 0, 1) := by decide +kernel
theorem dX7_writeOver_25 : decode cX7_writeOver 25 = .ok (.getfield 19, 3) := by decide +kernel
theorem dX7_writeOver_28 : decode cX7_writeOver 28 = .ok (.getfield 74, 3) := by decide +kernel
theorem dX7_writeOver_31 : decode cX7_writeOver 31 = .ok (.getfield 78, 3) := by decide +kernel
theorem dX7_writeOver_34 : decode cX7_writeOver 34 = .ok (.ifCond .ne 14, 3) := by decide +kernel
theorem dX7_writeOver_37 : decode cX7_writeOver 37 = .ok (.iload_n 3, 1) := by decide +kernel
theorem dX7_writeOver_38 : decode cX7_writeOver 38 = .ok (.aload_n 0, 1) := by decide +kernel
theorem dX7_writeOver_39 : decode cX7_writeOver 39 = .ok (.getfield 19, 3) := by decide +kernel
theorem dX7_writeOver_42 : decode cX7_writeOver 42 = .ok (.getfield 117, 3) := by decide +kernel
theorem dX7_writeOver_45 : decode cX7_writeOver 45 = .ok (.if_icmp .le 6, 3) := by decide +kernel
theorem dX7_writeOver_48 : decode cX7_writeOver 48 = .ok (.bipush (-4), 2) := by decide +kernel
theorem dX7_writeOver_50 : decode cX7_writeOver 50 = .ok (.ireturn, 1) := by decide +kernel
theorem dX7_writeOver_51 : decode cX7_writeOver 51 = .ok (.iload_n 3, 1) := by decide +kernel
theorem dX7_writeOver_52 : decode cX7_writeOver 52 = .ok (.ifCond .ne 6, 3) := by decide +kernel
theorem dX7_writeOver_55 : decode cX7_writeOver 55 = .ok (.bipush (-5), 2) := by decide +kernel
theorem dX7_writeOver_57 : decode cX7_writeOver 57 = .ok (.ireturn, 1) := by decide +kernel
theorem dX7_writeOver_58 : decode cX7_writeOver 58 = .ok (.aload_n 0, 1) := by decide +kernel
theorem dX7_writeOver_59 : decode cX7_writeOver 59 = .ok (.getfield 19, 3) := by decide +kernel
theorem dX7_writeOver_62 : decode cX7_writeOver 62 = .ok (.iload_n 1, 1) := by decide +kernel
theorem dX7_writeOver_63 : decode cX7_writeOver 63 = .ok (.invokevirtual 281, 3) := by decide +kernel
theorem dX7_writeOver_66 : decode cX7_writeOver 66 = .ok (.aload_n 0, 1) := by decide +kernel
theorem dX7_writeOver_67 : decode cX7_writeOver 67 = .ok (.getfield 19, 3) := by decide +kernel
theorem dX7_writeOver_70 : decode cX7_writeOver 70 = .ok (.iconst 1, 1) := by decide +kernel
theorem dX7_writeOver_71 : decode cX7_writeOver 71 = .ok (.invokevirtual 197, 3) := by decide +kernel
theorem dX7_writeOver_74 : decode cX7_writeOver 74 = .ok (.iload_n 3, 1) := by decide +kernel
theorem dX7_writeOver_75 : decode cX7_writeOver 75 = .ok (.ireturn, 1) := by decide +kernel
theorem dX7_reset_0 : decode cX7_reset 0 = .ok (.aload_n 0, 1) := by decide +kernel
theorem dX7_reset_1 : decode cX7_reset 1 = .ok (.getfield 19, 3) := by decide +kernel
theorem dX7_reset_4 : decode cX7_reset 4 = .ok (.getfield 74, 3) := by decide +kernel
theorem dX7_reset_7 : decode cX7_reset 7 = .ok (.getfield 78, 3) := by decide +kernel
theorem dX7_reset_10 : decode cX7_reset 10 = .ok (.ifCond .eq 6, 3) := by decide +kernel
theorem dX7_reset_13 : decode cX7_reset 13 = .ok (.bipush (-4), 2) := by decide +kernel
theorem dX7_reset_15 : decode cX7_reset 15 = .ok (.ireturn, 1) := by decide +kernel
theorem dX7_reset_16 : decode cX7_reset 16 = .ok (.aload_n 0, 1) := by decide +kernel
theorem dX7_reset_17 : decode cX7_reset 17 = .ok (.getfield 19, 3) := by decide +kernel
theorem dX7_reset_20 : decode cX7_reset 20 = .ok (.invokevirtual 284, 3) := by decide +kernel
theorem dX7_reset_23 : decode cX7_reset 23 = .ok (.istore_n 1, 1) := by decide +kernel
theorem dX7_reset_24 : decode cX7_reset 24 = .ok (.iload_n 1, 1) := by decide +kernel
theorem dX7_reset_25 : decode cX7_reset 25 = .ok (.ifCond .ne 6, 3) := by decide +kernel
theorem dX7_reset_28 : decode cX7_reset 28 = .ok (.bipush (-5), 2) := by decide +kernel
theorem dX7_reset_30 : decode cX7_reset 30 = .ok (.ireturn, 1) := by decide +kernel
theorem dX7_reset_31 : decode cX7_reset 31 = .ok (.aload_n 0, 1) := by decide +kernel
theorem dX7_reset_32 : decode cX7_reset 32 = .ok (.getfield 19, 3) := by decide +kernel
theorem dX7_reset_35 : decode cX7_reset 35 = .ok (.invokevirtual 287, 3) := by decide +kernel
theorem dX7_reset_38 : decode cX7_reset 38 = .ok (.aload_n 0, 1) := by decide +kernel
theorem dX7_reset_39 : decode cX7_reset 39 = .ok (.getfield 19, 3) := by decide +kernel
theorem dX7_reset_42 : decode cX7_reset 42 = .ok (.iload_n 1, 1) := by decide +kernel
theorem dX7_reset_43 : decode cX7_reset 43 = .ok (.invokevirtual 197, 3) := by decide +kernel
theorem dX7_reset_46 : decode cX7_reset 46 = .ok (.iload_n 1, 1) := by decide +kernel
theorem dX7_reset_47 : decode cX7_reset 47 = .ok (.ireturn, 1) := by decide +kernel
theorem dX7_keep_0 : decode cX7_keep 0 = .ok (.iload_n 1, 1) := by decide +kernel
theorem dX7_keep_1 : decode cX7_keep 1 = .ok (.invokestatic 290, 3) := by decide +kernel
theorem dX7_keep_4 : decode cX7_keep 4 = .ok (.ifCond .ne 5, 3) := by decide +kernel
theorem dX7_keep_7 : decode cX7_keep 7 = .ok (.iconst (-1), 1) := by decide +kernel
theorem dX7_keep_8 : decode cX7_keep 8 = .ok (.ireturn, 1) := by decide +kernel
theorem dX7_keep_9 : decode cX7_keep 9 = .ok (.aload_n 0, 1) := by decide +kernel
