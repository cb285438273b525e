theorem dX1_init_0 : decode cX1_init 0 = .ok (.aload_n 0, 1) := by decide +kernel
theorem dX1_init_1 : decode cX1_init 1 = .ok (.invokespecial 1, 3) := by decide +kernel
theorem dX1_init_4 : decode cX1_init 4 = .ok (.return_, 1) := by decide +kernel
theorem dX1_copyFrom_0 : decode cX1_copyFrom 0 = .ok (.aload_n 0, 1) := by decide +kernel
theorem dX1_copyFrom_1 : decode cX1_copyFrom 1 = .ok (.aload_n 1, 1) := by decide +kernel
theorem dX1_copyFrom_2 : decode cX1_copyFrom 2 = .ok (.getfield 7, 3) := by decide +kernel
theorem dX1_copyFrom_5 : decode cX1_copyFrom 5 = .ok (.putfield 7, 3) := by decide +kernel
theorem dX1_copyFrom_8 : decode cX1_copyFrom 8 = .ok (.aload_n 0, 1) := by decide +kernel
theorem dX1_copyFrom_9 : decode cX1_copyFrom 9 = .ok (.aload_n 1, 1) := by decide +kernel
theorem dX1_copyFrom_10 : decode cX1_copyFrom 10 = .ok (.getfield 13, 3) := by decide +kernel
theorem dX1_copyFrom_13 : decode cX1_copyFrom 13 = .ok (.putfield 13, 3) := by decide +kernel
theorem dX1_copyFrom_16 : decode cX1_copyFrom 16 = .ok (.aload_n 0, 1) := by decide +kernel
theorem dX1_copyFrom_17 : decode cX1_copyFrom 17 = .ok (.aload_n 1, 1) := by decide +kernel
theorem dX1_copyFrom_18 : decode cX1_copyFrom 18 = .ok (.getfield 17, 3) := by decide +kernel
theorem dX1_copyFrom_21 : decode cX1_copyFrom 21 = .ok (.putfield 17, 3) := by decide +kernel
theorem dX1_copyFrom_24 : decode cX1_copyFrom 24 = .ok (.aload_n 0, 1) := by decide +kernel
theorem dX1_copyFrom_25 : decode cX1_copyFrom 25 = .ok (.aload_n 1, 1) := by decide +kernel
theorem dX1_copyFrom_26 : decode cX1_copyFrom 26 = .ok (.getfield 20, 3) := by decide +kernel
theorem dX1_copyFrom_29 : decode cX1_copyFrom 29 = .ok (.putfield 20, 3) := by decide +kernel
theorem dX1_copyFrom_32 : decode cX1_copyFrom 32 = .ok (.aload_n 0, 1) := by decide +kernel
theorem dX1_copyFrom_33 : decode cX1_copyFrom 33 = .ok (.aload_n 1, 1) := by decide +kernel
theorem dX1_copyFrom_34 : decode cX1_copyFrom 34 = .ok (.getfield 23, 3) := by decide +kernel
theorem dX1_copyFrom_37 : decode cX1_copyFrom 37 = .ok (.putfield 23, 3) := by decide +kernel
theorem dX1_copyFrom_40 : decode cX1_copyFrom 40 = .ok (.aload_n 0, 1) := by decide +kernel
theorem dX1_copyFrom_41 : decode cX1_copyFrom 41 = .ok (.aload_n 1, 1) := by decide +kernel
theorem dX1_copyFrom_42 : decode cX1_copyFrom 42 = .ok (.getfield 26, 3) := by decide +kernel
theorem dX1_copyFrom_45 : decode cX1_copyFrom 45 = .ok (.putfield 26, 3) := by decide +kernel
theorem dX1_copyFrom_48 : decode cX1_copyFrom 48 = .ok (.aload_n 0, 1) := by decide +kernel
theorem dX1_copyFrom_49 : decode cX1_copyFrom 49 = .ok (.aload_n 1, 1) := by decide +kernel
theorem dX1_copyFrom_50 : decode cX1_copyFrom 50 = .ok (.getfield 29, 3) := by decide +kernel
theorem dX1_copyFrom_53 : decode cX1_copyFrom 53 = .ok (.putfield 29, 3) := by decide +kernel
theorem dX1_copyFrom_56 : decode cX1_copyFrom 56 = .ok (.return_, 1) := by decide +kernel
theorem dX2_init_0 : decode cX2_init 0 = .ok (.aload_n 0, 1) := by decide +kernel
theorem dX2_init_1 : decode cX2_init 1 = .ok (.invokespecial 3, 3) := by decide +kernel
theorem dX2_init_4 : decode cX2_init 4 = .ok (.aload_n 0, 1) := by decide +kernel
theorem dX2_init_5 : decode cX2_init 5 = .ok (.sipush 2048, 3) := by decide +kernel
theorem dX2_init_8 : decode cX2_init 8 = .ok (.newarray .int, 2) := by decide +kernel
theorem dX2_init_10 : decode cX2_init 10 = .ok (.putfield 9, 3) := by decide +kernel
theorem dX2_init_13 : decode cX2_init 13 = .ok (.return_, 1) := by decide +kernel
theorem dX2_copyFrom_0 : decode cX2_copyFrom 0 = .ok (.aload_n 0, 1) := by decide +kernel
theorem dX2_copyFrom_1 : decode cX2_copyFrom 1 = .ok (.aload_n 1, 1) := by decide +kernel
theorem dX2_copyFrom_2 : decode cX2_copyFrom 2 = .ok (.getfield 15, 3) := by decide +kernel
theorem dX2_copyFrom_5 : decode cX2_copyFrom 5 = .ok (.putfield 15, 3) := by decide +kernel
theorem dX2_copyFrom_8 : decode cX2_copyFrom 8 = .ok (.iconst 0, 1) := by decide +kernel
theorem dX2_copyFrom_9 : decode cX2_copyFrom 9 = .ok (.istore_n 2, 1) := by decide +kernel
theorem dX2_copyFrom_10 : decode cX2_copyFrom 10 = .ok (.iload_n 2, 1) := by decide +kernel
theorem dX2_copyFrom_11 : decode cX2_copyFrom 11 = .ok (.aload_n 0, 1) := by decide +kernel
theorem dX2_copyFrom_12 : decode cX2_copyFrom 12 = .ok (.getfield 15, 3) := by decide +kernel
theorem dX2_copyFrom_15 : decode cX2_copyFrom 15 = .ok (.if_icmp .ge 25, 3) := by decide +kernel
theorem dX2_copyFrom_18 : decode cX2_copyFrom 18 = .ok (.aload_n 0, 1) := by decide +kernel
theorem dX2_copyFrom_19 : decode cX2_copyFrom 19 = .ok (.getfield 9, 3) := by decide +kernel
theorem dX2_copyFrom_22 : decode cX2_copyFrom 22 = .ok (.iload_n 2, 1) := by decide +kernel
theorem dX2_copyFrom_23 : decode cX2_copyFrom 23 = .ok (.aload_n 1, 1) := by decide +kernel
theorem dX2_copyFrom_24 : decode cX2_copyFrom 24 = .ok (.getfield 9, 3) := by decide +kernel
theorem dX2_copyFrom_27 : decode cX2_copyFrom 27 = .ok (.iload_n 2, 1) := by decide +kernel
theorem dX2_copyFrom_28 : decode cX2_copyFrom 28 = .ok (.invokestatic 19, 3) := by decide +kernel
theorem dX2_copyFrom_31 : decode cX2_copyFrom 31 = .ok (.invokestatic 23, 3) := by decide +kernel
theorem dX2_copyFrom_34 : decode cX2_copyFrom 34 = .ok (.iinc 2 1, 3) := by decide +kernel
theorem dX2_copyFrom_37 : decode cX2_copyFrom 37 = .ok (.goto (-27), 3) := by decide +kernel
theorem dX2_copyFrom_40 : decode cX2_copyFrom 40 = .ok (.return_, 1) := by decide +kernel
theorem dX2_append_0 : decode cX2_append 0 = .ok (.aload_n 0, 1) := by decide +kernel
theorem dX2_append_1 : decode cX2_append 1 = .ok (.iload_n 1, 1) := by decide +kernel
theorem dX2_append_2 : decode cX2_append 2 = .ok (.invokevirtual 27, 3) := by decide +kernel
theorem dX2_append_5 : decode cX2_append 5 = .ok (.aload_n 0, 1) := by decide +kernel
theorem dX2_append_6 : decode cX2_append 6 = .ok (.bipush 58, 2) := by decide +kernel
theorem dX2_append_8 : decode cX2_append 8 = .ok (.invokevirtual 31, 3) := by decide +kernel
theorem dX2_append_11 : decode cX2_append 11 = .ok (.iconst 0, 1) := by decide +kernel
theorem dX2_append_12 : decode cX2_append 12 = .ok (.istore 5, 2) := by decide +kernel
theorem dX2_append_14 : decode cX2_append 14 = .ok (.iload 5, 2) := by decide +kernel
theorem dX2_append_16 : decode cX2_append 16 = .ok (.aload_n 2, 1) := by decide +kernel
theorem dX2_append_17 : decode cX2_append 17 = .ok (.invokevirtual 34, 3) := by decide +kernel
theorem dX2_append_20 : decode cX2_append 20 = .ok (.if_icmp .ge 19, 3) := by decide +kernel
theorem dX2_append_23 : decode cX2_append 23 = .ok (.aload_n 0, 1) := by decide +kernel
theorem dX2_append_24 : decode cX2_append 24 = .ok (.aload_n 2, 1) := by decide +kernel
theorem dX2_append_25 : decode cX2_append 25 = .ok (.iload 5, 2) := by decide +kernel
theorem dX2_append_27 : decode cX2_append 27 = .ok (.invokevirtual 39, 3) := by decide +kernel
theorem dX2_append_30 : decode cX2_append 30 = .ok (.invokevirtual 31, 3) := by decide +kernel
theorem dX2_append_33 : decode cX2_append 33 = .ok (.iinc 5 1, 3) := by decide +kernel
theorem dX2_append_36 : decode cX2_append 36 = .ok (.goto (-22), 3) := by decide +kernel
theorem dX2_append_39 : decode cX2_append 39 = .ok (.aload_n 0, 1) := by decide +kernel
theorem dX2_append_40 : decode cX2_append 40 = .ok (.iload_n 3, 1) := by decide +kernel
theorem dX2_append_41 : decode cX2_append 41 = .ok (.invokevirtual 43, 3) := by decide +kernel
theorem dX2_append_44 : decode cX2_append 44 = .ok (.aload_n 0, 1) := by decide +kernel
theorem dX2_append_45 : decode cX2_append 45 = .ok (.iload 4, 2) := by decide +kernel
theorem dX2_append_47 : decode cX2_append 47 = .ok (.invokevirtual 43, 3) := by decide +kernel
theorem dX2_append_50 : decode cX2_append 50 = .ok (.aload_n 0, 1) := by decide +kernel
theorem dX2_append_51 : decode cX2_append 51 = .ok (.bipush 47, 2) := by decide +kernel
theorem dX2_append_53 : decode cX2_append 53 = .ok (.invokevirtual 31, 3) := by decide +kernel
theorem dX2_append_56 : decode cX2_append 56 = .ok (.return_, 1) := by decide +kernel
theorem dX2_appendArgument_0 : decode cX2_appendArgument 0 = .ok (.iload_n 1, 1) := by decide +kernel
theorem dX2_appendArgument_1 : decode cX2_appendArgument 1 = .ok (.iconst (-1), 1) := by decide +kernel
theorem dX2_appendArgument_2 : decode cX2_appendArgument 2 = .ok (.if_icmp .eq 14, 3) := by decide +kernel
theorem dX2_appendArgument_5 : decode cX2_appendArgument 5 = .ok (.aload_n 0, 1) := by decide +kernel
theorem dX2_appendArgument_6 : decode cX2_appendArgument 6 = .ok (.bipush 32, 2) := by decide +kernel
theorem dX2_appendArgument_8 : decode cX2_appendArgument 8 = .ok (.invokevirtual 31, 3) := by decide +kernel
theorem dX2_appendArgument_11 : decode cX2_appendArgument 11 = .ok (.aload_n 0, 1) := by decide +kernel
theorem dX2_appendArgument_12 : decode cX2_appendArgument 12 = .ok (.iload_n 1, 1) := by decide +kernel
theorem dX2_appendArgument_13 : decode cX2_appendArgument 13 = .ok (.invokevirtual 27, 3) := by decide +kernel
theorem dX2_appendArgument_16 : decode cX2_appendArgument 16 = .ok (.return_, 1) := by decide +kernel
theorem dX2_appendNumber_0 : decode cX2_appendNumber 0 = .ok (.ldc 46, 2) := by decide +kernel
theorem dX2_appendNumber_2 : decode cX2_appendNumber 2 = .ok (.istore_n 2, 1) := by decide +kernel
theorem dX2_appendNumber_3 : decode cX2_appendNumber 3 = .ok (.iload_n 2, 1) := by decide +kernel
theorem dX2_appendNumber_4 : decode cX2_appendNumber 4 = .ok (.ifCond .le 34, 3) := by decide +kernel
theorem dX2_appendNumber_7 : decode cX2_appendNumber 7 = .ok (.iload_n 1, 1) := by decide +kernel
theorem dX2_appendNumber_8 : decode cX2_appendNumber 8 = .ok (.iload_n 2, 1) := by decide +kernel
theorem dX2_appendNumber_9 : decode cX2_appendNumber 9 = .ok (.if_icmp .ge 8, 3) := by decide +kernel
theorem dX2_appendNumber_12 : decode cX2_appendNumber 12 = .ok (.iload_n 2, 1) := by decide +kernel
theorem dX2_appendNumber_13 : decode cX2_appendNumber 13 = .ok (.iconst 1, 1) := by decide +kernel
theorem dX2_appendNumber_14 : decode cX2_appendNumber 14 = .ok (.if_icmp .ne 16, 3) := by decide +kernel
theorem dX2_appendNumber_17 : decode cX2_appendNumber 17 = .ok (.aload_n 0, 1) := by decide +kernel
theorem dX2_appendNumber_18 : decode cX2_appendNumber 18 = .ok (.bipush 48, 2) := by decide +kernel
theorem dX2_appendNumber_20 : decode cX2_appendNumber 20 = .ok (.iload_n 1, 1) := by decide +kernel
theorem dX2_appendNumber_21 : decode cX2_appendNumber 21 = .ok (.iload_n 2, 1) := by decide +kernel
theorem dX2_appendNumber_22 : decode cX2_appendNumber 22 = .ok (.idiv, 1) := by decide +kernel
theorem dX2_appendNumber_23 : decode cX2_appendNumber 23 = .ok (.bipush 10, 2) := by decide +kernel
theorem dX2_appendNumber_25 : decode cX2_appendNumber 25 = .ok (.irem, 1) := by decide +kernel
theorem dX2_appendNumber_26 : decode cX2_appendNumber 26 = .ok (.iadd, 1) := by decide +kernel
theorem dX2_appendNumber_27 : decode cX2_appendNumber 27 = .ok (.invokevirtual 31, 3) := by decide +kernel
theorem dX2_appendNumber_30 : decode cX2_appendNumber 30 = .ok (.iload_n 2, 1) := by decide +kernel
theorem dX2_appendNumber_31 : decode cX2_appendNumber 31 = .ok (.bipush 10, 2) := by decide +kernel
theorem dX2_appendNumber_33 : decode cX2_appendNumber 33 = .ok (.idiv, 1) := by decide +kernel
theorem dX2_appendNumber_34 : decode cX2_appendNumber 34 = .ok (.istore_n 2, 1) := by decide +kernel
theorem dX2_appendNumber_35 : decode cX2_appendNumber 35 = .ok (.goto (-32), 3) := by decide +kernel
theorem dX2_appendNumber_38 : decode cX2_appendNumber 38 = .ok (.return_, 1) := by decide +kernel
theorem dX2_appendSign_0 : decode cX2_appendSign 0 = .ok (.aload_n 0, 1) := by decide +kernel
theorem dX2_appendSign_1 : decode cX2_appendSign 1 = .ok (.getfield 15, 3) := by decide +kernel
theorem dX2_appendSign_4 : decode cX2_appendSign 4 = .ok (.sipush 2048, 3) := by decide +kernel
theorem dX2_appendSign_7 : decode cX2_appendSign 7 = .ok (.if_icmp .ge 25, 3) := by decide +kernel
theorem dX2_appendSign_10 : decode cX2_appendSign 10 = .ok (.aload_n 0, 1) := by decide +kernel
theorem dX2_appendSign_11 : decode cX2_appendSign 11 = .ok (.getfield 9, 3) := by decide +kernel
theorem dX2_appendSign_14 : decode cX2_appendSign 14 = .ok (.aload_n 0, 1) := by decide +kernel
theorem dX2_appendSign_15 : decode cX2_appendSign 15 = .ok (.getfield 15, 3) := by decide +kernel
theorem dX2_appendSign_18 : decode cX2_appendSign 18 = .ok (.iload_n 1, 1) := by decide +kernel
theorem dX2_appendSign_19 : decode cX2_appendSign 19 = .ok (.invokestatic 23, 3) := by decide +kernel
theorem dX2_appendSign_22 : decode cX2_appendSign 22 = .ok (.aload_n 0, 1) := by decide +kernel
theorem dX2_appendSign_23 : decode cX2_appendSign 23 = .ok (.dup, 1) := by decide +kernel
theorem dX2_appendSign_24 : decode cX2_appendSign 24 = .ok (.getfield 15, 3) := by decide +kernel
theorem dX2_appendSign_27 : decode cX2_appendSign 27 = .ok (.iconst 1, 1) := by decide +kernel
theorem dX2_appendSign_28 : decode cX2_appendSign 28 = .ok (.iadd, 1) := by decide +kernel
theorem dX2_appendSign_29 : decode cX2_appendSign 29 = .ok (.putfield 15, 3) := by decide +kernel
theorem dX2_appendSign_32 : decode cX2_appendSign 32 = .ok (.return_, 1) := by decide +kernel
theorem dX3_init_0 : decode cX3_init 0 = .ok (.aload_n 0, 1) := by decide +kernel
theorem dX3_init_1 : decode cX3_init 1 = .ok (.invokespecial 3, 3) := by decide +kernel
theorem dX3_init_4 : decode cX3_init 4 = .ok (.aload_n 0, 1) := by decide +kernel
theorem dX3_init_5 : decode cX3_init 5 = .ok (.bipush 8, 2) := by decide +kernel
theorem dX3_init_7 : decode cX3_init 7 = .ok (.newarray .int, 2) := by decide +kernel
theorem dX3_init_9 : decode cX3_init 9 = .ok (.putfield 9, 3) := by decide +kernel
theorem dX3_init_12 : decode cX3_init 12 = .ok (.aload_n 0, 1) := by decide +kernel
theorem dX3_init_13 : decode cX3_init 13 = .ok (.bipush 8, 2) := by decide +kernel
theorem dX3_init_15 : decode cX3_init 15 = .ok (.newarray .int, 2) := by decide +kernel
theorem dX3_init_17 : decode cX3_init 17 = .ok (.putfield 15, 3) := by decide +kernel
theorem dX3_init_20 : decode cX3_init 20 = .ok (.return_, 1) := by decide +kernel
theorem dX3_copyFrom_0 : decode cX3_copyFrom 0 = .ok (.aload_n 0, 1) := by decide +kernel
theorem dX3_copyFrom_1 : decode cX3_copyFrom 1 = .ok (.aload_n 1, 1) := by decide +kernel
theorem dX3_copyFrom_2 : decode cX3_copyFrom 2 = .ok (.getfield 18, 3) := by decide +kernel
theorem dX3_copyFrom_5 : decode cX3_copyFrom 5 = .ok (.putfield 18, 3) := by decide +kernel
theorem dX3_copyFrom_8 : decode cX3_copyFrom 8 = .ok (.aload_n 1, 1) := by decide +kernel
theorem dX3_copyFrom_9 : decode cX3_copyFrom 9 = .ok (.getfield 9, 3) := by decide +kernel
theorem dX3_copyFrom_12 : decode cX3_copyFrom 12 = .ok (.aload_n 0, 1) := by decide +kernel
theorem dX3_copyFrom_13 : decode cX3_copyFrom 13 = .ok (.getfield 9, 3) := by decide +kernel
theorem dX3_copyFrom_16 : decode cX3_copyFrom 16 = .ok (.invokestatic 22, 3) := by decide +kernel
theorem dX3_copyFrom_19 : decode cX3_copyFrom 19 = .ok (.aload_n 1, 1) := by decide +kernel
theorem dX3_copyFrom_20 : decode cX3_copyFrom 20 = .ok (.getfield 15, 3) := by decide +kernel
theorem dX3_copyFrom_23 : decode cX3_copyFrom 23 = .ok (.aload_n 0, 1) := by decide +kernel
theorem dX3_copyFrom_24 : decode cX3_copyFrom 24 = .ok (.getfield 15, 3) := by decide +kernel
theorem dX3_copyFrom_27 : decode cX3_copyFrom 27 = .ok (.invokestatic 22, 3) := by decide +kernel
theorem dX3_copyFrom_30 : decode cX3_copyFrom 30 = .ok (.return_, 1) := by decide +kernel
theorem dX3_hasGroup_0 : decode cX3_hasGroup 0 = .ok (.iload_n 1, 1) := by decide +kernel
theorem dX3_hasGroup_1 : decode cX3_hasGroup 1 = .ok (.ifCond .lt 15, 3) := by decide +kernel
theorem dX3_hasGroup_4 : decode cX3_hasGroup 4 = .ok (.iload_n 1, 1) := by decide +kernel
theorem dX3_hasGroup_5 : decode cX3_hasGroup 5 = .ok (.aload_n 0, 1) := by decide +kernel
theorem dX3_hasGroup_6 : decode cX3_hasGroup 6 = .ok (.getfield 18, 3) := by decide +kernel
theorem dX3_hasGroup_9 : decode cX3_hasGroup 9 = .ok (.if_icmp .ge 7, 3) := by decide +kernel
theorem dX3_hasGroup_12 : decode cX3_hasGroup 12 = .ok (.iconst 1, 1) := by decide +kernel
theorem dX3_hasGroup_13 : decode cX3_hasGroup 13 = .ok (.goto 4, 3) := by decide +kernel
theorem dX3_hasGroup_16 : decode cX3_hasGroup 16 = .ok (.iconst 0, 1) := by decide +kernel
theorem dX3_hasGroup_17 : decode cX3_hasGroup 17 = .ok (.ireturn, 1) := by decide +kernel
theorem dX3_append_0 : decode cX3_append 0 = .ok (.aload_n 0, 1) := by decide +kernel
theorem dX3_append_1 : decode cX3_append 1 = .ok (.getfield 9, 3) := by decide +kernel
theorem dX3_append_4 : decode cX3_append 4 = .ok (.aload_n 0, 1) := by decide +kernel
theorem dX3_append_5 : decode cX3_append 5 = .ok (.getfield 18, 3) := by decide +kernel
theorem dX3_append_8 : decode cX3_append 8 = .ok (.iload_n 1, 1) := by decide +kernel
theorem dX3_append_9 : decode cX3_append 9 = .ok (.invokestatic 26, 3) := by decide +kernel
theorem dX3_append_12 : decode cX3_append 12 = .ok (.aload_n 0, 1) := by decide +kernel
theorem dX3_append_13 : decode cX3_append 13 = .ok (.getfield 15, 3) := by decide +kernel
theorem dX3_append_16 : decode cX3_append 16 = .ok (.aload_n 0, 1) := by decide +kernel
theorem dX3_append_17 : decode cX3_append 17 = .ok (.getfield 18, 3) := by decide +kernel
theorem dX3_append_20 : decode cX3_append 20 = .ok (.iload_n 2, 1) := by decide +kernel
theorem dX3_append_21 : decode cX3_append 21 = .ok (.invokestatic 26, 3) := by decide +kernel
theorem dX3_append_24 : decode cX3_append 24 = .ok (.aload_n 0, 1) := by decide +kernel
theorem dX3_append_25 : decode cX3_append 25 = .ok (.dup, 1) := by decide +kernel
theorem dX3_append_26 : decode cX3_append 26 = .ok (.getfield 18, 3) := by decide +kernel
theorem dX3_append_29 : decode cX3_append 29 = .ok (.iconst 1, 1) := by decide +kernel
theorem dX3_append_30 : decode cX3_append 30 = .ok (.iadd, 1) := by decide +kernel
theorem dX3_append_31 : decode cX3_append 31 = .ok (.putfield 18, 3) := by decide +kernel
theorem dX3_append_34 : decode cX3_append 34 = .ok (.return_, 1) := by decide +kernel
theorem dX3_remove_0 : decode cX3_remove 0 = .ok (.iload_n 1, 1) := by decide +kernel
theorem dX3_remove_1 : decode cX3_remove 1 = .ok (.iconst 1, 1) := by decide +kernel
theorem dX3_remove_2 : decode cX3_remove 2 = .ok (.iadd, 1) := by decide +kernel
theorem dX3_remove_3 : decode cX3_remove 3 = .ok (.istore_n 2, 1) := by decide +kernel
theorem dX3_remove_4 : decode cX3_remove 4 = .ok (.iload_n 2, 1) := by decide +kernel
theorem dX3_remove_5 : decode cX3_remove 5 = .ok (.aload_n 0, 1) := by decide +kernel
theorem dX3_remove_6 : decode cX3_remove 6 = .ok (.getfield 18, 3) := by decide +kernel
theorem dX3_remove_9 : decode cX3_remove 9 = .ok (.if_icmp .ge 45, 3) := by decide +kernel
theorem dX3_remove_12 : decode cX3_remove 12 = .ok (.aload_n 0, 1) := by decide +kernel
theorem dX3_remove_13 : decode cX3_remove 13 = .ok (.getfield 9, 3) := by decide +kernel
theorem dX3_remove_16 : decode cX3_remove 16 = .ok (.iload_n 2, 1) := by decide +kernel
theorem dX3_remove_17 : decode cX3_remove 17 = .ok (.iconst 1, 1) := by decide +kernel
theorem dX3_remove_18 : decode cX3_remove 18 = .ok (.isub, 1) := by decide +kernel
theorem dX3_remove_19 : decode cX3_remove 19 = .ok (.aload_n 0, 1) := by decide +kernel
theorem dX3_remove_20 : decode cX3_remove 20 = .ok (.getfield 9, 3) := by decide +kernel
theorem dX3_remove_23 : decode cX3_remove 23 = .ok (.iload_n 2, 1) := by decide +kernel
theorem dX3_remove_24 : decode cX3_remove 24 = .ok (.invokestatic 30, 3) := by decide +kernel
theorem dX3_remove_27 : decode cX3_remove 27 = .ok (.invokestatic 26, 3) := by decide +kernel
theorem dX3_remove_30 : decode cX3_remove 30 = .ok (.aload_n 0, 1) := by decide +kernel
theorem dX3_remove_31 : decode cX3_remove 31 = .ok (.getfield 15, 3) := by decide +kernel
theorem dX3_remove_34 : decode cX3_remove 34 = .ok (.iload_n 2, 1) := by decide +kernel
theorem dX3_remove_35 : decode cX3_remove 35 = .ok (.iconst 1, 1) := by decide +kernel
theorem dX3_remove_36 : decode cX3_remove 36 = .ok (.isub, 1) := by decide +kernel
theorem dX3_remove_37 : decode cX3_remove 37 = .ok (.aload_n 0, 1) := by decide +kernel
theorem dX3_remove_38 : decode cX3_remove 38 = .ok (.getfield 15, 3) := by decide +kernel
theorem dX3_remove_41 : decode cX3_remove 41 = .ok (.iload_n 2, 1) := by decide +kernel
theorem dX3_remove_42 : decode cX3_remove 42 = .ok (.invokestatic 30, 3) := by decide +kernel
theorem dX3_remove_45 : decode cX3_remove 45 = .ok (.invokestatic 26, 3) := by decide +kernel
theorem dX3_remove_48 : decode cX3_remove 48 = .ok (.iinc 2 1, 3) := by decide +kernel
theorem dX3_remove_51 : decode cX3_remove 51 = .ok (.goto (-47), 3) := by decide +kernel
theorem dX3_remove_54 : decode cX3_remove 54 = .ok (.aload_n 0, 1) := by decide +kernel
theorem dX3_remove_55 : decode cX3_remove 55 = .ok (.dup, 1) := by decide +kernel
theorem dX3_remove_56 : decode cX3_remove 56 = .ok (.getfield 18, 3) := by decide +kernel
theorem dX3_remove_59 : decode cX3_remove 59 = .ok (.iconst 1, 1) := by decide +kernel
theorem dX3_remove_60 : decode cX3_remove 60 = .ok (.isub, 1) := by decide +kernel
theorem dX3_remove_61 : decode cX3_remove 61 = .ok (.putfield 18, 3) := by decide +kernel
theorem dX3_remove_64 : decode cX3_remove 64 = .ok (.return_, 1) := by decide +kernel
theorem dX3_waitingBefore_0 : decode cX3_waitingBefore 0 = .ok (.iconst 0, 1) := by decide +kernel
theorem dX3_waitingBefore_1 : decode cX3_waitingBefore 1 = .ok (.istore_n 2, 1) := by decide +kernel
theorem dX3_waitingBefore_2 : decode cX3_waitingBefore 2 = .ok (.iconst 0, 1) := by decide +kernel
theorem dX3_waitingBefore_3 : decode cX3_waitingBefore 3 = .ok (.istore_n 3, 1) := by decide +kernel
theorem dX3_waitingBefore_4 : decode cX3_waitingBefore 4 = .ok (.iload_n 3, 1) := by decide +kernel
theorem dX3_waitingBefore_5 : decode cX3_waitingBefore 5 = .ok (.aload_n 0, 1) := by decide +kernel
theorem dX3_waitingBefore_6 : decode cX3_waitingBefore 6 = .ok (.getfield 18, 3) := by decide +kernel
theorem dX3_waitingBefore_9 : decode cX3_waitingBefore 9 = .ok (.if_icmp .ge 24, 3) := by decide +kernel
theorem dX3_waitingBefore_12 : decode cX3_waitingBefore 12 = .ok (.aload_n 0, 1) := by decide +kernel
theorem dX3_waitingBefore_13 : decode cX3_waitingBefore 13 = .ok (.getfield 15, 3) := by decide +kernel
theorem dX3_waitingBefore_16 : decode cX3_waitingBefore 16 = .ok (.iload_n 3, 1) := by decide +kernel
theorem dX3_waitingBefore_17 : decode cX3_waitingBefore 17 = .ok (.invokestatic 30, 3) := by decide +kernel
theorem dX3_waitingBefore_20 : decode cX3_waitingBefore 20 = .ok (.iload_n 1, 1) := by decide +kernel
theorem dX3_waitingBefore_21 : decode cX3_waitingBefore 21 = .ok (.if_icmp .ge 6, 3) := by decide +kernel
theorem dX3_waitingBefore_24 : decode cX3_waitingBefore 24 = .ok (.iinc 2 1, 3) := by decide +kernel
theorem dX3_waitingBefore_27 : decode cX3_waitingBefore 27 = .ok (.iinc 3 1, 3) := by decide +kernel
theorem dX3_waitingBefore_30 : decode cX3_waitingBefore 30 = .ok (.goto (-26), 3) := by decide +kernel
theorem dX3_waitingBefore_33 : decode cX3_waitingBefore 33 = .ok (.iload_n 2, 1) := by decide +kernel
theorem dX3_waitingBefore_34 : decode cX3_waitingBefore 34 = .ok (.ireturn, 1) := by decide +kernel
theorem dX4_init_0 : decode cX4_init 0 = .ok (.aload_n 0, 1) := by decide +kernel
theorem dX4_init_1 : decode cX4_init 1 = .ok (.invokespecial 3, 3) := by decide +kernel
theorem dX4_init_4 : decode cX4_init 4 = .ok (.aload_n 0, 1) := by decide +kernel
theorem dX4_init_5 : decode cX4_init 5 = .ok (.sipush 210, 3) := by decide +kernel
theorem dX4_init_8 : decode cX4_init 8 = .ok (.newarray .int, 2) := by decide +kernel
theorem dX4_init_10 : decode cX4_init 10 = .ok (.putfield 9, 3) := by decide +kernel
theorem dX4_init_13 : decode cX4_init 13 = .ok (.return_, 1) := by decide +kernel
theorem dX4_copyFrom_0 : decode cX4_copyFrom 0 = .ok (.aload_n 0, 1) := by decide +kernel
theorem dX4_copyFrom_1 : decode cX4_copyFrom 1 = .ok (.aload_n 1, 1) := by decide +kernel
theorem dX4_copyFrom_2 : decode cX4_copyFrom 2 = .ok (.getfield 15, 3) := by decide +kernel
theorem dX4_copyFrom_5 : decode cX4_copyFrom 5 = .ok (.putfield 15, 3) := by decide +kernel
theorem dX4_copyFrom_8 : decode cX4_copyFrom 8 = .ok (.aload_n 1, 1) := by decide +kernel
theorem dX4_copyFrom_9 : decode cX4_copyFrom 9 = .ok (.getfield 9, 3) := by decide +kernel
theorem dX4_copyFrom_12 : decode cX4_copyFrom 12 = .ok (.aload_n 0, 1) := by decide +kernel
theorem dX4_copyFrom_13 : decode cX4_copyFrom 13 = .ok (.getfield 9, 3) := by decide +kernel
theorem dX4_copyFrom_16 : decode cX4_copyFrom 16 = .ok (.invokestatic 19, 3) := by decide +kernel
theorem dX4_copyFrom_19 : decode cX4_copyFrom 19 = .ok (.return_, 1) := by decide +kernel
theorem dX4_append_0 : decode cX4_append 0 = .ok (.aload_n 0, 1) := by decide +kernel
theorem dX4_append_1 : decode cX4_append 1 = .ok (.getfield 15, 3) := by decide +kernel
theorem dX4_append_4 : decode cX4_append 4 = .ok (.bipush 7, 2) := by decide +kernel
theorem dX4_append_6 : decode cX4_append 6 = .ok (.imul, 1) := by decide +kernel
theorem dX4_append_7 : decode cX4_append 7 = .ok (.istore 4, 2) := by decide +kernel
theorem dX4_append_9 : decode cX4_append 9 = .ok (.aload_n 0, 1) := by decide +kernel
theorem dX4_append_10 : decode cX4_append 10 = .ok (.getfield 9, 3) := by decide +kernel
theorem dX4_append_13 : decode cX4_append 13 = .ok (.iload 4, 2) := by decide +kernel
theorem dX4_append_15 : decode cX4_append 15 = .ok (.aload_n 1, 1) := by decide +kernel
theorem dX4_append_16 : decode cX4_append 16 = .ok (.getfield 23, 3) := by decide +kernel
theorem dX4_append_19 : decode cX4_append 19 = .ok (.invokestatic 28, 3) := by decide +kernel
theorem dX4_append_22 : decode cX4_append 22 = .ok (.aload_n 0, 1) := by decide +kernel
theorem dX4_append_23 : decode cX4_append 23 = .ok (.getfield 9, 3) := by decide +kernel
theorem dX4_append_26 : decode cX4_append 26 = .ok (.iload 4, 2) := by decide +kernel
theorem dX4_append_28 : decode cX4_append 28 = .ok (.iconst 1, 1) := by decide +kernel
theorem dX4_append_29 : decode cX4_append 29 = .ok (.iadd, 1) := by decide +kernel
theorem dX4_append_30 : decode cX4_append 30 = .ok (.aload_n 1, 1) := by decide +kernel
theorem dX4_append_31 : decode cX4_append 31 = .ok (.getfield 32, 3) := by decide +kernel
theorem dX4_append_34 : decode cX4_append 34 = .ok (.invokestatic 28, 3) := by decide +kernel
theorem dX4_append_37 : decode cX4_append 37 = .ok (.aload_n 0, 1) := by decide +kernel
theorem dX4_append_38 : decode cX4_append 38 = .ok (.getfield 9, 3) := by decide +kernel
theorem dX4_append_41 : decode cX4_append 41 = .ok (.iload 4, 2) := by decide +kernel
theorem dX4_append_43 : decode cX4_append 43 = .ok (.iconst 2, 1) := by decide +kernel
theorem dX4_append_44 : decode cX4_append 44 = .ok (.iadd, 1) := by decide +kernel
theorem dX4_append_45 : decode cX4_append 45 = .ok (.aload_n 1, 1) := by decide +kernel
theorem dX4_append_46 : decode cX4_append 46 = .ok (.getfield 35, 3) := by decide +kernel
theorem dX4_append_49 : decode cX4_append 49 = .ok (.invokestatic 28, 3) := by decide +kernel
theorem dX4_append_52 : decode cX4_append 52 = .ok (.aload_n 0, 1) := by decide +kernel
theorem dX4_append_53 : decode cX4_append 53 = .ok (.getfield 9, 3) := by decide +kernel
theorem dX4_append_56 : decode cX4_append 56 = .ok (.iload 4, 2) := by decide +kernel
theorem dX4_append_58 : decode cX4_append 58 = .ok (.iconst 3, 1) := by decide +kernel
theorem dX4_append_59 : decode cX4_append 59 = .ok (.iadd, 1) := by decide +kernel
theorem dX4_append_60 : decode cX4_append 60 = .ok (.iload_n 2, 1) := by decide +kernel
theorem dX4_append_61 : decode cX4_append 61 = .ok (.invokestatic 28, 3) := by decide +kernel
theorem dX4_append_64 : decode cX4_append 64 = .ok (.aload_n 0, 1) := by decide +kernel
theorem dX4_append_65 : decode cX4_append 65 = .ok (.getfield 9, 3) := by decide +kernel
theorem dX4_append_68 : decode cX4_append 68 = .ok (.iload 4, 2) := by decide +kernel
theorem dX4_append_70 : decode cX4_append 70 = .ok (.iconst 4, 1) := by decide +kernel
theorem dX4_append_71 : decode cX4_append 71 = .ok (.iadd, 1) := by decide +kernel
theorem dX4_append_72 : decode cX4_append 72 = .ok (.iload_n 3, 1) := by decide +kernel
theorem dX4_append_73 : decode cX4_append 73 = .ok (.invokestatic 28, 3) := by decide +kernel
theorem dX4_append_76 : decode cX4_append 76 = .ok (.aload_n 0, 1) := by decide +kernel
theorem dX4_append_77 : decode cX4_append 77 = .ok (.getfield 9, 3) := by decide +kernel
theorem dX4_append_80 : decode cX4_append 80 = .ok (.iload 4, 2) := by decide +kernel
theorem dX4_append_82 : decode cX4_append 82 = .ok (.iconst 5, 1) := by decide +kernel
theorem dX4_append_83 : decode cX4_append 83 = .ok (.iadd, 1) := by decide +kernel
theorem dX4_append_84 : decode cX4_append 84 = .ok (.aload_n 1, 1) := by decide +kernel
theorem dX4_append_85 : decode cX4_append 85 = .ok (.getfield 38, 3) := by decide +kernel
theorem dX4_append_88 : decode cX4_append 88 = .ok (.invokestatic 28, 3) := by decide +kernel
theorem dX4_append_91 : decode cX4_append 91 = .ok (.aload_n 0, 1) := by decide +kernel
theorem dX4_append_92 : decode cX4_append 92 = .ok (.getfield 9, 3) := by decide +kernel
theorem dX4_append_95 : decode cX4_append 95 = .ok (.iload 4, 2) := by decide +kernel
theorem dX4_append_97 : decode cX4_append 97 = .ok (.bipush 6, 2) := by decide +kernel
theorem dX4_append_99 : decode cX4_append 99 = .ok (.iadd, 1) := by decide +kernel
theorem dX4_append_100 : decode cX4_append 100 = .ok (.aload_n 1, 1) := by decide +kernel
theorem dX4_append_101 : decode cX4_append 101 = .ok (.getfield 41, 3) := by decide +kernel
theorem dX4_append_104 : decode cX4_append 104 = .ok (.invokestatic 28, 3) := by decide +kernel
theorem dX4_append_107 : decode cX4_append 107 = .ok (.aload_n 0, 1) := by decide +kernel
theorem dX4_append_108 : decode cX4_append 108 = .ok (.dup, 1) := by decide +kernel
theorem dX4_append_109 : decode cX4_append 109 = .ok (.getfield 15, 3) := by decide +kernel
theorem dX4_append_112 : decode cX4_append 112 = .ok (.iconst 1, 1) := by decide +kernel
theorem dX4_append_113 : decode cX4_append 113 = .ok (.iadd, 1) := by decide +kernel
theorem dX4_append_114 : decode cX4_append 114 = .ok (.putfield 15, 3) := by decide +kernel
theorem dX4_append_117 : decode cX4_append 117 = .ok (.return_, 1) := by decide +kernel
theorem dX4_wins_0 : decode cX4_wins 0 = .ok (.iconst 0, 1) := by decide +kernel
theorem dX4_wins_1 : decode cX4_wins 1 = .ok (.istore_n 1, 1) := by decide +kernel
theorem dX4_wins_2 : decode cX4_wins 2 = .ok (.iconst 0, 1) := by decide +kernel
theorem dX4_wins_3 : decode cX4_wins 3 = .ok (.istore_n 2, 1) := by decide +kernel
theorem dX4_wins_4 : decode cX4_wins 4 = .ok (.iload_n 2, 1) := by decide +kernel
theorem dX4_wins_5 : decode cX4_wins 5 = .ok (.aload_n 0, 1) := by decide +kernel
theorem dX4_wins_6 : decode cX4_wins 6 = .ok (.getfield 15, 3) := by decide +kernel
theorem dX4_wins_9 : decode cX4_wins 9 = .ok (.if_icmp .ge 25, 3) := by decide +kernel
theorem dX4_wins_12 : decode cX4_wins 12 = .ok (.iload_n 1, 1) := by decide +kernel
theorem dX4_wins_13 : decode cX4_wins 13 = .ok (.aload_n 0, 1) := by decide +kernel
theorem dX4_wins_14 : decode cX4_wins 14 = .ok (.getfield 9, 3) := by decide +kernel
theorem dX4_wins_17 : decode cX4_wins 17 = .ok (.iload_n 2, 1) := by decide +kernel
theorem dX4_wins_18 : decode cX4_wins 18 = .ok (.bipush 7, 2) := by decide +kernel
theorem dX4_wins_20 : decode cX4_wins 20 = .ok (.imul, 1) := by decide +kernel
theorem dX4_wins_21 : decode cX4_wins 21 = .ok (.iconst 4, 1) := by decide +kernel
theorem dX4_wins_22 : decode cX4_wins 22 = .ok (.iadd, 1) := by decide +kernel
theorem dX4_wins_23 : decode cX4_wins 23 = .ok (.invokestatic 44, 3) := by decide +kernel
theorem dX4_wins_26 : decode cX4_wins 26 = .ok (.iadd, 1) := by decide +kernel
theorem dX4_wins_27 : decode cX4_wins 27 = .ok (.istore_n 1, 1) := by decide +kernel
theorem dX4_wins_28 : decode cX4_wins 28 = .ok (.iinc 2 1, 3) := by decide +kernel
theorem dX4_wins_31 : decode cX4_wins 31 = .ok (.goto (-27), 3) := by decide +kernel
theorem dX4_wins_34 : decode cX4_wins 34 = .ok (.iload_n 1, 1) := by decide +kernel
theorem dX4_wins_35 : decode cX4_wins 35 = .ok (.ireturn, 1) := by decide +kernel
