theorem dX3_readNet_49 : decode cX3_readNet 49 = .ok (.iload 4, 2) := by decide +kernel
theorem dX3_readNet_5 : decode cX3_readNet 5 = .ok (.aload_n 0, 1) := by decide +kernel
theorem dX3_readNet_51 : decode cX3_readNet 51 = .ok (.bipush 60, 2) := by decide +kernel
theorem dX3_readNet_53 : decode cX3_readNet 53 = .ok (.if_icmp .gt 30, 3) := by decide +kernel
theorem dX3_readNet_56 : decode cX3_readNet 56 = .ok (.aload_n 0, 1) := by decide +kernel
theorem dX3_readNet_57 : decode cX3_readNet 57 = .ok (.getfield 43, 3) := by decide +kernel
theorem dX3_readNet_6 : decode cX3_readNet 6 = .ok (.iload_n 2, 1) := by decide +kernel
theorem dX3_readNet_60 : decode cX3_readNet 60 = .ok (.ifCond .eq 23, 3) := by decide +kernel
theorem dX3_readNet_7 : decode cX3_readNet 7 = .ok (.putfield 19, 3) := by decide +kernel
theorem dX3_readNet_83 : decode cX3_readNet 83 = .ok (.aload_n 0, 1) := by decide +kernel
theorem dX3_readNet_84 : decode cX3_readNet 84 = .ok (.getfield 37, 3) := by decide +kernel
theorem dX3_readNet_87 : decode cX3_readNet 87 = .ok (.ifCond .ne 33, 3) := by decide +kernel
theorem dX3_readNet_90 : decode cX3_readNet 90 = .ok (.aload_n 0, 1) := by decide +kernel
theorem dX3_readNet_91 : decode cX3_readNet 91 = .ok (.getfield 22, 3) := by decide +kernel
theorem dX3_readNet_94 : decode cX3_readNet 94 = .ok (.getfield 50, 3) := by decide +kernel
theorem dX3_readNet_97 : decode cX3_readNet 97 = .ok (.ifCond .eq 13, 3) := by decide +kernel
theorem dX4_countLikeRows_0 : decode cX4_countLikeRows 0 = .ok (.aload_n 0, 1) := by decide +kernel
theorem dX4_countLikeRows_1 : decode cX4_countLikeRows 1 = .ok (.aload_n 1, 1) := by decide +kernel
theorem dX4_countLikeRows_12 : decode cX4_countLikeRows 12 = .ok (.ifCond .ne 5, 3) := by decide +kernel
theorem dX4_countLikeRows_15 : decode cX4_countLikeRows 15 = .ok (.iconst 0, 1) := by decide +kernel
theorem dX4_countLikeRows_16 : decode cX4_countLikeRows 16 = .ok (.ireturn, 1) := by decide +kernel
theorem dX4_countLikeRows_2 : decode cX4_countLikeRows 2 = .ok (.putfield 89, 3) := by decide +kernel
theorem dX4_countLikeRows_5 : decode cX4_countLikeRows 5 = .ok (.aload_n 0, 1) := by decide +kernel
theorem dX4_countLikeRows_6 : decode cX4_countLikeRows 6 = .ok (.getfield 89, 3) := by decide +kernel
theorem dX4_countLikeRows_9 : decode cX4_countLikeRows 9 = .ok (.getfield 24, 3) := by decide +kernel
theorem dX4_init_0 : decode cX4_init 0 = .ok (.aload_n 0, 1) := by decide +kernel
theorem dX4_init_1 : decode cX4_init 1 = .ok (.invokespecial 3, 3) := by decide +kernel
theorem dX4_init_12 : decode cX4_init 12 = .ok (.aload_n 0, 1) := by decide +kernel
theorem dX4_init_13 : decode cX4_init 13 = .ok (.bipush 72, 2) := by decide +kernel
theorem dX4_init_15 : decode cX4_init 15 = .ok (.newarray .int, 2) := by decide +kernel
theorem dX4_init_17 : decode cX4_init 17 = .ok (.putfield 15, 3) := by decide +kernel
theorem dX4_init_20 : decode cX4_init 20 = .ok (.aload_n 0, 1) := by decide +kernel
theorem dX4_init_21 : decode cX4_init 21 = .ok (.bipush 72, 2) := by decide +kernel
theorem dX4_init_23 : decode cX4_init 23 = .ok (.newarray .int, 2) := by decide +kernel
theorem dX4_init_25 : decode cX4_init 25 = .ok (.putfield 18, 3) := by decide +kernel
theorem dX4_init_28 : decode cX4_init 28 = .ok (.aload_n 0, 1) := by decide +kernel
theorem dX4_init_29 : decode cX4_init 29 = .ok (.bipush 64, 2) := by decide +kernel
theorem dX4_init_31 : decode cX4_init 31 = .ok (.newarray .int, 2) := by decide +kernel
theorem dX4_init_33 : decode cX4_init 33 = .ok (.putfield 21, 3) := by decide +kernel
theorem dX4_init_36 : decode cX4_init 36 = .ok (.return_, 1) := by decide +kernel
theorem dX4_init_4 : decode cX4_init 4 = .ok (.aload_n 0, 1) := by decide +kernel
theorem dX4_init_5 : decode cX4_init 5 = .ok (.bipush 70, 2) := by decide +kernel
theorem dX4_init_7 : decode cX4_init 7 = .ok (.newarray .int, 2) := by decide +kernel
theorem dX4_init_9 : decode cX4_init 9 = .ok (.putfield 11, 3) := by decide +kernel
theorem dX4_kindOf_0 : decode cX4_kindOf 0 = .ok (.aload_n 0, 1) := by decide +kernel
theorem dX4_kindOf_1 : decode cX4_kindOf 1 = .ok (.getfield 24, 3) := by decide +kernel
theorem dX4_kindOf_4 : decode cX4_kindOf 4 = .ok (.ifCond .ne 5, 3) := by decide +kernel
theorem dX4_kindOf_7 : decode cX4_kindOf 7 = .ok (.iconst 0, 1) := by decide +kernel
theorem dX4_kindOf_8 : decode cX4_kindOf 8 = .ok (.ireturn, 1) := by decide +kernel
theorem dX4_leastSet_0 : decode cX4_leastSet 0 = .ok (.iconst 0, 1) := by decide +kernel
theorem dX4_leastSet_1 : decode cX4_leastSet 1 = .ok (.istore 4, 2) := by decide +kernel
theorem dX4_leastSet_10 : decode cX4_leastSet 10 = .ok (.getfield 24, 3) := by decide +kernel
theorem dX4_leastSet_13 : decode cX4_leastSet 13 = .ok (.ishl, 1) := by decide +kernel
theorem dX4_leastSet_14 : decode cX4_leastSet 14 = .ok (.if_icmp .ge 58, 3) := by decide +kernel
theorem dX4_leastSet_3 : decode cX4_leastSet 3 = .ok (.iconst 1, 1) := by decide +kernel
theorem dX4_leastSet_4 : decode cX4_leastSet 4 = .ok (.istore 5, 2) := by decide +kernel
theorem dX4_leastSet_6 : decode cX4_leastSet 6 = .ok (.iload 5, 2) := by decide +kernel
theorem dX4_leastSet_72 : decode cX4_leastSet 72 = .ok (.iconst 0, 1) := by decide +kernel
theorem dX4_leastSet_73 : decode cX4_leastSet 73 = .ok (.ireturn, 1) := by decide +kernel
theorem dX4_leastSet_8 : decode cX4_leastSet 8 = .ok (.iconst 1, 1) := by decide +kernel
theorem dX4_leastSet_9 : decode cX4_leastSet 9 = .ok (.aload_n 1, 1) := by decide +kernel
theorem dX5_copyFrom_0 : decode cX5_copyFrom 0 = .ok (.aload_n 1, 1) := by decide +kernel
theorem dX5_copyFrom_1 : decode cX5_copyFrom 1 = .ok (.getfield 9, 3) := by decide +kernel
theorem dX5_copyFrom_10 : decode cX5_copyFrom 10 = .ok (.bipush 8, 2) := by decide +kernel
theorem dX5_copyFrom_12 : decode cX5_copyFrom 12 = .ok (.invokestatic 26, 3) := by decide +kernel
theorem dX5_copyFrom_15 : decode cX5_copyFrom 15 = .ok (.aload_n 1, 1) := by decide +kernel
theorem dX5_copyFrom_16 : decode cX5_copyFrom 16 = .ok (.getfield 15, 3) := by decide +kernel
theorem dX5_copyFrom_19 : decode cX5_copyFrom 19 = .ok (.iconst 0, 1) := by decide +kernel
theorem dX5_copyFrom_20 : decode cX5_copyFrom 20 = .ok (.aload_n 0, 1) := by decide +kernel
theorem dX5_copyFrom_21 : decode cX5_copyFrom 21 = .ok (.getfield 15, 3) := by decide +kernel
theorem dX5_copyFrom_24 : decode cX5_copyFrom 24 = .ok (.iconst 0, 1) := by decide +kernel
theorem dX5_copyFrom_25 : decode cX5_copyFrom 25 = .ok (.bipush 8, 2) := by decide +kernel
theorem dX5_copyFrom_27 : decode cX5_copyFrom 27 = .ok (.invokestatic 26, 3) := by decide +kernel
theorem dX5_copyFrom_30 : decode cX5_copyFrom 30 = .ok (.aload_n 1, 1) := by decide +kernel
theorem dX5_copyFrom_31 : decode cX5_copyFrom 31 = .ok (.getfield 18, 3) := by decide +kernel
theorem dX5_copyFrom_34 : decode cX5_copyFrom 34 = .ok (.iconst 0, 1) := by decide +kernel
theorem dX5_copyFrom_35 : decode cX5_copyFrom 35 = .ok (.aload_n 0, 1) := by decide +kernel
theorem dX5_copyFrom_36 : decode cX5_copyFrom 36 = .ok (.getfield 18, 3) := by decide +kernel
theorem dX5_copyFrom_39 : decode cX5_copyFrom 39 = .ok (.iconst 0, 1) := by decide +kernel
theorem dX5_copyFrom_4 : decode cX5_copyFrom 4 = .ok (.iconst 0, 1) := by decide +kernel
theorem dX5_copyFrom_40 : decode cX5_copyFrom 40 = .ok (.bipush 40, 2) := by decide +kernel
theorem dX5_copyFrom_42 : decode cX5_copyFrom 42 = .ok (.invokestatic 26, 3) := by decide +kernel
theorem dX5_copyFrom_45 : decode cX5_copyFrom 45 = .ok (.aload_n 0, 1) := by decide +kernel
theorem dX5_copyFrom_46 : decode cX5_copyFrom 46 = .ok (.aload_n 1, 1) := by decide +kernel
theorem dX5_copyFrom_47 : decode cX5_copyFrom 47 = .ok (.getfield 38, 3) := by decide +kernel
theorem dX5_copyFrom_5 : decode cX5_copyFrom 5 = .ok (.aload_n 0, 1) := by decide +kernel
theorem dX5_copyFrom_50 : decode cX5_copyFrom 50 = .ok (.putfield 38, 3) := by decide +kernel
theorem dX5_copyFrom_53 : decode cX5_copyFrom 53 = .ok (.return_, 1) := by decide +kernel
theorem dX5_copyFrom_6 : decode cX5_copyFrom 6 = .ok (.getfield 9, 3) := by decide +kernel
theorem dX5_copyFrom_9 : decode cX5_copyFrom 9 = .ok (.iconst 0, 1) := by decide +kernel
theorem dX5_init_0 : decode cX5_init 0 = .ok (.aload_n 0, 1) := by decide +kernel
theorem dX5_init_1 : decode cX5_init 1 = .ok (.invokespecial 3, 3) := by decide +kernel
theorem dX5_init_12 : decode cX5_init 12 = .ok (.aload_n 0, 1) := by decide +kernel
theorem dX5_init_13 : decode cX5_init 13 = .ok (.bipush 8, 2) := by decide +kernel
theorem dX5_init_15 : decode cX5_init 15 = .ok (.newarray .int, 2) := by decide +kernel
theorem dX5_init_17 : decode cX5_init 17 = .ok (.putfield 15, 3) := by decide +kernel
theorem dX5_init_20 : decode cX5_init 20 = .ok (.aload_n 0, 1) := by decide +kernel
theorem dX5_init_21 : decode cX5_init 21 = .ok (.bipush 40, 2) := by decide +kernel
theorem dX5_init_23 : decode cX5_init 23 = .ok (.newarray .int, 2) := by decide +kernel
theorem dX5_init_25 : decode cX5_init 25 = .ok (.putfield 18, 3) := by decide +kernel
theorem dX5_init_28 : decode cX5_init 28 = .ok (.return_, 1) := by decide +kernel
theorem dX5_init_4 : decode cX5_init 4 = .ok (.aload_n 0, 1) := by decide +kernel
theorem dX5_init_5 : decode cX5_init 5 = .ok (.bipush 8, 2) := by decide +kernel
theorem dX5_init_7 : decode cX5_init 7 = .ok (.newarray .int, 2) := by decide +kernel
theorem dX5_init_9 : decode cX5_init 9 = .ok (.putfield 9, 3) := by decide +kernel
theorem dX6_enterState_0 : decode cX6_enterState 0 = .ok (.aload_n 0, 1) := by decide +kernel
theorem dX6_enterState_1 : decode cX6_enterState 1 = .ok (.getfield 70, 3) := by decide +kernel
theorem dX6_enterState_10 : decode cX6_enterState 10 = .ok (.iadd, 1) := by decide +kernel
theorem dX6_enterState_11 : decode cX6_enterState 11 = .ok (.istore_n 2, 1) := by decide +kernel
theorem dX6_enterState_12 : decode cX6_enterState 12 = .ok (.aload_n 0, 1) := by decide +kernel
theorem dX6_enterState_13 : decode cX6_enterState 13 = .ok (.getfield 17, 3) := by decide +kernel
theorem dX6_enterState_16 : decode cX6_enterState 16 = .ok (.iload_n 1, 1) := by decide +kernel
theorem dX6_enterState_17 : decode cX6_enterState 17 = .ok (.iload_n 2, 1) := by decide +kernel
theorem dX6_enterState_18 : decode cX6_enterState 18 = .ok (.iastore, 1) := by decide +kernel
theorem dX6_enterState_19 : decode cX6_enterState 19 = .ok (.aload_n 0, 1) := by decide +kernel
theorem dX6_enterState_20 : decode cX6_enterState 20 = .ok (.getfield 21, 3) := by decide +kernel
theorem dX6_enterState_23 : decode cX6_enterState 23 = .ok (.iload_n 1, 1) := by decide +kernel
theorem dX6_enterState_24 : decode cX6_enterState 24 = .ok (.iload_n 2, 1) := by decide +kernel
theorem dX6_enterState_25 : decode cX6_enterState 25 = .ok (.iastore, 1) := by decide +kernel
theorem dX6_enterState_26 : decode cX6_enterState 26 = .ok (.aload_n 0, 1) := by decide +kernel
theorem dX6_enterState_27 : decode cX6_enterState 27 = .ok (.getfield 24, 3) := by decide +kernel
theorem dX6_enterState_30 : decode cX6_enterState 30 = .ok (.iload_n 1, 1) := by decide +kernel
theorem dX6_enterState_31 : decode cX6_enterState 31 = .ok (.iconst 0, 1) := by decide +kernel
theorem dX6_enterState_32 : decode cX6_enterState 32 = .ok (.iastore, 1) := by decide +kernel
theorem dX6_enterState_33 : decode cX6_enterState 33 = .ok (.aload_n 0, 1) := by decide +kernel
theorem dX6_enterState_34 : decode cX6_enterState 34 = .ok (.getfield 33, 3) := by decide +kernel
theorem dX6_enterState_37 : decode cX6_enterState 37 = .ok (.iload_n 1, 1) := by decide +kernel
theorem dX6_enterState_38 : decode cX6_enterState 38 = .ok (.iconst (-1), 1) := by decide +kernel
theorem dX6_enterState_39 : decode cX6_enterState 39 = .ok (.iastore, 1) := by decide +kernel
theorem dX6_enterState_4 : decode cX6_enterState 4 = .ok (.aload_n 0, 1) := by decide +kernel
theorem dX6_enterState_40 : decode cX6_enterState 40 = .ok (.aload_n 0, 1) := by decide +kernel
theorem dX6_enterState_41 : decode cX6_enterState 41 = .ok (.getfield 27, 3) := by decide +kernel
theorem dX6_enterState_44 : decode cX6_enterState 44 = .ok (.aload_n 0, 1) := by decide +kernel
theorem dX6_enterState_45 : decode cX6_enterState 45 = .ok (.getfield 67, 3) := by decide +kernel
theorem dX6_enterState_48 : decode cX6_enterState 48 = .ok (.iload_n 1, 1) := by decide +kernel
theorem dX6_enterState_49 : decode cX6_enterState 49 = .ok (.iastore, 1) := by decide +kernel
theorem dX6_enterState_5 : decode cX6_enterState 5 = .ok (.getfield 64, 3) := by decide +kernel
theorem dX6_enterState_50 : decode cX6_enterState 50 = .ok (.aload_n 0, 1) := by decide +kernel
theorem dX6_enterState_51 : decode cX6_enterState 51 = .ok (.dup, 1) := by decide +kernel
theorem dX6_enterState_52 : decode cX6_enterState 52 = .ok (.getfield 67, 3) := by decide +kernel
theorem dX6_enterState_55 : decode cX6_enterState 55 = .ok (.iconst 1, 1) := by decide +kernel
theorem dX6_enterState_56 : decode cX6_enterState 56 = .ok (.iadd, 1) := by decide +kernel
theorem dX6_enterState_57 : decode cX6_enterState 57 = .ok (.putfield 67, 3) := by decide +kernel
theorem dX6_enterState_60 : decode cX6_enterState 60 = .ok (.aload_n 0, 1) := by decide +kernel
theorem dX6_enterState_61 : decode cX6_enterState 61 = .ok (.getfield 30, 3) := by decide +kernel
theorem dX6_enterState_64 : decode cX6_enterState 64 = .ok (.aload_n 0, 1) := by decide +kernel
theorem dX6_enterState_65 : decode cX6_enterState 65 = .ok (.getfield 70, 3) := by decide +kernel
theorem dX6_enterState_68 : decode cX6_enterState 68 = .ok (.iload_n 1, 1) := by decide +kernel
theorem dX6_enterState_69 : decode cX6_enterState 69 = .ok (.iastore, 1) := by decide +kernel
theorem dX6_enterState_70 : decode cX6_enterState 70 = .ok (.aload_n 0, 1) := by decide +kernel
theorem dX6_enterState_71 : decode cX6_enterState 71 = .ok (.dup, 1) := by decide +kernel
theorem dX6_enterState_72 : decode cX6_enterState 72 = .ok (.getfield 70, 3) := by decide +kernel
theorem dX6_enterState_75 : decode cX6_enterState 75 = .ok (.iconst 1, 1) := by decide +kernel
theorem dX6_enterState_76 : decode cX6_enterState 76 = .ok (.iadd, 1) := by decide +kernel
theorem dX6_enterState_77 : decode cX6_enterState 77 = .ok (.putfield 70, 3) := by decide +kernel
theorem dX6_enterState_8 : decode cX6_enterState 8 = .ok (.iadd, 1) := by decide +kernel
theorem dX6_enterState_80 : decode cX6_enterState 80 = .ok (.return_, 1) := by decide +kernel
theorem dX6_enterState_9 : decode cX6_enterState 9 = .ok (.iconst 1, 1) := by decide +kernel
theorem dX6_findOpen_0 : decode cX6_findOpen 0 = .ok (.aload_n 0, 1) := by decide +kernel
theorem dX6_findOpen_1 : decode cX6_findOpen 1 = .ok (.getfield 39, 3) := by decide +kernel
theorem dX6_findOpen_10 : decode cX6_findOpen 10 = .ok (.iload_n 1, 1) := by decide +kernel
theorem dX6_findOpen_11 : decode cX6_findOpen 11 = .ok (.aload_n 0, 1) := by decide +kernel
theorem dX6_findOpen_12 : decode cX6_findOpen 12 = .ok (.getfield 83, 3) := by decide +kernel
theorem dX6_findOpen_15 : decode cX6_findOpen 15 = .ok (.invokevirtual 87, 3) := by decide +kernel
theorem dX6_findOpen_18 : decode cX6_findOpen 18 = .ok (.if_icmp .ge 78, 3) := by decide +kernel
theorem dX6_findOpen_21 : decode cX6_findOpen 21 = .ok (.iconst 0, 1) := by decide +kernel
theorem dX6_findOpen_22 : decode cX6_findOpen 22 = .ok (.istore_n 2, 1) := by decide +kernel
theorem dX6_findOpen_23 : decode cX6_findOpen 23 = .ok (.iload_n 2, 1) := by decide +kernel
theorem dX6_findOpen_24 : decode cX6_findOpen 24 = .ok (.aload_n 0, 1) := by decide +kernel
theorem dX6_findOpen_25 : decode cX6_findOpen 25 = .ok (.getfield 83, 3) := by decide +kernel
theorem dX6_findOpen_28 : decode cX6_findOpen 28 = .ok (.getfield 91, 3) := by decide +kernel
theorem dX6_findOpen_31 : decode cX6_findOpen 31 = .ok (.getfield 95, 3) := by decide +kernel
theorem dX6_findOpen_34 : decode cX6_findOpen 34 = .ok (.if_icmp .ge 56, 3) := by decide +kernel
theorem dX6_findOpen_4 : decode cX6_findOpen 4 = .ok (.iconst 0, 1) := by decide +kernel
theorem dX6_findOpen_5 : decode cX6_findOpen 5 = .ok (.invokestatic 73, 3) := by decide +kernel
theorem dX6_findOpen_8 : decode cX6_findOpen 8 = .ok (.iconst 0, 1) := by decide +kernel
theorem dX6_findOpen_9 : decode cX6_findOpen 9 = .ok (.istore_n 1, 1) := by decide +kernel
theorem dX6_findOpen_90 : decode cX6_findOpen 90 = .ok (.iinc 1 1, 3) := by decide +kernel
theorem dX6_findOpen_93 : decode cX6_findOpen 93 = .ok (.goto (-83), 3) := by decide +kernel
theorem dX6_findOpen_96 : decode cX6_findOpen 96 = .ok (.return_, 1) := by decide +kernel
theorem dX6_homes_0 : decode cX6_homes 0 = .ok (.aload_n 0, 1) := by decide +kernel
theorem dX6_homes_1 : decode cX6_homes 1 = .ok (.invokevirtual 118, 3) := by decide +kernel
theorem dX6_homes_10 : decode cX6_homes 10 = .ok (.iconst 0, 1) := by decide +kernel
theorem dX6_homes_11 : decode cX6_homes 11 = .ok (.istore_n 1, 1) := by decide +kernel
theorem dX6_homes_12 : decode cX6_homes 12 = .ok (.iconst 0, 1) := by decide +kernel
theorem dX6_homes_13 : decode cX6_homes 13 = .ok (.istore_n 2, 1) := by decide +kernel
theorem dX6_homes_14 : decode cX6_homes 14 = .ok (.iload_n 2, 1) := by decide +kernel
theorem dX6_homes_15 : decode cX6_homes 15 = .ok (.aload_n 0, 1) := by decide +kernel
theorem dX6_homes_16 : decode cX6_homes 16 = .ok (.getfield 83, 3) := by decide +kernel
theorem dX6_homes_19 : decode cX6_homes 19 = .ok (.invokevirtual 87, 3) := by decide +kernel
theorem dX6_homes_22 : decode cX6_homes 22 = .ok (.if_icmp .ge 25, 3) := by decide +kernel
theorem dX6_homes_25 : decode cX6_homes 25 = .ok (.iload_n 1, 1) := by decide +kernel
theorem dX6_homes_26 : decode cX6_homes 26 = .ok (.iconst 1, 1) := by decide +kernel
theorem dX6_homes_27 : decode cX6_homes 27 = .ok (.aload_n 0, 1) := by decide +kernel
theorem dX6_homes_28 : decode cX6_homes 28 = .ok (.getfield 39, 3) := by decide +kernel
theorem dX6_homes_31 : decode cX6_homes 31 = .ok (.aload_n 0, 1) := by decide +kernel
theorem dX6_homes_32 : decode cX6_homes 32 = .ok (.getfield 33, 3) := by decide +kernel
theorem dX6_homes_35 : decode cX6_homes 35 = .ok (.iload_n 2, 1) := by decide +kernel
theorem dX6_homes_36 : decode cX6_homes 36 = .ok (.iaload, 1) := by decide +kernel
theorem dX6_homes_37 : decode cX6_homes 37 = .ok (.iaload, 1) := by decide +kernel
theorem dX6_homes_38 : decode cX6_homes 38 = .ok (.isub, 1) := by decide +kernel
theorem dX6_homes_39 : decode cX6_homes 39 = .ok (.iadd, 1) := by decide +kernel
theorem dX6_homes_4 : decode cX6_homes 4 = .ok (.iconst 1, 1) := by decide +kernel
theorem dX6_homes_40 : decode cX6_homes 40 = .ok (.istore_n 1, 1) := by decide +kernel
theorem dX6_homes_41 : decode cX6_homes 41 = .ok (.iinc 2 1, 3) := by decide +kernel
theorem dX6_homes_44 : decode cX6_homes 44 = .ok (.goto (-30), 3) := by decide +kernel
theorem dX6_homes_47 : decode cX6_homes 47 = .ok (.iload_n 1, 1) := by decide +kernel
theorem dX6_homes_48 : decode cX6_homes 48 = .ok (.ireturn, 1) := by decide +kernel
theorem dX6_homes_5 : decode cX6_homes 5 = .ok (.if_icmp .eq 5, 3) := by decide +kernel
theorem dX6_init_0 : decode cX6_init 0 = .ok (.aload_n 0, 1) := by decide +kernel
theorem dX6_init_1 : decode cX6_init 1 = .ok (.invokespecial 3, 3) := by decide +kernel
theorem dX6_init_10 : decode cX6_init 10 = .ok (.sipush 3008, 3) := by decide +kernel
theorem dX6_init_100 : decode cX6_init 100 = .ok (.sipush 3008, 3) := by decide +kernel
theorem dX6_init_103 : decode cX6_init 103 = .ok (.newarray .int, 2) := by decide +kernel
theorem dX6_init_105 : decode cX6_init 105 = .ok (.putfield 48, 3) := by decide +kernel
theorem dX6_init_108 : decode cX6_init 108 = .ok (.aload_n 0, 1) := by decide +kernel
theorem dX6_init_109 : decode cX6_init 109 = .ok (.bipush 100, 2) := by decide +kernel
theorem dX6_init_111 : decode cX6_init 111 = .ok (.newarray .int, 2) := by decide +kernel
theorem dX6_init_113 : decode cX6_init 113 = .ok (.putfield 51, 3) := by decide +kernel
theorem dX6_init_116 : decode cX6_init 116 = .ok (.aload_n 0, 1) := by decide +kernel
theorem dX6_init_117 : decode cX6_init 117 = .ok (.sipush 3008, 3) := by decide +kernel
theorem dX6_init_120 : decode cX6_init 120 = .ok (.newarray .long, 2) := by decide +kernel
theorem dX6_init_122 : decode cX6_init 122 = .ok (.putfield 54, 3) := by decide +kernel
theorem dX6_init_125 : decode cX6_init 125 = .ok (.aload_n 0, 1) := by decide +kernel
theorem dX6_init_126 : decode cX6_init 126 = .ok (.sipush 3008, 3) := by decide +kernel
theorem dX6_init_129 : decode cX6_init 129 = .ok (.newarray .long, 2) := by decide +kernel
theorem dX6_init_13 : decode cX6_init 13 = .ok (.newarray .int, 2) := by decide +kernel
theorem dX6_init_131 : decode cX6_init 131 = .ok (.putfield 58, 3) := by decide +kernel
theorem dX6_init_134 : decode cX6_init 134 = .ok (.return_, 1) := by decide +kernel
theorem dX6_init_15 : decode cX6_init 15 = .ok (.putfield 17, 3) := by decide +kernel
theorem dX6_init_18 : decode cX6_init 18 = .ok (.aload_n 0, 1) := by decide +kernel
theorem dX6_init_19 : decode cX6_init 19 = .ok (.sipush 3008, 3) := by decide +kernel
theorem dX6_init_22 : decode cX6_init 22 = .ok (.newarray .int, 2) := by decide +kernel
theorem dX6_init_24 : decode cX6_init 24 = .ok (.putfield 21, 3) := by decide +kernel
theorem dX6_init_27 : decode cX6_init 27 = .ok (.aload_n 0, 1) := by decide +kernel
theorem dX6_init_28 : decode cX6_init 28 = .ok (.sipush 3008, 3) := by decide +kernel
theorem dX6_init_31 : decode cX6_init 31 = .ok (.newarray .int, 2) := by decide +kernel
theorem dX6_init_33 : decode cX6_init 33 = .ok (.putfield 24, 3) := by decide +kernel
theorem dX6_init_36 : decode cX6_init 36 = .ok (.aload_n 0, 1) := by decide +kernel
theorem dX6_init_37 : decode cX6_init 37 = .ok (.sipush 3008, 3) := by decide +kernel
theorem dX6_init_4 : decode cX6_init 4 = .ok (.aload_n 0, 1) := by decide +kernel
theorem dX6_init_40 : decode cX6_init 40 = .ok (.newarray .int, 2) := by decide +kernel
theorem dX6_init_42 : decode cX6_init 42 = .ok (.putfield 27, 3) := by decide +kernel
theorem dX6_init_45 : decode cX6_init 45 = .ok (.aload_n 0, 1) := by decide +kernel
theorem dX6_init_46 : decode cX6_init 46 = .ok (.sipush 3008, 3) := by decide +kernel
theorem dX6_init_49 : decode cX6_init 49 = .ok (.newarray .int, 2) := by decide +kernel
theorem dX6_init_5 : decode cX6_init 5 = .ok (.iconst (-1), 1) := by decide +kernel
theorem dX6_init_51 : decode cX6_init 51 = .ok (.putfield 30, 3) := by decide +kernel
theorem dX6_init_54 : decode cX6_init 54 = .ok (.aload_n 0, 1) := by decide +kernel
theorem dX6_init_55 : decode cX6_init 55 = .ok (.sipush 3008, 3) := by decide +kernel
theorem dX6_init_58 : decode cX6_init 58 = .ok (.newarray .int, 2) := by decide +kernel
theorem dX6_init_6 : decode cX6_init 6 = .ok (.putfield 9, 3) := by decide +kernel
theorem dX6_init_60 : decode cX6_init 60 = .ok (.putfield 33, 3) := by decide +kernel
theorem dX6_init_63 : decode cX6_init 63 = .ok (.aload_n 0, 1) := by decide +kernel
theorem dX6_init_64 : decode cX6_init 64 = .ok (.sipush 3008, 3) := by decide +kernel
theorem dX6_init_67 : decode cX6_init 67 = .ok (.newarray .int, 2) := by decide +kernel
theorem dX6_init_69 : decode cX6_init 69 = .ok (.putfield 36, 3) := by decide +kernel
theorem dX6_init_72 : decode cX6_init 72 = .ok (.aload_n 0, 1) := by decide +kernel
theorem dX6_init_73 : decode cX6_init 73 = .ok (.sipush 3008, 3) := by decide +kernel
theorem dX6_init_76 : decode cX6_init 76 = .ok (.newarray .int, 2) := by decide +kernel
theorem dX6_init_78 : decode cX6_init 78 = .ok (.putfield 39, 3) := by decide +kernel
theorem dX6_init_81 : decode cX6_init 81 = .ok (.aload_n 0, 1) := by decide +kernel
theorem dX6_init_82 : decode cX6_init 82 = .ok (.sipush 3008, 3) := by decide +kernel
theorem dX6_init_85 : decode cX6_init 85 = .ok (.newarray .int, 2) := by decide +kernel
theorem dX6_init_87 : decode cX6_init 87 = .ok (.putfield 42, 3) := by decide +kernel
theorem dX6_init_9 : decode cX6_init 9 = .ok (.aload_n 0, 1) := by decide +kernel
theorem dX6_init_90 : decode cX6_init 90 = .ok (.aload_n 0, 1) := by decide +kernel
theorem dX6_init_91 : decode cX6_init 91 = .ok (.sipush 3008, 3) := by decide +kernel
theorem dX6_init_94 : decode cX6_init 94 = .ok (.newarray .int, 2) := by decide +kernel
theorem dX6_init_96 : decode cX6_init 96 = .ok (.putfield 45, 3) := by decide +kernel
theorem dX6_init_99 : decode cX6_init 99 = .ok (.aload_n 0, 1) := by decide +kernel
theorem dX6_knotCount_0 : decode cX6_knotCount 0 = .ok (.iconst 0, 1) := by decide +kernel
theorem dX6_knotCount_1 : decode cX6_knotCount 1 = .ok (.istore_n 1, 1) := by decide +kernel
theorem dX6_knotCount_12 : decode cX6_knotCount 12 = .ok (.iload_n 1, 1) := by decide +kernel
theorem dX6_knotCount_13 : decode cX6_knotCount 13 = .ok (.iconst 1, 1) := by decide +kernel
theorem dX6_knotCount_14 : decode cX6_knotCount 14 = .ok (.aload_n 0, 1) := by decide +kernel
theorem dX6_knotCount_15 : decode cX6_knotCount 15 = .ok (.getfield 39, 3) := by decide +kernel
theorem dX6_knotCount_18 : decode cX6_knotCount 18 = .ok (.iload_n 2, 1) := by decide +kernel
theorem dX6_knotCount_19 : decode cX6_knotCount 19 = .ok (.iaload, 1) := by decide +kernel
theorem dX6_knotCount_2 : decode cX6_knotCount 2 = .ok (.iconst 0, 1) := by decide +kernel
theorem dX6_knotCount_20 : decode cX6_knotCount 20 = .ok (.isub, 1) := by decide +kernel
theorem dX6_knotCount_21 : decode cX6_knotCount 21 = .ok (.iadd, 1) := by decide +kernel
theorem dX6_knotCount_22 : decode cX6_knotCount 22 = .ok (.istore_n 1, 1) := by decide +kernel
theorem dX6_knotCount_23 : decode cX6_knotCount 23 = .ok (.iinc 2 1, 3) := by decide +kernel
theorem dX6_knotCount_26 : decode cX6_knotCount 26 = .ok (.goto (-22), 3) := by decide +kernel
theorem dX6_knotCount_29 : decode cX6_knotCount 29 = .ok (.iload_n 1, 1) := by decide +kernel
theorem dX6_knotCount_3 : decode cX6_knotCount 3 = .ok (.istore_n 2, 1) := by decide +kernel
theorem dX6_knotCount_30 : decode cX6_knotCount 30 = .ok (.ireturn, 1) := by decide +kernel
theorem dX6_knotCount_4 : decode cX6_knotCount 4 = .ok (.iload_n 2, 1) := by decide +kernel
theorem dX6_knotCount_5 : decode cX6_knotCount 5 = .ok (.aload_n 0, 1) := by decide +kernel
theorem dX6_knotCount_6 : decode cX6_knotCount 6 = .ok (.getfield 61, 3) := by decide +kernel
theorem dX6_knotCount_9 : decode cX6_knotCount 9 = .ok (.if_icmp .ge 20, 3) := by decide +kernel
theorem dX6_leastCost_0 : decode cX6_leastCost 0 = .ok (.aload_n 0, 1) := by decide +kernel
theorem dX6_leastCost_1 : decode cX6_leastCost 1 = .ok (.getfield 42, 3) := by decide +kernel
theorem dX6_leastCost_101 : decode cX6_leastCost 101 = .ok (.ireturn, 1) := by decide +kernel
theorem dX6_leastCost_12 : decode cX6_leastCost 12 = .ok (.iconst (-1), 1) := by decide +kernel
theorem dX6_leastCost_13 : decode cX6_leastCost 13 = .ok (.invokestatic 73, 3) := by decide +kernel
theorem dX6_leastCost_16 : decode cX6_leastCost 16 = .ok (.aload_n 0, 1) := by decide +kernel
theorem dX6_leastCost_17 : decode cX6_leastCost 17 = .ok (.iconst 0, 1) := by decide +kernel
theorem dX6_leastCost_18 : decode cX6_leastCost 18 = .ok (.iconst 0, 1) := by decide +kernel
theorem dX6_leastCost_19 : decode cX6_leastCost 19 = .ok (.invokevirtual 124, 3) := by decide +kernel
theorem dX6_leastCost_22 : decode cX6_leastCost 22 = .ok (.iconst 0, 1) := by decide +kernel
theorem dX6_leastCost_23 : decode cX6_leastCost 23 = .ok (.istore_n 3, 1) := by decide +kernel
theorem dX6_leastCost_24 : decode cX6_leastCost 24 = .ok (.iconst 0, 1) := by decide +kernel
theorem dX6_leastCost_25 : decode cX6_leastCost 25 = .ok (.istore 4, 2) := by decide +kernel
theorem dX6_leastCost_27 : decode cX6_leastCost 27 = .ok (.iload_n 3, 1) := by decide +kernel
theorem dX6_leastCost_28 : decode cX6_leastCost 28 = .ok (.bipush 100, 2) := by decide +kernel
theorem dX6_leastCost_30 : decode cX6_leastCost 30 = .ok (.if_icmp .ge 98, 3) := by decide +kernel
theorem dX6_leastCost_33 : decode cX6_leastCost 33 = .ok (.iload 4, 2) := by decide +kernel
theorem dX6_leastCost_35 : decode cX6_leastCost 35 = .ok (.ldc 128, 2) := by decide +kernel
theorem dX6_leastCost_37 : decode cX6_leastCost 37 = .ok (.if_icmp .gt 91, 3) := by decide +kernel
theorem dX6_leastCost_4 : decode cX6_leastCost 4 = .ok (.iconst (-1), 1) := by decide +kernel
theorem dX6_leastCost_40 : decode cX6_leastCost 40 = .ok (.iload 4, 2) := by decide +kernel
theorem dX6_leastCost_42 : decode cX6_leastCost 42 = .ok (.bipush 100, 2) := by decide +kernel
theorem dX6_leastCost_44 : decode cX6_leastCost 44 = .ok (.irem, 1) := by decide +kernel
theorem dX6_leastCost_45 : decode cX6_leastCost 45 = .ok (.istore 5, 2) := by decide +kernel
theorem dX6_leastCost_47 : decode cX6_leastCost 47 = .ok (.iinc 3 1, 3) := by decide +kernel
theorem dX6_leastCost_5 : decode cX6_leastCost 5 = .ok (.invokestatic 73, 3) := by decide +kernel
theorem dX6_leastCost_50 : decode cX6_leastCost 50 = .ok (.iconst 0, 1) := by decide +kernel
theorem dX6_leastCost_51 : decode cX6_leastCost 51 = .ok (.istore 6, 2) := by decide +kernel
theorem dX6_leastCost_53 : decode cX6_leastCost 53 = .ok (.iload 6, 2) := by decide +kernel
theorem dX6_leastCost_55 : decode cX6_leastCost 55 = .ok (.aload_n 0, 1) := by decide +kernel
theorem dX6_leastCost_56 : decode cX6_leastCost 56 = .ok (.getfield 83, 3) := by decide +kernel
theorem dX6_leastCost_59 : decode cX6_leastCost 59 = .ok (.invokevirtual 87, 3) := by decide +kernel
theorem dX6_leastCost_62 : decode cX6_leastCost 62 = .ok (.if_icmp .ge 60, 3) := by decide +kernel
theorem dX6_leastCost_65 : decode cX6_leastCost 65 = .ok (.aload_n 0, 1) := by decide +kernel
theorem dX6_leastCost_66 : decode cX6_leastCost 66 = .ok (.getfield 51, 3) := by decide +kernel
theorem dX6_leastCost_69 : decode cX6_leastCost 69 = .ok (.iload 5, 2) := by decide +kernel
theorem dX6_leastCost_71 : decode cX6_leastCost 71 = .ok (.iaload, 1) := by decide +kernel
theorem dX6_leastCost_72 : decode cX6_leastCost 72 = .ok (.iconst (-1), 1) := by decide +kernel
theorem dX6_leastCost_73 : decode cX6_leastCost 73 = .ok (.if_icmp .eq 49, 3) := by decide +kernel
theorem dX6_leastCost_76 : decode cX6_leastCost 76 = .ok (.aload_n 0, 1) := by decide +kernel
theorem dX6_leastCost_77 : decode cX6_leastCost 77 = .ok (.getfield 51, 3) := by decide +kernel
theorem dX6_leastCost_8 : decode cX6_leastCost 8 = .ok (.aload_n 0, 1) := by decide +kernel
theorem dX6_leastCost_80 : decode cX6_leastCost 80 = .ok (.iload 5, 2) := by decide +kernel
theorem dX6_leastCost_82 : decode cX6_leastCost 82 = .ok (.iaload, 1) := by decide +kernel
theorem dX6_leastCost_83 : decode cX6_leastCost 83 = .ok (.istore 7, 2) := by decide +kernel
theorem dX6_leastCost_85 : decode cX6_leastCost 85 = .ok (.aload_n 0, 1) := by decide +kernel
theorem dX6_leastCost_86 : decode cX6_leastCost 86 = .ok (.getfield 83, 3) := by decide +kernel
theorem dX6_leastCost_89 : decode cX6_leastCost 89 = .ok (.iload 7, 2) := by decide +kernel
theorem dX6_leastCost_9 : decode cX6_leastCost 9 = .ok (.getfield 51, 3) := by decide +kernel
theorem dX6_leastCost_91 : decode cX6_leastCost 91 = .ok (.aload_n 1, 1) := by decide +kernel
theorem dX6_leastCost_92 : decode cX6_leastCost 92 = .ok (.iload_n 2, 1) := by decide +kernel
theorem dX6_leastCost_93 : decode cX6_leastCost 93 = .ok (.invokevirtual 129, 3) := by decide +kernel
theorem dX6_leastCost_96 : decode cX6_leastCost 96 = .ok (.ifCond .eq 6, 3) := by decide +kernel
theorem dX6_leastCost_99 : decode cX6_leastCost 99 = .ok (.iload 4, 2) := by decide +kernel
theorem dX6_leaveState_0 : decode cX6_leaveState 0 = .ok (.aload_n 0, 1) := by decide +kernel
theorem dX6_leaveState_1 : decode cX6_leaveState 1 = .ok (.dup, 1) := by decide +kernel
theorem dX6_leaveState_10 : decode cX6_leaveState 10 = .ok (.aload_n 0, 1) := by decide +kernel
theorem dX6_leaveState_100 : decode cX6_leaveState 100 = .ok (.getfield 33, 3) := by decide +kernel
theorem dX6_leaveState_103 : decode cX6_leaveState 103 = .ok (.iload_n 2, 1) := by decide +kernel
theorem dX6_leaveState_104 : decode cX6_leaveState 104 = .ok (.aload_n 0, 1) := by decide +kernel
theorem dX6_leaveState_105 : decode cX6_leaveState 105 = .ok (.getfield 61, 3) := by decide +kernel
theorem dX6_leaveState_108 : decode cX6_leaveState 108 = .ok (.iastore, 1) := by decide +kernel
theorem dX6_leaveState_109 : decode cX6_leaveState 109 = .ok (.aload_n 0, 1) := by decide +kernel
theorem dX6_leaveState_11 : decode cX6_leaveState 11 = .ok (.getfield 67, 3) := by decide +kernel
theorem dX6_leaveState_110 : decode cX6_leaveState 110 = .ok (.getfield 36, 3) := by decide +kernel
theorem dX6_leaveState_113 : decode cX6_leaveState 113 = .ok (.aload_n 0, 1) := by decide +kernel
theorem dX6_leaveState_114 : decode cX6_leaveState 114 = .ok (.getfield 64, 3) := by decide +kernel
theorem dX6_leaveState_117 : decode cX6_leaveState 117 = .ok (.iload_n 2, 1) := by decide +kernel
theorem dX6_leaveState_118 : decode cX6_leaveState 118 = .ok (.iastore, 1) := by decide +kernel
theorem dX6_leaveState_119 : decode cX6_leaveState 119 = .ok (.aload_n 0, 1) := by decide +kernel
theorem dX6_leaveState_120 : decode cX6_leaveState 120 = .ok (.dup, 1) := by decide +kernel
theorem dX6_leaveState_121 : decode cX6_leaveState 121 = .ok (.getfield 64, 3) := by decide +kernel
theorem dX6_leaveState_124 : decode cX6_leaveState 124 = .ok (.iconst 1, 1) := by decide +kernel
theorem dX6_leaveState_125 : decode cX6_leaveState 125 = .ok (.iadd, 1) := by decide +kernel
theorem dX6_leaveState_126 : decode cX6_leaveState 126 = .ok (.putfield 64, 3) := by decide +kernel
theorem dX6_leaveState_129 : decode cX6_leaveState 129 = .ok (.goto (-62), 3) := by decide +kernel
theorem dX6_leaveState_132 : decode cX6_leaveState 132 = .ok (.aload_n 0, 1) := by decide +kernel
theorem dX6_leaveState_133 : decode cX6_leaveState 133 = .ok (.dup, 1) := by decide +kernel
theorem dX6_leaveState_134 : decode cX6_leaveState 134 = .ok (.getfield 61, 3) := by decide +kernel
theorem dX6_leaveState_137 : decode cX6_leaveState 137 = .ok (.iconst 1, 1) := by decide +kernel
theorem dX6_leaveState_138 : decode cX6_leaveState 138 = .ok (.iadd, 1) := by decide +kernel
theorem dX6_leaveState_139 : decode cX6_leaveState 139 = .ok (.putfield 61, 3) := by decide +kernel
theorem dX6_leaveState_14 : decode cX6_leaveState 14 = .ok (.ifCond .le 36, 3) := by decide +kernel
theorem dX6_leaveState_142 : decode cX6_leaveState 142 = .ok (.return_, 1) := by decide +kernel
theorem dX6_leaveState_2 : decode cX6_leaveState 2 = .ok (.getfield 67, 3) := by decide +kernel
theorem dX6_leaveState_5 : decode cX6_leaveState 5 = .ok (.iconst 1, 1) := by decide +kernel
theorem dX6_leaveState_50 : decode cX6_leaveState 50 = .ok (.aload_n 0, 1) := by decide +kernel
theorem dX6_leaveState_51 : decode cX6_leaveState 51 = .ok (.getfield 21, 3) := by decide +kernel
theorem dX6_leaveState_54 : decode cX6_leaveState 54 = .ok (.iload_n 1, 1) := by decide +kernel
theorem dX6_leaveState_55 : decode cX6_leaveState 55 = .ok (.iaload, 1) := by decide +kernel
theorem dX6_leaveState_56 : decode cX6_leaveState 56 = .ok (.aload_n 0, 1) := by decide +kernel
theorem dX6_leaveState_57 : decode cX6_leaveState 57 = .ok (.getfield 17, 3) := by decide +kernel
theorem dX6_leaveState_6 : decode cX6_leaveState 6 = .ok (.isub, 1) := by decide +kernel
theorem dX6_leaveState_60 : decode cX6_leaveState 60 = .ok (.iload_n 1, 1) := by decide +kernel
theorem dX6_leaveState_61 : decode cX6_leaveState 61 = .ok (.iaload, 1) := by decide +kernel
theorem dX6_leaveState_62 : decode cX6_leaveState 62 = .ok (.if_icmp .ne 80, 3) := by decide +kernel
theorem dX6_leaveState_65 : decode cX6_leaveState 65 = .ok (.iconst (-1), 1) := by decide +kernel
theorem dX6_leaveState_66 : decode cX6_leaveState 66 = .ok (.istore_n 2, 1) := by decide +kernel
theorem dX6_leaveState_67 : decode cX6_leaveState 67 = .ok (.aload_n 0, 1) := by decide +kernel
theorem dX6_leaveState_68 : decode cX6_leaveState 68 = .ok (.getfield 70, 3) := by decide +kernel
theorem dX6_leaveState_7 : decode cX6_leaveState 7 = .ok (.putfield 67, 3) := by decide +kernel
theorem dX6_leaveState_71 : decode cX6_leaveState 71 = .ok (.ifCond .le 61, 3) := by decide +kernel
theorem dX6_leaveState_74 : decode cX6_leaveState 74 = .ok (.iload_n 2, 1) := by decide +kernel
theorem dX6_leaveState_75 : decode cX6_leaveState 75 = .ok (.iload_n 1, 1) := by decide +kernel
theorem dX6_leaveState_76 : decode cX6_leaveState 76 = .ok (.if_icmp .eq 56, 3) := by decide +kernel
theorem dX6_leaveState_79 : decode cX6_leaveState 79 = .ok (.aload_n 0, 1) := by decide +kernel
theorem dX6_leaveState_80 : decode cX6_leaveState 80 = .ok (.dup, 1) := by decide +kernel
theorem dX6_leaveState_81 : decode cX6_leaveState 81 = .ok (.getfield 70, 3) := by decide +kernel
theorem dX6_leaveState_84 : decode cX6_leaveState 84 = .ok (.iconst 1, 1) := by decide +kernel
theorem dX6_leaveState_85 : decode cX6_leaveState 85 = .ok (.isub, 1) := by decide +kernel
theorem dX6_leaveState_86 : decode cX6_leaveState 86 = .ok (.putfield 70, 3) := by decide +kernel
theorem dX6_leaveState_89 : decode cX6_leaveState 89 = .ok (.aload_n 0, 1) := by decide +kernel
theorem dX6_leaveState_90 : decode cX6_leaveState 90 = .ok (.getfield 30, 3) := by decide +kernel
theorem dX6_leaveState_93 : decode cX6_leaveState 93 = .ok (.aload_n 0, 1) := by decide +kernel
theorem dX6_leaveState_94 : decode cX6_leaveState 94 = .ok (.getfield 70, 3) := by decide +kernel
theorem dX6_leaveState_97 : decode cX6_leaveState 97 = .ok (.iaload, 1) := by decide +kernel
theorem dX6_leaveState_98 : decode cX6_leaveState 98 = .ok (.istore_n 2, 1) := by decide +kernel
theorem dX6_leaveState_99 : decode cX6_leaveState 99 = .ok (.aload_n 0, 1) := by decide +kernel
theorem dX6_lengthen_0 : decode cX6_lengthen 0 = .ok (.lconst 0, 1) := by decide +kernel
theorem dX6_lengthen_1 : decode cX6_lengthen 1 = .ok (.lstore_n 2, 1) := by decide +kernel
theorem dX6_lengthen_10 : decode cX6_lengthen 10 = .ok (.iconst 0, 1) := by decide +kernel
theorem dX6_lengthen_11 : decode cX6_lengthen 11 = .ok (.istore 4, 2) := by decide +kernel
theorem dX6_lengthen_125 : decode cX6_lengthen 125 = .ok (.iinc 4 1, 3) := by decide +kernel
theorem dX6_lengthen_128 : decode cX6_lengthen 128 = .ok (.goto (-115), 3) := by decide +kernel
theorem dX6_lengthen_13 : decode cX6_lengthen 13 = .ok (.iload 4, 2) := by decide +kernel
theorem dX6_lengthen_131 : decode cX6_lengthen 131 = .ok (.aload_n 0, 1) := by decide +kernel
theorem dX6_lengthen_132 : decode cX6_lengthen 132 = .ok (.getfield 54, 3) := by decide +kernel
theorem dX6_lengthen_135 : decode cX6_lengthen 135 = .ok (.astore 4, 2) := by decide +kernel
theorem dX6_lengthen_137 : decode cX6_lengthen 137 = .ok (.aload_n 0, 1) := by decide +kernel
theorem dX6_lengthen_138 : decode cX6_lengthen 138 = .ok (.aload_n 0, 1) := by decide +kernel
theorem dX6_lengthen_139 : decode cX6_lengthen 139 = .ok (.getfield 58, 3) := by decide +kernel
theorem dX6_lengthen_142 : decode cX6_lengthen 142 = .ok (.putfield 54, 3) := by decide +kernel
theorem dX6_lengthen_145 : decode cX6_lengthen 145 = .ok (.aload_n 0, 1) := by decide +kernel
theorem dX6_lengthen_146 : decode cX6_lengthen 146 = .ok (.aload 4, 2) := by decide +kernel
theorem dX6_lengthen_148 : decode cX6_lengthen 148 = .ok (.putfield 58, 3) := by decide +kernel
theorem dX6_lengthen_15 : decode cX6_lengthen 15 = .ok (.aload_n 0, 1) := by decide +kernel
theorem dX6_lengthen_151 : decode cX6_lengthen 151 = .ok (.lload_n 2, 1) := by decide +kernel
theorem dX6_lengthen_152 : decode cX6_lengthen 152 = .ok (.lreturn, 1) := by decide +kernel
theorem dX6_lengthen_16 : decode cX6_lengthen 16 = .ok (.getfield 83, 3) := by decide +kernel
theorem dX6_lengthen_19 : decode cX6_lengthen 19 = .ok (.invokevirtual 87, 3) := by decide +kernel
theorem dX6_lengthen_2 : decode cX6_lengthen 2 = .ok (.aload_n 0, 1) := by decide +kernel
theorem dX6_lengthen_22 : decode cX6_lengthen 22 = .ok (.if_icmp .ge 109, 3) := by decide +kernel
theorem dX6_lengthen_25 : decode cX6_lengthen 25 = .ok (.aload_n 0, 1) := by decide +kernel
theorem dX6_lengthen_26 : decode cX6_lengthen 26 = .ok (.getfield 83, 3) := by decide +kernel
theorem dX6_lengthen_29 : decode cX6_lengthen 29 = .ok (.iload 4, 2) := by decide +kernel
theorem dX6_lengthen_3 : decode cX6_lengthen 3 = .ok (.getfield 58, 3) := by decide +kernel
theorem dX6_lengthen_31 : decode cX6_lengthen 31 = .ok (.invokevirtual 149, 3) := by decide +kernel
theorem dX6_lengthen_34 : decode cX6_lengthen 34 = .ok (.iload_n 1, 1) := by decide +kernel
theorem dX6_lengthen_35 : decode cX6_lengthen 35 = .ok (.if_icmp .gt 96, 3) := by decide +kernel
theorem dX6_lengthen_38 : decode cX6_lengthen 38 = .ok (.iconst 0, 1) := by decide +kernel
theorem dX6_lengthen_39 : decode cX6_lengthen 39 = .ok (.istore 5, 2) := by decide +kernel
theorem dX6_lengthen_41 : decode cX6_lengthen 41 = .ok (.iload 5, 2) := by decide +kernel
theorem dX6_lengthen_43 : decode cX6_lengthen 43 = .ok (.aload_n 0, 1) := by decide +kernel
theorem dX6_lengthen_44 : decode cX6_lengthen 44 = .ok (.getfield 83, 3) := by decide +kernel
theorem dX6_lengthen_47 : decode cX6_lengthen 47 = .ok (.getfield 91, 3) := by decide +kernel
theorem dX6_lengthen_50 : decode cX6_lengthen 50 = .ok (.getfield 95, 3) := by decide +kernel
theorem dX6_lengthen_53 : decode cX6_lengthen 53 = .ok (.if_icmp .ge 72, 3) := by decide +kernel
theorem dX6_lengthen_6 : decode cX6_lengthen 6 = .ok (.lconst 0, 1) := by decide +kernel
theorem dX6_lengthen_7 : decode cX6_lengthen 7 = .ok (.invokestatic 142, 3) := by decide +kernel
theorem dX6_link_0 : decode cX6_link 0 = .ok (.iload_n 2, 1) := by decide +kernel
theorem dX6_link_1 : decode cX6_link 1 = .ok (.bipush 100, 2) := by decide +kernel
theorem dX6_link_10 : decode cX6_link 10 = .ok (.iload_n 2, 1) := by decide +kernel
theorem dX6_link_11 : decode cX6_link 11 = .ok (.iastore, 1) := by decide +kernel
theorem dX6_link_12 : decode cX6_link 12 = .ok (.aload_n 0, 1) := by decide +kernel
theorem dX6_link_13 : decode cX6_link 13 = .ok (.getfield 48, 3) := by decide +kernel
theorem dX6_link_16 : decode cX6_link 16 = .ok (.iload_n 1, 1) := by decide +kernel
theorem dX6_link_17 : decode cX6_link 17 = .ok (.iconst (-1), 1) := by decide +kernel
theorem dX6_link_18 : decode cX6_link 18 = .ok (.iastore, 1) := by decide +kernel
theorem dX6_link_19 : decode cX6_link 19 = .ok (.aload_n 0, 1) := by decide +kernel
theorem dX6_link_20 : decode cX6_link 20 = .ok (.getfield 45, 3) := by decide +kernel
theorem dX6_link_23 : decode cX6_link 23 = .ok (.iload_n 1, 1) := by decide +kernel
theorem dX6_link_24 : decode cX6_link 24 = .ok (.aload_n 0, 1) := by decide +kernel
theorem dX6_link_25 : decode cX6_link 25 = .ok (.getfield 51, 3) := by decide +kernel
theorem dX6_link_28 : decode cX6_link 28 = .ok (.iload_n 3, 1) := by decide +kernel
theorem dX6_link_29 : decode cX6_link 29 = .ok (.iaload, 1) := by decide +kernel
theorem dX6_link_3 : decode cX6_link 3 = .ok (.irem, 1) := by decide +kernel
theorem dX6_link_30 : decode cX6_link 30 = .ok (.iastore, 1) := by decide +kernel
theorem dX6_link_31 : decode cX6_link 31 = .ok (.aload_n 0, 1) := by decide +kernel
theorem dX6_link_32 : decode cX6_link 32 = .ok (.getfield 51, 3) := by decide +kernel
theorem dX6_link_35 : decode cX6_link 35 = .ok (.iload_n 3, 1) := by decide +kernel
theorem dX6_link_36 : decode cX6_link 36 = .ok (.iaload, 1) := by decide +kernel
theorem dX6_link_37 : decode cX6_link 37 = .ok (.iconst (-1), 1) := by decide +kernel
theorem dX6_link_38 : decode cX6_link 38 = .ok (.if_icmp .eq 15, 3) := by decide +kernel
theorem dX6_link_4 : decode cX6_link 4 = .ok (.istore_n 3, 1) := by decide +kernel
theorem dX6_link_5 : decode cX6_link 5 = .ok (.aload_n 0, 1) := by decide +kernel
theorem dX6_link_53 : decode cX6_link 53 = .ok (.aload_n 0, 1) := by decide +kernel
theorem dX6_link_54 : decode cX6_link 54 = .ok (.getfield 51, 3) := by decide +kernel
theorem dX6_link_57 : decode cX6_link 57 = .ok (.iload_n 3, 1) := by decide +kernel
theorem dX6_link_58 : decode cX6_link 58 = .ok (.iload_n 1, 1) := by decide +kernel
theorem dX6_link_59 : decode cX6_link 59 = .ok (.iastore, 1) := by decide +kernel
theorem dX6_link_6 : decode cX6_link 6 = .ok (.getfield 42, 3) := by decide +kernel
theorem dX6_link_60 : decode cX6_link 60 = .ok (.return_, 1) := by decide +kernel
theorem dX6_link_9 : decode cX6_link 9 = .ok (.iload_n 1, 1) := by decide +kernel
theorem dX6_rowsOfLength_0 : decode cX6_rowsOfLength 0 = .ok (.aload_n 0, 1) := by decide +kernel
theorem dX6_rowsOfLength_1 : decode cX6_rowsOfLength 1 = .ok (.getfield 54, 3) := by decide +kernel
theorem dX6_rowsOfLength_12 : decode cX6_rowsOfLength 12 = .ok (.iconst 0, 1) := by decide +kernel
theorem dX6_rowsOfLength_13 : decode cX6_rowsOfLength 13 = .ok (.lconst 1, 1) := by decide +kernel
theorem dX6_rowsOfLength_14 : decode cX6_rowsOfLength 14 = .ok (.lastore, 1) := by decide +kernel
theorem dX6_rowsOfLength_15 : decode cX6_rowsOfLength 15 = .ok (.lconst 1, 1) := by decide +kernel
theorem dX6_rowsOfLength_16 : decode cX6_rowsOfLength 16 = .ok (.lstore_n 2, 1) := by decide +kernel
theorem dX6_rowsOfLength_17 : decode cX6_rowsOfLength 17 = .ok (.iconst 0, 1) := by decide +kernel
theorem dX6_rowsOfLength_18 : decode cX6_rowsOfLength 18 = .ok (.istore 4, 2) := by decide +kernel
theorem dX6_rowsOfLength_20 : decode cX6_rowsOfLength 20 = .ok (.iload 4, 2) := by decide +kernel
theorem dX6_rowsOfLength_22 : decode cX6_rowsOfLength 22 = .ok (.iload_n 1, 1) := by decide +kernel
theorem dX6_rowsOfLength_23 : decode cX6_rowsOfLength 23 = .ok (.if_icmp .ge 16, 3) := by decide +kernel
theorem dX6_rowsOfLength_26 : decode cX6_rowsOfLength 26 = .ok (.aload_n 0, 1) := by decide +kernel
theorem dX6_rowsOfLength_27 : decode cX6_rowsOfLength 27 = .ok (.iload 4, 2) := by decide +kernel
theorem dX6_rowsOfLength_29 : decode cX6_rowsOfLength 29 = .ok (.invokevirtual 145, 3) := by decide +kernel
theorem dX6_rowsOfLength_32 : decode cX6_rowsOfLength 32 = .ok (.lstore_n 2, 1) := by decide +kernel
theorem dX6_rowsOfLength_33 : decode cX6_rowsOfLength 33 = .ok (.iinc 4 1, 3) := by decide +kernel
theorem dX6_rowsOfLength_36 : decode cX6_rowsOfLength 36 = .ok (.goto (-16), 3) := by decide +kernel
theorem dX6_rowsOfLength_39 : decode cX6_rowsOfLength 39 = .ok (.lload_n 2, 1) := by decide +kernel
theorem dX6_rowsOfLength_4 : decode cX6_rowsOfLength 4 = .ok (.lconst 0, 1) := by decide +kernel
theorem dX6_rowsOfLength_40 : decode cX6_rowsOfLength 40 = .ok (.lreturn, 1) := by decide +kernel
theorem dX6_rowsOfLength_5 : decode cX6_rowsOfLength 5 = .ok (.invokestatic 142, 3) := by decide +kernel
theorem dX6_rowsOfLength_8 : decode cX6_rowsOfLength 8 = .ok (.aload_n 0, 1) := by decide +kernel
theorem dX6_rowsOfLength_9 : decode cX6_rowsOfLength 9 = .ok (.getfield 54, 3) := by decide +kernel
theorem dX6_tie_0 : decode cX6_tie 0 = .ok (.aload_n 0, 1) := by decide +kernel
theorem dX6_tie_1 : decode cX6_tie 1 = .ok (.iload_n 1, 1) := by decide +kernel
theorem dX6_tie_10 : decode cX6_tie 10 = .ok (.aload_n 0, 1) := by decide +kernel
theorem dX6_tie_105 : decode cX6_tie 105 = .ok (.aload_n 0, 1) := by decide +kernel
theorem dX6_tie_106 : decode cX6_tie 106 = .ok (.iload 4, 2) := by decide +kernel
theorem dX6_tie_108 : decode cX6_tie 108 = .ok (.invokevirtual 103, 3) := by decide +kernel
theorem dX6_tie_11 : decode cX6_tie 11 = .ok (.iconst 0, 1) := by decide +kernel
theorem dX6_tie_111 : decode cX6_tie 111 = .ok (.iinc 3 1, 3) := by decide +kernel
theorem dX6_tie_114 : decode cX6_tie 114 = .ok (.goto (-63), 3) := by decide +kernel
theorem dX6_tie_117 : decode cX6_tie 117 = .ok (.aload_n 0, 1) := by decide +kernel
theorem dX6_tie_118 : decode cX6_tie 118 = .ok (.invokevirtual 106, 3) := by decide +kernel
theorem dX6_tie_12 : decode cX6_tie 12 = .ok (.putfield 64, 3) := by decide +kernel
theorem dX6_tie_121 : decode cX6_tie 121 = .ok (.return_, 1) := by decide +kernel
theorem dX6_tie_15 : decode cX6_tie 15 = .ok (.aload_n 0, 1) := by decide +kernel
theorem dX6_tie_16 : decode cX6_tie 16 = .ok (.iconst 0, 1) := by decide +kernel
theorem dX6_tie_17 : decode cX6_tie 17 = .ok (.putfield 67, 3) := by decide +kernel
theorem dX6_tie_2 : decode cX6_tie 2 = .ok (.putfield 9, 3) := by decide +kernel
theorem dX6_tie_20 : decode cX6_tie 20 = .ok (.aload_n 0, 1) := by decide +kernel
theorem dX6_tie_21 : decode cX6_tie 21 = .ok (.iconst 0, 1) := by decide +kernel
theorem dX6_tie_22 : decode cX6_tie 22 = .ok (.putfield 70, 3) := by decide +kernel
theorem dX6_tie_25 : decode cX6_tie 25 = .ok (.aload_n 0, 1) := by decide +kernel
theorem dX6_tie_26 : decode cX6_tie 26 = .ok (.getfield 17, 3) := by decide +kernel
theorem dX6_tie_29 : decode cX6_tie 29 = .ok (.iconst 0, 1) := by decide +kernel
theorem dX6_tie_30 : decode cX6_tie 30 = .ok (.invokestatic 73, 3) := by decide +kernel
theorem dX6_tie_33 : decode cX6_tie 33 = .ok (.aload_n 0, 1) := by decide +kernel
theorem dX6_tie_34 : decode cX6_tie 34 = .ok (.iconst 0, 1) := by decide +kernel
theorem dX6_tie_35 : decode cX6_tie 35 = .ok (.invokevirtual 79, 3) := by decide +kernel
theorem dX6_tie_38 : decode cX6_tie 38 = .ok (.aload_n 0, 1) := by decide +kernel
theorem dX6_tie_39 : decode cX6_tie 39 = .ok (.getfield 83, 3) := by decide +kernel
theorem dX6_tie_42 : decode cX6_tie 42 = .ok (.invokevirtual 87, 3) := by decide +kernel
theorem dX6_tie_45 : decode cX6_tie 45 = .ok (.bipush 10, 2) := by decide +kernel
theorem dX6_tie_47 : decode cX6_tie 47 = .ok (.imul, 1) := by decide +kernel
theorem dX6_tie_48 : decode cX6_tie 48 = .ok (.istore_n 2, 1) := by decide +kernel
theorem dX6_tie_49 : decode cX6_tie 49 = .ok (.iconst 0, 1) := by decide +kernel
theorem dX6_tie_5 : decode cX6_tie 5 = .ok (.aload_n 0, 1) := by decide +kernel
theorem dX6_tie_50 : decode cX6_tie 50 = .ok (.istore_n 3, 1) := by decide +kernel
theorem dX6_tie_51 : decode cX6_tie 51 = .ok (.iload_n 3, 1) := by decide +kernel
theorem dX6_tie_52 : decode cX6_tie 52 = .ok (.iload_n 2, 1) := by decide +kernel
theorem dX6_tie_53 : decode cX6_tie 53 = .ok (.if_icmp .ge 64, 3) := by decide +kernel
theorem dX6_tie_56 : decode cX6_tie 56 = .ok (.aload_n 0, 1) := by decide +kernel
theorem dX6_tie_57 : decode cX6_tie 57 = .ok (.getfield 67, 3) := by decide +kernel
theorem dX6_tie_6 : decode cX6_tie 6 = .ok (.iconst 0, 1) := by decide +kernel
theorem dX6_tie_60 : decode cX6_tie 60 = .ok (.ifCond .le 57, 3) := by decide +kernel
theorem dX6_tie_63 : decode cX6_tie 63 = .ok (.aload_n 0, 1) := by decide +kernel
theorem dX6_tie_64 : decode cX6_tie 64 = .ok (.getfield 27, 3) := by decide +kernel
theorem dX6_tie_67 : decode cX6_tie 67 = .ok (.aload_n 0, 1) := by decide +kernel
theorem dX6_tie_68 : decode cX6_tie 68 = .ok (.getfield 67, 3) := by decide +kernel
theorem dX6_tie_7 : decode cX6_tie 7 = .ok (.putfield 61, 3) := by decide +kernel
theorem dX6_tie_71 : decode cX6_tie 71 = .ok (.iconst 1, 1) := by decide +kernel
theorem dX6_tie_72 : decode cX6_tie 72 = .ok (.isub, 1) := by decide +kernel
theorem dX6_tie_73 : decode cX6_tie 73 = .ok (.iaload, 1) := by decide +kernel
theorem dX6_tie_74 : decode cX6_tie 74 = .ok (.istore 4, 2) := by decide +kernel
theorem dX6_tie_76 : decode cX6_tie 76 = .ok (.aload_n 0, 1) := by decide +kernel
theorem dX6_tie_77 : decode cX6_tie 77 = .ok (.getfield 24, 3) := by decide +kernel
theorem dX6_tie_80 : decode cX6_tie 80 = .ok (.iload 4, 2) := by decide +kernel
theorem dX6_tie_82 : decode cX6_tie 82 = .ok (.iaload, 1) := by decide +kernel
theorem dX6_tie_83 : decode cX6_tie 83 = .ok (.aload_n 0, 1) := by decide +kernel
theorem dX6_tie_84 : decode cX6_tie 84 = .ok (.getfield 83, 3) := by decide +kernel
theorem dX6_tie_87 : decode cX6_tie 87 = .ok (.getfield 91, 3) := by decide +kernel
theorem dX6_tie_90 : decode cX6_tie 90 = .ok (.getfield 95, 3) := by decide +kernel
theorem dX6_tie_93 : decode cX6_tie 93 = .ok (.if_icmp .ge 12, 3) := by decide +kernel
theorem dX7_enter_0 : decode cX7_enter 0 = .ok (.aload_n 0, 1) := by decide +kernel
theorem dX7_enter_1 : decode cX7_enter 1 = .ok (.getfield 19, 3) := by decide +kernel
theorem dX7_enter_10 : decode cX7_enter 10 = .ok (.invokevirtual 34, 3) := by decide +kernel
theorem dX7_enter_100 : decode cX7_enter 100 = .ok (.invokestatic 42, 3) := by decide +kernel
theorem dX7_enter_103 : decode cX7_enter 103 = .ok (.aload_n 0, 1) := by decide +kernel
theorem dX7_enter_104 : decode cX7_enter 104 = .ok (.getfield 19, 3) := by decide +kernel
theorem dX7_enter_107 : decode cX7_enter 107 = .ok (.iload_n 3, 1) := by decide +kernel
theorem dX7_enter_108 : decode cX7_enter 108 = .ok (.aload_n 0, 1) := by decide +kernel
theorem dX7_enter_109 : decode cX7_enter 109 = .ok (.getfield 25, 3) := by decide +kernel
theorem dX7_enter_112 : decode cX7_enter 112 = .ok (.iastore, 1) := by decide +kernel
theorem dX7_enter_113 : decode cX7_enter 113 = .ok (.aload_n 0, 1) := by decide +kernel
theorem dX7_enter_114 : decode cX7_enter 114 = .ok (.dup, 1) := by decide +kernel
theorem dX7_enter_115 : decode cX7_enter 115 = .ok (.getfield 25, 3) := by decide +kernel
theorem dX7_enter_118 : decode cX7_enter 118 = .ok (.iconst 1, 1) := by decide +kernel
theorem dX7_enter_119 : decode cX7_enter 119 = .ok (.iadd, 1) := by decide +kernel
theorem dX7_enter_120 : decode cX7_enter 120 = .ok (.putfield 25, 3) := by decide +kernel
theorem dX7_enter_123 : decode cX7_enter 123 = .ok (.aload_n 0, 1) := by decide +kernel
theorem dX7_enter_124 : decode cX7_enter 124 = .ok (.getfield 25, 3) := by decide +kernel
theorem dX7_enter_127 : decode cX7_enter 127 = .ok (.iconst 1, 1) := by decide +kernel
theorem dX7_enter_128 : decode cX7_enter 128 = .ok (.isub, 1) := by decide +kernel
theorem dX7_enter_129 : decode cX7_enter 129 = .ok (.ireturn, 1) := by decide +kernel
theorem dX7_enter_13 : decode cX7_enter 13 = .ok (.iload_n 2, 1) := by decide +kernel
theorem dX7_enter_14 : decode cX7_enter 14 = .ok (.iand, 1) := by decide +kernel
theorem dX7_enter_15 : decode cX7_enter 15 = .ok (.istore_n 3, 1) := by decide +kernel
theorem dX7_enter_16 : decode cX7_enter 16 = .ok (.iconst 0, 1) := by decide +kernel
theorem dX7_enter_17 : decode cX7_enter 17 = .ok (.istore 4, 2) := by decide +kernel
theorem dX7_enter_19 : decode cX7_enter 19 = .ok (.iload 4, 2) := by decide +kernel
theorem dX7_enter_21 : decode cX7_enter 21 = .ok (.iload_n 2, 1) := by decide +kernel
theorem dX7_enter_22 : decode cX7_enter 22 = .ok (.if_icmp .gt 46, 3) := by decide +kernel
theorem dX7_enter_25 : decode cX7_enter 25 = .ok (.aload_n 0, 1) := by decide +kernel
theorem dX7_enter_26 : decode cX7_enter 26 = .ok (.getfield 19, 3) := by decide +kernel
theorem dX7_enter_29 : decode cX7_enter 29 = .ok (.iload_n 3, 1) := by decide +kernel
theorem dX7_enter_30 : decode cX7_enter 30 = .ok (.iaload, 1) := by decide +kernel
theorem dX7_enter_31 : decode cX7_enter 31 = .ok (.iconst (-1), 1) := by decide +kernel
theorem dX7_enter_32 : decode cX7_enter 32 = .ok (.if_icmp .eq 36, 3) := by decide +kernel
theorem dX7_enter_35 : decode cX7_enter 35 = .ok (.aload_n 0, 1) := by decide +kernel
theorem dX7_enter_36 : decode cX7_enter 36 = .ok (.aload_n 0, 1) := by decide +kernel
theorem dX7_enter_37 : decode cX7_enter 37 = .ok (.getfield 19, 3) := by decide +kernel
theorem dX7_enter_4 : decode cX7_enter 4 = .ok (.arraylength, 1) := by decide +kernel
theorem dX7_enter_40 : decode cX7_enter 40 = .ok (.iload_n 3, 1) := by decide +kernel
theorem dX7_enter_41 : decode cX7_enter 41 = .ok (.iaload, 1) := by decide +kernel
theorem dX7_enter_42 : decode cX7_enter 42 = .ok (.aload_n 1, 1) := by decide +kernel
theorem dX7_enter_43 : decode cX7_enter 43 = .ok (.invokevirtual 38, 3) := by decide +kernel
theorem dX7_enter_46 : decode cX7_enter 46 = .ok (.ifCond .eq 10, 3) := by decide +kernel
theorem dX7_enter_49 : decode cX7_enter 49 = .ok (.aload_n 0, 1) := by decide +kernel
theorem dX7_enter_5 : decode cX7_enter 5 = .ok (.iconst 1, 1) := by decide +kernel
theorem dX7_enter_50 : decode cX7_enter 50 = .ok (.getfield 19, 3) := by decide +kernel
theorem dX7_enter_53 : decode cX7_enter 53 = .ok (.iload_n 3, 1) := by decide +kernel
theorem dX7_enter_54 : decode cX7_enter 54 = .ok (.iaload, 1) := by decide +kernel
theorem dX7_enter_55 : decode cX7_enter 55 = .ok (.ireturn, 1) := by decide +kernel
theorem dX7_enter_6 : decode cX7_enter 6 = .ok (.isub, 1) := by decide +kernel
theorem dX7_enter_68 : decode cX7_enter 68 = .ok (.aload_n 0, 1) := by decide +kernel
theorem dX7_enter_69 : decode cX7_enter 69 = .ok (.getfield 25, 3) := by decide +kernel
theorem dX7_enter_7 : decode cX7_enter 7 = .ok (.istore_n 2, 1) := by decide +kernel
theorem dX7_enter_72 : decode cX7_enter 72 = .ok (.aload_n 0, 1) := by decide +kernel
theorem dX7_enter_73 : decode cX7_enter 73 = .ok (.getfield 15, 3) := by decide +kernel
theorem dX7_enter_76 : decode cX7_enter 76 = .ok (.if_icmp .lt 5, 3) := by decide +kernel
theorem dX7_enter_8 : decode cX7_enter 8 = .ok (.aload_n 0, 1) := by decide +kernel
theorem dX7_enter_81 : decode cX7_enter 81 = .ok (.aload_n 1, 1) := by decide +kernel
theorem dX7_enter_82 : decode cX7_enter 82 = .ok (.iconst 0, 1) := by decide +kernel
theorem dX7_enter_83 : decode cX7_enter 83 = .ok (.aload_n 0, 1) := by decide +kernel
theorem dX7_enter_84 : decode cX7_enter 84 = .ok (.getfield 9, 3) := by decide +kernel
theorem dX7_enter_87 : decode cX7_enter 87 = .ok (.aload_n 0, 1) := by decide +kernel
theorem dX7_enter_88 : decode cX7_enter 88 = .ok (.getfield 25, 3) := by decide +kernel
theorem dX7_enter_9 : decode cX7_enter 9 = .ok (.aload_n 1, 1) := by decide +kernel
theorem dX7_enter_91 : decode cX7_enter 91 = .ok (.aload_n 0, 1) := by decide +kernel
theorem dX7_enter_92 : decode cX7_enter 92 = .ok (.getfield 22, 3) := by decide +kernel
theorem dX7_enter_95 : decode cX7_enter 95 = .ok (.imul, 1) := by decide +kernel
theorem dX7_enter_96 : decode cX7_enter 96 = .ok (.aload_n 0, 1) := by decide +kernel
theorem dX7_enter_97 : decode cX7_enter 97 = .ok (.getfield 22, 3) := by decide +kernel
theorem dX7_init_0 : decode cX7_init 0 = .ok (.aload_n 0, 1) := by decide +kernel
theorem dX7_init_1 : decode cX7_init 1 = .ok (.invokespecial 3, 3) := by decide +kernel
theorem dX7_init_10 : decode cX7_init 10 = .ok (.putfield 9, 3) := by decide +kernel
theorem dX7_init_13 : decode cX7_init 13 = .ok (.aload_n 0, 1) := by decide +kernel
theorem dX7_init_14 : decode cX7_init 14 = .ok (.iload_n 2, 1) := by decide +kernel
theorem dX7_init_15 : decode cX7_init 15 = .ok (.putfield 15, 3) := by decide +kernel
theorem dX7_init_18 : decode cX7_init 18 = .ok (.aload_n 0, 1) := by decide +kernel
theorem dX7_init_19 : decode cX7_init 19 = .ok (.iload_n 3, 1) := by decide +kernel
theorem dX7_init_20 : decode cX7_init 20 = .ok (.newarray .int, 2) := by decide +kernel
theorem dX7_init_22 : decode cX7_init 22 = .ok (.putfield 19, 3) := by decide +kernel
theorem dX7_init_25 : decode cX7_init 25 = .ok (.return_, 1) := by decide +kernel
theorem dX7_init_4 : decode cX7_init 4 = .ok (.aload_n 0, 1) := by decide +kernel
theorem dX7_init_5 : decode cX7_init 5 = .ok (.iload_n 1, 1) := by decide +kernel
theorem dX7_init_6 : decode cX7_init 6 = .ok (.iload_n 2, 1) := by decide +kernel
theorem dX7_init_7 : decode cX7_init 7 = .ok (.imul, 1) := by decide +kernel
theorem dX7_init_8 : decode cX7_init 8 = .ok (.newarray .int, 2) := by decide +kernel
theorem dX7_isAlike_0 : decode cX7_isAlike 0 = .ok (.iconst 0, 1) := by decide +kernel
theorem dX7_isAlike_1 : decode cX7_isAlike 1 = .ok (.istore_n 3, 1) := by decide +kernel
theorem dX7_isAlike_2 : decode cX7_isAlike 2 = .ok (.iload_n 3, 1) := by decide +kernel
theorem dX7_isAlike_3 : decode cX7_isAlike 3 = .ok (.aload_n 0, 1) := by decide +kernel
theorem dX7_isAlike_37 : decode cX7_isAlike 37 = .ok (.iconst 1, 1) := by decide +kernel
theorem dX7_isAlike_38 : decode cX7_isAlike 38 = .ok (.ireturn, 1) := by decide +kernel
theorem dX7_isAlike_4 : decode cX7_isAlike 4 = .ok (.getfield 22, 3) := by decide +kernel
theorem dX7_isAlike_7 : decode cX7_isAlike 7 = .ok (.if_icmp .ge 30, 3) := by decide +kernel
theorem dX7_spread_0 : decode cX7_spread 0 = .ok (.bipush 7, 2) := by decide +kernel
theorem dX7_spread_10 : decode cX7_spread 10 = .ok (.if_icmp .ge 25, 3) := by decide +kernel
theorem dX7_spread_2 : decode cX7_spread 2 = .ok (.istore_n 2, 1) := by decide +kernel
theorem dX7_spread_3 : decode cX7_spread 3 = .ok (.iconst 0, 1) := by decide +kernel
theorem dX7_spread_35 : decode cX7_spread 35 = .ok (.iload_n 2, 1) := by decide +kernel
theorem dX7_spread_36 : decode cX7_spread 36 = .ok (.ireturn, 1) := by decide +kernel
theorem dX7_spread_4 : decode cX7_spread 4 = .ok (.istore_n 3, 1) := by decide +kernel
theorem dX7_spread_5 : decode cX7_spread 5 = .ok (.iload_n 3, 1) := by decide +kernel
theorem dX7_spread_6 : decode cX7_spread 6 = .ok (.aload_n 0, 1) := by decide +kernel
theorem dX7_spread_7 : decode cX7_spread 7 = .ok (.getfield 22, 3) := by decide +kernel
theorem dX7_wipe_0 : decode cX7_wipe 0 = .ok (.aload_n 0, 1) := by decide +kernel
theorem dX7_wipe_1 : decode cX7_wipe 1 = .ok (.iload_n 1, 1) := by decide +kernel
theorem dX7_wipe_10 : decode cX7_wipe 10 = .ok (.aload_n 0, 1) := by decide +kernel
theorem dX7_wipe_11 : decode cX7_wipe 11 = .ok (.getfield 19, 3) := by decide +kernel
theorem dX7_wipe_14 : decode cX7_wipe 14 = .ok (.iconst (-1), 1) := by decide +kernel
theorem dX7_wipe_15 : decode cX7_wipe 15 = .ok (.invokestatic 28, 3) := by decide +kernel
theorem dX7_wipe_18 : decode cX7_wipe 18 = .ok (.return_, 1) := by decide +kernel
theorem dX7_wipe_2 : decode cX7_wipe 2 = .ok (.putfield 22, 3) := by decide +kernel
theorem dX7_wipe_5 : decode cX7_wipe 5 = .ok (.aload_n 0, 1) := by decide +kernel
theorem dX7_wipe_6 : decode cX7_wipe 6 = .ok (.iconst 0, 1) := by decide +kernel
theorem dX7_wipe_7 : decode cX7_wipe 7 = .ok (.putfield 25, 3) := by decide +kernel
theorem dX8_grow_0 : decode cX8_grow 0 = .ok (.aload_n 0, 1) := by decide +kernel
theorem dX8_grow_1 : decode cX8_grow 1 = .ok (.aload_n 1, 1) := by decide +kernel
theorem dX8_grow_10 : decode cX8_grow 10 = .ok (.aload_n 0, 1) := by decide +kernel
theorem dX8_grow_100 : decode cX8_grow 100 = .ok (.goto (-57), 3) := by decide +kernel
theorem dX8_grow_103 : decode cX8_grow 103 = .ok (.return_, 1) := by decide +kernel
theorem dX8_grow_11 : decode cX8_grow 11 = .ok (.getfield 20, 3) := by decide +kernel
theorem dX8_grow_14 : decode cX8_grow 14 = .ok (.aload_n 0, 1) := by decide +kernel
theorem dX8_grow_15 : decode cX8_grow 15 = .ok (.getfield 39, 3) := by decide +kernel
theorem dX8_grow_18 : decode cX8_grow 18 = .ok (.getfield 43, 3) := by decide +kernel
theorem dX8_grow_2 : decode cX8_grow 2 = .ok (.putfield 39, 3) := by decide +kernel
theorem dX8_grow_21 : decode cX8_grow 21 = .ok (.invokevirtual 48, 3) := by decide +kernel
theorem dX8_grow_24 : decode cX8_grow 24 = .ok (.aload_n 0, 1) := by decide +kernel
theorem dX8_grow_25 : decode cX8_grow 25 = .ok (.getfield 20, 3) := by decide +kernel
theorem dX8_grow_28 : decode cX8_grow 28 = .ok (.aload_n 2, 1) := by decide +kernel
theorem dX8_grow_29 : decode cX8_grow 29 = .ok (.invokevirtual 52, 3) := by decide +kernel
theorem dX8_grow_32 : decode cX8_grow 32 = .ok (.pop, 1) := by decide +kernel
theorem dX8_grow_33 : decode cX8_grow 33 = .ok (.aload_n 0, 1) := by decide +kernel
theorem dX8_grow_34 : decode cX8_grow 34 = .ok (.getfield 24, 3) := by decide +kernel
theorem dX8_grow_37 : decode cX8_grow 37 = .ok (.iconst 0, 1) := by decide +kernel
theorem dX8_grow_38 : decode cX8_grow 38 = .ok (.iconst (-1), 1) := by decide +kernel
theorem dX8_grow_39 : decode cX8_grow 39 = .ok (.iastore, 1) := by decide +kernel
theorem dX8_grow_40 : decode cX8_grow 40 = .ok (.iconst 0, 1) := by decide +kernel
theorem dX8_grow_41 : decode cX8_grow 41 = .ok (.istore 4, 2) := by decide +kernel
theorem dX8_grow_43 : decode cX8_grow 43 = .ok (.iload 4, 2) := by decide +kernel
theorem dX8_grow_45 : decode cX8_grow 45 = .ok (.aload_n 0, 1) := by decide +kernel
theorem dX8_grow_46 : decode cX8_grow 46 = .ok (.getfield 20, 3) := by decide +kernel
theorem dX8_grow_49 : decode cX8_grow 49 = .ok (.getfield 31, 3) := by decide +kernel
theorem dX8_grow_5 : decode cX8_grow 5 = .ok (.aload_n 0, 1) := by decide +kernel
theorem dX8_grow_52 : decode cX8_grow 52 = .ok (.if_icmp .ge 51, 3) := by decide +kernel
theorem dX8_grow_55 : decode cX8_grow 55 = .ok (.aload_n 0, 1) := by decide +kernel
theorem dX8_grow_56 : decode cX8_grow 56 = .ok (.getfield 20, 3) := by decide +kernel
theorem dX8_grow_59 : decode cX8_grow 59 = .ok (.getfield 31, 3) := by decide +kernel
theorem dX8_grow_6 : decode cX8_grow 6 = .ok (.iload_n 3, 1) := by decide +kernel
theorem dX8_grow_62 : decode cX8_grow 62 = .ok (.sipush 1000, 3) := by decide +kernel
theorem dX8_grow_65 : decode cX8_grow 65 = .ok (.if_icmp .gt 38, 3) := by decide +kernel
theorem dX8_grow_68 : decode cX8_grow 68 = .ok (.iconst 0, 1) := by decide +kernel
theorem dX8_grow_69 : decode cX8_grow 69 = .ok (.istore 5, 2) := by decide +kernel
theorem dX8_grow_7 : decode cX8_grow 7 = .ok (.putfield 9, 3) := by decide +kernel
theorem dX8_grow_71 : decode cX8_grow 71 = .ok (.iload 5, 2) := by decide +kernel
theorem dX8_grow_73 : decode cX8_grow 73 = .ok (.aload_n 0, 1) := by decide +kernel
theorem dX8_grow_74 : decode cX8_grow 74 = .ok (.getfield 39, 3) := by decide +kernel
theorem dX8_grow_77 : decode cX8_grow 77 = .ok (.getfield 56, 3) := by decide +kernel
theorem dX8_grow_80 : decode cX8_grow 80 = .ok (.if_icmp .ge 17, 3) := by decide +kernel
theorem dX8_grow_97 : decode cX8_grow 97 = .ok (.iinc 4 1, 3) := by decide +kernel
theorem dX8_init_0 : decode cX8_init 0 = .ok (.aload_n 0, 1) := by decide +kernel
theorem dX8_init_1 : decode cX8_init 1 = .ok (.invokespecial 3, 3) := by decide +kernel
theorem dX8_init_10 : decode cX8_init 10 = .ok (.new 15, 3) := by decide +kernel
theorem dX8_init_13 : decode cX8_init 13 = .ok (.dup, 1) := by decide +kernel
theorem dX8_init_14 : decode cX8_init 14 = .ok (.bipush 8, 2) := by decide +kernel
theorem dX8_init_16 : decode cX8_init 16 = .ok (.sipush 1008, 3) := by decide +kernel
theorem dX8_init_19 : decode cX8_init 19 = .ok (.sipush 2048, 3) := by decide +kernel
theorem dX8_init_22 : decode cX8_init 22 = .ok (.invokespecial 17, 3) := by decide +kernel
theorem dX8_init_25 : decode cX8_init 25 = .ok (.putfield 20, 3) := by decide +kernel
theorem dX8_init_28 : decode cX8_init 28 = .ok (.aload_n 0, 1) := by decide +kernel
theorem dX8_init_29 : decode cX8_init 29 = .ok (.sipush 1008, 3) := by decide +kernel
theorem dX8_init_32 : decode cX8_init 32 = .ok (.newarray .int, 2) := by decide +kernel
theorem dX8_init_34 : decode cX8_init 34 = .ok (.putfield 24, 3) := by decide +kernel
theorem dX8_init_37 : decode cX8_init 37 = .ok (.aload_n 0, 1) := by decide +kernel
theorem dX8_init_38 : decode cX8_init 38 = .ok (.bipush 8, 2) := by decide +kernel
theorem dX8_init_4 : decode cX8_init 4 = .ok (.aload_n 0, 1) := by decide +kernel
theorem dX8_init_40 : decode cX8_init 40 = .ok (.newarray .int, 2) := by decide +kernel
theorem dX8_init_42 : decode cX8_init 42 = .ok (.putfield 28, 3) := by decide +kernel
theorem dX8_init_45 : decode cX8_init 45 = .ok (.return_, 1) := by decide +kernel
theorem dX8_init_5 : decode cX8_init 5 = .ok (.iconst (-1), 1) := by decide +kernel
theorem dX8_init_6 : decode cX8_init 6 = .ok (.putfield 9, 3) := by decide +kernel
theorem dX8_init_9 : decode cX8_init 9 = .ok (.aload_n 0, 1) := by decide +kernel
theorem dX8_size_0 : decode cX8_size 0 = .ok (.aload_n 0, 1) := by decide +kernel
theorem dX8_size_1 : decode cX8_size 1 = .ok (.getfield 20, 3) := by decide +kernel
theorem dX8_size_4 : decode cX8_size 4 = .ok (.getfield 31, 3) := by decide +kernel
theorem dX8_size_7 : decode cX8_size 7 = .ok (.ireturn, 1) := by decide +kernel
theorem dX9_byLots_0 : decode cX9_byLots 0 = .ok (.aload_n 2, 1) := by decide +kernel
theorem dX9_byLots_1 : decode cX9_byLots 1 = .ok (.iconst 0, 1) := by decide +kernel
theorem dX9_byLots_12 : decode cX9_byLots 12 = .ok (.iload 4, 2) := by decide +kernel
theorem dX9_byLots_14 : decode cX9_byLots 14 = .ok (.istore 5, 2) := by decide +kernel
theorem dX9_byLots_16 : decode cX9_byLots 16 = .ok (.iconst 0, 1) := by decide +kernel
theorem dX9_byLots_17 : decode cX9_byLots 17 = .ok (.istore 6, 2) := by decide +kernel
theorem dX9_byLots_19 : decode cX9_byLots 19 = .ok (.iload 6, 2) := by decide +kernel
theorem dX9_byLots_2 : decode cX9_byLots 2 = .ok (.aload_n 0, 1) := by decide +kernel
theorem dX9_byLots_21 : decode cX9_byLots 21 = .ok (.iload_n 3, 1) := by decide +kernel
theorem dX9_byLots_22 : decode cX9_byLots 22 = .ok (.if_icmp .ge 70, 3) := by decide +kernel
theorem dX9_byLots_25 : decode cX9_byLots 25 = .ok (.aload_n 1, 1) := by decide +kernel
theorem dX9_byLots_26 : decode cX9_byLots 26 = .ok (.aload_n 0, 1) := by decide +kernel
theorem dX9_byLots_27 : decode cX9_byLots 27 = .ok (.getfield 15, 3) := by decide +kernel
theorem dX9_byLots_3 : decode cX9_byLots 3 = .ok (.getfield 15, 3) := by decide +kernel
theorem dX9_byLots_30 : decode cX9_byLots 30 = .ok (.invokevirtual 34, 3) := by decide +kernel
theorem dX9_byLots_33 : decode cX9_byLots 33 = .ok (.istore 7, 2) := by decide +kernel
theorem dX9_byLots_35 : decode cX9_byLots 35 = .ok (.iload 7, 2) := by decide +kernel
theorem dX9_byLots_37 : decode cX9_byLots 37 = .ok (.invokestatic 40, 3) := by decide +kernel
theorem dX9_byLots_40 : decode cX9_byLots 40 = .ok (.istore 8, 2) := by decide +kernel
theorem dX9_byLots_42 : decode cX9_byLots 42 = .ok (.iload 8, 2) := by decide +kernel
theorem dX9_byLots_44 : decode cX9_byLots 44 = .ok (.ifCond .ne 6, 3) := by decide +kernel
theorem dX9_byLots_47 : decode cX9_byLots 47 = .ok (.iload 6, 2) := by decide +kernel
theorem dX9_byLots_49 : decode cX9_byLots 49 = .ok (.ireturn, 1) := by decide +kernel
theorem dX9_byLots_6 : decode cX9_byLots 6 = .ok (.iconst 0, 1) := by decide +kernel
theorem dX9_byLots_7 : decode cX9_byLots 7 = .ok (.bipush 8, 2) := by decide +kernel
theorem dX9_byLots_9 : decode cX9_byLots 9 = .ok (.invokestatic 28, 3) := by decide +kernel
theorem dX9_init_0 : decode cX9_init 0 = .ok (.aload_n 0, 1) := by decide +kernel
theorem dX9_init_1 : decode cX9_init 1 = .ok (.invokespecial 3, 3) := by decide +kernel
theorem dX9_init_10 : decode cX9_init 10 = .ok (.bipush 8, 2) := by decide +kernel
theorem dX9_init_12 : decode cX9_init 12 = .ok (.newarray .int, 2) := by decide +kernel
theorem dX9_init_14 : decode cX9_init 14 = .ok (.putfield 15, 3) := by decide +kernel
theorem dX9_init_17 : decode cX9_init 17 = .ok (.aload_n 0, 1) := by decide +kernel
theorem dX9_init_18 : decode cX9_init 18 = .ok (.new 19, 3) := by decide +kernel
theorem dX9_init_21 : decode cX9_init 21 = .ok (.dup, 1) := by decide +kernel
theorem dX9_init_22 : decode cX9_init 22 = .ok (.bipush 8, 2) := by decide +kernel
theorem dX9_init_24 : decode cX9_init 24 = .ok (.sipush 3000, 3) := by decide +kernel
theorem dX9_init_27 : decode cX9_init 27 = .ok (.sipush 8192, 3) := by decide +kernel
theorem dX9_init_30 : decode cX9_init 30 = .ok (.invokespecial 21, 3) := by decide +kernel
theorem dX9_init_33 : decode cX9_init 33 = .ok (.putfield 24, 3) := by decide +kernel
theorem dX9_init_36 : decode cX9_init 36 = .ok (.return_, 1) := by decide +kernel
theorem dX9_init_4 : decode cX9_init 4 = .ok (.aload_n 0, 1) := by decide +kernel
theorem dX9_init_5 : decode cX9_init 5 = .ok (.iconst (-1), 1) := by decide +kernel
theorem dX9_init_6 : decode cX9_init 6 = .ok (.putfield 9, 3) := by decide +kernel
theorem dX9_init_9 : decode cX9_init 9 = .ok (.aload_n 0, 1) := by decide +kernel
theorem dX9_leastAble_0 : decode cX9_leastAble 0 = .ok (.iconst 0, 1) := by decide +kernel
theorem dX9_leastAble_1 : decode cX9_leastAble 1 = .ok (.istore_n 2, 1) := by decide +kernel
theorem dX9_leastAble_2 : decode cX9_leastAble 2 = .ok (.iload_n 2, 1) := by decide +kernel
theorem dX9_leastAble_3 : decode cX9_leastAble 3 = .ok (.aload_n 1, 1) := by decide +kernel
theorem dX9_leastAble_31 : decode cX9_leastAble 31 = .ok (.iconst (-1), 1) := by decide +kernel
theorem dX9_leastAble_32 : decode cX9_leastAble 32 = .ok (.ireturn, 1) := by decide +kernel
theorem dX9_leastAble_4 : decode cX9_leastAble 4 = .ok (.getfield 90, 3) := by decide +kernel
theorem dX9_leastAble_7 : decode cX9_leastAble 7 = .ok (.if_icmp .ge 24, 3) := by decide +kernel
theorem dX9_leastFirst_0 : decode cX9_leastFirst 0 = .ok (.aload_n 0, 1) := by decide +kernel
theorem dX9_leastFirst_1 : decode cX9_leastFirst 1 = .ok (.iload_n 3, 1) := by decide +kernel
theorem dX9_leastFirst_10 : decode cX9_leastFirst 10 = .ok (.aload_n 0, 1) := by decide +kernel
theorem dX9_leastFirst_104 : decode cX9_leastFirst 104 = .ok (.aload_n 0, 1) := by decide +kernel
theorem dX9_leastFirst_105 : decode cX9_leastFirst 105 = .ok (.aload_n 1, 1) := by decide +kernel
theorem dX9_leastFirst_106 : decode cX9_leastFirst 106 = .ok (.invokevirtual 86, 3) := by decide +kernel
theorem dX9_leastFirst_109 : decode cX9_leastFirst 109 = .ok (.istore 7, 2) := by decide +kernel
theorem dX9_leastFirst_11 : decode cX9_leastFirst 11 = .ok (.iconst (-1), 1) := by decide +kernel
theorem dX9_leastFirst_111 : decode cX9_leastFirst 111 = .ok (.iload 7, 2) := by decide +kernel
theorem dX9_leastFirst_113 : decode cX9_leastFirst 113 = .ok (.iconst (-1), 1) := by decide +kernel
theorem dX9_leastFirst_114 : decode cX9_leastFirst 114 = .ok (.if_icmp .ne 10, 3) := by decide +kernel
theorem dX9_leastFirst_117 : decode cX9_leastFirst 117 = .ok (.aload_n 0, 1) := by decide +kernel
theorem dX9_leastFirst_118 : decode cX9_leastFirst 118 = .ok (.iload 4, 2) := by decide +kernel
theorem dX9_leastFirst_12 : decode cX9_leastFirst 12 = .ok (.putfield 63, 3) := by decide +kernel
theorem dX9_leastFirst_120 : decode cX9_leastFirst 120 = .ok (.putfield 60, 3) := by decide +kernel
theorem dX9_leastFirst_123 : decode cX9_leastFirst 123 = .ok (.return_, 1) := by decide +kernel
theorem dX9_leastFirst_15 : decode cX9_leastFirst 15 = .ok (.aload_n 0, 1) := by decide +kernel
theorem dX9_leastFirst_16 : decode cX9_leastFirst 16 = .ok (.iconst (-1), 1) := by decide +kernel
theorem dX9_leastFirst_17 : decode cX9_leastFirst 17 = .ok (.putfield 66, 3) := by decide +kernel
theorem dX9_leastFirst_2 : decode cX9_leastFirst 2 = .ok (.putfield 9, 3) := by decide +kernel
theorem dX9_leastFirst_20 : decode cX9_leastFirst 20 = .ok (.aload_n 0, 1) := by decide +kernel
theorem dX9_leastFirst_21 : decode cX9_leastFirst 21 = .ok (.iconst 0, 1) := by decide +kernel
theorem dX9_leastFirst_22 : decode cX9_leastFirst 22 = .ok (.putfield 69, 3) := by decide +kernel
theorem dX9_leastFirst_25 : decode cX9_leastFirst 25 = .ok (.aload_n 2, 1) := by decide +kernel
theorem dX9_leastFirst_26 : decode cX9_leastFirst 26 = .ok (.iconst 0, 1) := by decide +kernel
theorem dX9_leastFirst_27 : decode cX9_leastFirst 27 = .ok (.aload_n 0, 1) := by decide +kernel
theorem dX9_leastFirst_28 : decode cX9_leastFirst 28 = .ok (.getfield 15, 3) := by decide +kernel
theorem dX9_leastFirst_31 : decode cX9_leastFirst 31 = .ok (.iconst 0, 1) := by decide +kernel
theorem dX9_leastFirst_32 : decode cX9_leastFirst 32 = .ok (.bipush 8, 2) := by decide +kernel
theorem dX9_leastFirst_34 : decode cX9_leastFirst 34 = .ok (.invokestatic 28, 3) := by decide +kernel
theorem dX9_leastFirst_37 : decode cX9_leastFirst 37 = .ok (.aload_n 0, 1) := by decide +kernel
theorem dX9_leastFirst_38 : decode cX9_leastFirst 38 = .ok (.getfield 24, 3) := by decide +kernel
theorem dX9_leastFirst_41 : decode cX9_leastFirst 41 = .ok (.aload_n 1, 1) := by decide +kernel
theorem dX9_leastFirst_42 : decode cX9_leastFirst 42 = .ok (.getfield 73, 3) := by decide +kernel
theorem dX9_leastFirst_45 : decode cX9_leastFirst 45 = .ok (.invokevirtual 76, 3) := by decide +kernel
theorem dX9_leastFirst_48 : decode cX9_leastFirst 48 = .ok (.iconst 0, 1) := by decide +kernel
theorem dX9_leastFirst_49 : decode cX9_leastFirst 49 = .ok (.istore 4, 2) := by decide +kernel
theorem dX9_leastFirst_5 : decode cX9_leastFirst 5 = .ok (.aload_n 0, 1) := by decide +kernel
theorem dX9_leastFirst_51 : decode cX9_leastFirst 51 = .ok (.iload 4, 2) := by decide +kernel
theorem dX9_leastFirst_53 : decode cX9_leastFirst 53 = .ok (.sipush 3000, 3) := by decide +kernel
theorem dX9_leastFirst_56 : decode cX9_leastFirst 56 = .ok (.if_icmp .ge 84, 3) := by decide +kernel
theorem dX9_leastFirst_59 : decode cX9_leastFirst 59 = .ok (.aload_n 0, 1) := by decide +kernel
theorem dX9_leastFirst_6 : decode cX9_leastFirst 6 = .ok (.iconst (-1), 1) := by decide +kernel
theorem dX9_leastFirst_60 : decode cX9_leastFirst 60 = .ok (.getfield 24, 3) := by decide +kernel
theorem dX9_leastFirst_63 : decode cX9_leastFirst 63 = .ok (.getfield 80, 3) := by decide +kernel
theorem dX9_leastFirst_66 : decode cX9_leastFirst 66 = .ok (.istore 5, 2) := by decide +kernel
theorem dX9_leastFirst_68 : decode cX9_leastFirst 68 = .ok (.aload_n 0, 1) := by decide +kernel
theorem dX9_leastFirst_69 : decode cX9_leastFirst 69 = .ok (.getfield 24, 3) := by decide +kernel
theorem dX9_leastFirst_7 : decode cX9_leastFirst 7 = .ok (.putfield 60, 3) := by decide +kernel
theorem dX9_leastFirst_72 : decode cX9_leastFirst 72 = .ok (.aload_n 0, 1) := by decide +kernel
theorem dX9_leastFirst_73 : decode cX9_leastFirst 73 = .ok (.getfield 15, 3) := by decide +kernel
theorem dX9_leastFirst_76 : decode cX9_leastFirst 76 = .ok (.invokevirtual 83, 3) := by decide +kernel
theorem dX9_leastFirst_79 : decode cX9_leastFirst 79 = .ok (.istore 6, 2) := by decide +kernel
theorem dX9_leastFirst_81 : decode cX9_leastFirst 81 = .ok (.iload 6, 2) := by decide +kernel
theorem dX9_leastFirst_83 : decode cX9_leastFirst 83 = .ok (.iload 5, 2) := by decide +kernel
theorem dX9_leastFirst_85 : decode cX9_leastFirst 85 = .ok (.if_icmp .ge 19, 3) := by decide +kernel
