theorem dL_often_2 : decode cL_often 2 = .ok (.aload_n 0, 1) := by decide +kernel
theorem dL_often_3 : decode cL_often 3 = .ok (.iload_n 1, 1) := by decide +kernel
theorem dL_often_4 : decode cL_often 4 = .ok (.iload_n 2, 1) := by decide +kernel
theorem dL_often_5 : decode cL_often 5 = .ok (.invokevirtual 123, 3) := by decide +kernel
theorem dL_period_0 : decode cL_period 0 = .ok (.aload_n 2, 1) := by decide +kernel
theorem dL_period_1 : decode cL_period 1 = .ok (.iconst 0, 1) := by decide +kernel
theorem dL_period_12 : decode cL_period 12 = .ok (.astore_n 3, 1) := by decide +kernel
theorem dL_period_13 : decode cL_period 13 = .ok (.iconst 1, 1) := by decide +kernel
theorem dL_period_14 : decode cL_period 14 = .ok (.ireturn, 1) := by decide +kernel
theorem dL_period_15 : decode cL_period 15 = .ok (.iconst 0, 1) := by decide +kernel
theorem dL_period_16 : decode cL_period 16 = .ok (.ireturn, 1) := by decide +kernel
theorem dL_period_2 : decode cL_period 2 = .ok (.aload_n 0, 1) := by decide +kernel
theorem dL_period_3 : decode cL_period 3 = .ok (.iload_n 1, 1) := by decide +kernel
theorem dL_period_4 : decode cL_period 4 = .ok (.invokevirtual 111, 3) := by decide +kernel
theorem dL_period_7 : decode cL_period 7 = .ok (.i2l, 1) := by decide +kernel
theorem dL_period_8 : decode cL_period 8 = .ok (.lastore, 1) := by decide +kernel
theorem dL_period_9 : decode cL_period 9 = .ok (.goto 6, 3) := by decide +kernel
theorem dL_put_0 : decode cL_put 0 = .ok (.aload_n 3, 1) := by decide +kernel
theorem dL_put_1 : decode cL_put 1 = .ok (.iconst 0, 1) := by decide +kernel
theorem dL_put_13 : decode cL_put 13 = .ok (.astore 4, 2) := by decide +kernel
theorem dL_put_15 : decode cL_put 15 = .ok (.iconst 1, 1) := by decide +kernel
theorem dL_put_16 : decode cL_put 16 = .ok (.ireturn, 1) := by decide +kernel
theorem dL_put_2 : decode cL_put 2 = .ok (.aload_n 0, 1) := by decide +kernel
theorem dL_put_3 : decode cL_put 3 = .ok (.iload_n 1, 1) := by decide +kernel
theorem dL_put_4 : decode cL_put 4 = .ok (.iload_n 2, 1) := by decide +kernel
theorem dL_put_5 : decode cL_put 5 = .ok (.invokevirtual 33, 3) := by decide +kernel
theorem dL_round_0 : decode cL_round 0 = .ok (.aload_n 3, 1) := by decide +kernel
theorem dL_round_1 : decode cL_round 1 = .ok (.iconst 0, 1) := by decide +kernel
theorem dL_round_12 : decode cL_round 12 = .ok (.astore 4, 2) := by decide +kernel
theorem dL_round_14 : decode cL_round 14 = .ok (.iconst 1, 1) := by decide +kernel
theorem dL_round_15 : decode cL_round 15 = .ok (.ireturn, 1) := by decide +kernel
theorem dL_round_2 : decode cL_round 2 = .ok (.aload_n 0, 1) := by decide +kernel
theorem dL_round_3 : decode cL_round 3 = .ok (.iload_n 1, 1) := by decide +kernel
theorem dL_round_4 : decode cL_round 4 = .ok (.iload_n 2, 1) := by decide +kernel
theorem dL_round_5 : decode cL_round 5 = .ok (.invokevirtual 87, 3) := by decide +kernel
theorem dL_row_0 : decode cL_row 0 = .ok (.aload_n 2, 1) := by decide +kernel
theorem dL_row_1 : decode cL_row 1 = .ok (.iconst 0, 1) := by decide +kernel
theorem dL_row_12 : decode cL_row 12 = .ok (.astore_n 3, 1) := by decide +kernel
theorem dL_row_13 : decode cL_row 13 = .ok (.iconst 1, 1) := by decide +kernel
theorem dL_row_14 : decode cL_row 14 = .ok (.ireturn, 1) := by decide +kernel
theorem dL_row_2 : decode cL_row 2 = .ok (.aload_n 0, 1) := by decide +kernel
theorem dL_row_3 : decode cL_row 3 = .ok (.iload_n 1, 1) := by decide +kernel
theorem dL_row_4 : decode cL_row 4 = .ok (.invokevirtual 42, 3) := by decide +kernel
theorem dL_rows_0 : decode cL_rows 0 = .ok (.aload_n 3, 1) := by decide +kernel
theorem dL_rows_1 : decode cL_rows 1 = .ok (.iconst 0, 1) := by decide +kernel
theorem dL_rows_12 : decode cL_rows 12 = .ok (.astore 4, 2) := by decide +kernel
theorem dL_rows_14 : decode cL_rows 14 = .ok (.iconst 1, 1) := by decide +kernel
theorem dL_rows_15 : decode cL_rows 15 = .ok (.ireturn, 1) := by decide +kernel
theorem dL_rows_16 : decode cL_rows 16 = .ok (.iconst 0, 1) := by decide +kernel
theorem dL_rows_17 : decode cL_rows 17 = .ok (.ireturn, 1) := by decide +kernel
theorem dL_rows_2 : decode cL_rows 2 = .ok (.aload_n 0, 1) := by decide +kernel
theorem dL_rows_3 : decode cL_rows 3 = .ok (.iload_n 1, 1) := by decide +kernel
theorem dL_rows_4 : decode cL_rows 4 = .ok (.iload_n 2, 1) := by decide +kernel
theorem dL_rows_5 : decode cL_rows 5 = .ok (.invokevirtual 77, 3) := by decide +kernel
theorem dL_rows_8 : decode cL_rows 8 = .ok (.lastore, 1) := by decide +kernel
theorem dL_rows_9 : decode cL_rows 9 = .ok (.goto 7, 3) := by decide +kernel
theorem dL_siphon_0 : decode cL_siphon 0 = .ok (.aload_n 3, 1) := by decide +kernel
theorem dL_siphon_1 : decode cL_siphon 1 = .ok (.iconst 0, 1) := by decide +kernel
theorem dL_siphon_10 : decode cL_siphon 10 = .ok (.goto 7, 3) := by decide +kernel
theorem dL_siphon_13 : decode cL_siphon 13 = .ok (.astore 4, 2) := by decide +kernel
theorem dL_siphon_15 : decode cL_siphon 15 = .ok (.iconst 1, 1) := by decide +kernel
theorem dL_siphon_16 : decode cL_siphon 16 = .ok (.ireturn, 1) := by decide +kernel
theorem dL_siphon_17 : decode cL_siphon 17 = .ok (.iconst 0, 1) := by decide +kernel
theorem dL_siphon_18 : decode cL_siphon 18 = .ok (.ireturn, 1) := by decide +kernel
theorem dL_siphon_2 : decode cL_siphon 2 = .ok (.aload_n 0, 1) := by decide +kernel
theorem dL_siphon_3 : decode cL_siphon 3 = .ok (.iload_n 1, 1) := by decide +kernel
theorem dL_siphon_4 : decode cL_siphon 4 = .ok (.iload_n 2, 1) := by decide +kernel
theorem dL_siphon_5 : decode cL_siphon 5 = .ok (.invokevirtual 93, 3) := by decide +kernel
theorem dL_siphon_8 : decode cL_siphon 8 = .ok (.i2l, 1) := by decide +kernel
theorem dL_siphon_9 : decode cL_siphon 9 = .ok (.lastore, 1) := by decide +kernel
theorem dL_state_0 : decode cL_state 0 = .ok (.aload 4, 2) := by decide +kernel
theorem dL_state_15 : decode cL_state 15 = .ok (.astore 5, 2) := by decide +kernel
theorem dL_state_17 : decode cL_state 17 = .ok (.iconst 1, 1) := by decide +kernel
theorem dL_state_18 : decode cL_state 18 = .ok (.ireturn, 1) := by decide +kernel
theorem dL_state_2 : decode cL_state 2 = .ok (.iconst 0, 1) := by decide +kernel
theorem dL_state_3 : decode cL_state 3 = .ok (.aload_n 0, 1) := by decide +kernel
theorem dL_state_4 : decode cL_state 4 = .ok (.iload_n 1, 1) := by decide +kernel
theorem dL_state_5 : decode cL_state 5 = .ok (.iload_n 2, 1) := by decide +kernel
theorem dL_state_6 : decode cL_state 6 = .ok (.iload_n 3, 1) := by decide +kernel
theorem dL_state_7 : decode cL_state 7 = .ok (.invokevirtual 48, 3) := by decide +kernel
theorem dL_states_0 : decode cL_states 0 = .ok (.aload_n 2, 1) := by decide +kernel
theorem dL_states_1 : decode cL_states 1 = .ok (.iconst 0, 1) := by decide +kernel
theorem dL_states_12 : decode cL_states 12 = .ok (.astore_n 3, 1) := by decide +kernel
theorem dL_states_13 : decode cL_states 13 = .ok (.iconst 1, 1) := by decide +kernel
theorem dL_states_14 : decode cL_states 14 = .ok (.ireturn, 1) := by decide +kernel
theorem dL_states_15 : decode cL_states 15 = .ok (.iconst 0, 1) := by decide +kernel
theorem dL_states_16 : decode cL_states 16 = .ok (.ireturn, 1) := by decide +kernel
theorem dL_states_2 : decode cL_states 2 = .ok (.aload_n 0, 1) := by decide +kernel
theorem dL_states_3 : decode cL_states 3 = .ok (.iload_n 1, 1) := by decide +kernel
theorem dL_states_4 : decode cL_states 4 = .ok (.invokevirtual 45, 3) := by decide +kernel
theorem dL_states_7 : decode cL_states 7 = .ok (.i2l, 1) := by decide +kernel
theorem dL_states_8 : decode cL_states 8 = .ok (.lastore, 1) := by decide +kernel
theorem dL_states_9 : decode cL_states 9 = .ok (.goto 6, 3) := by decide +kernel
theorem dL_step_0 : decode cL_step 0 = .ok (.aload 4, 2) := by decide +kernel
theorem dL_step_10 : decode cL_step 10 = .ok (.i2l, 1) := by decide +kernel
theorem dL_step_11 : decode cL_step 11 = .ok (.lastore, 1) := by decide +kernel
theorem dL_step_12 : decode cL_step 12 = .ok (.goto 7, 3) := by decide +kernel
theorem dL_step_15 : decode cL_step 15 = .ok (.astore 5, 2) := by decide +kernel
theorem dL_step_17 : decode cL_step 17 = .ok (.iconst 1, 1) := by decide +kernel
theorem dL_step_18 : decode cL_step 18 = .ok (.ireturn, 1) := by decide +kernel
theorem dL_step_19 : decode cL_step 19 = .ok (.iconst 0, 1) := by decide +kernel
theorem dL_step_2 : decode cL_step 2 = .ok (.iconst 0, 1) := by decide +kernel
theorem dL_step_20 : decode cL_step 20 = .ok (.ireturn, 1) := by decide +kernel
theorem dL_step_3 : decode cL_step 3 = .ok (.aload_n 0, 1) := by decide +kernel
theorem dL_step_4 : decode cL_step 4 = .ok (.iload_n 1, 1) := by decide +kernel
theorem dL_step_5 : decode cL_step 5 = .ok (.iload_n 2, 1) := by decide +kernel
theorem dL_step_6 : decode cL_step 6 = .ok (.iload_n 3, 1) := by decide +kernel
theorem dL_step_7 : decode cL_step 7 = .ok (.invokevirtual 70, 3) := by decide +kernel
theorem dL_told_0 : decode cL_told 0 = .ok (.aload_n 2, 1) := by decide +kernel
theorem dL_told_1 : decode cL_told 1 = .ok (.iconst 0, 1) := by decide +kernel
theorem dL_told_12 : decode cL_told 12 = .ok (.astore_n 3, 1) := by decide +kernel
theorem dL_told_13 : decode cL_told 13 = .ok (.iconst 1, 1) := by decide +kernel
theorem dL_told_14 : decode cL_told 14 = .ok (.ireturn, 1) := by decide +kernel
theorem dL_told_15 : decode cL_told 15 = .ok (.iconst 0, 1) := by decide +kernel
theorem dL_told_16 : decode cL_told 16 = .ok (.ireturn, 1) := by decide +kernel
theorem dL_told_2 : decode cL_told 2 = .ok (.aload_n 0, 1) := by decide +kernel
theorem dL_told_3 : decode cL_told 3 = .ok (.iload_n 1, 1) := by decide +kernel
theorem dL_told_4 : decode cL_told 4 = .ok (.invokevirtual 15, 3) := by decide +kernel
theorem dL_told_7 : decode cL_told 7 = .ok (.i2l, 1) := by decide +kernel
theorem dL_told_8 : decode cL_told 8 = .ok (.lastore, 1) := by decide +kernel
theorem dL_told_9 : decode cL_told 9 = .ok (.goto 6, 3) := by decide +kernel
theorem dL_two_0 : decode cL_two 0 = .ok (.aload 4, 2) := by decide +kernel
theorem dL_two_2 : decode cL_two 2 = .ok (.iconst 0, 1) := by decide +kernel
theorem dL_two_22 : decode cL_two 22 = .ok (.astore 5, 2) := by decide +kernel
theorem dL_two_24 : decode cL_two 24 = .ok (.iconst 1, 1) := by decide +kernel
theorem dL_two_25 : decode cL_two 25 = .ok (.ireturn, 1) := by decide +kernel
theorem dL_two_3 : decode cL_two 3 = .ok (.aload_n 0, 1) := by decide +kernel
theorem dL_two_4 : decode cL_two 4 = .ok (.iload_n 1, 1) := by decide +kernel
theorem dL_two_5 : decode cL_two 5 = .ok (.iload_n 2, 1) := by decide +kernel
theorem dL_two_6 : decode cL_two 6 = .ok (.iload_n 3, 1) := by decide +kernel
theorem dL_two_7 : decode cL_two 7 = .ok (.invokevirtual 101, 3) := by decide +kernel
theorem dL_way_0 : decode cL_way 0 = .ok (.aload_n 3, 1) := by decide +kernel
theorem dL_way_1 : decode cL_way 1 = .ok (.iconst 0, 1) := by decide +kernel
theorem dL_way_10 : decode cL_way 10 = .ok (.goto 7, 3) := by decide +kernel
theorem dL_way_13 : decode cL_way 13 = .ok (.astore 4, 2) := by decide +kernel
theorem dL_way_15 : decode cL_way 15 = .ok (.iconst 1, 1) := by decide +kernel
theorem dL_way_16 : decode cL_way 16 = .ok (.ireturn, 1) := by decide +kernel
theorem dL_way_17 : decode cL_way 17 = .ok (.iconst 0, 1) := by decide +kernel
theorem dL_way_18 : decode cL_way 18 = .ok (.ireturn, 1) := by decide +kernel
theorem dL_way_2 : decode cL_way 2 = .ok (.aload_n 0, 1) := by decide +kernel
theorem dL_way_3 : decode cL_way 3 = .ok (.iload_n 1, 1) := by decide +kernel
theorem dL_way_4 : decode cL_way 4 = .ok (.iload_n 2, 1) := by decide +kernel
theorem dL_way_5 : decode cL_way 5 = .ok (.invokevirtual 66, 3) := by decide +kernel
theorem dL_way_8 : decode cL_way 8 = .ok (.i2l, 1) := by decide +kernel
theorem dL_way_9 : decode cL_way 9 = .ok (.lastore, 1) := by decide +kernel
theorem dX0_init_0 : decode cX0_init 0 = .ok (.aload_n 0, 1) := by decide +kernel
theorem dX0_init_1 : decode cX0_init 1 = .ok (.invokespecial 3, 3) := by decide +kernel
theorem dX0_init_12 : decode cX0_init 12 = .ok (.aload_n 0, 1) := by decide +kernel
theorem dX0_init_13 : decode cX0_init 13 = .ok (.bipush 64, 2) := by decide +kernel
theorem dX0_init_15 : decode cX0_init 15 = .ok (.newarray .long, 2) := by decide +kernel
theorem dX0_init_17 : decode cX0_init 17 = .ok (.putfield 15, 3) := by decide +kernel
theorem dX0_init_20 : decode cX0_init 20 = .ok (.aload_n 0, 1) := by decide +kernel
theorem dX0_init_21 : decode cX0_init 21 = .ok (.bipush 8, 2) := by decide +kernel
theorem dX0_init_23 : decode cX0_init 23 = .ok (.newarray .int, 2) := by decide +kernel
theorem dX0_init_25 : decode cX0_init 25 = .ok (.putfield 18, 3) := by decide +kernel
theorem dX0_init_28 : decode cX0_init 28 = .ok (.return_, 1) := by decide +kernel
theorem dX0_init_4 : decode cX0_init 4 = .ok (.aload_n 0, 1) := by decide +kernel
theorem dX0_init_5 : decode cX0_init 5 = .ok (.bipush 64, 2) := by decide +kernel
theorem dX0_init_7 : decode cX0_init 7 = .ok (.newarray .long, 2) := by decide +kernel
theorem dX0_init_9 : decode cX0_init 9 = .ok (.putfield 9, 3) := by decide +kernel
theorem dX0_sameSums_0 : decode cX0_sameSums 0 = .ok (.iconst 0, 1) := by decide +kernel
theorem dX0_sameSums_1 : decode cX0_sameSums 1 = .ok (.istore_n 3, 1) := by decide +kernel
theorem dX0_sameSums_2 : decode cX0_sameSums 2 = .ok (.iload_n 3, 1) := by decide +kernel
theorem dX0_sameSums_3 : decode cX0_sameSums 3 = .ok (.aload_n 0, 1) := by decide +kernel
theorem dX0_sameSums_4 : decode cX0_sameSums 4 = .ok (.getfield 46, 3) := by decide +kernel
theorem dX0_sameSums_7 : decode cX0_sameSums 7 = .ok (.if_icmp .ge 67, 3) := by decide +kernel
theorem dX0_sameSums_74 : decode cX0_sameSums 74 = .ok (.iconst 1, 1) := by decide +kernel
theorem dX0_sameSums_75 : decode cX0_sameSums 75 = .ok (.ireturn, 1) := by decide +kernel
theorem dX10_begin_0 : decode cX10_begin 0 = .ok (.aload_n 0, 1) := by decide +kernel
theorem dX10_begin_1 : decode cX10_begin 1 = .ok (.aload_n 1, 1) := by decide +kernel
theorem dX10_begin_10 : decode cX10_begin 10 = .ok (.aload_n 0, 1) := by decide +kernel
theorem dX10_begin_11 : decode cX10_begin 11 = .ok (.iconst (-1), 1) := by decide +kernel
theorem dX10_begin_12 : decode cX10_begin 12 = .ok (.putfield 15, 3) := by decide +kernel
theorem dX10_begin_15 : decode cX10_begin 15 = .ok (.aload_n 0, 1) := by decide +kernel
theorem dX10_begin_16 : decode cX10_begin 16 = .ok (.iconst (-1), 1) := by decide +kernel
theorem dX10_begin_17 : decode cX10_begin 17 = .ok (.putfield 18, 3) := by decide +kernel
theorem dX10_begin_2 : decode cX10_begin 2 = .ok (.putfield 37, 3) := by decide +kernel
theorem dX10_begin_20 : decode cX10_begin 20 = .ok (.aload_n 0, 1) := by decide +kernel
theorem dX10_begin_21 : decode cX10_begin 21 = .ok (.getfield 34, 3) := by decide +kernel
theorem dX10_begin_24 : decode cX10_begin 24 = .ok (.iconst 0, 1) := by decide +kernel
theorem dX10_begin_25 : decode cX10_begin 25 = .ok (.invokestatic 41, 3) := by decide +kernel
theorem dX10_begin_28 : decode cX10_begin 28 = .ok (.aload_n 2, 1) := by decide +kernel
theorem dX10_begin_29 : decode cX10_begin 29 = .ok (.iconst 0, 1) := by decide +kernel
theorem dX10_begin_30 : decode cX10_begin 30 = .ok (.aload_n 0, 1) := by decide +kernel
theorem dX10_begin_31 : decode cX10_begin 31 = .ok (.getfield 34, 3) := by decide +kernel
theorem dX10_begin_34 : decode cX10_begin 34 = .ok (.iconst 0, 1) := by decide +kernel
theorem dX10_begin_35 : decode cX10_begin 35 = .ok (.aload_n 0, 1) := by decide +kernel
theorem dX10_begin_36 : decode cX10_begin 36 = .ok (.getfield 37, 3) := by decide +kernel
theorem dX10_begin_39 : decode cX10_begin 39 = .ok (.getfield 47, 3) := by decide +kernel
theorem dX10_begin_42 : decode cX10_begin 42 = .ok (.invokestatic 52, 3) := by decide +kernel
theorem dX10_begin_45 : decode cX10_begin 45 = .ok (.aload_n 0, 1) := by decide +kernel
theorem dX10_begin_46 : decode cX10_begin 46 = .ok (.getfield 26, 3) := by decide +kernel
theorem dX10_begin_49 : decode cX10_begin 49 = .ok (.aload_n 0, 1) := by decide +kernel
theorem dX10_begin_5 : decode cX10_begin 5 = .ok (.aload_n 0, 1) := by decide +kernel
theorem dX10_begin_50 : decode cX10_begin 50 = .ok (.getfield 37, 3) := by decide +kernel
theorem dX10_begin_53 : decode cX10_begin 53 = .ok (.getfield 47, 3) := by decide +kernel
theorem dX10_begin_56 : decode cX10_begin 56 = .ok (.aload_n 0, 1) := by decide +kernel
theorem dX10_begin_57 : decode cX10_begin 57 = .ok (.getfield 37, 3) := by decide +kernel
theorem dX10_begin_6 : decode cX10_begin 6 = .ok (.iload_n 3, 1) := by decide +kernel
theorem dX10_begin_60 : decode cX10_begin 60 = .ok (.getfield 58, 3) := by decide +kernel
theorem dX10_begin_63 : decode cX10_begin 63 = .ok (.iadd, 1) := by decide +kernel
theorem dX10_begin_64 : decode cX10_begin 64 = .ok (.invokevirtual 61, 3) := by decide +kernel
theorem dX10_begin_67 : decode cX10_begin 67 = .ok (.aload_n 0, 1) := by decide +kernel
theorem dX10_begin_68 : decode cX10_begin 68 = .ok (.getfield 26, 3) := by decide +kernel
theorem dX10_begin_7 : decode cX10_begin 7 = .ok (.putfield 9, 3) := by decide +kernel
theorem dX10_begin_71 : decode cX10_begin 71 = .ok (.aload_n 0, 1) := by decide +kernel
theorem dX10_begin_72 : decode cX10_begin 72 = .ok (.getfield 34, 3) := by decide +kernel
theorem dX10_begin_75 : decode cX10_begin 75 = .ok (.invokevirtual 65, 3) := by decide +kernel
theorem dX10_begin_78 : decode cX10_begin 78 = .ok (.pop, 1) := by decide +kernel
theorem dX10_begin_79 : decode cX10_begin 79 = .ok (.return_, 1) := by decide +kernel
theorem dX10_init_0 : decode cX10_init 0 = .ok (.aload_n 0, 1) := by decide +kernel
theorem dX10_init_1 : decode cX10_init 1 = .ok (.invokespecial 3, 3) := by decide +kernel
theorem dX10_init_10 : decode cX10_init 10 = .ok (.iconst (-1), 1) := by decide +kernel
theorem dX10_init_11 : decode cX10_init 11 = .ok (.putfield 15, 3) := by decide +kernel
theorem dX10_init_14 : decode cX10_init 14 = .ok (.aload_n 0, 1) := by decide +kernel
theorem dX10_init_15 : decode cX10_init 15 = .ok (.iconst (-1), 1) := by decide +kernel
theorem dX10_init_16 : decode cX10_init 16 = .ok (.putfield 18, 3) := by decide +kernel
theorem dX10_init_19 : decode cX10_init 19 = .ok (.aload_n 0, 1) := by decide +kernel
theorem dX10_init_20 : decode cX10_init 20 = .ok (.new 21, 3) := by decide +kernel
theorem dX10_init_23 : decode cX10_init 23 = .ok (.dup, 1) := by decide +kernel
theorem dX10_init_24 : decode cX10_init 24 = .ok (.bipush 16, 2) := by decide +kernel
theorem dX10_init_26 : decode cX10_init 26 = .ok (.sipush 2001, 3) := by decide +kernel
theorem dX10_init_29 : decode cX10_init 29 = .ok (.sipush 4096, 3) := by decide +kernel
theorem dX10_init_32 : decode cX10_init 32 = .ok (.invokespecial 23, 3) := by decide +kernel
theorem dX10_init_35 : decode cX10_init 35 = .ok (.putfield 26, 3) := by decide +kernel
theorem dX10_init_38 : decode cX10_init 38 = .ok (.aload_n 0, 1) := by decide +kernel
theorem dX10_init_39 : decode cX10_init 39 = .ok (.sipush 16016, 3) := by decide +kernel
theorem dX10_init_4 : decode cX10_init 4 = .ok (.aload_n 0, 1) := by decide +kernel
theorem dX10_init_42 : decode cX10_init 42 = .ok (.newarray .int, 2) := by decide +kernel
theorem dX10_init_44 : decode cX10_init 44 = .ok (.putfield 30, 3) := by decide +kernel
theorem dX10_init_47 : decode cX10_init 47 = .ok (.aload_n 0, 1) := by decide +kernel
theorem dX10_init_48 : decode cX10_init 48 = .ok (.bipush 16, 2) := by decide +kernel
theorem dX10_init_5 : decode cX10_init 5 = .ok (.iconst (-1), 1) := by decide +kernel
theorem dX10_init_50 : decode cX10_init 50 = .ok (.newarray .int, 2) := by decide +kernel
theorem dX10_init_52 : decode cX10_init 52 = .ok (.putfield 34, 3) := by decide +kernel
theorem dX10_init_55 : decode cX10_init 55 = .ok (.return_, 1) := by decide +kernel
theorem dX10_init_6 : decode cX10_init 6 = .ok (.putfield 9, 3) := by decide +kernel
theorem dX10_init_9 : decode cX10_init 9 = .ok (.aload_n 0, 1) := by decide +kernel
theorem dX10_passMoment_0 : decode cX10_passMoment 0 = .ok (.iload_n 1, 1) := by decide +kernel
theorem dX10_passMoment_1 : decode cX10_passMoment 1 = .ok (.iconst 1, 1) := by decide +kernel
theorem dX10_passMoment_100 : decode cX10_passMoment 100 = .ok (.iload_n 3, 1) := by decide +kernel
theorem dX10_passMoment_101 : decode cX10_passMoment 101 = .ok (.aload_n 0, 1) := by decide +kernel
theorem dX10_passMoment_102 : decode cX10_passMoment 102 = .ok (.getfield 37, 3) := by decide +kernel
theorem dX10_passMoment_105 : decode cX10_passMoment 105 = .ok (.getfield 58, 3) := by decide +kernel
theorem dX10_passMoment_108 : decode cX10_passMoment 108 = .ok (.if_icmp .ge 59, 3) := by decide +kernel
theorem dX10_passMoment_11 : decode cX10_passMoment 11 = .ok (.iload_n 1, 1) := by decide +kernel
theorem dX10_passMoment_12 : decode cX10_passMoment 12 = .ok (.bipush 8, 2) := by decide +kernel
theorem dX10_passMoment_14 : decode cX10_passMoment 14 = .ok (.imul, 1) := by decide +kernel
theorem dX10_passMoment_15 : decode cX10_passMoment 15 = .ok (.aload_n 0, 1) := by decide +kernel
theorem dX10_passMoment_16 : decode cX10_passMoment 16 = .ok (.getfield 30, 3) := by decide +kernel
theorem dX10_passMoment_167 : decode cX10_passMoment 167 = .ok (.return_, 1) := by decide +kernel
theorem dX10_passMoment_19 : decode cX10_passMoment 19 = .ok (.iload_n 2, 1) := by decide +kernel
theorem dX10_passMoment_2 : decode cX10_passMoment 2 = .ok (.iadd, 1) := by decide +kernel
theorem dX10_passMoment_20 : decode cX10_passMoment 20 = .ok (.bipush 8, 2) := by decide +kernel
theorem dX10_passMoment_22 : decode cX10_passMoment 22 = .ok (.invokestatic 52, 3) := by decide +kernel
theorem dX10_passMoment_25 : decode cX10_passMoment 25 = .ok (.iconst 0, 1) := by decide +kernel
theorem dX10_passMoment_26 : decode cX10_passMoment 26 = .ok (.istore_n 3, 1) := by decide +kernel
theorem dX10_passMoment_27 : decode cX10_passMoment 27 = .ok (.iload_n 3, 1) := by decide +kernel
theorem dX10_passMoment_28 : decode cX10_passMoment 28 = .ok (.aload_n 0, 1) := by decide +kernel
theorem dX10_passMoment_29 : decode cX10_passMoment 29 = .ok (.getfield 37, 3) := by decide +kernel
theorem dX10_passMoment_3 : decode cX10_passMoment 3 = .ok (.bipush 8, 2) := by decide +kernel
theorem dX10_passMoment_32 : decode cX10_passMoment 32 = .ok (.getfield 58, 3) := by decide +kernel
theorem dX10_passMoment_35 : decode cX10_passMoment 35 = .ok (.if_icmp .ge 63, 3) := by decide +kernel
theorem dX10_passMoment_5 : decode cX10_passMoment 5 = .ok (.imul, 1) := by decide +kernel
theorem dX10_passMoment_6 : decode cX10_passMoment 6 = .ok (.istore_n 2, 1) := by decide +kernel
theorem dX10_passMoment_7 : decode cX10_passMoment 7 = .ok (.aload_n 0, 1) := by decide +kernel
theorem dX10_passMoment_8 : decode cX10_passMoment 8 = .ok (.getfield 30, 3) := by decide +kernel
theorem dX10_passMoment_98 : decode cX10_passMoment 98 = .ok (.iconst 0, 1) := by decide +kernel
theorem dX10_passMoment_99 : decode cX10_passMoment 99 = .ok (.istore_n 3, 1) := by decide +kernel
theorem dX10_reach_0 : decode cX10_reach 0 = .ok (.aload_n 0, 1) := by decide +kernel
theorem dX10_reach_1 : decode cX10_reach 1 = .ok (.getfield 26, 3) := by decide +kernel
theorem dX10_reach_10 : decode cX10_reach 10 = .ok (.iload_n 2, 1) := by decide +kernel
theorem dX10_reach_11 : decode cX10_reach 11 = .ok (.iload_n 1, 1) := by decide +kernel
theorem dX10_reach_12 : decode cX10_reach 12 = .ok (.if_icmp .ge 63, 3) := by decide +kernel
theorem dX10_reach_15 : decode cX10_reach 15 = .ok (.aload_n 0, 1) := by decide +kernel
theorem dX10_reach_16 : decode cX10_reach 16 = .ok (.getfield 18, 3) := by decide +kernel
theorem dX10_reach_19 : decode cX10_reach 19 = .ok (.iconst (-1), 1) := by decide +kernel
theorem dX10_reach_20 : decode cX10_reach 20 = .ok (.if_icmp .ne 55, 3) := by decide +kernel
theorem dX10_reach_23 : decode cX10_reach 23 = .ok (.aload_n 0, 1) := by decide +kernel
theorem dX10_reach_24 : decode cX10_reach 24 = .ok (.iload_n 2, 1) := by decide +kernel
theorem dX10_reach_25 : decode cX10_reach 25 = .ok (.invokevirtual 72, 3) := by decide +kernel
theorem dX10_reach_28 : decode cX10_reach 28 = .ok (.aload_n 0, 1) := by decide +kernel
theorem dX10_reach_29 : decode cX10_reach 29 = .ok (.getfield 26, 3) := by decide +kernel
theorem dX10_reach_32 : decode cX10_reach 32 = .ok (.getfield 69, 3) := by decide +kernel
theorem dX10_reach_35 : decode cX10_reach 35 = .ok (.istore_n 3, 1) := by decide +kernel
theorem dX10_reach_36 : decode cX10_reach 36 = .ok (.aload_n 0, 1) := by decide +kernel
theorem dX10_reach_37 : decode cX10_reach 37 = .ok (.getfield 26, 3) := by decide +kernel
theorem dX10_reach_4 : decode cX10_reach 4 = .ok (.getfield 69, 3) := by decide +kernel
theorem dX10_reach_40 : decode cX10_reach 40 = .ok (.aload_n 0, 1) := by decide +kernel
theorem dX10_reach_41 : decode cX10_reach 41 = .ok (.getfield 34, 3) := by decide +kernel
theorem dX10_reach_44 : decode cX10_reach 44 = .ok (.invokevirtual 65, 3) := by decide +kernel
theorem dX10_reach_47 : decode cX10_reach 47 = .ok (.istore 4, 2) := by decide +kernel
theorem dX10_reach_49 : decode cX10_reach 49 = .ok (.iload 4, 2) := by decide +kernel
theorem dX10_reach_51 : decode cX10_reach 51 = .ok (.iload_n 3, 1) := by decide +kernel
theorem dX10_reach_52 : decode cX10_reach 52 = .ok (.if_icmp .ge 17, 3) := by decide +kernel
theorem dX10_reach_55 : decode cX10_reach 55 = .ok (.aload_n 0, 1) := by decide +kernel
theorem dX10_reach_56 : decode cX10_reach 56 = .ok (.iload 4, 2) := by decide +kernel
theorem dX10_reach_58 : decode cX10_reach 58 = .ok (.putfield 15, 3) := by decide +kernel
theorem dX10_reach_61 : decode cX10_reach 61 = .ok (.aload_n 0, 1) := by decide +kernel
theorem dX10_reach_62 : decode cX10_reach 62 = .ok (.iload_n 3, 1) := by decide +kernel
theorem dX10_reach_63 : decode cX10_reach 63 = .ok (.iload 4, 2) := by decide +kernel
theorem dX10_reach_65 : decode cX10_reach 65 = .ok (.isub, 1) := by decide +kernel
theorem dX10_reach_66 : decode cX10_reach 66 = .ok (.putfield 18, 3) := by decide +kernel
theorem dX10_reach_69 : decode cX10_reach 69 = .ok (.iinc 2 1, 3) := by decide +kernel
theorem dX10_reach_7 : decode cX10_reach 7 = .ok (.iconst 1, 1) := by decide +kernel
theorem dX10_reach_72 : decode cX10_reach 72 = .ok (.goto (-62), 3) := by decide +kernel
theorem dX10_reach_75 : decode cX10_reach 75 = .ok (.return_, 1) := by decide +kernel
theorem dX10_reach_8 : decode cX10_reach 8 = .ok (.isub, 1) := by decide +kernel
theorem dX10_reach_9 : decode cX10_reach 9 = .ok (.istore_n 2, 1) := by decide +kernel
theorem dX11_act_0 : decode cX11_act 0 = .ok (.aload_n 0, 1) := by decide +kernel
theorem dX11_act_1 : decode cX11_act 1 = .ok (.iload_n 1, 1) := by decide +kernel
theorem dX11_act_2 : decode cX11_act 2 = .ok (.invokevirtual 104, 3) := by decide +kernel
theorem dX11_alike_0 : decode cX11_alike 0 = .ok (.aload_n 0, 1) := by decide +kernel
theorem dX11_alike_1 : decode cX11_alike 1 = .ok (.getfield 44, 3) := by decide +kernel
theorem dX11_alike_11 : decode cX11_alike 11 = .ok (.ireturn, 1) := by decide +kernel
theorem dX11_alike_4 : decode cX11_alike 4 = .ok (.aload_n 0, 1) := by decide +kernel
theorem dX11_alike_5 : decode cX11_alike 5 = .ok (.getfield 54, 3) := by decide +kernel
theorem dX11_alike_8 : decode cX11_alike 8 = .ok (.invokevirtual 353, 3) := by decide +kernel
theorem dX11_arc_0 : decode cX11_arc 0 = .ok (.aload_n 0, 1) := by decide +kernel
theorem dX11_arc_1 : decode cX11_arc 1 = .ok (.iload_n 1, 1) := by decide +kernel
theorem dX11_arc_2 : decode cX11_arc 2 = .ok (.invokevirtual 104, 3) := by decide +kernel
theorem dX11_base_0 : decode cX11_base 0 = .ok (.iload_n 1, 1) := by decide +kernel
theorem dX11_base_1 : decode cX11_base 1 = .ok (.iconst 0, 1) := by decide +kernel
theorem dX11_base_10 : decode cX11_base 10 = .ok (.aload_n 0, 1) := by decide +kernel
theorem dX11_base_11 : decode cX11_base 11 = .ok (.getfield 34, 3) := by decide +kernel
theorem dX11_base_14 : decode cX11_base 14 = .ok (.getfield 228, 3) := by decide +kernel
theorem dX11_base_17 : decode cX11_base 17 = .ok (.goto 10, 3) := by decide +kernel
theorem dX11_base_2 : decode cX11_base 2 = .ok (.iconst 1, 1) := by decide +kernel
theorem dX11_base_20 : decode cX11_base 20 = .ok (.aload_n 0, 1) := by decide +kernel
theorem dX11_base_21 : decode cX11_base 21 = .ok (.getfield 38, 3) := by decide +kernel
theorem dX11_base_24 : decode cX11_base 24 = .ok (.getfield 228, 3) := by decide +kernel
theorem dX11_base_27 : decode cX11_base 27 = .ok (.ireturn, 1) := by decide +kernel
theorem dX11_base_3 : decode cX11_base 3 = .ok (.invokestatic 72, 3) := by decide +kernel
theorem dX11_base_6 : decode cX11_base 6 = .ok (.iload_n 1, 1) := by decide +kernel
theorem dX11_base_7 : decode cX11_base 7 = .ok (.ifCond .ne 13, 3) := by decide +kernel
theorem dX11_beat_0 : decode cX11_beat 0 = .ok (.aload_n 0, 1) := by decide +kernel
theorem dX11_beat_1 : decode cX11_beat 1 = .ok (.iload_n 1, 1) := by decide +kernel
theorem dX11_beat_2 : decode cX11_beat 2 = .ok (.invokevirtual 104, 3) := by decide +kernel
theorem dX11_began_0 : decode cX11_began 0 = .ok (.aload_n 0, 1) := by decide +kernel
theorem dX11_began_1 : decode cX11_began 1 = .ok (.iload_n 2, 1) := by decide +kernel
theorem dX11_began_2 : decode cX11_began 2 = .ok (.invokevirtual 104, 3) := by decide +kernel
theorem dX11_bound_0 : decode cX11_bound 0 = .ok (.aload_n 0, 1) := by decide +kernel
theorem dX11_bound_1 : decode cX11_bound 1 = .ok (.iload_n 1, 1) := by decide +kernel
theorem dX11_bound_2 : decode cX11_bound 2 = .ok (.invokevirtual 107, 3) := by decide +kernel
theorem dX11_cheapest_0 : decode cX11_cheapest 0 = .ok (.iload_n 1, 1) := by decide +kernel
theorem dX11_cheapest_1 : decode cX11_cheapest 1 = .ok (.invokestatic 161, 3) := by decide +kernel
theorem dX11_cheapest_10 : decode cX11_cheapest 10 = .ok (.aload_n 3, 1) := by decide +kernel
theorem dX11_cheapest_11 : decode cX11_cheapest 11 = .ok (.iload_n 1, 1) := by decide +kernel
theorem dX11_cheapest_12 : decode cX11_cheapest 12 = .ok (.invokevirtual 168, 3) := by decide +kernel
theorem dX11_cheapest_15 : decode cX11_cheapest 15 = .ok (.ifCond .eq 8, 3) := by decide +kernel
theorem dX11_cheapest_23 : decode cX11_cheapest 23 = .ok (.aload_n 0, 1) := by decide +kernel
theorem dX11_cheapest_24 : decode cX11_cheapest 24 = .ok (.aload_n 3, 1) := by decide +kernel
theorem dX11_cheapest_25 : decode cX11_cheapest 25 = .ok (.invokevirtual 215, 3) := by decide +kernel
theorem dX11_cheapest_28 : decode cX11_cheapest 28 = .ok (.aload_n 0, 1) := by decide +kernel
theorem dX11_cheapest_29 : decode cX11_cheapest 29 = .ok (.getfield 23, 3) := by decide +kernel
theorem dX11_cheapest_32 : decode cX11_cheapest 32 = .ok (.getfield 202, 3) := by decide +kernel
theorem dX11_cheapest_35 : decode cX11_cheapest 35 = .ok (.iload_n 2, 1) := by decide +kernel
theorem dX11_cheapest_36 : decode cX11_cheapest 36 = .ok (.invokevirtual 218, 3) := by decide +kernel
theorem dX11_cheapest_39 : decode cX11_cheapest 39 = .ok (.ireturn, 1) := by decide +kernel
theorem dX11_cheapest_4 : decode cX11_cheapest 4 = .ok (.aload_n 0, 1) := by decide +kernel
theorem dX11_cheapest_5 : decode cX11_cheapest 5 = .ok (.iload_n 1, 1) := by decide +kernel
theorem dX11_cheapest_6 : decode cX11_cheapest 6 = .ok (.invokevirtual 164, 3) := by decide +kernel
theorem dX11_cheapest_9 : decode cX11_cheapest 9 = .ok (.astore_n 3, 1) := by decide +kernel
theorem dX11_clear_0 : decode cX11_clear 0 = .ok (.aload_n 0, 1) := by decide +kernel
theorem dX11_clear_1 : decode cX11_clear 1 = .ok (.getfield 23, 3) := by decide +kernel
theorem dX11_clear_12 : decode cX11_clear 12 = .ok (.iconst 0, 1) := by decide +kernel
theorem dX11_clear_13 : decode cX11_clear 13 = .ok (.putfield 149, 3) := by decide +kernel
theorem dX11_clear_16 : decode cX11_clear 16 = .ok (.iload_n 1, 1) := by decide +kernel
theorem dX11_clear_17 : decode cX11_clear 17 = .ok (.ireturn, 1) := by decide +kernel
theorem dX11_clear_4 : decode cX11_clear 4 = .ok (.getfield 149, 3) := by decide +kernel
theorem dX11_clear_7 : decode cX11_clear 7 = .ok (.istore_n 1, 1) := by decide +kernel
theorem dX11_clear_8 : decode cX11_clear 8 = .ok (.aload_n 0, 1) := by decide +kernel
theorem dX11_clear_9 : decode cX11_clear 9 = .ok (.getfield 23, 3) := by decide +kernel
theorem dX11_clock_0 : decode cX11_clock 0 = .ok (.aload_n 0, 1) := by decide +kernel
theorem dX11_clock_1 : decode cX11_clock 1 = .ok (.iload_n 2, 1) := by decide +kernel
theorem dX11_clock_2 : decode cX11_clock 2 = .ok (.invokevirtual 107, 3) := by decide +kernel
theorem dX11_count_0 : decode cX11_count 0 = .ok (.iload_n 1, 1) := by decide +kernel
theorem dX11_count_1 : decode cX11_count 1 = .ok (.ifCond .ne 11, 3) := by decide +kernel
theorem dX11_count_11 : decode cX11_count 11 = .ok (.ireturn, 1) := by decide +kernel
theorem dX11_count_12 : decode cX11_count 12 = .ok (.iload_n 1, 1) := by decide +kernel
theorem dX11_count_13 : decode cX11_count 13 = .ok (.iconst 1, 1) := by decide +kernel
theorem dX11_count_14 : decode cX11_count 14 = .ok (.if_icmp .ne 8, 3) := by decide +kernel
theorem dX11_count_17 : decode cX11_count 17 = .ok (.aload_n 0, 1) := by decide +kernel
theorem dX11_count_18 : decode cX11_count 18 = .ok (.getfield 88, 3) := by decide +kernel
theorem dX11_count_21 : decode cX11_count 21 = .ok (.ireturn, 1) := by decide +kernel
theorem dX11_count_22 : decode cX11_count 22 = .ok (.iload_n 1, 1) := by decide +kernel
theorem dX11_count_23 : decode cX11_count 23 = .ok (.iconst 2, 1) := by decide +kernel
theorem dX11_count_24 : decode cX11_count 24 = .ok (.if_icmp .ne 10, 3) := by decide +kernel
theorem dX11_count_27 : decode cX11_count 27 = .ok (.aload_n 0, 1) := by decide +kernel
theorem dX11_count_28 : decode cX11_count 28 = .ok (.getfield 65, 3) := by decide +kernel
theorem dX11_count_31 : decode cX11_count 31 = .ok (.goto 4, 3) := by decide +kernel
theorem dX11_count_34 : decode cX11_count 34 = .ok (.iconst (-1), 1) := by decide +kernel
theorem dX11_count_35 : decode cX11_count 35 = .ok (.ireturn, 1) := by decide +kernel
theorem dX11_count_4 : decode cX11_count 4 = .ok (.aload_n 0, 1) := by decide +kernel
theorem dX11_count_5 : decode cX11_count 5 = .ok (.getfield 23, 3) := by decide +kernel
theorem dX11_count_8 : decode cX11_count 8 = .ok (.getfield 149, 3) := by decide +kernel
theorem dX11_dead_0 : decode cX11_dead 0 = .ok (.iload_n 1, 1) := by decide +kernel
theorem dX11_dead_1 : decode cX11_dead 1 = .ok (.invokestatic 161, 3) := by decide +kernel
theorem dX11_dead_10 : decode cX11_dead 10 = .ok (.aload_n 3, 1) := by decide +kernel
theorem dX11_dead_11 : decode cX11_dead 11 = .ok (.iload_n 1, 1) := by decide +kernel
theorem dX11_dead_12 : decode cX11_dead 12 = .ok (.invokevirtual 168, 3) := by decide +kernel
theorem dX11_dead_15 : decode cX11_dead 15 = .ok (.ifCond .eq 8, 3) := by decide +kernel
theorem dX11_dead_23 : decode cX11_dead 23 = .ok (.aload_n 3, 1) := by decide +kernel
theorem dX11_dead_24 : decode cX11_dead 24 = .ok (.iload_n 2, 1) := by decide +kernel
theorem dX11_dead_25 : decode cX11_dead 25 = .ok (.invokevirtual 180, 3) := by decide +kernel
theorem dX11_dead_28 : decode cX11_dead 28 = .ok (.ireturn, 1) := by decide +kernel
theorem dX11_dead_4 : decode cX11_dead 4 = .ok (.aload_n 0, 1) := by decide +kernel
theorem dX11_dead_5 : decode cX11_dead 5 = .ok (.iload_n 1, 1) := by decide +kernel
theorem dX11_dead_6 : decode cX11_dead 6 = .ok (.invokevirtual 164, 3) := by decide +kernel
theorem dX11_dead_9 : decode cX11_dead 9 = .ok (.astore_n 3, 1) := by decide +kernel
theorem dX11_deepest_0 : decode cX11_deepest 0 = .ok (.iload_n 1, 1) := by decide +kernel
theorem dX11_deepest_1 : decode cX11_deepest 1 = .ok (.invokestatic 161, 3) := by decide +kernel
theorem dX11_deepest_10 : decode cX11_deepest 10 = .ok (.aload_n 0, 1) := by decide +kernel
theorem dX11_deepest_11 : decode cX11_deepest 11 = .ok (.iload_n 1, 1) := by decide +kernel
theorem dX11_deepest_12 : decode cX11_deepest 12 = .ok (.invokevirtual 164, 3) := by decide +kernel
theorem dX11_deepest_15 : decode cX11_deepest 15 = .ok (.astore_n 3, 1) := by decide +kernel
theorem dX11_deepest_16 : decode cX11_deepest 16 = .ok (.aload_n 3, 1) := by decide +kernel
theorem dX11_deepest_17 : decode cX11_deepest 17 = .ok (.iload_n 1, 1) := by decide +kernel
theorem dX11_deepest_18 : decode cX11_deepest 18 = .ok (.invokevirtual 168, 3) := by decide +kernel
theorem dX11_deepest_21 : decode cX11_deepest 21 = .ok (.ifCond .eq 6, 3) := by decide +kernel
theorem dX11_deepest_27 : decode cX11_deepest 27 = .ok (.aload_n 3, 1) := by decide +kernel
theorem dX11_deepest_28 : decode cX11_deepest 28 = .ok (.invokevirtual 332, 3) := by decide +kernel
theorem dX11_deepest_31 : decode cX11_deepest 31 = .ok (.istore 4, 2) := by decide +kernel
theorem dX11_deepest_33 : decode cX11_deepest 33 = .ok (.iload_n 2, 1) := by decide +kernel
theorem dX11_deepest_34 : decode cX11_deepest 34 = .ok (.ifCond .ne 12, 3) := by decide +kernel
theorem dX11_deepest_37 : decode cX11_deepest 37 = .ok (.aload_n 3, 1) := by decide +kernel
theorem dX11_deepest_38 : decode cX11_deepest 38 = .ok (.iload 4, 2) := by decide +kernel
theorem dX11_deepest_4 : decode cX11_deepest 4 = .ok (.iload_n 2, 1) := by decide +kernel
theorem dX11_deepest_40 : decode cX11_deepest 40 = .ok (.invokevirtual 209, 3) := by decide +kernel
theorem dX11_deepest_43 : decode cX11_deepest 43 = .ok (.goto 5, 3) := by decide +kernel
theorem dX11_deepest_46 : decode cX11_deepest 46 = .ok (.iload 4, 2) := by decide +kernel
theorem dX11_deepest_48 : decode cX11_deepest 48 = .ok (.ireturn, 1) := by decide +kernel
theorem dX11_deepest_5 : decode cX11_deepest 5 = .ok (.iconst 0, 1) := by decide +kernel
theorem dX11_deepest_6 : decode cX11_deepest 6 = .ok (.iconst 1, 1) := by decide +kernel
theorem dX11_deepest_7 : decode cX11_deepest 7 = .ok (.invokestatic 72, 3) := by decide +kernel
theorem dX11_explored_0 : decode cX11_explored 0 = .ok (.aload_n 0, 1) := by decide +kernel
theorem dX11_explored_1 : decode cX11_explored 1 = .ok (.getfield 370, 3) := by decide +kernel
theorem dX11_explored_11 : decode cX11_explored 11 = .ok (.dup, 1) := by decide +kernel
theorem dX11_explored_12 : decode cX11_explored 12 = .ok (.invokespecial 374, 3) := by decide +kernel
theorem dX11_explored_15 : decode cX11_explored 15 = .ok (.putfield 370, 3) := by decide +kernel
theorem dX11_explored_18 : decode cX11_explored 18 = .ok (.aload_n 0, 1) := by decide +kernel
theorem dX11_explored_19 : decode cX11_explored 19 = .ok (.getfield 370, 3) := by decide +kernel
theorem dX11_explored_22 : decode cX11_explored 22 = .ok (.getfield 375, 3) := by decide +kernel
theorem dX11_explored_25 : decode cX11_explored 25 = .ok (.aload_n 0, 1) := by decide +kernel
theorem dX11_explored_26 : decode cX11_explored 26 = .ok (.getfield 95, 3) := by decide +kernel
theorem dX11_explored_29 : decode cX11_explored 29 = .ok (.if_icmp .eq 25, 3) := by decide +kernel
theorem dX11_explored_32 : decode cX11_explored 32 = .ok (.aload_n 0, 1) := by decide +kernel
theorem dX11_explored_33 : decode cX11_explored 33 = .ok (.getfield 370, 3) := by decide +kernel
theorem dX11_explored_36 : decode cX11_explored 36 = .ok (.aload_n 0, 1) := by decide +kernel
theorem dX11_explored_37 : decode cX11_explored 37 = .ok (.getfield 54, 3) := by decide +kernel
theorem dX11_explored_4 : decode cX11_explored 4 = .ok (.ifnonnull 14, 3) := by decide +kernel
theorem dX11_explored_40 : decode cX11_explored 40 = .ok (.aload_n 0, 1) := by decide +kernel
theorem dX11_explored_41 : decode cX11_explored 41 = .ok (.getfield 23, 3) := by decide +kernel
theorem dX11_explored_44 : decode cX11_explored 44 = .ok (.getfield 129, 3) := by decide +kernel
theorem dX11_explored_47 : decode cX11_explored 47 = .ok (.aload_n 0, 1) := by decide +kernel
theorem dX11_explored_48 : decode cX11_explored 48 = .ok (.getfield 95, 3) := by decide +kernel
theorem dX11_explored_51 : decode cX11_explored 51 = .ok (.invokevirtual 376, 3) := by decide +kernel
theorem dX11_explored_54 : decode cX11_explored 54 = .ok (.aload_n 0, 1) := by decide +kernel
theorem dX11_explored_55 : decode cX11_explored 55 = .ok (.getfield 370, 3) := by decide +kernel
theorem dX11_explored_58 : decode cX11_explored 58 = .ok (.iload_n 1, 1) := by decide +kernel
theorem dX11_explored_59 : decode cX11_explored 59 = .ok (.invokevirtual 378, 3) := by decide +kernel
theorem dX11_explored_62 : decode cX11_explored 62 = .ok (.aload_n 0, 1) := by decide +kernel
theorem dX11_explored_63 : decode cX11_explored 63 = .ok (.getfield 370, 3) := by decide +kernel
theorem dX11_explored_66 : decode cX11_explored 66 = .ok (.areturn, 1) := by decide +kernel
theorem dX11_explored_7 : decode cX11_explored 7 = .ok (.aload_n 0, 1) := by decide +kernel
theorem dX11_explored_8 : decode cX11_explored 8 = .ok (.new 169, 3) := by decide +kernel
theorem dX11_fault_0 : decode cX11_fault 0 = .ok (.aload_n 0, 1) := by decide +kernel
theorem dX11_fault_1 : decode cX11_fault 1 = .ok (.getfield 61, 3) := by decide +kernel
theorem dX11_fault_4 : decode cX11_fault 4 = .ok (.ireturn, 1) := by decide +kernel
theorem dX11_feed_0 : decode cX11_feed 0 = .ok (.aload_n 0, 1) := by decide +kernel
theorem dX11_feed_1 : decode cX11_feed 1 = .ok (.getfield 65, 3) := by decide +kernel
theorem dX11_feed_10 : decode cX11_feed 10 = .ok (.if_icmp .le 5, 3) := by decide +kernel
theorem dX11_feed_15 : decode cX11_feed 15 = .ok (.aload_n 0, 1) := by decide +kernel
theorem dX11_feed_16 : decode cX11_feed 16 = .ok (.iload_n 1, 1) := by decide +kernel
theorem dX11_feed_17 : decode cX11_feed 17 = .ok (.invokevirtual 68, 3) := by decide +kernel
theorem dX11_feed_20 : decode cX11_feed 20 = .ok (.aload_n 0, 1) := by decide +kernel
theorem dX11_feed_21 : decode cX11_feed 21 = .ok (.iload_n 2, 1) := by decide +kernel
theorem dX11_feed_22 : decode cX11_feed 22 = .ok (.invokevirtual 68, 3) := by decide +kernel
theorem dX11_feed_25 : decode cX11_feed 25 = .ok (.aload_n 0, 1) := by decide +kernel
theorem dX11_feed_26 : decode cX11_feed 26 = .ok (.iload_n 3, 1) := by decide +kernel
theorem dX11_feed_27 : decode cX11_feed 27 = .ok (.invokevirtual 68, 3) := by decide +kernel
theorem dX11_feed_30 : decode cX11_feed 30 = .ok (.aload_n 0, 1) := by decide +kernel
theorem dX11_feed_31 : decode cX11_feed 31 = .ok (.iload 4, 2) := by decide +kernel
theorem dX11_feed_33 : decode cX11_feed 33 = .ok (.invokevirtual 68, 3) := by decide +kernel
theorem dX11_feed_36 : decode cX11_feed 36 = .ok (.aload_n 0, 1) := by decide +kernel
theorem dX11_feed_37 : decode cX11_feed 37 = .ok (.iload 5, 2) := by decide +kernel
theorem dX11_feed_39 : decode cX11_feed 39 = .ok (.invokevirtual 68, 3) := by decide +kernel
theorem dX11_feed_4 : decode cX11_feed 4 = .ok (.bipush 20, 2) := by decide +kernel
theorem dX11_feed_42 : decode cX11_feed 42 = .ok (.aload_n 0, 1) := by decide +kernel
theorem dX11_feed_43 : decode cX11_feed 43 = .ok (.getfield 65, 3) := by decide +kernel
theorem dX11_feed_46 : decode cX11_feed 46 = .ok (.ireturn, 1) := by decide +kernel
theorem dX11_feed_6 : decode cX11_feed 6 = .ok (.iadd, 1) := by decide +kernel
theorem dX11_feed_7 : decode cX11_feed 7 = .ok (.sipush 600, 3) := by decide +kernel
theorem dX11_fire_0 : decode cX11_fire 0 = .ok (.aload_n 0, 1) := by decide +kernel
theorem dX11_fire_1 : decode cX11_fire 1 = .ok (.iload_n 1, 1) := by decide +kernel
theorem dX11_fire_2 : decode cX11_fire 2 = .ok (.invokevirtual 104, 3) := by decide +kernel
theorem dX11_first_0 : decode cX11_first 0 = .ok (.iload_n 1, 1) := by decide +kernel
theorem dX11_first_1 : decode cX11_first 1 = .ok (.iconst 0, 1) := by decide +kernel
theorem dX11_first_10 : decode cX11_first 10 = .ok (.astore_n 2, 1) := by decide +kernel
theorem dX11_first_11 : decode cX11_first 11 = .ok (.aload_n 2, 1) := by decide +kernel
theorem dX11_first_12 : decode cX11_first 12 = .ok (.getfield 335, 3) := by decide +kernel
theorem dX11_first_15 : decode cX11_first 15 = .ok (.aload_n 0, 1) := by decide +kernel
theorem dX11_first_16 : decode cX11_first 16 = .ok (.getfield 95, 3) := by decide +kernel
theorem dX11_first_19 : decode cX11_first 19 = .ok (.if_icmp .eq 22, 3) := by decide +kernel
theorem dX11_first_2 : decode cX11_first 2 = .ok (.iconst 2, 1) := by decide +kernel
theorem dX11_first_22 : decode cX11_first 22 = .ok (.aload_n 2, 1) := by decide +kernel
theorem dX11_first_23 : decode cX11_first 23 = .ok (.aload_n 0, 1) := by decide +kernel
theorem dX11_first_24 : decode cX11_first 24 = .ok (.getfield 54, 3) := by decide +kernel
theorem dX11_first_27 : decode cX11_first 27 = .ok (.aload_n 0, 1) := by decide +kernel
theorem dX11_first_28 : decode cX11_first 28 = .ok (.getfield 23, 3) := by decide +kernel
theorem dX11_first_3 : decode cX11_first 3 = .ok (.invokestatic 72, 3) := by decide +kernel
theorem dX11_first_31 : decode cX11_first 31 = .ok (.getfield 129, 3) := by decide +kernel
theorem dX11_first_34 : decode cX11_first 34 = .ok (.aload_n 0, 1) := by decide +kernel
theorem dX11_first_35 : decode cX11_first 35 = .ok (.getfield 95, 3) := by decide +kernel
theorem dX11_first_38 : decode cX11_first 38 = .ok (.invokevirtual 336, 3) := by decide +kernel
theorem dX11_first_41 : decode cX11_first 41 = .ok (.aload_n 2, 1) := by decide +kernel
theorem dX11_first_42 : decode cX11_first 42 = .ok (.getfield 340, 3) := by decide +kernel
theorem dX11_first_45 : decode cX11_first 45 = .ok (.ifCond .eq 6, 3) := by decide +kernel
theorem dX11_first_51 : decode cX11_first 51 = .ok (.iload_n 1, 1) := by decide +kernel
theorem dX11_first_52 : decode cX11_first 52 = .ok (.ifCond .ne 8, 3) := by decide +kernel
theorem dX11_first_55 : decode cX11_first 55 = .ok (.aload_n 2, 1) := by decide +kernel
theorem dX11_first_56 : decode cX11_first 56 = .ok (.getfield 344, 3) := by decide +kernel
theorem dX11_first_59 : decode cX11_first 59 = .ok (.ireturn, 1) := by decide +kernel
theorem dX11_first_6 : decode cX11_first 6 = .ok (.aload_n 0, 1) := by decide +kernel
theorem dX11_first_60 : decode cX11_first 60 = .ok (.iload_n 1, 1) := by decide +kernel
theorem dX11_first_61 : decode cX11_first 61 = .ok (.iconst 1, 1) := by decide +kernel
theorem dX11_first_62 : decode cX11_first 62 = .ok (.if_icmp .ne 10, 3) := by decide +kernel
theorem dX11_first_65 : decode cX11_first 65 = .ok (.aload_n 2, 1) := by decide +kernel
theorem dX11_first_66 : decode cX11_first 66 = .ok (.getfield 347, 3) := by decide +kernel
theorem dX11_first_69 : decode cX11_first 69 = .ok (.goto 7, 3) := by decide +kernel
theorem dX11_first_7 : decode cX11_first 7 = .ok (.invokevirtual 314, 3) := by decide +kernel
theorem dX11_first_72 : decode cX11_first 72 = .ok (.aload_n 2, 1) := by decide +kernel
theorem dX11_first_73 : decode cX11_first 73 = .ok (.getfield 350, 3) := by decide +kernel
theorem dX11_first_76 : decode cX11_first 76 = .ok (.ireturn, 1) := by decide +kernel
theorem dX11_goal_0 : decode cX11_goal 0 = .ok (.aload_n 0, 1) := by decide +kernel
theorem dX11_goal_1 : decode cX11_goal 1 = .ok (.iload_n 1, 1) := by decide +kernel
theorem dX11_goal_2 : decode cX11_goal 2 = .ok (.invokevirtual 107, 3) := by decide +kernel
theorem dX11_grown_0 : decode cX11_grown 0 = .ok (.aload_n 0, 1) := by decide +kernel
theorem dX11_grown_1 : decode cX11_grown 1 = .ok (.getfield 391, 3) := by decide +kernel
theorem dX11_grown_11 : decode cX11_grown 11 = .ok (.dup, 1) := by decide +kernel
theorem dX11_grown_12 : decode cX11_grown 12 = .ok (.invokespecial 395, 3) := by decide +kernel
theorem dX11_grown_15 : decode cX11_grown 15 = .ok (.putfield 391, 3) := by decide +kernel
theorem dX11_grown_18 : decode cX11_grown 18 = .ok (.aload_n 0, 1) := by decide +kernel
theorem dX11_grown_19 : decode cX11_grown 19 = .ok (.getfield 391, 3) := by decide +kernel
theorem dX11_grown_22 : decode cX11_grown 22 = .ok (.getfield 396, 3) := by decide +kernel
theorem dX11_grown_25 : decode cX11_grown 25 = .ok (.aload_n 0, 1) := by decide +kernel
theorem dX11_grown_26 : decode cX11_grown 26 = .ok (.getfield 95, 3) := by decide +kernel
theorem dX11_grown_29 : decode cX11_grown 29 = .ok (.if_icmp .eq 25, 3) := by decide +kernel
theorem dX11_grown_32 : decode cX11_grown 32 = .ok (.aload_n 0, 1) := by decide +kernel
theorem dX11_grown_33 : decode cX11_grown 33 = .ok (.getfield 391, 3) := by decide +kernel
theorem dX11_grown_36 : decode cX11_grown 36 = .ok (.aload_n 0, 1) := by decide +kernel
theorem dX11_grown_37 : decode cX11_grown 37 = .ok (.getfield 54, 3) := by decide +kernel
theorem dX11_grown_4 : decode cX11_grown 4 = .ok (.ifnonnull 14, 3) := by decide +kernel
theorem dX11_grown_40 : decode cX11_grown 40 = .ok (.aload_n 0, 1) := by decide +kernel
theorem dX11_grown_41 : decode cX11_grown 41 = .ok (.getfield 23, 3) := by decide +kernel
theorem dX11_grown_44 : decode cX11_grown 44 = .ok (.getfield 129, 3) := by decide +kernel
theorem dX11_grown_47 : decode cX11_grown 47 = .ok (.aload_n 0, 1) := by decide +kernel
theorem dX11_grown_48 : decode cX11_grown 48 = .ok (.getfield 95, 3) := by decide +kernel
theorem dX11_grown_51 : decode cX11_grown 51 = .ok (.invokevirtual 397, 3) := by decide +kernel
theorem dX11_grown_54 : decode cX11_grown 54 = .ok (.aload_n 0, 1) := by decide +kernel
theorem dX11_grown_55 : decode cX11_grown 55 = .ok (.getfield 391, 3) := by decide +kernel
theorem dX11_grown_58 : decode cX11_grown 58 = .ok (.areturn, 1) := by decide +kernel
theorem dX11_grown_7 : decode cX11_grown 7 = .ok (.aload_n 0, 1) := by decide +kernel
theorem dX11_grown_8 : decode cX11_grown 8 = .ok (.new 244, 3) := by decide +kernel
theorem dX11_growth_0 : decode cX11_growth 0 = .ok (.aload_n 0, 1) := by decide +kernel
theorem dX11_growth_1 : decode cX11_growth 1 = .ok (.invokevirtual 239, 3) := by decide +kernel
theorem dX11_growth_12 : decode cX11_growth 12 = .ok (.if_icmp .le 8, 3) := by decide +kernel
theorem dX11_growth_20 : decode cX11_growth 20 = .ok (.iload_n 1, 1) := by decide +kernel
theorem dX11_growth_21 : decode cX11_growth 21 = .ok (.ireturn, 1) := by decide +kernel
theorem dX11_growth_4 : decode cX11_growth 4 = .ok (.invokevirtual 243, 3) := by decide +kernel
theorem dX11_growth_7 : decode cX11_growth 7 = .ok (.istore_n 1, 1) := by decide +kernel
theorem dX11_growth_8 : decode cX11_growth 8 = .ok (.iload_n 1, 1) := by decide +kernel
theorem dX11_growth_9 : decode cX11_growth 9 = .ok (.sipush 1000, 3) := by decide +kernel
theorem dX11_home_0 : decode cX11_home 0 = .ok (.iload_n 1, 1) := by decide +kernel
theorem dX11_home_1 : decode cX11_home 1 = .ok (.invokestatic 161, 3) := by decide +kernel
theorem dX11_home_10 : decode cX11_home 10 = .ok (.aload_n 0, 1) := by decide +kernel
theorem dX11_home_11 : decode cX11_home 11 = .ok (.iload_n 1, 1) := by decide +kernel
theorem dX11_home_12 : decode cX11_home 12 = .ok (.invokevirtual 164, 3) := by decide +kernel
theorem dX11_home_15 : decode cX11_home 15 = .ok (.astore_n 3, 1) := by decide +kernel
theorem dX11_home_16 : decode cX11_home 16 = .ok (.aload_n 3, 1) := by decide +kernel
theorem dX11_home_17 : decode cX11_home 17 = .ok (.iload_n 1, 1) := by decide +kernel
theorem dX11_home_18 : decode cX11_home 18 = .ok (.invokevirtual 168, 3) := by decide +kernel
theorem dX11_home_21 : decode cX11_home 21 = .ok (.ifCond .eq 6, 3) := by decide +kernel
theorem dX11_home_27 : decode cX11_home 27 = .ok (.aload_n 0, 1) := by decide +kernel
theorem dX11_home_28 : decode cX11_home 28 = .ok (.aload_n 3, 1) := by decide +kernel
theorem dX11_home_29 : decode cX11_home 29 = .ok (.invokevirtual 184, 3) := by decide +kernel
theorem dX11_home_32 : decode cX11_home 32 = .ok (.astore 4, 2) := by decide +kernel
theorem dX11_home_34 : decode cX11_home 34 = .ok (.iload_n 2, 1) := by decide +kernel
theorem dX11_home_35 : decode cX11_home 35 = .ok (.ifCond .ne 9, 3) := by decide +kernel
theorem dX11_home_38 : decode cX11_home 38 = .ok (.aload 4, 2) := by decide +kernel
theorem dX11_home_4 : decode cX11_home 4 = .ok (.iload_n 2, 1) := by decide +kernel
theorem dX11_home_40 : decode cX11_home 40 = .ok (.invokevirtual 193, 3) := by decide +kernel
theorem dX11_home_43 : decode cX11_home 43 = .ok (.ireturn, 1) := by decide +kernel
theorem dX11_home_44 : decode cX11_home 44 = .ok (.iload_n 2, 1) := by decide +kernel
theorem dX11_home_45 : decode cX11_home 45 = .ok (.iconst 1, 1) := by decide +kernel
theorem dX11_home_46 : decode cX11_home 46 = .ok (.if_icmp .ne 21, 3) := by decide +kernel
theorem dX11_home_49 : decode cX11_home 49 = .ok (.aload 4, 2) := by decide +kernel
theorem dX11_home_5 : decode cX11_home 5 = .ok (.iconst 0, 1) := by decide +kernel
theorem dX11_home_51 : decode cX11_home 51 = .ok (.invokevirtual 193, 3) := by decide +kernel
theorem dX11_home_54 : decode cX11_home 54 = .ok (.aload_n 3, 1) := by decide +kernel
theorem dX11_home_55 : decode cX11_home 55 = .ok (.invokevirtual 173, 3) := by decide +kernel
theorem dX11_home_58 : decode cX11_home 58 = .ok (.if_icmp .ne 7, 3) := by decide +kernel
theorem dX11_home_6 : decode cX11_home 6 = .ok (.iconst 2, 1) := by decide +kernel
theorem dX11_home_61 : decode cX11_home 61 = .ok (.iconst 1, 1) := by decide +kernel
theorem dX11_home_62 : decode cX11_home 62 = .ok (.goto 4, 3) := by decide +kernel
theorem dX11_home_66 : decode cX11_home 66 = .ok (.ireturn, 1) := by decide +kernel
theorem dX11_home_67 : decode cX11_home 67 = .ok (.aload 4, 2) := by decide +kernel
theorem dX11_home_69 : decode cX11_home 69 = .ok (.invokevirtual 196, 3) := by decide +kernel
theorem dX11_home_7 : decode cX11_home 7 = .ok (.invokestatic 72, 3) := by decide +kernel
theorem dX11_home_72 : decode cX11_home 72 = .ok (.ireturn, 1) := by decide +kernel
theorem dX11_image_0 : decode cX11_image 0 = .ok (.aload_n 0, 1) := by decide +kernel
theorem dX11_image_1 : decode cX11_image 1 = .ok (.getfield 88, 3) := by decide +kernel
theorem dX11_image_10 : decode cX11_image 10 = .ok (.aload_n 0, 1) := by decide +kernel
theorem dX11_image_11 : decode cX11_image 11 = .ok (.getfield 27, 3) := by decide +kernel
theorem dX11_image_14 : decode cX11_image 14 = .ok (.aload_n 0, 1) := by decide +kernel
theorem dX11_image_15 : decode cX11_image 15 = .ok (.getfield 88, 3) := by decide +kernel
theorem dX11_image_18 : decode cX11_image 18 = .ok (.aaload, 1) := by decide +kernel
theorem dX11_image_19 : decode cX11_image 19 = .ok (.aload_n 0, 1) := by decide +kernel
theorem dX11_image_20 : decode cX11_image 20 = .ok (.getfield 23, 3) := by decide +kernel
theorem dX11_image_23 : decode cX11_image 23 = .ok (.invokevirtual 356, 3) := by decide +kernel
theorem dX11_image_26 : decode cX11_image 26 = .ok (.aload_n 0, 1) := by decide +kernel
theorem dX11_image_27 : decode cX11_image 27 = .ok (.dup, 1) := by decide +kernel
theorem dX11_image_28 : decode cX11_image 28 = .ok (.getfield 88, 3) := by decide +kernel
theorem dX11_image_31 : decode cX11_image 31 = .ok (.iconst 1, 1) := by decide +kernel
theorem dX11_image_32 : decode cX11_image 32 = .ok (.iadd, 1) := by decide +kernel
theorem dX11_image_33 : decode cX11_image 33 = .ok (.putfield 88, 3) := by decide +kernel
theorem dX11_image_36 : decode cX11_image 36 = .ok (.aload_n 0, 1) := by decide +kernel
theorem dX11_image_37 : decode cX11_image 37 = .ok (.getfield 88, 3) := by decide +kernel
theorem dX11_image_4 : decode cX11_image 4 = .ok (.iconst 3, 1) := by decide +kernel
theorem dX11_image_40 : decode cX11_image 40 = .ok (.ireturn, 1) := by decide +kernel
theorem dX11_image_5 : decode cX11_image 5 = .ok (.if_icmp .lt 5, 3) := by decide +kernel
theorem dX11_init_0 : decode cX11_init 0 = .ok (.aload_n 0, 1) := by decide +kernel
theorem dX11_init_1 : decode cX11_init 1 = .ok (.invokespecial 3, 3) := by decide +kernel
theorem dX11_init_10 : decode cX11_init 10 = .ok (.putfield 9, 3) := by decide +kernel
theorem dX11_init_100 : decode cX11_init 100 = .ok (.invokespecial 53, 3) := by decide +kernel
theorem dX11_init_103 : decode cX11_init 103 = .ok (.putfield 58, 3) := by decide +kernel
theorem dX11_init_106 : decode cX11_init 106 = .ok (.aload_n 0, 1) := by decide +kernel
theorem dX11_init_107 : decode cX11_init 107 = .ok (.iconst (-1), 1) := by decide +kernel
theorem dX11_init_108 : decode cX11_init 108 = .ok (.putfield 61, 3) := by decide +kernel
theorem dX11_init_111 : decode cX11_init 111 = .ok (.iconst 0, 1) := by decide +kernel
theorem dX11_init_112 : decode cX11_init 112 = .ok (.istore_n 1, 1) := by decide +kernel
theorem dX11_init_113 : decode cX11_init 113 = .ok (.iload_n 1, 1) := by decide +kernel
theorem dX11_init_114 : decode cX11_init 114 = .ok (.iconst 3, 1) := by decide +kernel
theorem dX11_init_115 : decode cX11_init 115 = .ok (.if_icmp .ge 22, 3) := by decide +kernel
theorem dX11_init_118 : decode cX11_init 118 = .ok (.aload_n 0, 1) := by decide +kernel
theorem dX11_init_119 : decode cX11_init 119 = .ok (.getfield 27, 3) := by decide +kernel
theorem dX11_init_122 : decode cX11_init 122 = .ok (.iload_n 1, 1) := by decide +kernel
theorem dX11_init_123 : decode cX11_init 123 = .ok (.new 20, 3) := by decide +kernel
theorem dX11_init_126 : decode cX11_init 126 = .ok (.dup, 1) := by decide +kernel
theorem dX11_init_127 : decode cX11_init 127 = .ok (.invokespecial 22, 3) := by decide +kernel
theorem dX11_init_13 : decode cX11_init 13 = .ok (.aload_n 0, 1) := by decide +kernel
theorem dX11_init_130 : decode cX11_init 130 = .ok (.aastore, 1) := by decide +kernel
theorem dX11_init_131 : decode cX11_init 131 = .ok (.iinc 1 1, 3) := by decide +kernel
theorem dX11_init_134 : decode cX11_init 134 = .ok (.goto (-21), 3) := by decide +kernel
theorem dX11_init_137 : decode cX11_init 137 = .ok (.return_, 1) := by decide +kernel
theorem dX11_init_14 : decode cX11_init 14 = .ok (.new 13, 3) := by decide +kernel
theorem dX11_init_17 : decode cX11_init 17 = .ok (.dup, 1) := by decide +kernel
theorem dX11_init_18 : decode cX11_init 18 = .ok (.invokespecial 15, 3) := by decide +kernel
theorem dX11_init_21 : decode cX11_init 21 = .ok (.putfield 16, 3) := by decide +kernel
theorem dX11_init_24 : decode cX11_init 24 = .ok (.aload_n 0, 1) := by decide +kernel
theorem dX11_init_25 : decode cX11_init 25 = .ok (.new 20, 3) := by decide +kernel
theorem dX11_init_28 : decode cX11_init 28 = .ok (.dup, 1) := by decide +kernel
theorem dX11_init_29 : decode cX11_init 29 = .ok (.invokespecial 22, 3) := by decide +kernel
theorem dX11_init_32 : decode cX11_init 32 = .ok (.putfield 23, 3) := by decide +kernel
theorem dX11_init_35 : decode cX11_init 35 = .ok (.aload_n 0, 1) := by decide +kernel
theorem dX11_init_36 : decode cX11_init 36 = .ok (.iconst 3, 1) := by decide +kernel
theorem dX11_init_37 : decode cX11_init 37 = .ok (.anewarray 20, 3) := by decide +kernel
theorem dX11_init_4 : decode cX11_init 4 = .ok (.aload_n 0, 1) := by decide +kernel
theorem dX11_init_40 : decode cX11_init 40 = .ok (.putfield 27, 3) := by decide +kernel
theorem dX11_init_43 : decode cX11_init 43 = .ok (.aload_n 0, 1) := by decide +kernel
theorem dX11_init_44 : decode cX11_init 44 = .ok (.new 31, 3) := by decide +kernel
theorem dX11_init_47 : decode cX11_init 47 = .ok (.dup, 1) := by decide +kernel
theorem dX11_init_48 : decode cX11_init 48 = .ok (.invokespecial 33, 3) := by decide +kernel
theorem dX11_init_5 : decode cX11_init 5 = .ok (.sipush 600, 3) := by decide +kernel
theorem dX11_init_51 : decode cX11_init 51 = .ok (.putfield 34, 3) := by decide +kernel
theorem dX11_init_54 : decode cX11_init 54 = .ok (.aload_n 0, 1) := by decide +kernel
theorem dX11_init_55 : decode cX11_init 55 = .ok (.new 31, 3) := by decide +kernel
theorem dX11_init_58 : decode cX11_init 58 = .ok (.dup, 1) := by decide +kernel
theorem dX11_init_59 : decode cX11_init 59 = .ok (.invokespecial 33, 3) := by decide +kernel
theorem dX11_init_62 : decode cX11_init 62 = .ok (.putfield 38, 3) := by decide +kernel
theorem dX11_init_65 : decode cX11_init 65 = .ok (.aload_n 0, 1) := by decide +kernel
theorem dX11_init_66 : decode cX11_init 66 = .ok (.new 41, 3) := by decide +kernel
theorem dX11_init_69 : decode cX11_init 69 = .ok (.dup, 1) := by decide +kernel
theorem dX11_init_70 : decode cX11_init 70 = .ok (.invokespecial 43, 3) := by decide +kernel
theorem dX11_init_73 : decode cX11_init 73 = .ok (.putfield 44, 3) := by decide +kernel
theorem dX11_init_76 : decode cX11_init 76 = .ok (.aload_n 0, 1) := by decide +kernel
theorem dX11_init_77 : decode cX11_init 77 = .ok (.bipush 8, 2) := by decide +kernel
theorem dX11_init_79 : decode cX11_init 79 = .ok (.newarray .int, 2) := by decide +kernel
theorem dX11_init_8 : decode cX11_init 8 = .ok (.newarray .int, 2) := by decide +kernel
theorem dX11_init_81 : decode cX11_init 81 = .ok (.putfield 48, 3) := by decide +kernel
theorem dX11_init_84 : decode cX11_init 84 = .ok (.aload_n 0, 1) := by decide +kernel
theorem dX11_init_85 : decode cX11_init 85 = .ok (.new 51, 3) := by decide +kernel
theorem dX11_init_88 : decode cX11_init 88 = .ok (.dup, 1) := by decide +kernel
theorem dX11_init_89 : decode cX11_init 89 = .ok (.invokespecial 53, 3) := by decide +kernel
theorem dX11_init_92 : decode cX11_init 92 = .ok (.putfield 54, 3) := by decide +kernel
theorem dX11_init_95 : decode cX11_init 95 = .ok (.aload_n 0, 1) := by decide +kernel
theorem dX11_init_96 : decode cX11_init 96 = .ok (.new 51, 3) := by decide +kernel
theorem dX11_init_99 : decode cX11_init 99 = .ok (.dup, 1) := by decide +kernel
theorem dX11_is_0 : decode cX11_is 0 = .ok (.iload_n 1, 1) := by decide +kernel
theorem dX11_is_1 : decode cX11_is 1 = .ok (.iconst 1, 1) := by decide +kernel
theorem dX11_is_10 : decode cX11_is 10 = .ok (.ishl, 1) := by decide +kernel
theorem dX11_is_11 : decode cX11_is 11 = .ok (.iconst 1, 1) := by decide +kernel
theorem dX11_is_12 : decode cX11_is 12 = .ok (.isub, 1) := by decide +kernel
theorem dX11_is_13 : decode cX11_is 13 = .ok (.invokestatic 72, 3) := by decide +kernel
theorem dX11_is_2 : decode cX11_is 2 = .ok (.iconst 1, 1) := by decide +kernel
theorem dX11_is_3 : decode cX11_is 3 = .ok (.aload_n 0, 1) := by decide +kernel
theorem dX11_is_4 : decode cX11_is 4 = .ok (.getfield 54, 3) := by decide +kernel
theorem dX11_is_7 : decode cX11_is 7 = .ok (.getfield 98, 3) := by decide +kernel
theorem dX11_judge_0 : decode cX11_judge 0 = .ok (.aload_n 0, 1) := by decide +kernel
theorem dX11_judge_1 : decode cX11_judge 1 = .ok (.getfield 23, 3) := by decide +kernel
theorem dX11_judge_12 : decode cX11_judge 12 = .ok (.iconst 0, 1) := by decide +kernel
theorem dX11_judge_13 : decode cX11_judge 13 = .ok (.bipush 8, 2) := by decide +kernel
theorem dX11_judge_15 : decode cX11_judge 15 = .ok (.invokestatic 155, 3) := by decide +kernel
theorem dX11_judge_18 : decode cX11_judge 18 = .ok (.iconst 0, 1) := by decide +kernel
theorem dX11_judge_19 : decode cX11_judge 19 = .ok (.istore_n 1, 1) := by decide +kernel
theorem dX11_judge_20 : decode cX11_judge 20 = .ok (.iload_n 1, 1) := by decide +kernel
theorem dX11_judge_21 : decode cX11_judge 21 = .ok (.aload_n 0, 1) := by decide +kernel
theorem dX11_judge_22 : decode cX11_judge 22 = .ok (.getfield 23, 3) := by decide +kernel
theorem dX11_judge_25 : decode cX11_judge 25 = .ok (.getfield 149, 3) := by decide +kernel
theorem dX11_judge_28 : decode cX11_judge 28 = .ok (.if_icmp .ge 61, 3) := by decide +kernel
theorem dX11_judge_4 : decode cX11_judge 4 = .ok (.getfield 129, 3) := by decide +kernel
theorem dX11_judge_7 : decode cX11_judge 7 = .ok (.iconst 0, 1) := by decide +kernel
theorem dX11_judge_8 : decode cX11_judge 8 = .ok (.aload_n 0, 1) := by decide +kernel
theorem dX11_judge_89 : decode cX11_judge 89 = .ok (.iconst (-1), 1) := by decide +kernel
theorem dX11_judge_9 : decode cX11_judge 9 = .ok (.getfield 48, 3) := by decide +kernel
theorem dX11_judge_90 : decode cX11_judge 90 = .ok (.ireturn, 1) := by decide +kernel
theorem dX11_kept_0 : decode cX11_kept 0 = .ok (.aload_n 0, 1) := by decide +kernel
theorem dX11_kept_1 : decode cX11_kept 1 = .ok (.iload_n 2, 1) := by decide +kernel
theorem dX11_kept_2 : decode cX11_kept 2 = .ok (.invokevirtual 107, 3) := by decide +kernel
theorem dX11_lives_0 : decode cX11_lives 0 = .ok (.aload_n 0, 1) := by decide +kernel
theorem dX11_lives_1 : decode cX11_lives 1 = .ok (.iload_n 2, 1) := by decide +kernel
theorem dX11_lives_2 : decode cX11_lives 2 = .ok (.invokevirtual 104, 3) := by decide +kernel
theorem dX11_looks_0 : decode cX11_looks 0 = .ok (.aload_n 0, 1) := by decide +kernel
theorem dX11_looks_1 : decode cX11_looks 1 = .ok (.getfield 54, 3) := by decide +kernel
theorem dX11_looks_4 : decode cX11_looks 4 = .ok (.invokestatic 266, 3) := by decide +kernel
theorem dX11_looks_7 : decode cX11_looks 7 = .ok (.ireturn, 1) := by decide +kernel
theorem dX11_lot_0 : decode cX11_lot 0 = .ok (.aload_n 0, 1) := by decide +kernel
theorem dX11_lot_1 : decode cX11_lot 1 = .ok (.iload_n 3, 1) := by decide +kernel
theorem dX11_lot_2 : decode cX11_lot 2 = .ok (.invokevirtual 107, 3) := by decide +kernel
theorem dX11_lots_0 : decode cX11_lots 0 = .ok (.iload_n 1, 1) := by decide +kernel
theorem dX11_lots_1 : decode cX11_lots 1 = .ok (.iconst 1, 1) := by decide +kernel
theorem dX11_lots_12 : decode cX11_lots 12 = .ok (.aload_n 0, 1) := by decide +kernel
theorem dX11_lots_13 : decode cX11_lots 13 = .ok (.getfield 54, 3) := by decide +kernel
theorem dX11_lots_16 : decode cX11_lots 16 = .ok (.aload_n 0, 1) := by decide +kernel
theorem dX11_lots_17 : decode cX11_lots 17 = .ok (.getfield 23, 3) := by decide +kernel
theorem dX11_lots_2 : decode cX11_lots 2 = .ok (.sipush 1000, 3) := by decide +kernel
theorem dX11_lots_20 : decode cX11_lots 20 = .ok (.getfield 129, 3) := by decide +kernel
theorem dX11_lots_23 : decode cX11_lots 23 = .ok (.iload_n 1, 1) := by decide +kernel
theorem dX11_lots_24 : decode cX11_lots 24 = .ok (.iload_n 2, 1) := by decide +kernel
theorem dX11_lots_25 : decode cX11_lots 25 = .ok (.invokevirtual 318, 3) := by decide +kernel
theorem dX11_lots_28 : decode cX11_lots 28 = .ok (.ireturn, 1) := by decide +kernel
theorem dX11_lots_5 : decode cX11_lots 5 = .ok (.invokestatic 72, 3) := by decide +kernel
theorem dX11_lots_8 : decode cX11_lots 8 = .ok (.aload_n 0, 1) := by decide +kernel
theorem dX11_lots_9 : decode cX11_lots 9 = .ok (.invokevirtual 314, 3) := by decide +kernel
theorem dX11_marks_0 : decode cX11_marks 0 = .ok (.aload_n 0, 1) := by decide +kernel
theorem dX11_marks_1 : decode cX11_marks 1 = .ok (.iload_n 1, 1) := by decide +kernel
theorem dX11_marks_2 : decode cX11_marks 2 = .ok (.invokevirtual 107, 3) := by decide +kernel
theorem dX11_may_0 : decode cX11_may 0 = .ok (.aload_n 0, 1) := by decide +kernel
theorem dX11_may_1 : decode cX11_may 1 = .ok (.iload_n 1, 1) := by decide +kernel
theorem dX11_may_2 : decode cX11_may 2 = .ok (.invokevirtual 104, 3) := by decide +kernel
theorem dX11_most_0 : decode cX11_most 0 = .ok (.aload_n 0, 1) := by decide +kernel
theorem dX11_most_1 : decode cX11_most 1 = .ok (.iload_n 2, 1) := by decide +kernel
theorem dX11_most_2 : decode cX11_most 2 = .ok (.invokevirtual 107, 3) := by decide +kernel
theorem dX11_needAct_0 : decode cX11_needAct 0 = .ok (.iload_n 1, 1) := by decide +kernel
theorem dX11_needAct_1 : decode cX11_needAct 1 = .ok (.ifCond .lt 14, 3) := by decide +kernel
theorem dX11_needAct_12 : decode cX11_needAct 12 = .ok (.if_icmp .lt 14, 3) := by decide +kernel
theorem dX11_needAct_15 : decode cX11_needAct 15 = .ok (.new 360, 3) := by decide +kernel
theorem dX11_needAct_18 : decode cX11_needAct 18 = .ok (.dup, 1) := by decide +kernel
theorem dX11_needAct_19 : decode cX11_needAct 19 = .ok (.ldc_w 362, 3) := by decide +kernel
theorem dX11_needAct_22 : decode cX11_needAct 22 = .ok (.invokespecial 364, 3) := by decide +kernel
theorem dX11_needAct_25 : decode cX11_needAct 25 = .ok (.athrow, 1) := by decide +kernel
theorem dX11_needAct_4 : decode cX11_needAct 4 = .ok (.iload_n 1, 1) := by decide +kernel
theorem dX11_needAct_5 : decode cX11_needAct 5 = .ok (.aload_n 0, 1) := by decide +kernel
theorem dX11_needAct_6 : decode cX11_needAct 6 = .ok (.getfield 54, 3) := by decide +kernel
theorem dX11_needAct_9 : decode cX11_needAct 9 = .ok (.getfield 101, 3) := by decide +kernel
theorem dX11_needMost_0 : decode cX11_needMost 0 = .ok (.iload_n 0, 1) := by decide +kernel
theorem dX11_needMost_1 : decode cX11_needMost 1 = .ok (.iconst 1, 1) := by decide +kernel
theorem dX11_needMost_2 : decode cX11_needMost 2 = .ok (.sipush 3000, 3) := by decide +kernel
theorem dX11_needMost_5 : decode cX11_needMost 5 = .ok (.invokestatic 72, 3) := by decide +kernel
theorem dX11_needMost_8 : decode cX11_needMost 8 = .ok (.return_, 1) := by decide +kernel
theorem dX11_needPlace_0 : decode cX11_needPlace 0 = .ok (.iload_n 1, 1) := by decide +kernel
theorem dX11_needPlace_1 : decode cX11_needPlace 1 = .ok (.ifCond .lt 14, 3) := by decide +kernel
theorem dX11_needPlace_12 : decode cX11_needPlace 12 = .ok (.if_icmp .lt 14, 3) := by decide +kernel
theorem dX11_needPlace_15 : decode cX11_needPlace 15 = .ok (.new 365, 3) := by decide +kernel
theorem dX11_needPlace_18 : decode cX11_needPlace 18 = .ok (.dup, 1) := by decide +kernel
theorem dX11_needPlace_19 : decode cX11_needPlace 19 = .ok (.ldc_w 367, 3) := by decide +kernel
theorem dX11_needPlace_22 : decode cX11_needPlace 22 = .ok (.invokespecial 369, 3) := by decide +kernel
theorem dX11_needPlace_25 : decode cX11_needPlace 25 = .ok (.athrow, 1) := by decide +kernel
theorem dX11_needPlace_4 : decode cX11_needPlace 4 = .ok (.iload_n 1, 1) := by decide +kernel
theorem dX11_needPlace_5 : decode cX11_needPlace 5 = .ok (.aload_n 0, 1) := by decide +kernel
theorem dX11_needPlace_6 : decode cX11_needPlace 6 = .ok (.getfield 54, 3) := by decide +kernel
theorem dX11_needPlace_9 : decode cX11_needPlace 9 = .ok (.getfield 98, 3) := by decide +kernel
theorem dX11_needWithin_0 : decode cX11_needWithin 0 = .ok (.iload_n 0, 1) := by decide +kernel
theorem dX11_needWithin_1 : decode cX11_needWithin 1 = .ok (.iload_n 1, 1) := by decide +kernel
theorem dX11_needWithin_10 : decode cX11_needWithin 10 = .ok (.new 247, 3) := by decide +kernel
theorem dX11_needWithin_13 : decode cX11_needWithin 13 = .ok (.dup, 1) := by decide +kernel
theorem dX11_needWithin_14 : decode cX11_needWithin 14 = .ok (.ldc 249, 2) := by decide +kernel
theorem dX11_needWithin_16 : decode cX11_needWithin 16 = .ok (.invokespecial 251, 3) := by decide +kernel
theorem dX11_needWithin_19 : decode cX11_needWithin 19 = .ok (.athrow, 1) := by decide +kernel
theorem dX11_needWithin_2 : decode cX11_needWithin 2 = .ok (.if_icmp .lt 8, 3) := by decide +kernel
theorem dX11_needWithin_20 : decode cX11_needWithin 20 = .ok (.return_, 1) := by decide +kernel
theorem dX11_needWithin_5 : decode cX11_needWithin 5 = .ok (.iload_n 0, 1) := by decide +kernel
theorem dX11_needWithin_6 : decode cX11_needWithin 6 = .ok (.iload_n 2, 1) := by decide +kernel
theorem dX11_needWithin_7 : decode cX11_needWithin 7 = .ok (.if_icmp .le 13, 3) := by decide +kernel
theorem dX11_needed_0 : decode cX11_needed 0 = .ok (.aload_n 0, 1) := by decide +kernel
theorem dX11_needed_1 : decode cX11_needed 1 = .ok (.iload_n 3, 1) := by decide +kernel
theorem dX11_needed_2 : decode cX11_needed 2 = .ok (.invokevirtual 104, 3) := by decide +kernel
theorem dX11_net_0 : decode cX11_net 0 = .ok (.iload_n 1, 1) := by decide +kernel
theorem dX11_net_1 : decode cX11_net 1 = .ok (.iconst 0, 1) := by decide +kernel
theorem dX11_net_10 : decode cX11_net 10 = .ok (.iconst 0, 1) := by decide +kernel
theorem dX11_net_11 : decode cX11_net 11 = .ok (.putfield 65, 3) := by decide +kernel
theorem dX11_net_14 : decode cX11_net 14 = .ok (.aload_n 0, 1) := by decide +kernel
theorem dX11_net_15 : decode cX11_net 15 = .ok (.getfield 16, 3) := by decide +kernel
theorem dX11_net_18 : decode cX11_net 18 = .ok (.aload_n 0, 1) := by decide +kernel
theorem dX11_net_19 : decode cX11_net 19 = .ok (.getfield 9, 3) := by decide +kernel
theorem dX11_net_2 : decode cX11_net 2 = .ok (.aload_n 0, 1) := by decide +kernel
theorem dX11_net_22 : decode cX11_net 22 = .ok (.iload_n 1, 1) := by decide +kernel
theorem dX11_net_23 : decode cX11_net 23 = .ok (.aload_n 0, 1) := by decide +kernel
theorem dX11_net_24 : decode cX11_net 24 = .ok (.getfield 58, 3) := by decide +kernel
theorem dX11_net_27 : decode cX11_net 27 = .ok (.invokevirtual 76, 3) := by decide +kernel
theorem dX11_net_3 : decode cX11_net 3 = .ok (.getfield 65, 3) := by decide +kernel
theorem dX11_net_30 : decode cX11_net 30 = .ok (.istore_n 2, 1) := by decide +kernel
theorem dX11_net_31 : decode cX11_net 31 = .ok (.aload_n 0, 1) := by decide +kernel
theorem dX11_net_32 : decode cX11_net 32 = .ok (.aload_n 0, 1) := by decide +kernel
theorem dX11_net_33 : decode cX11_net 33 = .ok (.getfield 16, 3) := by decide +kernel
theorem dX11_net_36 : decode cX11_net 36 = .ok (.getfield 80, 3) := by decide +kernel
theorem dX11_net_39 : decode cX11_net 39 = .ok (.putfield 61, 3) := by decide +kernel
theorem dX11_net_42 : decode cX11_net 42 = .ok (.iload_n 2, 1) := by decide +kernel
theorem dX11_net_43 : decode cX11_net 43 = .ok (.ifCond .eq 8, 3) := by decide +kernel
theorem dX11_net_46 : decode cX11_net 46 = .ok (.iload_n 2, 1) := by decide +kernel
theorem dX11_net_47 : decode cX11_net 47 = .ok (.bipush 10, 2) := by decide +kernel
theorem dX11_net_49 : decode cX11_net 49 = .ok (.isub, 1) := by decide +kernel
theorem dX11_net_50 : decode cX11_net 50 = .ok (.ireturn, 1) := by decide +kernel
theorem dX11_net_6 : decode cX11_net 6 = .ok (.invokestatic 72, 3) := by decide +kernel
theorem dX11_net_9 : decode cX11_net 9 = .ok (.aload_n 0, 1) := by decide +kernel
theorem dX11_never_0 : decode cX11_never 0 = .ok (.aload_n 0, 1) := by decide +kernel
theorem dX11_never_1 : decode cX11_never 1 = .ok (.getfield 34, 3) := by decide +kernel
theorem dX11_never_11 : decode cX11_never 11 = .ok (.aload_n 0, 1) := by decide +kernel
theorem dX11_never_12 : decode cX11_never 12 = .ok (.getfield 23, 3) := by decide +kernel
theorem dX11_never_15 : decode cX11_never 15 = .ok (.getfield 202, 3) := by decide +kernel
theorem dX11_never_18 : decode cX11_never 18 = .ok (.invokevirtual 235, 3) := by decide +kernel
theorem dX11_never_21 : decode cX11_never 21 = .ok (.ifCond .ne 7, 3) := by decide +kernel
theorem dX11_never_28 : decode cX11_never 28 = .ok (.iconst 0, 1) := by decide +kernel
theorem dX11_never_29 : decode cX11_never 29 = .ok (.ireturn, 1) := by decide +kernel
theorem dX11_never_4 : decode cX11_never 4 = .ok (.aload_n 0, 1) := by decide +kernel
theorem dX11_never_5 : decode cX11_never 5 = .ok (.getfield 23, 3) := by decide +kernel
theorem dX11_never_8 : decode cX11_never 8 = .ok (.getfield 129, 3) := by decide +kernel
theorem dX11_often_0 : decode cX11_often 0 = .ok (.aload_n 0, 1) := by decide +kernel
theorem dX11_often_1 : decode cX11_often 1 = .ok (.iload_n 2, 1) := by decide +kernel
theorem dX11_often_2 : decode cX11_often 2 = .ok (.invokevirtual 104, 3) := by decide +kernel
theorem dX11_once_0 : decode cX11_once 0 = .ok (.aload_n 0, 1) := by decide +kernel
theorem dX11_once_1 : decode cX11_once 1 = .ok (.getfield 54, 3) := by decide +kernel
theorem dX11_once_11 : decode cX11_once 11 = .ok (.invokevirtual 270, 3) := by decide +kernel
theorem dX11_once_14 : decode cX11_once 14 = .ok (.istore_n 1, 1) := by decide +kernel
theorem dX11_once_15 : decode cX11_once 15 = .ok (.iconst 0, 1) := by decide +kernel
theorem dX11_once_16 : decode cX11_once 16 = .ok (.istore_n 2, 1) := by decide +kernel
theorem dX11_once_17 : decode cX11_once 17 = .ok (.iconst 1, 1) := by decide +kernel
theorem dX11_once_18 : decode cX11_once 18 = .ok (.istore_n 3, 1) := by decide +kernel
theorem dX11_once_19 : decode cX11_once 19 = .ok (.iload_n 3, 1) := by decide +kernel
theorem dX11_once_20 : decode cX11_once 20 = .ok (.iconst 1, 1) := by decide +kernel
theorem dX11_once_21 : decode cX11_once 21 = .ok (.aload_n 0, 1) := by decide +kernel
theorem dX11_once_22 : decode cX11_once 22 = .ok (.getfield 54, 3) := by decide +kernel
theorem dX11_once_25 : decode cX11_once 25 = .ok (.getfield 101, 3) := by decide +kernel
theorem dX11_once_28 : decode cX11_once 28 = .ok (.ishl, 1) := by decide +kernel
theorem dX11_once_29 : decode cX11_once 29 = .ok (.if_icmp .ge 60, 3) := by decide +kernel
theorem dX11_once_4 : decode cX11_once 4 = .ok (.aload_n 0, 1) := by decide +kernel
theorem dX11_once_5 : decode cX11_once 5 = .ok (.getfield 23, 3) := by decide +kernel
theorem dX11_once_8 : decode cX11_once 8 = .ok (.getfield 129, 3) := by decide +kernel
theorem dX11_once_89 : decode cX11_once 89 = .ok (.iload_n 2, 1) := by decide +kernel
theorem dX11_once_90 : decode cX11_once 90 = .ok (.ireturn, 1) := by decide +kernel
theorem dX11_period_0 : decode cX11_period 0 = .ok (.iload_n 1, 1) := by decide +kernel
theorem dX11_period_1 : decode cX11_period 1 = .ok (.iconst 0, 1) := by decide +kernel
theorem dX11_period_10 : decode cX11_period 10 = .ok (.invokevirtual 293, 3) := by decide +kernel
theorem dX11_period_13 : decode cX11_period 13 = .ok (.astore_n 2, 1) := by decide +kernel
theorem dX11_period_14 : decode cX11_period 14 = .ok (.iload_n 1, 1) := by decide +kernel
theorem dX11_period_15 : decode cX11_period 15 = .ok (.ifCond .ne 10, 3) := by decide +kernel
theorem dX11_period_18 : decode cX11_period 18 = .ok (.aload_n 2, 1) := by decide +kernel
theorem dX11_period_19 : decode cX11_period 19 = .ok (.getfield 305, 3) := by decide +kernel
theorem dX11_period_2 : decode cX11_period 2 = .ok (.iconst 1, 1) := by decide +kernel
theorem dX11_period_22 : decode cX11_period 22 = .ok (.goto 7, 3) := by decide +kernel
theorem dX11_period_25 : decode cX11_period 25 = .ok (.aload_n 2, 1) := by decide +kernel
theorem dX11_period_26 : decode cX11_period 26 = .ok (.getfield 308, 3) := by decide +kernel
theorem dX11_period_29 : decode cX11_period 29 = .ok (.ireturn, 1) := by decide +kernel
theorem dX11_period_3 : decode cX11_period 3 = .ok (.invokestatic 72, 3) := by decide +kernel
theorem dX11_period_6 : decode cX11_period 6 = .ok (.aload_n 0, 1) := by decide +kernel
theorem dX11_period_7 : decode cX11_period 7 = .ok (.sipush 2000, 3) := by decide +kernel
theorem dX11_put_0 : decode cX11_put 0 = .ok (.aload_n 0, 1) := by decide +kernel
theorem dX11_put_1 : decode cX11_put 1 = .ok (.iload_n 1, 1) := by decide +kernel
theorem dX11_put_2 : decode cX11_put 2 = .ok (.invokevirtual 107, 3) := by decide +kernel
theorem dX11_restore_0 : decode cX11_restore 0 = .ok (.aload_n 0, 1) := by decide +kernel
theorem dX11_restore_1 : decode cX11_restore 1 = .ok (.getfield 88, 3) := by decide +kernel
theorem dX11_restore_4 : decode cX11_restore 4 = .ok (.ifCond .gt 5, 3) := by decide +kernel
theorem dX11_restore_7 : decode cX11_restore 7 = .ok (.iconst (-1), 1) := by decide +kernel
theorem dX11_restore_8 : decode cX11_restore 8 = .ok (.ireturn, 1) := by decide +kernel
theorem dX11_round_0 : decode cX11_round 0 = .ok (.aload_n 0, 1) := by decide +kernel
theorem dX11_round_1 : decode cX11_round 1 = .ok (.iload_n 2, 1) := by decide +kernel
theorem dX11_round_2 : decode cX11_round 2 = .ok (.invokevirtual 104, 3) := by decide +kernel
theorem dX11_row_0 : decode cX11_row 0 = .ok (.aload_n 0, 1) := by decide +kernel
theorem dX11_row_1 : decode cX11_row 1 = .ok (.iload_n 1, 1) := by decide +kernel
theorem dX11_row_2 : decode cX11_row 2 = .ok (.invokevirtual 104, 3) := by decide +kernel
