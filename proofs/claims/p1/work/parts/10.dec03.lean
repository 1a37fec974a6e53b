theorem dX11_rows_0 : decode cX11_rows 0 = .ok (.iload_n 1, 1) := by decide +kernel
theorem dX11_rows_1 : decode cX11_rows 1 = .ok (.invokestatic 161, 3) := by decide +kernel
theorem dX11_rows_11 : decode cX11_rows 11 = .ok (.aload_n 0, 1) := by decide +kernel
theorem dX11_rows_12 : decode cX11_rows 12 = .ok (.iload_n 1, 1) := by decide +kernel
theorem dX11_rows_13 : decode cX11_rows 13 = .ok (.invokevirtual 164, 3) := by decide +kernel
theorem dX11_rows_16 : decode cX11_rows 16 = .ok (.astore_n 3, 1) := by decide +kernel
theorem dX11_rows_17 : decode cX11_rows 17 = .ok (.aload_n 3, 1) := by decide +kernel
theorem dX11_rows_18 : decode cX11_rows 18 = .ok (.iload_n 1, 1) := by decide +kernel
theorem dX11_rows_19 : decode cX11_rows 19 = .ok (.invokevirtual 168, 3) := by decide +kernel
theorem dX11_rows_22 : decode cX11_rows 22 = .ok (.ifCond .eq 9, 3) := by decide +kernel
theorem dX11_rows_31 : decode cX11_rows 31 = .ok (.aload_n 0, 1) := by decide +kernel
theorem dX11_rows_32 : decode cX11_rows 32 = .ok (.aload_n 3, 1) := by decide +kernel
theorem dX11_rows_33 : decode cX11_rows 33 = .ok (.invokevirtual 215, 3) := by decide +kernel
theorem dX11_rows_36 : decode cX11_rows 36 = .ok (.iload_n 2, 1) := by decide +kernel
theorem dX11_rows_37 : decode cX11_rows 37 = .ok (.invokevirtual 224, 3) := by decide +kernel
theorem dX11_rows_4 : decode cX11_rows 4 = .ok (.iload_n 2, 1) := by decide +kernel
theorem dX11_rows_40 : decode cX11_rows 40 = .ok (.lreturn, 1) := by decide +kernel
theorem dX11_rows_5 : decode cX11_rows 5 = .ok (.iconst 0, 1) := by decide +kernel
theorem dX11_rows_6 : decode cX11_rows 6 = .ok (.bipush 20, 2) := by decide +kernel
theorem dX11_rows_8 : decode cX11_rows 8 = .ok (.invokestatic 72, 3) := by decide +kernel
theorem dX11_siphon_0 : decode cX11_siphon 0 = .ok (.iload_n 2, 1) := by decide +kernel
theorem dX11_siphon_1 : decode cX11_siphon 1 = .ok (.ifCond .ge 13, 3) := by decide +kernel
theorem dX11_siphon_10 : decode cX11_siphon 10 = .ok (.invokespecial 251, 3) := by decide +kernel
theorem dX11_siphon_13 : decode cX11_siphon 13 = .ok (.athrow, 1) := by decide +kernel
theorem dX11_siphon_14 : decode cX11_siphon 14 = .ok (.aload_n 0, 1) := by decide +kernel
theorem dX11_siphon_15 : decode cX11_siphon 15 = .ok (.getfield 44, 3) := by decide +kernel
theorem dX11_siphon_18 : decode cX11_siphon 18 = .ok (.aload_n 0, 1) := by decide +kernel
theorem dX11_siphon_19 : decode cX11_siphon 19 = .ok (.getfield 54, 3) := by decide +kernel
theorem dX11_siphon_22 : decode cX11_siphon 22 = .ok (.iload_n 1, 1) := by decide +kernel
theorem dX11_siphon_23 : decode cX11_siphon 23 = .ok (.iload_n 2, 1) := by decide +kernel
theorem dX11_siphon_24 : decode cX11_siphon 24 = .ok (.invokevirtual 254, 3) := by decide +kernel
theorem dX11_siphon_27 : decode cX11_siphon 27 = .ok (.ireturn, 1) := by decide +kernel
theorem dX11_siphon_4 : decode cX11_siphon 4 = .ok (.new 247, 3) := by decide +kernel
theorem dX11_siphon_7 : decode cX11_siphon 7 = .ok (.dup, 1) := by decide +kernel
theorem dX11_siphon_8 : decode cX11_siphon 8 = .ok (.ldc 249, 2) := by decide +kernel
theorem dX11_state_0 : decode cX11_state 0 = .ok (.aload_n 0, 1) := by decide +kernel
theorem dX11_state_1 : decode cX11_state 1 = .ok (.iload_n 3, 1) := by decide +kernel
theorem dX11_state_2 : decode cX11_state 2 = .ok (.invokevirtual 107, 3) := by decide +kernel
theorem dX11_states_0 : decode cX11_states 0 = .ok (.iload_n 1, 1) := by decide +kernel
theorem dX11_states_1 : decode cX11_states 1 = .ok (.invokestatic 161, 3) := by decide +kernel
theorem dX11_states_10 : decode cX11_states 10 = .ok (.aload_n 2, 1) := by decide +kernel
theorem dX11_states_11 : decode cX11_states 11 = .ok (.iload_n 1, 1) := by decide +kernel
theorem dX11_states_12 : decode cX11_states 12 = .ok (.invokevirtual 168, 3) := by decide +kernel
theorem dX11_states_15 : decode cX11_states 15 = .ok (.ifCond .eq 8, 3) := by decide +kernel
theorem dX11_states_23 : decode cX11_states 23 = .ok (.aload_n 2, 1) := by decide +kernel
theorem dX11_states_24 : decode cX11_states 24 = .ok (.invokevirtual 173, 3) := by decide +kernel
theorem dX11_states_27 : decode cX11_states 27 = .ok (.ireturn, 1) := by decide +kernel
theorem dX11_states_4 : decode cX11_states 4 = .ok (.aload_n 0, 1) := by decide +kernel
theorem dX11_states_5 : decode cX11_states 5 = .ok (.iload_n 1, 1) := by decide +kernel
theorem dX11_states_6 : decode cX11_states 6 = .ok (.invokevirtual 164, 3) := by decide +kernel
theorem dX11_states_9 : decode cX11_states 9 = .ok (.astore_n 2, 1) := by decide +kernel
theorem dX11_step_0 : decode cX11_step 0 = .ok (.iload_n 1, 1) := by decide +kernel
theorem dX11_step_1 : decode cX11_step 1 = .ok (.invokestatic 161, 3) := by decide +kernel
theorem dX11_step_11 : decode cX11_step 11 = .ok (.aload 4, 2) := by decide +kernel
theorem dX11_step_13 : decode cX11_step 13 = .ok (.iload_n 1, 1) := by decide +kernel
theorem dX11_step_14 : decode cX11_step 14 = .ok (.aload_n 0, 1) := by decide +kernel
theorem dX11_step_15 : decode cX11_step 15 = .ok (.getfield 23, 3) := by decide +kernel
theorem dX11_step_18 : decode cX11_step 18 = .ok (.getfield 202, 3) := by decide +kernel
theorem dX11_step_21 : decode cX11_step 21 = .ok (.iload_n 2, 1) := by decide +kernel
theorem dX11_step_22 : decode cX11_step 22 = .ok (.invokevirtual 205, 3) := by decide +kernel
theorem dX11_step_25 : decode cX11_step 25 = .ok (.istore 5, 2) := by decide +kernel
theorem dX11_step_27 : decode cX11_step 27 = .ok (.iload 5, 2) := by decide +kernel
theorem dX11_step_29 : decode cX11_step 29 = .ok (.ifCond .ge 8, 3) := by decide +kernel
theorem dX11_step_37 : decode cX11_step 37 = .ok (.aload 4, 2) := by decide +kernel
theorem dX11_step_39 : decode cX11_step 39 = .ok (.iload 5, 2) := by decide +kernel
theorem dX11_step_4 : decode cX11_step 4 = .ok (.aload_n 0, 1) := by decide +kernel
theorem dX11_step_41 : decode cX11_step 41 = .ok (.iload_n 3, 1) := by decide +kernel
theorem dX11_step_42 : decode cX11_step 42 = .ok (.invokevirtual 212, 3) := by decide +kernel
theorem dX11_step_45 : decode cX11_step 45 = .ok (.ireturn, 1) := by decide +kernel
theorem dX11_step_5 : decode cX11_step 5 = .ok (.iload_n 1, 1) := by decide +kernel
theorem dX11_step_6 : decode cX11_step 6 = .ok (.invokevirtual 164, 3) := by decide +kernel
theorem dX11_step_9 : decode cX11_step 9 = .ok (.astore 4, 2) := by decide +kernel
theorem dX11_studied_0 : decode cX11_studied 0 = .ok (.aload_n 0, 1) := by decide +kernel
theorem dX11_studied_1 : decode cX11_studied 1 = .ok (.getfield 381, 3) := by decide +kernel
theorem dX11_studied_11 : decode cX11_studied 11 = .ok (.dup, 1) := by decide +kernel
theorem dX11_studied_12 : decode cX11_studied 12 = .ok (.invokespecial 385, 3) := by decide +kernel
theorem dX11_studied_15 : decode cX11_studied 15 = .ok (.putfield 381, 3) := by decide +kernel
theorem dX11_studied_18 : decode cX11_studied 18 = .ok (.aload_n 0, 1) := by decide +kernel
theorem dX11_studied_19 : decode cX11_studied 19 = .ok (.getfield 381, 3) := by decide +kernel
theorem dX11_studied_22 : decode cX11_studied 22 = .ok (.aload_n 1, 1) := by decide +kernel
theorem dX11_studied_23 : decode cX11_studied 23 = .ok (.putfield 386, 3) := by decide +kernel
theorem dX11_studied_26 : decode cX11_studied 26 = .ok (.aload_n 0, 1) := by decide +kernel
theorem dX11_studied_27 : decode cX11_studied 27 = .ok (.getfield 381, 3) := by decide +kernel
theorem dX11_studied_30 : decode cX11_studied 30 = .ok (.areturn, 1) := by decide +kernel
theorem dX11_studied_4 : decode cX11_studied 4 = .ok (.ifnonnull 14, 3) := by decide +kernel
theorem dX11_studied_7 : decode cX11_studied 7 = .ok (.aload_n 0, 1) := by decide +kernel
theorem dX11_studied_8 : decode cX11_studied 8 = .ok (.new 189, 3) := by decide +kernel
theorem dX11_tapeNumber_0 : decode cX11_tapeNumber 0 = .ok (.bipush 24, 2) := by decide +kernel
theorem dX11_tapeNumber_11 : decode cX11_tapeNumber 11 = .ok (.sipush 600, 3) := by decide +kernel
theorem dX11_tapeNumber_14 : decode cX11_tapeNumber 14 = .ok (.if_icmp .ge 35, 3) := by decide +kernel
theorem dX11_tapeNumber_17 : decode cX11_tapeNumber 17 = .ok (.aload_n 0, 1) := by decide +kernel
theorem dX11_tapeNumber_18 : decode cX11_tapeNumber 18 = .ok (.getfield 9, 3) := by decide +kernel
theorem dX11_tapeNumber_2 : decode cX11_tapeNumber 2 = .ok (.istore_n 2, 1) := by decide +kernel
theorem dX11_tapeNumber_21 : decode cX11_tapeNumber 21 = .ok (.aload_n 0, 1) := by decide +kernel
theorem dX11_tapeNumber_22 : decode cX11_tapeNumber 22 = .ok (.getfield 65, 3) := by decide +kernel
theorem dX11_tapeNumber_25 : decode cX11_tapeNumber 25 = .ok (.iload_n 1, 1) := by decide +kernel
theorem dX11_tapeNumber_26 : decode cX11_tapeNumber 26 = .ok (.iload_n 2, 1) := by decide +kernel
theorem dX11_tapeNumber_27 : decode cX11_tapeNumber 27 = .ok (.iushr, 1) := by decide +kernel
theorem dX11_tapeNumber_28 : decode cX11_tapeNumber 28 = .ok (.sipush 255, 3) := by decide +kernel
theorem dX11_tapeNumber_3 : decode cX11_tapeNumber 3 = .ok (.iload_n 2, 1) := by decide +kernel
theorem dX11_tapeNumber_31 : decode cX11_tapeNumber 31 = .ok (.iand, 1) := by decide +kernel
theorem dX11_tapeNumber_32 : decode cX11_tapeNumber 32 = .ok (.iastore, 1) := by decide +kernel
theorem dX11_tapeNumber_33 : decode cX11_tapeNumber 33 = .ok (.aload_n 0, 1) := by decide +kernel
theorem dX11_tapeNumber_34 : decode cX11_tapeNumber 34 = .ok (.dup, 1) := by decide +kernel
theorem dX11_tapeNumber_35 : decode cX11_tapeNumber 35 = .ok (.getfield 65, 3) := by decide +kernel
theorem dX11_tapeNumber_38 : decode cX11_tapeNumber 38 = .ok (.iconst 1, 1) := by decide +kernel
theorem dX11_tapeNumber_39 : decode cX11_tapeNumber 39 = .ok (.iadd, 1) := by decide +kernel
theorem dX11_tapeNumber_4 : decode cX11_tapeNumber 4 = .ok (.ifCond .lt 45, 3) := by decide +kernel
theorem dX11_tapeNumber_40 : decode cX11_tapeNumber 40 = .ok (.putfield 65, 3) := by decide +kernel
theorem dX11_tapeNumber_43 : decode cX11_tapeNumber 43 = .ok (.iinc 2 (-8), 3) := by decide +kernel
theorem dX11_tapeNumber_46 : decode cX11_tapeNumber 46 = .ok (.goto (-43), 3) := by decide +kernel
theorem dX11_tapeNumber_49 : decode cX11_tapeNumber 49 = .ok (.return_, 1) := by decide +kernel
theorem dX11_tapeNumber_7 : decode cX11_tapeNumber 7 = .ok (.aload_n 0, 1) := by decide +kernel
theorem dX11_tapeNumber_8 : decode cX11_tapeNumber 8 = .ok (.getfield 65, 3) := by decide +kernel
theorem dX11_tied_0 : decode cX11_tied 0 = .ok (.aload_n 0, 1) := by decide +kernel
theorem dX11_tied_1 : decode cX11_tied 1 = .ok (.aload_n 1, 1) := by decide +kernel
theorem dX11_tied_10 : decode cX11_tied 10 = .ok (.aload_n 0, 1) := by decide +kernel
theorem dX11_tied_11 : decode cX11_tied 11 = .ok (.getfield 95, 3) := by decide +kernel
theorem dX11_tied_14 : decode cX11_tied 14 = .ok (.if_icmp .eq 11, 3) := by decide +kernel
theorem dX11_tied_17 : decode cX11_tied 17 = .ok (.aload_n 2, 1) := by decide +kernel
theorem dX11_tied_18 : decode cX11_tied 18 = .ok (.aload_n 0, 1) := by decide +kernel
theorem dX11_tied_19 : decode cX11_tied 19 = .ok (.getfield 95, 3) := by decide +kernel
theorem dX11_tied_2 : decode cX11_tied 2 = .ok (.invokevirtual 215, 3) := by decide +kernel
theorem dX11_tied_22 : decode cX11_tied 22 = .ok (.invokevirtual 388, 3) := by decide +kernel
theorem dX11_tied_25 : decode cX11_tied 25 = .ok (.aload_n 2, 1) := by decide +kernel
theorem dX11_tied_26 : decode cX11_tied 26 = .ok (.areturn, 1) := by decide +kernel
theorem dX11_tied_5 : decode cX11_tied 5 = .ok (.astore_n 2, 1) := by decide +kernel
theorem dX11_tied_6 : decode cX11_tied 6 = .ok (.aload_n 2, 1) := by decide +kernel
theorem dX11_tied_7 : decode cX11_tied 7 = .ok (.getfield 387, 3) := by decide +kernel
theorem dX11_told_0 : decode cX11_told 0 = .ok (.iload_n 1, 1) := by decide +kernel
theorem dX11_told_1 : decode cX11_told 1 = .ok (.iconst 0, 1) := by decide +kernel
theorem dX11_told_10 : decode cX11_told 10 = .ok (.aload_n 0, 1) := by decide +kernel
theorem dX11_told_11 : decode cX11_told 11 = .ok (.getfield 54, 3) := by decide +kernel
theorem dX11_told_14 : decode cX11_told 14 = .ok (.getfield 98, 3) := by decide +kernel
theorem dX11_told_17 : decode cX11_told 17 = .ok (.goto 10, 3) := by decide +kernel
theorem dX11_told_2 : decode cX11_told 2 = .ok (.iconst 1, 1) := by decide +kernel
theorem dX11_told_20 : decode cX11_told 20 = .ok (.aload_n 0, 1) := by decide +kernel
theorem dX11_told_21 : decode cX11_told 21 = .ok (.getfield 54, 3) := by decide +kernel
theorem dX11_told_24 : decode cX11_told 24 = .ok (.getfield 101, 3) := by decide +kernel
theorem dX11_told_27 : decode cX11_told 27 = .ok (.ireturn, 1) := by decide +kernel
theorem dX11_told_3 : decode cX11_told 3 = .ok (.invokestatic 72, 3) := by decide +kernel
theorem dX11_told_6 : decode cX11_told 6 = .ok (.iload_n 1, 1) := by decide +kernel
theorem dX11_told_7 : decode cX11_told 7 = .ok (.ifCond .ne 13, 3) := by decide +kernel
theorem dX11_two_0 : decode cX11_two 0 = .ok (.aload_n 0, 1) := by decide +kernel
theorem dX11_two_1 : decode cX11_two 1 = .ok (.iload_n 1, 1) := by decide +kernel
theorem dX11_two_2 : decode cX11_two 2 = .ok (.invokevirtual 104, 3) := by decide +kernel
theorem dX11_walker_0 : decode cX11_walker 0 = .ok (.aload_n 0, 1) := by decide +kernel
theorem dX11_walker_1 : decode cX11_walker 1 = .ok (.getfield 410, 3) := by decide +kernel
theorem dX11_walker_11 : decode cX11_walker 11 = .ok (.dup, 1) := by decide +kernel
theorem dX11_walker_12 : decode cX11_walker 12 = .ok (.invokespecial 414, 3) := by decide +kernel
theorem dX11_walker_15 : decode cX11_walker 15 = .ok (.putfield 410, 3) := by decide +kernel
theorem dX11_walker_18 : decode cX11_walker 18 = .ok (.aload_n 0, 1) := by decide +kernel
theorem dX11_walker_19 : decode cX11_walker 19 = .ok (.getfield 410, 3) := by decide +kernel
theorem dX11_walker_22 : decode cX11_walker 22 = .ok (.areturn, 1) := by decide +kernel
theorem dX11_walker_4 : decode cX11_walker 4 = .ok (.ifnonnull 14, 3) := by decide +kernel
theorem dX11_walker_7 : decode cX11_walker 7 = .ok (.aload_n 0, 1) := by decide +kernel
theorem dX11_walker_8 : decode cX11_walker 8 = .ok (.new 319, 3) := by decide +kernel
theorem dX11_way_0 : decode cX11_way 0 = .ok (.iload_n 1, 1) := by decide +kernel
theorem dX11_way_1 : decode cX11_way 1 = .ok (.invokestatic 161, 3) := by decide +kernel
theorem dX11_way_10 : decode cX11_way 10 = .ok (.aload_n 3, 1) := by decide +kernel
theorem dX11_way_11 : decode cX11_way 11 = .ok (.iload_n 1, 1) := by decide +kernel
theorem dX11_way_12 : decode cX11_way 12 = .ok (.aload_n 0, 1) := by decide +kernel
theorem dX11_way_13 : decode cX11_way 13 = .ok (.getfield 23, 3) := by decide +kernel
theorem dX11_way_16 : decode cX11_way 16 = .ok (.getfield 202, 3) := by decide +kernel
theorem dX11_way_19 : decode cX11_way 19 = .ok (.iload_n 2, 1) := by decide +kernel
theorem dX11_way_20 : decode cX11_way 20 = .ok (.invokevirtual 205, 3) := by decide +kernel
theorem dX11_way_23 : decode cX11_way 23 = .ok (.istore 4, 2) := by decide +kernel
theorem dX11_way_25 : decode cX11_way 25 = .ok (.iload 4, 2) := by decide +kernel
theorem dX11_way_27 : decode cX11_way 27 = .ok (.ifCond .ge 8, 3) := by decide +kernel
theorem dX11_way_35 : decode cX11_way 35 = .ok (.aload_n 3, 1) := by decide +kernel
theorem dX11_way_36 : decode cX11_way 36 = .ok (.iload 4, 2) := by decide +kernel
theorem dX11_way_38 : decode cX11_way 38 = .ok (.invokevirtual 209, 3) := by decide +kernel
theorem dX11_way_4 : decode cX11_way 4 = .ok (.aload_n 0, 1) := by decide +kernel
theorem dX11_way_41 : decode cX11_way 41 = .ok (.ireturn, 1) := by decide +kernel
theorem dX11_way_5 : decode cX11_way 5 = .ok (.iload_n 1, 1) := by decide +kernel
theorem dX11_way_6 : decode cX11_way 6 = .ok (.invokevirtual 164, 3) := by decide +kernel
theorem dX11_way_9 : decode cX11_way 9 = .ok (.astore_n 3, 1) := by decide +kernel
theorem dX11_working_0 : decode cX11_working 0 = .ok (.aload_n 0, 1) := by decide +kernel
theorem dX11_working_1 : decode cX11_working 1 = .ok (.getfield 400, 3) := by decide +kernel
theorem dX11_working_11 : decode cX11_working 11 = .ok (.dup, 1) := by decide +kernel
theorem dX11_working_12 : decode cX11_working 12 = .ok (.invokespecial 404, 3) := by decide +kernel
theorem dX11_working_15 : decode cX11_working 15 = .ok (.putfield 400, 3) := by decide +kernel
theorem dX11_working_18 : decode cX11_working 18 = .ok (.aload_n 0, 1) := by decide +kernel
theorem dX11_working_19 : decode cX11_working 19 = .ok (.getfield 400, 3) := by decide +kernel
theorem dX11_working_22 : decode cX11_working 22 = .ok (.getfield 405, 3) := by decide +kernel
theorem dX11_working_25 : decode cX11_working 25 = .ok (.aload_n 0, 1) := by decide +kernel
theorem dX11_working_26 : decode cX11_working 26 = .ok (.getfield 95, 3) := by decide +kernel
theorem dX11_working_29 : decode cX11_working 29 = .ok (.if_icmp .eq 25, 3) := by decide +kernel
theorem dX11_working_32 : decode cX11_working 32 = .ok (.aload_n 0, 1) := by decide +kernel
theorem dX11_working_33 : decode cX11_working 33 = .ok (.getfield 400, 3) := by decide +kernel
theorem dX11_working_36 : decode cX11_working 36 = .ok (.aload_n 0, 1) := by decide +kernel
theorem dX11_working_37 : decode cX11_working 37 = .ok (.getfield 54, 3) := by decide +kernel
theorem dX11_working_4 : decode cX11_working 4 = .ok (.ifnonnull 14, 3) := by decide +kernel
theorem dX11_working_40 : decode cX11_working 40 = .ok (.aload_n 0, 1) := by decide +kernel
theorem dX11_working_41 : decode cX11_working 41 = .ok (.getfield 23, 3) := by decide +kernel
theorem dX11_working_44 : decode cX11_working 44 = .ok (.getfield 129, 3) := by decide +kernel
theorem dX11_working_47 : decode cX11_working 47 = .ok (.aload_n 0, 1) := by decide +kernel
theorem dX11_working_48 : decode cX11_working 48 = .ok (.getfield 95, 3) := by decide +kernel
theorem dX11_working_51 : decode cX11_working 51 = .ok (.invokevirtual 406, 3) := by decide +kernel
theorem dX11_working_54 : decode cX11_working 54 = .ok (.aload_n 0, 1) := by decide +kernel
theorem dX11_working_55 : decode cX11_working 55 = .ok (.getfield 400, 3) := by decide +kernel
theorem dX11_working_58 : decode cX11_working 58 = .ok (.iload_n 1, 1) := by decide +kernel
theorem dX11_working_59 : decode cX11_working 59 = .ok (.invokevirtual 407, 3) := by decide +kernel
theorem dX11_working_62 : decode cX11_working 62 = .ok (.aload_n 0, 1) := by decide +kernel
theorem dX11_working_63 : decode cX11_working 63 = .ok (.getfield 400, 3) := by decide +kernel
theorem dX11_working_66 : decode cX11_working 66 = .ok (.areturn, 1) := by decide +kernel
theorem dX11_working_7 : decode cX11_working 7 = .ok (.aload_n 0, 1) := by decide +kernel
theorem dX11_working_8 : decode cX11_working 8 = .ok (.new 298, 3) := by decide +kernel
theorem dX12_act_0 : decode cX12_act 0 = .ok (.aload_n 0, 1) := by decide +kernel
theorem dX12_act_1 : decode cX12_act 1 = .ok (.iconst 0, 1) := by decide +kernel
theorem dX12_act_11 : decode cX12_act 11 = .ok (.ifCond .eq 17, 3) := by decide +kernel
theorem dX12_act_2 : decode cX12_act 2 = .ok (.putfield 1, 3) := by decide +kernel
theorem dX12_act_28 : decode cX12_act 28 = .ok (.iconst 0, 1) := by decide +kernel
theorem dX12_act_29 : decode cX12_act 29 = .ok (.ireturn, 1) := by decide +kernel
theorem dX12_act_5 : decode cX12_act 5 = .ok (.aload_n 0, 1) := by decide +kernel
theorem dX12_act_6 : decode cX12_act 6 = .ok (.iload_n 1, 1) := by decide +kernel
theorem dX12_act_7 : decode cX12_act 7 = .ok (.iconst 1, 1) := by decide +kernel
theorem dX12_act_8 : decode cX12_act 8 = .ok (.invokevirtual 293, 3) := by decide +kernel
theorem dX12_acts_0 : decode cX12_acts 0 = .ok (.aload_n 0, 1) := by decide +kernel
theorem dX12_acts_1 : decode cX12_acts 1 = .ok (.getfield 20, 3) := by decide +kernel
theorem dX12_acts_4 : decode cX12_acts 4 = .ok (.iconst 1, 1) := by decide +kernel
theorem dX12_acts_5 : decode cX12_acts 5 = .ok (.iaload, 1) := by decide +kernel
theorem dX12_acts_6 : decode cX12_acts 6 = .ok (.ireturn, 1) := by decide +kernel
theorem dX12_alike_0 : decode cX12_alike 0 = .ok (.aload_n 0, 1) := by decide +kernel
theorem dX12_alike_1 : decode cX12_alike 1 = .ok (.iconst 0, 1) := by decide +kernel
theorem dX12_alike_12 : decode cX12_alike 12 = .ok (.iconst 0, 1) := by decide +kernel
theorem dX12_alike_13 : decode cX12_alike 13 = .ok (.goto 9, 3) := by decide +kernel
theorem dX12_alike_2 : decode cX12_alike 2 = .ok (.putfield 1, 3) := by decide +kernel
theorem dX12_alike_22 : decode cX12_alike 22 = .ok (.ireturn, 1) := by decide +kernel
theorem dX12_alike_5 : decode cX12_alike 5 = .ok (.aload_n 0, 1) := by decide +kernel
theorem dX12_alike_6 : decode cX12_alike 6 = .ok (.invokevirtual 280, 3) := by decide +kernel
theorem dX12_alike_9 : decode cX12_alike 9 = .ok (.ifCond .ne 7, 3) := by decide +kernel
theorem dX12_arc_0 : decode cX12_arc 0 = .ok (.aload_n 0, 1) := by decide +kernel
theorem dX12_arc_1 : decode cX12_arc 1 = .ok (.iconst 0, 1) := by decide +kernel
theorem dX12_arc_11 : decode cX12_arc 11 = .ok (.ifCond .eq 26, 3) := by decide +kernel
theorem dX12_arc_2 : decode cX12_arc 2 = .ok (.putfield 1, 3) := by decide +kernel
theorem dX12_arc_37 : decode cX12_arc 37 = .ok (.iconst 0, 1) := by decide +kernel
theorem dX12_arc_38 : decode cX12_arc 38 = .ok (.ireturn, 1) := by decide +kernel
theorem dX12_arc_5 : decode cX12_arc 5 = .ok (.aload_n 0, 1) := by decide +kernel
theorem dX12_arc_6 : decode cX12_arc 6 = .ok (.iload_n 1, 1) := by decide +kernel
theorem dX12_arc_7 : decode cX12_arc 7 = .ok (.iconst 1, 1) := by decide +kernel
theorem dX12_arc_8 : decode cX12_arc 8 = .ok (.invokevirtual 293, 3) := by decide +kernel
theorem dX12_areLots_0 : decode cX12_areLots 0 = .ok (.iload_n 0, 1) := by decide +kernel
theorem dX12_areLots_1 : decode cX12_areLots 1 = .ok (.iconst 1, 1) := by decide +kernel
theorem dX12_areLots_2 : decode cX12_areLots 2 = .ok (.sipush 1000, 3) := by decide +kernel
theorem dX12_areLots_5 : decode cX12_areLots 5 = .ok (.invokestatic 289, 3) := by decide +kernel
theorem dX12_areLots_8 : decode cX12_areLots 8 = .ok (.ireturn, 1) := by decide +kernel
theorem dX12_asNow_0 : decode cX12_asNow 0 = .ok (.iconst 0, 1) := by decide +kernel
theorem dX12_asNow_1 : decode cX12_asNow 1 = .ok (.istore_n 1, 1) := by decide +kernel
theorem dX12_asNow_12 : decode cX12_asNow 12 = .ok (.iload_n 1, 1) := by decide +kernel
theorem dX12_asNow_13 : decode cX12_asNow 13 = .ok (.aload_n 0, 1) := by decide +kernel
theorem dX12_asNow_14 : decode cX12_asNow 14 = .ok (.getfield 41, 3) := by decide +kernel
theorem dX12_asNow_17 : decode cX12_asNow 17 = .ok (.iload_n 1, 1) := by decide +kernel
theorem dX12_asNow_18 : decode cX12_asNow 18 = .ok (.iaload, 1) := by decide +kernel
theorem dX12_asNow_19 : decode cX12_asNow 19 = .ok (.iastore, 1) := by decide +kernel
theorem dX12_asNow_2 : decode cX12_asNow 2 = .ok (.iload_n 1, 1) := by decide +kernel
theorem dX12_asNow_20 : decode cX12_asNow 20 = .ok (.iinc 1 1, 3) := by decide +kernel
theorem dX12_asNow_23 : decode cX12_asNow 23 = .ok (.goto (-21), 3) := by decide +kernel
theorem dX12_asNow_26 : decode cX12_asNow 26 = .ok (.return_, 1) := by decide +kernel
theorem dX12_asNow_3 : decode cX12_asNow 3 = .ok (.bipush 8, 2) := by decide +kernel
theorem dX12_asNow_5 : decode cX12_asNow 5 = .ok (.if_icmp .ge 21, 3) := by decide +kernel
theorem dX12_asNow_8 : decode cX12_asNow 8 = .ok (.aload_n 0, 1) := by decide +kernel
theorem dX12_asNow_9 : decode cX12_asNow 9 = .ok (.getfield 47, 3) := by decide +kernel
theorem dX12_base_0 : decode cX12_base 0 = .ok (.aload_n 0, 1) := by decide +kernel
theorem dX12_base_1 : decode cX12_base 1 = .ok (.iconst 0, 1) := by decide +kernel
theorem dX12_base_12 : decode cX12_base 12 = .ok (.iconst 1, 1) := by decide +kernel
theorem dX12_base_13 : decode cX12_base 13 = .ok (.invokevirtual 267, 3) := by decide +kernel
theorem dX12_base_16 : decode cX12_base 16 = .ok (.ifCond .ne 5, 3) := by decide +kernel
theorem dX12_base_19 : decode cX12_base 19 = .ok (.iconst 0, 1) := by decide +kernel
theorem dX12_base_2 : decode cX12_base 2 = .ok (.putfield 1, 3) := by decide +kernel
theorem dX12_base_20 : decode cX12_base 20 = .ok (.ireturn, 1) := by decide +kernel
theorem dX12_base_21 : decode cX12_base 21 = .ok (.aload_n 0, 1) := by decide +kernel
theorem dX12_base_22 : decode cX12_base 22 = .ok (.iload_n 1, 1) := by decide +kernel
theorem dX12_base_23 : decode cX12_base 23 = .ok (.invokevirtual 389, 3) := by decide +kernel
theorem dX12_base_26 : decode cX12_base 26 = .ok (.aload_n 0, 1) := by decide +kernel
theorem dX12_base_27 : decode cX12_base 27 = .ok (.getfield 386, 3) := by decide +kernel
theorem dX12_base_30 : decode cX12_base 30 = .ok (.ireturn, 1) := by decide +kernel
theorem dX12_base_5 : decode cX12_base 5 = .ok (.aload_n 0, 1) := by decide +kernel
theorem dX12_base_6 : decode cX12_base 6 = .ok (.iload_n 1, 1) := by decide +kernel
theorem dX12_base_7 : decode cX12_base 7 = .ok (.iconst 0, 1) := by decide +kernel
theorem dX12_base_8 : decode cX12_base 8 = .ok (.iconst 1, 1) := by decide +kernel
theorem dX12_base_9 : decode cX12_base 9 = .ok (.invokestatic 289, 3) := by decide +kernel
theorem dX12_bases_0 : decode cX12_bases 0 = .ok (.iload_n 1, 1) := by decide +kernel
theorem dX12_bases_1 : decode cX12_bases 1 = .ok (.ifCond .ne 10, 3) := by decide +kernel
theorem dX12_bases_104 : decode cX12_bases 104 = .ok (.lconst 0, 1) := by decide +kernel
theorem dX12_bases_105 : decode cX12_bases 105 = .ok (.lastore, 1) := by decide +kernel
theorem dX12_bases_106 : decode cX12_bases 106 = .ok (.iinc 5 1, 3) := by decide +kernel
theorem dX12_bases_109 : decode cX12_bases 109 = .ok (.goto (-64), 3) := by decide +kernel
theorem dX12_bases_11 : decode cX12_bases 11 = .ok (.aload_n 0, 1) := by decide +kernel
theorem dX12_bases_112 : decode cX12_bases 112 = .ok (.iinc 4 1, 3) := by decide +kernel
theorem dX12_bases_115 : decode cX12_bases 115 = .ok (.goto (-80), 3) := by decide +kernel
theorem dX12_bases_118 : decode cX12_bases 118 = .ok (.aload_n 0, 1) := by decide +kernel
theorem dX12_bases_119 : decode cX12_bases 119 = .ok (.aload_n 0, 1) := by decide +kernel
theorem dX12_bases_12 : decode cX12_bases 12 = .ok (.invokevirtual 286, 3) := by decide +kernel
theorem dX12_bases_120 : decode cX12_bases 120 = .ok (.getfield 106, 3) := by decide +kernel
theorem dX12_bases_123 : decode cX12_bases 123 = .ok (.bipush 8, 2) := by decide +kernel
theorem dX12_bases_125 : decode cX12_bases 125 = .ok (.invokevirtual 382, 3) := by decide +kernel
theorem dX12_bases_128 : decode cX12_bases 128 = .ok (.istore 4, 2) := by decide +kernel
theorem dX12_bases_130 : decode cX12_bases 130 = .ok (.aload_n 0, 1) := by decide +kernel
theorem dX12_bases_131 : decode cX12_bases 131 = .ok (.iconst 0, 1) := by decide +kernel
theorem dX12_bases_132 : decode cX12_bases 132 = .ok (.putfield 386, 3) := by decide +kernel
theorem dX12_bases_135 : decode cX12_bases 135 = .ok (.iconst 0, 1) := by decide +kernel
theorem dX12_bases_136 : decode cX12_bases 136 = .ok (.istore 5, 2) := by decide +kernel
theorem dX12_bases_138 : decode cX12_bases 138 = .ok (.iload 5, 2) := by decide +kernel
theorem dX12_bases_140 : decode cX12_bases 140 = .ok (.iload_n 2, 1) := by decide +kernel
theorem dX12_bases_141 : decode cX12_bases 141 = .ok (.if_icmp .ge 297, 3) := by decide +kernel
theorem dX12_bases_15 : decode cX12_bases 15 = .ok (.istore_n 2, 1) := by decide +kernel
theorem dX12_bases_16 : decode cX12_bases 16 = .ok (.iload_n 1, 1) := by decide +kernel
theorem dX12_bases_17 : decode cX12_bases 17 = .ok (.ifCond .ne 10, 3) := by decide +kernel
theorem dX12_bases_20 : decode cX12_bases 20 = .ok (.aload_n 0, 1) := by decide +kernel
theorem dX12_bases_21 : decode cX12_bases 21 = .ok (.invokevirtual 286, 3) := by decide +kernel
theorem dX12_bases_24 : decode cX12_bases 24 = .ok (.goto 7, 3) := by decide +kernel
theorem dX12_bases_27 : decode cX12_bases 27 = .ok (.aload_n 0, 1) := by decide +kernel
theorem dX12_bases_28 : decode cX12_bases 28 = .ok (.invokevirtual 280, 3) := by decide +kernel
theorem dX12_bases_31 : decode cX12_bases 31 = .ok (.istore_n 3, 1) := by decide +kernel
theorem dX12_bases_32 : decode cX12_bases 32 = .ok (.iconst 0, 1) := by decide +kernel
theorem dX12_bases_33 : decode cX12_bases 33 = .ok (.istore 4, 2) := by decide +kernel
theorem dX12_bases_35 : decode cX12_bases 35 = .ok (.iload 4, 2) := by decide +kernel
theorem dX12_bases_37 : decode cX12_bases 37 = .ok (.bipush 8, 2) := by decide +kernel
theorem dX12_bases_39 : decode cX12_bases 39 = .ok (.if_icmp .ge 79, 3) := by decide +kernel
theorem dX12_bases_4 : decode cX12_bases 4 = .ok (.aload_n 0, 1) := by decide +kernel
theorem dX12_bases_42 : decode cX12_bases 42 = .ok (.iconst 0, 1) := by decide +kernel
theorem dX12_bases_43 : decode cX12_bases 43 = .ok (.istore 5, 2) := by decide +kernel
theorem dX12_bases_438 : decode cX12_bases 438 = .ok (.aload_n 0, 1) := by decide +kernel
theorem dX12_bases_439 : decode cX12_bases 439 = .ok (.aload_n 0, 1) := by decide +kernel
theorem dX12_bases_440 : decode cX12_bases 440 = .ok (.getfield 109, 3) := by decide +kernel
theorem dX12_bases_443 : decode cX12_bases 443 = .ok (.aload_n 0, 1) := by decide +kernel
theorem dX12_bases_444 : decode cX12_bases 444 = .ok (.getfield 386, 3) := by decide +kernel
theorem dX12_bases_447 : decode cX12_bases 447 = .ok (.invokevirtual 382, 3) := by decide +kernel
theorem dX12_bases_45 : decode cX12_bases 45 = .ok (.iload 5, 2) := by decide +kernel
theorem dX12_bases_450 : decode cX12_bases 450 = .ok (.pop, 1) := by decide +kernel
theorem dX12_bases_451 : decode cX12_bases 451 = .ok (.iconst 0, 1) := by decide +kernel
theorem dX12_bases_452 : decode cX12_bases 452 = .ok (.istore 5, 2) := by decide +kernel
theorem dX12_bases_454 : decode cX12_bases 454 = .ok (.iload 5, 2) := by decide +kernel
theorem dX12_bases_456 : decode cX12_bases 456 = .ok (.aload_n 0, 1) := by decide +kernel
theorem dX12_bases_457 : decode cX12_bases 457 = .ok (.getfield 386, 3) := by decide +kernel
theorem dX12_bases_460 : decode cX12_bases 460 = .ok (.if_icmp .ge 18, 3) := by decide +kernel
theorem dX12_bases_47 : decode cX12_bases 47 = .ok (.bipush 8, 2) := by decide +kernel
theorem dX12_bases_478 : decode cX12_bases 478 = .ok (.return_, 1) := by decide +kernel
theorem dX12_bases_49 : decode cX12_bases 49 = .ok (.if_icmp .ge 63, 3) := by decide +kernel
theorem dX12_bases_5 : decode cX12_bases 5 = .ok (.invokevirtual 280, 3) := by decide +kernel
theorem dX12_bases_52 : decode cX12_bases 52 = .ok (.aload_n 0, 1) := by decide +kernel
theorem dX12_bases_53 : decode cX12_bases 53 = .ok (.getfield 106, 3) := by decide +kernel
theorem dX12_bases_56 : decode cX12_bases 56 = .ok (.bipush 8, 2) := by decide +kernel
theorem dX12_bases_58 : decode cX12_bases 58 = .ok (.iload 4, 2) := by decide +kernel
theorem dX12_bases_60 : decode cX12_bases 60 = .ok (.imul, 1) := by decide +kernel
theorem dX12_bases_61 : decode cX12_bases 61 = .ok (.iload 5, 2) := by decide +kernel
theorem dX12_bases_63 : decode cX12_bases 63 = .ok (.iadd, 1) := by decide +kernel
theorem dX12_bases_64 : decode cX12_bases 64 = .ok (.iload 4, 2) := by decide +kernel
theorem dX12_bases_66 : decode cX12_bases 66 = .ok (.iload_n 3, 1) := by decide +kernel
theorem dX12_bases_67 : decode cX12_bases 67 = .ok (.if_icmp .ge 37, 3) := by decide +kernel
theorem dX12_bases_8 : decode cX12_bases 8 = .ok (.goto 7, 3) := by decide +kernel
theorem dX12_beat_0 : decode cX12_beat 0 = .ok (.aload_n 0, 1) := by decide +kernel
theorem dX12_beat_1 : decode cX12_beat 1 = .ok (.iconst 0, 1) := by decide +kernel
theorem dX12_beat_11 : decode cX12_beat 11 = .ok (.ifCond .ne 5, 3) := by decide +kernel
theorem dX12_beat_14 : decode cX12_beat 14 = .ok (.iconst 0, 1) := by decide +kernel
theorem dX12_beat_15 : decode cX12_beat 15 = .ok (.ireturn, 1) := by decide +kernel
theorem dX12_beat_2 : decode cX12_beat 2 = .ok (.putfield 1, 3) := by decide +kernel
theorem dX12_beat_5 : decode cX12_beat 5 = .ok (.aload_n 0, 1) := by decide +kernel
theorem dX12_beat_6 : decode cX12_beat 6 = .ok (.iload_n 1, 1) := by decide +kernel
theorem dX12_beat_7 : decode cX12_beat 7 = .ok (.iconst 1, 1) := by decide +kernel
theorem dX12_beat_8 : decode cX12_beat 8 = .ok (.invokevirtual 293, 3) := by decide +kernel
theorem dX12_began_0 : decode cX12_began 0 = .ok (.aload_n 0, 1) := by decide +kernel
theorem dX12_began_1 : decode cX12_began 1 = .ok (.iconst 0, 1) := by decide +kernel
theorem dX12_began_11 : decode cX12_began 11 = .ok (.ifCond .eq 15, 3) := by decide +kernel
theorem dX12_began_2 : decode cX12_began 2 = .ok (.putfield 1, 3) := by decide +kernel
theorem dX12_began_26 : decode cX12_began 26 = .ok (.iconst 0, 1) := by decide +kernel
theorem dX12_began_27 : decode cX12_began 27 = .ok (.ireturn, 1) := by decide +kernel
theorem dX12_began_5 : decode cX12_began 5 = .ok (.aload_n 0, 1) := by decide +kernel
theorem dX12_began_6 : decode cX12_began 6 = .ok (.iload_n 2, 1) := by decide +kernel
theorem dX12_began_7 : decode cX12_began 7 = .ok (.iconst 1, 1) := by decide +kernel
theorem dX12_began_8 : decode cX12_began 8 = .ok (.invokevirtual 293, 3) := by decide +kernel
theorem dX12_beginClocks_0 : decode cX12_beginClocks 0 = .ok (.aload_n 0, 1) := by decide +kernel
theorem dX12_beginClocks_1 : decode cX12_beginClocks 1 = .ok (.invokevirtual 315, 3) := by decide +kernel
theorem dX12_beginClocks_12 : decode cX12_beginClocks 12 = .ok (.aload_n 0, 1) := by decide +kernel
theorem dX12_beginClocks_13 : decode cX12_beginClocks 13 = .ok (.getfield 124, 3) := by decide +kernel
theorem dX12_beginClocks_16 : decode cX12_beginClocks 16 = .ok (.iload_n 1, 1) := by decide +kernel
theorem dX12_beginClocks_17 : decode cX12_beginClocks 17 = .ok (.iconst 0, 1) := by decide +kernel
theorem dX12_beginClocks_18 : decode cX12_beginClocks 18 = .ok (.iastore, 1) := by decide +kernel
theorem dX12_beginClocks_19 : decode cX12_beginClocks 19 = .ok (.aload_n 0, 1) := by decide +kernel
theorem dX12_beginClocks_20 : decode cX12_beginClocks 20 = .ok (.getfield 127, 3) := by decide +kernel
theorem dX12_beginClocks_23 : decode cX12_beginClocks 23 = .ok (.iload_n 1, 1) := by decide +kernel
theorem dX12_beginClocks_24 : decode cX12_beginClocks 24 = .ok (.iconst 0, 1) := by decide +kernel
theorem dX12_beginClocks_25 : decode cX12_beginClocks 25 = .ok (.iastore, 1) := by decide +kernel
theorem dX12_beginClocks_26 : decode cX12_beginClocks 26 = .ok (.iinc 1 1, 3) := by decide +kernel
theorem dX12_beginClocks_29 : decode cX12_beginClocks 29 = .ok (.goto (-23), 3) := by decide +kernel
theorem dX12_beginClocks_32 : decode cX12_beginClocks 32 = .ok (.return_, 1) := by decide +kernel
theorem dX12_beginClocks_4 : decode cX12_beginClocks 4 = .ok (.iconst 0, 1) := by decide +kernel
theorem dX12_beginClocks_5 : decode cX12_beginClocks 5 = .ok (.istore_n 1, 1) := by decide +kernel
theorem dX12_beginClocks_6 : decode cX12_beginClocks 6 = .ok (.iload_n 1, 1) := by decide +kernel
theorem dX12_beginClocks_7 : decode cX12_beginClocks 7 = .ok (.bipush 8, 2) := by decide +kernel
theorem dX12_beginClocks_9 : decode cX12_beginClocks 9 = .ok (.if_icmp .ge 23, 3) := by decide +kernel
theorem dX12_bound_0 : decode cX12_bound 0 = .ok (.aload_n 0, 1) := by decide +kernel
theorem dX12_bound_1 : decode cX12_bound 1 = .ok (.iconst 0, 1) := by decide +kernel
theorem dX12_bound_11 : decode cX12_bound 11 = .ok (.ifCond .ne 5, 3) := by decide +kernel
theorem dX12_bound_14 : decode cX12_bound 14 = .ok (.iconst 0, 1) := by decide +kernel
theorem dX12_bound_15 : decode cX12_bound 15 = .ok (.ireturn, 1) := by decide +kernel
theorem dX12_bound_2 : decode cX12_bound 2 = .ok (.putfield 1, 3) := by decide +kernel
theorem dX12_bound_5 : decode cX12_bound 5 = .ok (.aload_n 0, 1) := by decide +kernel
theorem dX12_bound_6 : decode cX12_bound 6 = .ok (.iload_n 1, 1) := by decide +kernel
theorem dX12_bound_7 : decode cX12_bound 7 = .ok (.iconst 1, 1) := by decide +kernel
theorem dX12_bound_8 : decode cX12_bound 8 = .ok (.invokevirtual 297, 3) := by decide +kernel
theorem dX12_chainOf_0 : decode cX12_chainOf 0 = .ok (.iconst 0, 1) := by decide +kernel
theorem dX12_chainOf_1 : decode cX12_chainOf 1 = .ok (.istore_n 2, 1) := by decide +kernel
theorem dX12_chainOf_10 : decode cX12_chainOf 10 = .ok (.sipush 131, 3) := by decide +kernel
theorem dX12_chainOf_13 : decode cX12_chainOf 13 = .ok (.iload_n 2, 1) := by decide +kernel
theorem dX12_chainOf_14 : decode cX12_chainOf 14 = .ok (.imul, 1) := by decide +kernel
theorem dX12_chainOf_15 : decode cX12_chainOf 15 = .ok (.aload_n 0, 1) := by decide +kernel
theorem dX12_chainOf_16 : decode cX12_chainOf 16 = .ok (.iload_n 1, 1) := by decide +kernel
theorem dX12_chainOf_17 : decode cX12_chainOf 17 = .ok (.iload_n 3, 1) := by decide +kernel
theorem dX12_chainOf_18 : decode cX12_chainOf 18 = .ok (.iadd, 1) := by decide +kernel
theorem dX12_chainOf_19 : decode cX12_chainOf 19 = .ok (.iaload, 1) := by decide +kernel
theorem dX12_chainOf_2 : decode cX12_chainOf 2 = .ok (.iconst 0, 1) := by decide +kernel
theorem dX12_chainOf_20 : decode cX12_chainOf 20 = .ok (.iadd, 1) := by decide +kernel
theorem dX12_chainOf_21 : decode cX12_chainOf 21 = .ok (.istore_n 2, 1) := by decide +kernel
theorem dX12_chainOf_22 : decode cX12_chainOf 22 = .ok (.iinc 3 1, 3) := by decide +kernel
theorem dX12_chainOf_25 : decode cX12_chainOf 25 = .ok (.goto (-21), 3) := by decide +kernel
theorem dX12_chainOf_28 : decode cX12_chainOf 28 = .ok (.iload_n 2, 1) := by decide +kernel
theorem dX12_chainOf_29 : decode cX12_chainOf 29 = .ok (.iload_n 2, 1) := by decide +kernel
theorem dX12_chainOf_3 : decode cX12_chainOf 3 = .ok (.istore_n 3, 1) := by decide +kernel
theorem dX12_chainOf_30 : decode cX12_chainOf 30 = .ok (.bipush 15, 2) := by decide +kernel
theorem dX12_chainOf_32 : decode cX12_chainOf 32 = .ok (.iushr, 1) := by decide +kernel
theorem dX12_chainOf_33 : decode cX12_chainOf 33 = .ok (.ixor, 1) := by decide +kernel
theorem dX12_chainOf_34 : decode cX12_chainOf 34 = .ok (.sipush 4095, 3) := by decide +kernel
theorem dX12_chainOf_37 : decode cX12_chainOf 37 = .ok (.iand, 1) := by decide +kernel
theorem dX12_chainOf_38 : decode cX12_chainOf 38 = .ok (.ireturn, 1) := by decide +kernel
theorem dX12_chainOf_4 : decode cX12_chainOf 4 = .ok (.iload_n 3, 1) := by decide +kernel
theorem dX12_chainOf_5 : decode cX12_chainOf 5 = .ok (.bipush 8, 2) := by decide +kernel
theorem dX12_chainOf_7 : decode cX12_chainOf 7 = .ok (.if_icmp .ge 21, 3) := by decide +kernel
theorem dX12_cheapest_0 : decode cX12_cheapest 0 = .ok (.aload_n 0, 1) := by decide +kernel
theorem dX12_cheapest_1 : decode cX12_cheapest 1 = .ok (.iconst 0, 1) := by decide +kernel
theorem dX12_cheapest_100 : decode cX12_cheapest 100 = .ok (.iconst (-1), 1) := by decide +kernel
theorem dX12_cheapest_101 : decode cX12_cheapest 101 = .ok (.if_icmp .eq 27, 3) := by decide +kernel
theorem dX12_cheapest_104 : decode cX12_cheapest 104 = .ok (.iload_n 3, 1) := by decide +kernel
theorem dX12_cheapest_105 : decode cX12_cheapest 105 = .ok (.iconst (-1), 1) := by decide +kernel
theorem dX12_cheapest_106 : decode cX12_cheapest 106 = .ok (.if_icmp .eq 19, 3) := by decide +kernel
theorem dX12_cheapest_11 : decode cX12_cheapest 11 = .ok (.ifCond .ne 5, 3) := by decide +kernel
theorem dX12_cheapest_125 : decode cX12_cheapest 125 = .ok (.iload 4, 2) := by decide +kernel
theorem dX12_cheapest_127 : decode cX12_cheapest 127 = .ok (.istore_n 3, 1) := by decide +kernel
theorem dX12_cheapest_128 : decode cX12_cheapest 128 = .ok (.iinc 4 1, 3) := by decide +kernel
theorem dX12_cheapest_131 : decode cX12_cheapest 131 = .ok (.goto (-57), 3) := by decide +kernel
theorem dX12_cheapest_134 : decode cX12_cheapest 134 = .ok (.iload_n 3, 1) := by decide +kernel
theorem dX12_cheapest_135 : decode cX12_cheapest 135 = .ok (.iconst (-1), 1) := by decide +kernel
theorem dX12_cheapest_136 : decode cX12_cheapest 136 = .ok (.if_icmp .ne 5, 3) := by decide +kernel
theorem dX12_cheapest_14 : decode cX12_cheapest 14 = .ok (.iconst 0, 1) := by decide +kernel
theorem dX12_cheapest_141 : decode cX12_cheapest 141 = .ok (.aload_n 0, 1) := by decide +kernel
theorem dX12_cheapest_142 : decode cX12_cheapest 142 = .ok (.iload_n 3, 1) := by decide +kernel
theorem dX12_cheapest_143 : decode cX12_cheapest 143 = .ok (.iload_n 2, 1) := by decide +kernel
theorem dX12_cheapest_144 : decode cX12_cheapest 144 = .ok (.invokevirtual 360, 3) := by decide +kernel
theorem dX12_cheapest_147 : decode cX12_cheapest 147 = .ok (.ifCond .eq 10, 3) := by decide +kernel
theorem dX12_cheapest_15 : decode cX12_cheapest 15 = .ok (.ireturn, 1) := by decide +kernel
theorem dX12_cheapest_150 : decode cX12_cheapest 150 = .ok (.aload_n 0, 1) := by decide +kernel
theorem dX12_cheapest_151 : decode cX12_cheapest 151 = .ok (.getfield 96, 3) := by decide +kernel
theorem dX12_cheapest_154 : decode cX12_cheapest 154 = .ok (.iload_n 3, 1) := by decide +kernel
theorem dX12_cheapest_155 : decode cX12_cheapest 155 = .ok (.iaload, 1) := by decide +kernel
theorem dX12_cheapest_156 : decode cX12_cheapest 156 = .ok (.ireturn, 1) := by decide +kernel
theorem dX12_cheapest_16 : decode cX12_cheapest 16 = .ok (.aload_n 0, 1) := by decide +kernel
theorem dX12_cheapest_17 : decode cX12_cheapest 17 = .ok (.iload_n 1, 1) := by decide +kernel
theorem dX12_cheapest_18 : decode cX12_cheapest 18 = .ok (.invokevirtual 339, 3) := by decide +kernel
theorem dX12_cheapest_2 : decode cX12_cheapest 2 = .ok (.putfield 1, 3) := by decide +kernel
theorem dX12_cheapest_21 : decode cX12_cheapest 21 = .ok (.aload_n 0, 1) := by decide +kernel
theorem dX12_cheapest_22 : decode cX12_cheapest 22 = .ok (.getfield 325, 3) := by decide +kernel
theorem dX12_cheapest_25 : decode cX12_cheapest 25 = .ok (.ifCond .eq 6, 3) := by decide +kernel
theorem dX12_cheapest_31 : decode cX12_cheapest 31 = .ok (.iconst 0, 1) := by decide +kernel
theorem dX12_cheapest_32 : decode cX12_cheapest 32 = .ok (.istore_n 3, 1) := by decide +kernel
theorem dX12_cheapest_33 : decode cX12_cheapest 33 = .ok (.iload_n 3, 1) := by decide +kernel
theorem dX12_cheapest_34 : decode cX12_cheapest 34 = .ok (.aload_n 0, 1) := by decide +kernel
theorem dX12_cheapest_35 : decode cX12_cheapest 35 = .ok (.getfield 322, 3) := by decide +kernel
theorem dX12_cheapest_38 : decode cX12_cheapest 38 = .ok (.if_icmp .ge 31, 3) := by decide +kernel
theorem dX12_cheapest_41 : decode cX12_cheapest 41 = .ok (.aload_n 0, 1) := by decide +kernel
theorem dX12_cheapest_42 : decode cX12_cheapest 42 = .ok (.getfield 96, 3) := by decide +kernel
theorem dX12_cheapest_45 : decode cX12_cheapest 45 = .ok (.iload_n 3, 1) := by decide +kernel
theorem dX12_cheapest_46 : decode cX12_cheapest 46 = .ok (.iload_n 3, 1) := by decide +kernel
theorem dX12_cheapest_47 : decode cX12_cheapest 47 = .ok (.ifCond .ne 7, 3) := by decide +kernel
theorem dX12_cheapest_5 : decode cX12_cheapest 5 = .ok (.aload_n 0, 1) := by decide +kernel
theorem dX12_cheapest_50 : decode cX12_cheapest 50 = .ok (.iconst 0, 1) := by decide +kernel
theorem dX12_cheapest_51 : decode cX12_cheapest 51 = .ok (.goto 4, 3) := by decide +kernel
theorem dX12_cheapest_55 : decode cX12_cheapest 55 = .ok (.iastore, 1) := by decide +kernel
theorem dX12_cheapest_56 : decode cX12_cheapest 56 = .ok (.aload_n 0, 1) := by decide +kernel
theorem dX12_cheapest_57 : decode cX12_cheapest 57 = .ok (.getfield 83, 3) := by decide +kernel
theorem dX12_cheapest_6 : decode cX12_cheapest 6 = .ok (.iload_n 1, 1) := by decide +kernel
theorem dX12_cheapest_60 : decode cX12_cheapest 60 = .ok (.iload_n 3, 1) := by decide +kernel
theorem dX12_cheapest_61 : decode cX12_cheapest 61 = .ok (.iconst 0, 1) := by decide +kernel
theorem dX12_cheapest_62 : decode cX12_cheapest 62 = .ok (.bastore, 1) := by decide +kernel
theorem dX12_cheapest_63 : decode cX12_cheapest 63 = .ok (.iinc 3 1, 3) := by decide +kernel
theorem dX12_cheapest_66 : decode cX12_cheapest 66 = .ok (.goto (-33), 3) := by decide +kernel
theorem dX12_cheapest_69 : decode cX12_cheapest 69 = .ok (.iconst (-1), 1) := by decide +kernel
theorem dX12_cheapest_7 : decode cX12_cheapest 7 = .ok (.iconst 1, 1) := by decide +kernel
theorem dX12_cheapest_70 : decode cX12_cheapest 70 = .ok (.istore_n 3, 1) := by decide +kernel
theorem dX12_cheapest_71 : decode cX12_cheapest 71 = .ok (.iconst 0, 1) := by decide +kernel
theorem dX12_cheapest_72 : decode cX12_cheapest 72 = .ok (.istore 4, 2) := by decide +kernel
theorem dX12_cheapest_74 : decode cX12_cheapest 74 = .ok (.iload 4, 2) := by decide +kernel
theorem dX12_cheapest_76 : decode cX12_cheapest 76 = .ok (.aload_n 0, 1) := by decide +kernel
theorem dX12_cheapest_77 : decode cX12_cheapest 77 = .ok (.getfield 322, 3) := by decide +kernel
theorem dX12_cheapest_8 : decode cX12_cheapest 8 = .ok (.invokevirtual 336, 3) := by decide +kernel
theorem dX12_cheapest_80 : decode cX12_cheapest 80 = .ok (.if_icmp .ge 54, 3) := by decide +kernel
theorem dX12_cheapest_83 : decode cX12_cheapest 83 = .ok (.aload_n 0, 1) := by decide +kernel
theorem dX12_cheapest_84 : decode cX12_cheapest 84 = .ok (.getfield 83, 3) := by decide +kernel
theorem dX12_cheapest_87 : decode cX12_cheapest 87 = .ok (.iload 4, 2) := by decide +kernel
theorem dX12_cheapest_89 : decode cX12_cheapest 89 = .ok (.baload, 1) := by decide +kernel
theorem dX12_cheapest_90 : decode cX12_cheapest 90 = .ok (.ifCond .ne 38, 3) := by decide +kernel
theorem dX12_cheapest_93 : decode cX12_cheapest 93 = .ok (.aload_n 0, 1) := by decide +kernel
theorem dX12_cheapest_94 : decode cX12_cheapest 94 = .ok (.getfield 96, 3) := by decide +kernel
theorem dX12_cheapest_97 : decode cX12_cheapest 97 = .ok (.iload 4, 2) := by decide +kernel
theorem dX12_cheapest_99 : decode cX12_cheapest 99 = .ok (.iaload, 1) := by decide +kernel
theorem dX12_clear_0 : decode cX12_clear 0 = .ok (.aload_n 0, 1) := by decide +kernel
theorem dX12_clear_1 : decode cX12_clear 1 = .ok (.iconst 0, 1) := by decide +kernel
theorem dX12_clear_11 : decode cX12_clear 11 = .ok (.iaload, 1) := by decide +kernel
theorem dX12_clear_12 : decode cX12_clear 12 = .ok (.istore_n 1, 1) := by decide +kernel
theorem dX12_clear_13 : decode cX12_clear 13 = .ok (.aload_n 0, 1) := by decide +kernel
theorem dX12_clear_14 : decode cX12_clear 14 = .ok (.getfield 41, 3) := by decide +kernel
theorem dX12_clear_17 : decode cX12_clear 17 = .ok (.bipush 16, 2) := by decide +kernel
theorem dX12_clear_19 : decode cX12_clear 19 = .ok (.iconst 0, 1) := by decide +kernel
theorem dX12_clear_2 : decode cX12_clear 2 = .ok (.putfield 1, 3) := by decide +kernel
theorem dX12_clear_20 : decode cX12_clear 20 = .ok (.iastore, 1) := by decide +kernel
theorem dX12_clear_21 : decode cX12_clear 21 = .ok (.iload_n 1, 1) := by decide +kernel
theorem dX12_clear_22 : decode cX12_clear 22 = .ok (.ireturn, 1) := by decide +kernel
theorem dX12_clear_5 : decode cX12_clear 5 = .ok (.aload_n 0, 1) := by decide +kernel
theorem dX12_clear_6 : decode cX12_clear 6 = .ok (.getfield 41, 3) := by decide +kernel
theorem dX12_clear_9 : decode cX12_clear 9 = .ok (.bipush 16, 2) := by decide +kernel
theorem dX12_clock_0 : decode cX12_clock 0 = .ok (.aload_n 0, 1) := by decide +kernel
theorem dX12_clock_1 : decode cX12_clock 1 = .ok (.iconst 0, 1) := by decide +kernel
theorem dX12_clock_11 : decode cX12_clock 11 = .ok (.ifCond .eq 15, 3) := by decide +kernel
theorem dX12_clock_2 : decode cX12_clock 2 = .ok (.putfield 1, 3) := by decide +kernel
theorem dX12_clock_26 : decode cX12_clock 26 = .ok (.iconst 0, 1) := by decide +kernel
theorem dX12_clock_27 : decode cX12_clock 27 = .ok (.ireturn, 1) := by decide +kernel
theorem dX12_clock_5 : decode cX12_clock 5 = .ok (.aload_n 0, 1) := by decide +kernel
theorem dX12_clock_6 : decode cX12_clock 6 = .ok (.iload_n 2, 1) := by decide +kernel
theorem dX12_clock_7 : decode cX12_clock 7 = .ok (.iconst 1, 1) := by decide +kernel
theorem dX12_clock_8 : decode cX12_clock 8 = .ok (.invokevirtual 297, 3) := by decide +kernel
theorem dX12_come_0 : decode cX12_come 0 = .ok (.aload_n 0, 1) := by decide +kernel
theorem dX12_come_1 : decode cX12_come 1 = .ok (.getfield 322, 3) := by decide +kernel
theorem dX12_come_11 : decode cX12_come 11 = .ok (.bipush 8, 2) := by decide +kernel
theorem dX12_come_13 : decode cX12_come 13 = .ok (.if_icmp .ge 26, 3) := by decide +kernel
theorem dX12_come_16 : decode cX12_come 16 = .ok (.aload_n 0, 1) := by decide +kernel
theorem dX12_come_17 : decode cX12_come 17 = .ok (.getfield 50, 3) := by decide +kernel
theorem dX12_come_20 : decode cX12_come 20 = .ok (.bipush 8, 2) := by decide +kernel
theorem dX12_come_22 : decode cX12_come 22 = .ok (.iload 4, 2) := by decide +kernel
theorem dX12_come_24 : decode cX12_come 24 = .ok (.imul, 1) := by decide +kernel
theorem dX12_come_25 : decode cX12_come 25 = .ok (.iload 5, 2) := by decide +kernel
theorem dX12_come_27 : decode cX12_come 27 = .ok (.iadd, 1) := by decide +kernel
theorem dX12_come_28 : decode cX12_come 28 = .ok (.aload_n 1, 1) := by decide +kernel
theorem dX12_come_29 : decode cX12_come 29 = .ok (.iload 5, 2) := by decide +kernel
theorem dX12_come_31 : decode cX12_come 31 = .ok (.iaload, 1) := by decide +kernel
theorem dX12_come_32 : decode cX12_come 32 = .ok (.iastore, 1) := by decide +kernel
theorem dX12_come_33 : decode cX12_come 33 = .ok (.iinc 5 1, 3) := by decide +kernel
theorem dX12_come_36 : decode cX12_come 36 = .ok (.goto (-27), 3) := by decide +kernel
theorem dX12_come_39 : decode cX12_come 39 = .ok (.aload_n 1, 1) := by decide +kernel
theorem dX12_come_4 : decode cX12_come 4 = .ok (.istore 4, 2) := by decide +kernel
theorem dX12_come_40 : decode cX12_come 40 = .ok (.iconst 0, 1) := by decide +kernel
theorem dX12_come_41 : decode cX12_come 41 = .ok (.invokestatic 318, 3) := by decide +kernel
theorem dX12_come_44 : decode cX12_come 44 = .ok (.istore 5, 2) := by decide +kernel
theorem dX12_come_46 : decode cX12_come 46 = .ok (.aload_n 0, 1) := by decide +kernel
theorem dX12_come_47 : decode cX12_come 47 = .ok (.getfield 65, 3) := by decide +kernel
theorem dX12_come_50 : decode cX12_come 50 = .ok (.iload 4, 2) := by decide +kernel
theorem dX12_come_52 : decode cX12_come 52 = .ok (.aload_n 0, 1) := by decide +kernel
theorem dX12_come_53 : decode cX12_come 53 = .ok (.getfield 62, 3) := by decide +kernel
theorem dX12_come_56 : decode cX12_come 56 = .ok (.iload 5, 2) := by decide +kernel
theorem dX12_come_58 : decode cX12_come 58 = .ok (.iaload, 1) := by decide +kernel
theorem dX12_come_59 : decode cX12_come 59 = .ok (.iastore, 1) := by decide +kernel
theorem dX12_come_6 : decode cX12_come 6 = .ok (.iconst 0, 1) := by decide +kernel
theorem dX12_come_60 : decode cX12_come 60 = .ok (.aload_n 0, 1) := by decide +kernel
theorem dX12_come_61 : decode cX12_come 61 = .ok (.getfield 62, 3) := by decide +kernel
theorem dX12_come_64 : decode cX12_come 64 = .ok (.iload 5, 2) := by decide +kernel
theorem dX12_come_66 : decode cX12_come 66 = .ok (.iload 4, 2) := by decide +kernel
theorem dX12_come_68 : decode cX12_come 68 = .ok (.iastore, 1) := by decide +kernel
theorem dX12_come_69 : decode cX12_come 69 = .ok (.aload_n 0, 1) := by decide +kernel
theorem dX12_come_7 : decode cX12_come 7 = .ok (.istore 5, 2) := by decide +kernel
theorem dX12_come_70 : decode cX12_come 70 = .ok (.getfield 56, 3) := by decide +kernel
theorem dX12_come_73 : decode cX12_come 73 = .ok (.iload 4, 2) := by decide +kernel
theorem dX12_come_75 : decode cX12_come 75 = .ok (.iload_n 2, 1) := by decide +kernel
theorem dX12_come_76 : decode cX12_come 76 = .ok (.iastore, 1) := by decide +kernel
theorem dX12_come_77 : decode cX12_come 77 = .ok (.aload_n 0, 1) := by decide +kernel
theorem dX12_come_78 : decode cX12_come 78 = .ok (.getfield 59, 3) := by decide +kernel
theorem dX12_come_81 : decode cX12_come 81 = .ok (.iload 4, 2) := by decide +kernel
theorem dX12_come_83 : decode cX12_come 83 = .ok (.iload_n 3, 1) := by decide +kernel
theorem dX12_come_84 : decode cX12_come 84 = .ok (.iastore, 1) := by decide +kernel
theorem dX12_come_85 : decode cX12_come 85 = .ok (.aload_n 0, 1) := by decide +kernel
theorem dX12_come_86 : decode cX12_come 86 = .ok (.dup, 1) := by decide +kernel
theorem dX12_come_87 : decode cX12_come 87 = .ok (.getfield 322, 3) := by decide +kernel
theorem dX12_come_9 : decode cX12_come 9 = .ok (.iload 5, 2) := by decide +kernel
theorem dX12_come_90 : decode cX12_come 90 = .ok (.iconst 1, 1) := by decide +kernel
theorem dX12_come_91 : decode cX12_come 91 = .ok (.iadd, 1) := by decide +kernel
theorem dX12_come_92 : decode cX12_come 92 = .ok (.putfield 322, 3) := by decide +kernel
theorem dX12_come_95 : decode cX12_come 95 = .ok (.iload 4, 2) := by decide +kernel
theorem dX12_come_97 : decode cX12_come 97 = .ok (.ireturn, 1) := by decide +kernel
theorem dX12_count_0 : decode cX12_count 0 = .ok (.aload_n 0, 1) := by decide +kernel
theorem dX12_count_1 : decode cX12_count 1 = .ok (.iconst 0, 1) := by decide +kernel
theorem dX12_count_10 : decode cX12_count 10 = .ok (.getfield 41, 3) := by decide +kernel
theorem dX12_count_13 : decode cX12_count 13 = .ok (.bipush 16, 2) := by decide +kernel
theorem dX12_count_15 : decode cX12_count 15 = .ok (.iaload, 1) := by decide +kernel
theorem dX12_count_16 : decode cX12_count 16 = .ok (.goto 28, 3) := by decide +kernel
theorem dX12_count_19 : decode cX12_count 19 = .ok (.iload_n 1, 1) := by decide +kernel
theorem dX12_count_2 : decode cX12_count 2 = .ok (.putfield 1, 3) := by decide +kernel
theorem dX12_count_20 : decode cX12_count 20 = .ok (.iconst 1, 1) := by decide +kernel
theorem dX12_count_21 : decode cX12_count 21 = .ok (.if_icmp .ne 10, 3) := by decide +kernel
theorem dX12_count_24 : decode cX12_count 24 = .ok (.aload_n 0, 1) := by decide +kernel
theorem dX12_count_25 : decode cX12_count 25 = .ok (.getfield 283, 3) := by decide +kernel
theorem dX12_count_28 : decode cX12_count 28 = .ok (.goto 16, 3) := by decide +kernel
theorem dX12_count_31 : decode cX12_count 31 = .ok (.iload_n 1, 1) := by decide +kernel
theorem dX12_count_32 : decode cX12_count 32 = .ok (.iconst 2, 1) := by decide +kernel
theorem dX12_count_33 : decode cX12_count 33 = .ok (.if_icmp .ne 10, 3) := by decide +kernel
theorem dX12_count_36 : decode cX12_count 36 = .ok (.aload_n 0, 1) := by decide +kernel
theorem dX12_count_37 : decode cX12_count 37 = .ok (.getfield 148, 3) := by decide +kernel
theorem dX12_count_40 : decode cX12_count 40 = .ok (.goto 4, 3) := by decide +kernel
theorem dX12_count_43 : decode cX12_count 43 = .ok (.iconst (-1), 1) := by decide +kernel
theorem dX12_count_44 : decode cX12_count 44 = .ok (.ireturn, 1) := by decide +kernel
theorem dX12_count_5 : decode cX12_count 5 = .ok (.iload_n 1, 1) := by decide +kernel
theorem dX12_count_6 : decode cX12_count 6 = .ok (.ifCond .ne 13, 3) := by decide +kernel
theorem dX12_count_9 : decode cX12_count 9 = .ok (.aload_n 0, 1) := by decide +kernel
theorem dX12_dead_0 : decode cX12_dead 0 = .ok (.aload_n 0, 1) := by decide +kernel
theorem dX12_dead_1 : decode cX12_dead 1 = .ok (.iconst 0, 1) := by decide +kernel
theorem dX12_dead_11 : decode cX12_dead 11 = .ok (.ifCond .ne 5, 3) := by decide +kernel
theorem dX12_dead_14 : decode cX12_dead 14 = .ok (.iconst 0, 1) := by decide +kernel
theorem dX12_dead_15 : decode cX12_dead 15 = .ok (.ireturn, 1) := by decide +kernel
theorem dX12_dead_16 : decode cX12_dead 16 = .ok (.aload_n 0, 1) := by decide +kernel
theorem dX12_dead_17 : decode cX12_dead 17 = .ok (.iload_n 1, 1) := by decide +kernel
theorem dX12_dead_18 : decode cX12_dead 18 = .ok (.invokevirtual 339, 3) := by decide +kernel
theorem dX12_dead_2 : decode cX12_dead 2 = .ok (.putfield 1, 3) := by decide +kernel
theorem dX12_dead_21 : decode cX12_dead 21 = .ok (.aload_n 0, 1) := by decide +kernel
theorem dX12_dead_22 : decode cX12_dead 22 = .ok (.getfield 325, 3) := by decide +kernel
theorem dX12_dead_25 : decode cX12_dead 25 = .ok (.ifCond .eq 6, 3) := by decide +kernel
theorem dX12_dead_31 : decode cX12_dead 31 = .ok (.iconst 0, 1) := by decide +kernel
theorem dX12_dead_32 : decode cX12_dead 32 = .ok (.istore_n 3, 1) := by decide +kernel
theorem dX12_dead_33 : decode cX12_dead 33 = .ok (.iconst 0, 1) := by decide +kernel
theorem dX12_dead_34 : decode cX12_dead 34 = .ok (.istore 4, 2) := by decide +kernel
theorem dX12_dead_36 : decode cX12_dead 36 = .ok (.iload 4, 2) := by decide +kernel
theorem dX12_dead_38 : decode cX12_dead 38 = .ok (.aload_n 0, 1) := by decide +kernel
theorem dX12_dead_39 : decode cX12_dead 39 = .ok (.getfield 322, 3) := by decide +kernel
theorem dX12_dead_42 : decode cX12_dead 42 = .ok (.if_icmp .ge 32, 3) := by decide +kernel
theorem dX12_dead_45 : decode cX12_dead 45 = .ok (.aload_n 0, 1) := by decide +kernel
theorem dX12_dead_46 : decode cX12_dead 46 = .ok (.iload 4, 2) := by decide +kernel
theorem dX12_dead_48 : decode cX12_dead 48 = .ok (.invokevirtual 342, 3) := by decide +kernel
theorem dX12_dead_5 : decode cX12_dead 5 = .ok (.aload_n 0, 1) := by decide +kernel
theorem dX12_dead_51 : decode cX12_dead 51 = .ok (.ifCond .ne 6, 3) := by decide +kernel
theorem dX12_dead_57 : decode cX12_dead 57 = .ok (.iload_n 3, 1) := by decide +kernel
theorem dX12_dead_58 : decode cX12_dead 58 = .ok (.iload_n 2, 1) := by decide +kernel
theorem dX12_dead_59 : decode cX12_dead 59 = .ok (.if_icmp .ne 6, 3) := by decide +kernel
theorem dX12_dead_6 : decode cX12_dead 6 = .ok (.iload_n 1, 1) := by decide +kernel
theorem dX12_dead_62 : decode cX12_dead 62 = .ok (.iload 4, 2) := by decide +kernel
theorem dX12_dead_64 : decode cX12_dead 64 = .ok (.ireturn, 1) := by decide +kernel
theorem dX12_dead_65 : decode cX12_dead 65 = .ok (.iinc 3 1, 3) := by decide +kernel
theorem dX12_dead_68 : decode cX12_dead 68 = .ok (.iinc 4 1, 3) := by decide +kernel
theorem dX12_dead_7 : decode cX12_dead 7 = .ok (.iconst 1, 1) := by decide +kernel
theorem dX12_dead_71 : decode cX12_dead 71 = .ok (.goto (-35), 3) := by decide +kernel
theorem dX12_dead_74 : decode cX12_dead 74 = .ok (.iconst (-1), 1) := by decide +kernel
theorem dX12_dead_75 : decode cX12_dead 75 = .ok (.ireturn, 1) := by decide +kernel
theorem dX12_dead_8 : decode cX12_dead 8 = .ok (.invokevirtual 336, 3) := by decide +kernel
theorem dX12_deepest_0 : decode cX12_deepest 0 = .ok (.aload_n 0, 1) := by decide +kernel
theorem dX12_deepest_1 : decode cX12_deepest 1 = .ok (.iconst 0, 1) := by decide +kernel
theorem dX12_deepest_11 : decode cX12_deepest 11 = .ok (.ifCond .eq 17, 3) := by decide +kernel
theorem dX12_deepest_14 : decode cX12_deepest 14 = .ok (.aload_n 0, 1) := by decide +kernel
theorem dX12_deepest_15 : decode cX12_deepest 15 = .ok (.iload_n 2, 1) := by decide +kernel
theorem dX12_deepest_16 : decode cX12_deepest 16 = .ok (.iconst 0, 1) := by decide +kernel
theorem dX12_deepest_17 : decode cX12_deepest 17 = .ok (.iconst 1, 1) := by decide +kernel
theorem dX12_deepest_18 : decode cX12_deepest 18 = .ok (.invokestatic 289, 3) := by decide +kernel
theorem dX12_deepest_2 : decode cX12_deepest 2 = .ok (.putfield 1, 3) := by decide +kernel
theorem dX12_deepest_21 : decode cX12_deepest 21 = .ok (.iconst 1, 1) := by decide +kernel
theorem dX12_deepest_22 : decode cX12_deepest 22 = .ok (.invokevirtual 267, 3) := by decide +kernel
theorem dX12_deepest_25 : decode cX12_deepest 25 = .ok (.ifCond .ne 5, 3) := by decide +kernel
theorem dX12_deepest_28 : decode cX12_deepest 28 = .ok (.iconst 0, 1) := by decide +kernel
theorem dX12_deepest_29 : decode cX12_deepest 29 = .ok (.ireturn, 1) := by decide +kernel
theorem dX12_deepest_30 : decode cX12_deepest 30 = .ok (.aload_n 0, 1) := by decide +kernel
theorem dX12_deepest_31 : decode cX12_deepest 31 = .ok (.iload_n 1, 1) := by decide +kernel
theorem dX12_deepest_32 : decode cX12_deepest 32 = .ok (.invokevirtual 339, 3) := by decide +kernel
theorem dX12_deepest_35 : decode cX12_deepest 35 = .ok (.aload_n 0, 1) := by decide +kernel
theorem dX12_deepest_36 : decode cX12_deepest 36 = .ok (.getfield 325, 3) := by decide +kernel
theorem dX12_deepest_39 : decode cX12_deepest 39 = .ok (.ifCond .eq 6, 3) := by decide +kernel
theorem dX12_deepest_45 : decode cX12_deepest 45 = .ok (.aload_n 0, 1) := by decide +kernel
theorem dX12_deepest_46 : decode cX12_deepest 46 = .ok (.aload_n 0, 1) := by decide +kernel
theorem dX12_deepest_47 : decode cX12_deepest 47 = .ok (.getfield 322, 3) := by decide +kernel
theorem dX12_deepest_5 : decode cX12_deepest 5 = .ok (.aload_n 0, 1) := by decide +kernel
theorem dX12_deepest_50 : decode cX12_deepest 50 = .ok (.iconst 1, 1) := by decide +kernel
theorem dX12_deepest_51 : decode cX12_deepest 51 = .ok (.isub, 1) := by decide +kernel
theorem dX12_deepest_52 : decode cX12_deepest 52 = .ok (.invokevirtual 368, 3) := by decide +kernel
theorem dX12_deepest_55 : decode cX12_deepest 55 = .ok (.istore_n 3, 1) := by decide +kernel
theorem dX12_deepest_56 : decode cX12_deepest 56 = .ok (.iload_n 2, 1) := by decide +kernel
theorem dX12_deepest_57 : decode cX12_deepest 57 = .ok (.ifCond .ne 5, 3) := by decide +kernel
theorem dX12_deepest_6 : decode cX12_deepest 6 = .ok (.iload_n 1, 1) := by decide +kernel
theorem dX12_deepest_60 : decode cX12_deepest 60 = .ok (.iload_n 3, 1) := by decide +kernel
theorem dX12_deepest_61 : decode cX12_deepest 61 = .ok (.ireturn, 1) := by decide +kernel
theorem dX12_deepest_62 : decode cX12_deepest 62 = .ok (.aload_n 0, 1) := by decide +kernel
theorem dX12_deepest_63 : decode cX12_deepest 63 = .ok (.getfield 322, 3) := by decide +kernel
theorem dX12_deepest_66 : decode cX12_deepest 66 = .ok (.iconst 1, 1) := by decide +kernel
theorem dX12_deepest_67 : decode cX12_deepest 67 = .ok (.isub, 1) := by decide +kernel
theorem dX12_deepest_68 : decode cX12_deepest 68 = .ok (.istore 4, 2) := by decide +kernel
theorem dX12_deepest_7 : decode cX12_deepest 7 = .ok (.iconst 1, 1) := by decide +kernel
theorem dX12_deepest_70 : decode cX12_deepest 70 = .ok (.iload 4, 2) := by decide +kernel
theorem dX12_deepest_72 : decode cX12_deepest 72 = .ok (.ifCond .le 21, 3) := by decide +kernel
theorem dX12_deepest_8 : decode cX12_deepest 8 = .ok (.invokevirtual 336, 3) := by decide +kernel
theorem dX12_deepest_93 : decode cX12_deepest 93 = .ok (.iload 4, 2) := by decide +kernel
theorem dX12_deepest_95 : decode cX12_deepest 95 = .ok (.ireturn, 1) := by decide +kernel
theorem dX12_drawn_0 : decode cX12_drawn 0 = .ok (.iload_n 2, 1) := by decide +kernel
theorem dX12_drawn_1 : decode cX12_drawn 1 = .ok (.istore_n 3, 1) := by decide +kernel
theorem dX12_drawn_11 : decode cX12_drawn 11 = .ok (.iload_n 1, 1) := by decide +kernel
theorem dX12_drawn_12 : decode cX12_drawn 12 = .ok (.if_icmp .ge 141, 3) := by decide +kernel
theorem dX12_drawn_15 : decode cX12_drawn 15 = .ok (.iconst 0, 1) := by decide +kernel
theorem dX12_drawn_16 : decode cX12_drawn 16 = .ok (.istore 5, 2) := by decide +kernel
theorem dX12_drawn_18 : decode cX12_drawn 18 = .ok (.iconst 0, 1) := by decide +kernel
theorem dX12_drawn_19 : decode cX12_drawn 19 = .ok (.istore 6, 2) := by decide +kernel
theorem dX12_drawn_2 : decode cX12_drawn 2 = .ok (.aload_n 0, 1) := by decide +kernel
theorem dX12_drawn_21 : decode cX12_drawn 21 = .ok (.iload 6, 2) := by decide +kernel
theorem dX12_drawn_23 : decode cX12_drawn 23 = .ok (.aload_n 0, 1) := by decide +kernel
theorem dX12_drawn_24 : decode cX12_drawn 24 = .ok (.invokevirtual 286, 3) := by decide +kernel
theorem dX12_drawn_27 : decode cX12_drawn 27 = .ok (.if_icmp .ge 33, 3) := by decide +kernel
theorem dX12_drawn_3 : decode cX12_drawn 3 = .ok (.invokevirtual 315, 3) := by decide +kernel
theorem dX12_drawn_6 : decode cX12_drawn 6 = .ok (.iconst 0, 1) := by decide +kernel
theorem dX12_drawn_60 : decode cX12_drawn 60 = .ok (.iload 5, 2) := by decide +kernel
theorem dX12_drawn_62 : decode cX12_drawn 62 = .ok (.ifCond .ne 6, 3) := by decide +kernel
theorem dX12_drawn_65 : decode cX12_drawn 65 = .ok (.iload 4, 2) := by decide +kernel
theorem dX12_drawn_67 : decode cX12_drawn 67 = .ok (.ireturn, 1) := by decide +kernel
theorem dX12_drawn_7 : decode cX12_drawn 7 = .ok (.istore 4, 2) := by decide +kernel
theorem dX12_drawn_9 : decode cX12_drawn 9 = .ok (.iload 4, 2) := by decide +kernel
theorem dX12_explores_0 : decode cX12_explores 0 = .ok (.iconst 0, 1) := by decide +kernel
theorem dX12_explores_1 : decode cX12_explores 1 = .ok (.istore_n 2, 1) := by decide +kernel
theorem dX12_explores_10 : decode cX12_explores 10 = .ok (.getfield 62, 3) := by decide +kernel
theorem dX12_explores_13 : decode cX12_explores 13 = .ok (.iload_n 2, 1) := by decide +kernel
theorem dX12_explores_14 : decode cX12_explores 14 = .ok (.iconst (-1), 1) := by decide +kernel
theorem dX12_explores_15 : decode cX12_explores 15 = .ok (.iastore, 1) := by decide +kernel
theorem dX12_explores_16 : decode cX12_explores 16 = .ok (.iinc 2 1, 3) := by decide +kernel
theorem dX12_explores_19 : decode cX12_explores 19 = .ok (.goto (-17), 3) := by decide +kernel
theorem dX12_explores_2 : decode cX12_explores 2 = .ok (.iload_n 2, 1) := by decide +kernel
theorem dX12_explores_22 : decode cX12_explores 22 = .ok (.aload_n 0, 1) := by decide +kernel
theorem dX12_explores_23 : decode cX12_explores 23 = .ok (.iconst 0, 1) := by decide +kernel
theorem dX12_explores_236 : decode cX12_explores 236 = .ok (.iinc 2 1, 3) := by decide +kernel
theorem dX12_explores_239 : decode cX12_explores 239 = .ok (.goto (-190), 3) := by decide +kernel
theorem dX12_explores_24 : decode cX12_explores 24 = .ok (.putfield 322, 3) := by decide +kernel
theorem dX12_explores_242 : decode cX12_explores 242 = .ok (.return_, 1) := by decide +kernel
theorem dX12_explores_27 : decode cX12_explores 27 = .ok (.aload_n 0, 1) := by decide +kernel
theorem dX12_explores_28 : decode cX12_explores 28 = .ok (.iconst 0, 1) := by decide +kernel
theorem dX12_explores_29 : decode cX12_explores 29 = .ok (.putfield 325, 3) := by decide +kernel
theorem dX12_explores_3 : decode cX12_explores 3 = .ok (.sipush 4096, 3) := by decide +kernel
theorem dX12_explores_32 : decode cX12_explores 32 = .ok (.aload_n 0, 1) := by decide +kernel
theorem dX12_explores_33 : decode cX12_explores 33 = .ok (.invokevirtual 315, 3) := by decide +kernel
theorem dX12_explores_36 : decode cX12_explores 36 = .ok (.aload_n 0, 1) := by decide +kernel
theorem dX12_explores_37 : decode cX12_explores 37 = .ok (.aload_n 0, 1) := by decide +kernel
theorem dX12_explores_38 : decode cX12_explores 38 = .ok (.getfield 47, 3) := by decide +kernel
theorem dX12_explores_41 : decode cX12_explores 41 = .ok (.iconst (-1), 1) := by decide +kernel
theorem dX12_explores_42 : decode cX12_explores 42 = .ok (.iconst (-1), 1) := by decide +kernel
theorem dX12_explores_43 : decode cX12_explores 43 = .ok (.invokevirtual 329, 3) := by decide +kernel
theorem dX12_explores_46 : decode cX12_explores 46 = .ok (.pop, 1) := by decide +kernel
theorem dX12_explores_47 : decode cX12_explores 47 = .ok (.iconst 0, 1) := by decide +kernel
theorem dX12_explores_48 : decode cX12_explores 48 = .ok (.istore_n 2, 1) := by decide +kernel
theorem dX12_explores_49 : decode cX12_explores 49 = .ok (.iload_n 2, 1) := by decide +kernel
theorem dX12_explores_50 : decode cX12_explores 50 = .ok (.aload_n 0, 1) := by decide +kernel
theorem dX12_explores_51 : decode cX12_explores 51 = .ok (.getfield 322, 3) := by decide +kernel
theorem dX12_explores_54 : decode cX12_explores 54 = .ok (.if_icmp .ge 188, 3) := by decide +kernel
theorem dX12_explores_57 : decode cX12_explores 57 = .ok (.aload_n 0, 1) := by decide +kernel
theorem dX12_explores_58 : decode cX12_explores 58 = .ok (.getfield 325, 3) := by decide +kernel
theorem dX12_explores_6 : decode cX12_explores 6 = .ok (.if_icmp .ge 16, 3) := by decide +kernel
theorem dX12_explores_61 : decode cX12_explores 61 = .ok (.ifCond .ne 181, 3) := by decide +kernel
theorem dX12_explores_64 : decode cX12_explores 64 = .ok (.iconst 0, 1) := by decide +kernel
theorem dX12_explores_65 : decode cX12_explores 65 = .ok (.istore_n 3, 1) := by decide +kernel
theorem dX12_explores_66 : decode cX12_explores 66 = .ok (.iload_n 3, 1) := by decide +kernel
theorem dX12_explores_67 : decode cX12_explores 67 = .ok (.aload_n 0, 1) := by decide +kernel
theorem dX12_explores_68 : decode cX12_explores 68 = .ok (.invokevirtual 286, 3) := by decide +kernel
theorem dX12_explores_71 : decode cX12_explores 71 = .ok (.if_icmp .ge 165, 3) := by decide +kernel
theorem dX12_explores_9 : decode cX12_explores 9 = .ok (.aload_n 0, 1) := by decide +kernel
theorem dX12_far_0 : decode cX12_far 0 = .ok (.iconst 0, 1) := by decide +kernel
theorem dX12_far_1 : decode cX12_far 1 = .ok (.istore_n 2, 1) := by decide +kernel
theorem dX12_far_10 : decode cX12_far 10 = .ok (.iconst (-1), 1) := by decide +kernel
theorem dX12_far_11 : decode cX12_far 11 = .ok (.if_icmp .eq 16, 3) := by decide +kernel
theorem dX12_far_2 : decode cX12_far 2 = .ok (.iload_n 1, 1) := by decide +kernel
theorem dX12_far_27 : decode cX12_far 27 = .ok (.iload_n 2, 1) := by decide +kernel
theorem dX12_far_28 : decode cX12_far 28 = .ok (.ireturn, 1) := by decide +kernel
theorem dX12_far_3 : decode cX12_far 3 = .ok (.istore_n 3, 1) := by decide +kernel
theorem dX12_far_4 : decode cX12_far 4 = .ok (.aload_n 0, 1) := by decide +kernel
theorem dX12_far_5 : decode cX12_far 5 = .ok (.getfield 56, 3) := by decide +kernel
theorem dX12_far_8 : decode cX12_far 8 = .ok (.iload_n 3, 1) := by decide +kernel
theorem dX12_far_9 : decode cX12_far 9 = .ok (.iaload, 1) := by decide +kernel
theorem dX12_fault_0 : decode cX12_fault 0 = .ok (.aload_n 0, 1) := by decide +kernel
theorem dX12_fault_1 : decode cX12_fault 1 = .ok (.iconst 0, 1) := by decide +kernel
theorem dX12_fault_2 : decode cX12_fault 2 = .ok (.putfield 1, 3) := by decide +kernel
theorem dX12_fault_5 : decode cX12_fault 5 = .ok (.aload_n 0, 1) := by decide +kernel
theorem dX12_fault_6 : decode cX12_fault 6 = .ok (.getfield 13, 3) := by decide +kernel
theorem dX12_fault_9 : decode cX12_fault 9 = .ok (.ireturn, 1) := by decide +kernel
theorem dX12_feed_0 : decode cX12_feed 0 = .ok (.aload_n 0, 1) := by decide +kernel
theorem dX12_feed_1 : decode cX12_feed 1 = .ok (.iconst 0, 1) := by decide +kernel
theorem dX12_feed_102 : decode cX12_feed 102 = .ok (.iand, 1) := by decide +kernel
theorem dX12_feed_103 : decode cX12_feed 103 = .ok (.iastore, 1) := by decide +kernel
theorem dX12_feed_104 : decode cX12_feed 104 = .ok (.aload_n 0, 1) := by decide +kernel
theorem dX12_feed_105 : decode cX12_feed 105 = .ok (.dup, 1) := by decide +kernel
theorem dX12_feed_106 : decode cX12_feed 106 = .ok (.getfield 148, 3) := by decide +kernel
theorem dX12_feed_109 : decode cX12_feed 109 = .ok (.iconst 1, 1) := by decide +kernel
theorem dX12_feed_11 : decode cX12_feed 11 = .ok (.iadd, 1) := by decide +kernel
theorem dX12_feed_110 : decode cX12_feed 110 = .ok (.iadd, 1) := by decide +kernel
theorem dX12_feed_111 : decode cX12_feed 111 = .ok (.putfield 148, 3) := by decide +kernel
theorem dX12_feed_114 : decode cX12_feed 114 = .ok (.iinc 6 1, 3) := by decide +kernel
theorem dX12_feed_117 : decode cX12_feed 117 = .ok (.goto (-94), 3) := by decide +kernel
theorem dX12_feed_12 : decode cX12_feed 12 = .ok (.sipush 600, 3) := by decide +kernel
theorem dX12_feed_120 : decode cX12_feed 120 = .ok (.aload_n 0, 1) := by decide +kernel
theorem dX12_feed_121 : decode cX12_feed 121 = .ok (.getfield 148, 3) := by decide +kernel
theorem dX12_feed_124 : decode cX12_feed 124 = .ok (.ireturn, 1) := by decide +kernel
theorem dX12_feed_15 : decode cX12_feed 15 = .ok (.if_icmp .le 5, 3) := by decide +kernel
theorem dX12_feed_2 : decode cX12_feed 2 = .ok (.putfield 1, 3) := by decide +kernel
theorem dX12_feed_20 : decode cX12_feed 20 = .ok (.iconst 0, 1) := by decide +kernel
theorem dX12_feed_21 : decode cX12_feed 21 = .ok (.istore 6, 2) := by decide +kernel
theorem dX12_feed_23 : decode cX12_feed 23 = .ok (.iload 6, 2) := by decide +kernel
theorem dX12_feed_25 : decode cX12_feed 25 = .ok (.bipush 20, 2) := by decide +kernel
theorem dX12_feed_27 : decode cX12_feed 27 = .ok (.if_icmp .ge 93, 3) := by decide +kernel
theorem dX12_feed_30 : decode cX12_feed 30 = .ok (.iload 6, 2) := by decide +kernel
theorem dX12_feed_32 : decode cX12_feed 32 = .ok (.iconst 4, 1) := by decide +kernel
theorem dX12_feed_33 : decode cX12_feed 33 = .ok (.if_icmp .ge 7, 3) := by decide +kernel
theorem dX12_feed_36 : decode cX12_feed 36 = .ok (.iload_n 1, 1) := by decide +kernel
theorem dX12_feed_37 : decode cX12_feed 37 = .ok (.goto 39, 3) := by decide +kernel
theorem dX12_feed_40 : decode cX12_feed 40 = .ok (.iload 6, 2) := by decide +kernel
theorem dX12_feed_42 : decode cX12_feed 42 = .ok (.bipush 8, 2) := by decide +kernel
theorem dX12_feed_44 : decode cX12_feed 44 = .ok (.if_icmp .ge 7, 3) := by decide +kernel
theorem dX12_feed_47 : decode cX12_feed 47 = .ok (.iload_n 2, 1) := by decide +kernel
theorem dX12_feed_48 : decode cX12_feed 48 = .ok (.goto 28, 3) := by decide +kernel
theorem dX12_feed_5 : decode cX12_feed 5 = .ok (.aload_n 0, 1) := by decide +kernel
theorem dX12_feed_51 : decode cX12_feed 51 = .ok (.iload 6, 2) := by decide +kernel
theorem dX12_feed_53 : decode cX12_feed 53 = .ok (.bipush 12, 2) := by decide +kernel
theorem dX12_feed_55 : decode cX12_feed 55 = .ok (.if_icmp .ge 7, 3) := by decide +kernel
theorem dX12_feed_58 : decode cX12_feed 58 = .ok (.iload_n 3, 1) := by decide +kernel
theorem dX12_feed_59 : decode cX12_feed 59 = .ok (.goto 17, 3) := by decide +kernel
theorem dX12_feed_6 : decode cX12_feed 6 = .ok (.getfield 148, 3) := by decide +kernel
theorem dX12_feed_62 : decode cX12_feed 62 = .ok (.iload 6, 2) := by decide +kernel
theorem dX12_feed_64 : decode cX12_feed 64 = .ok (.bipush 16, 2) := by decide +kernel
theorem dX12_feed_66 : decode cX12_feed 66 = .ok (.if_icmp .ge 8, 3) := by decide +kernel
theorem dX12_feed_69 : decode cX12_feed 69 = .ok (.iload 4, 2) := by decide +kernel
theorem dX12_feed_71 : decode cX12_feed 71 = .ok (.goto 5, 3) := by decide +kernel
theorem dX12_feed_74 : decode cX12_feed 74 = .ok (.iload 5, 2) := by decide +kernel
theorem dX12_feed_76 : decode cX12_feed 76 = .ok (.istore 7, 2) := by decide +kernel
theorem dX12_feed_78 : decode cX12_feed 78 = .ok (.aload_n 0, 1) := by decide +kernel
theorem dX12_feed_79 : decode cX12_feed 79 = .ok (.getfield 16, 3) := by decide +kernel
theorem dX12_feed_82 : decode cX12_feed 82 = .ok (.aload_n 0, 1) := by decide +kernel
theorem dX12_feed_83 : decode cX12_feed 83 = .ok (.getfield 148, 3) := by decide +kernel
theorem dX12_feed_86 : decode cX12_feed 86 = .ok (.iload 7, 2) := by decide +kernel
theorem dX12_feed_88 : decode cX12_feed 88 = .ok (.bipush 24, 2) := by decide +kernel
theorem dX12_feed_9 : decode cX12_feed 9 = .ok (.bipush 20, 2) := by decide +kernel
theorem dX12_feed_90 : decode cX12_feed 90 = .ok (.bipush 8, 2) := by decide +kernel
theorem dX12_feed_92 : decode cX12_feed 92 = .ok (.iload 6, 2) := by decide +kernel
theorem dX12_feed_94 : decode cX12_feed 94 = .ok (.iconst 4, 1) := by decide +kernel
theorem dX12_feed_95 : decode cX12_feed 95 = .ok (.irem, 1) := by decide +kernel
theorem dX12_feed_96 : decode cX12_feed 96 = .ok (.imul, 1) := by decide +kernel
theorem dX12_feed_97 : decode cX12_feed 97 = .ok (.isub, 1) := by decide +kernel
theorem dX12_feed_98 : decode cX12_feed 98 = .ok (.ishr, 1) := by decide +kernel
theorem dX12_feed_99 : decode cX12_feed 99 = .ok (.sipush 255, 3) := by decide +kernel
theorem dX12_findKnots_0 : decode cX12_findKnots 0 = .ok (.aload_n 0, 1) := by decide +kernel
theorem dX12_findKnots_1 : decode cX12_findKnots 1 = .ok (.invokevirtual 351, 3) := by decide +kernel
theorem dX12_findKnots_10 : decode cX12_findKnots 10 = .ok (.iload_n 1, 1) := by decide +kernel
theorem dX12_findKnots_101 : decode cX12_findKnots 101 = .ok (.aload_n 0, 1) := by decide +kernel
theorem dX12_findKnots_102 : decode cX12_findKnots 102 = .ok (.getfield 71, 3) := by decide +kernel
theorem dX12_findKnots_105 : decode cX12_findKnots 105 = .ok (.aload_n 0, 1) := by decide +kernel
theorem dX12_findKnots_106 : decode cX12_findKnots 106 = .ok (.getfield 80, 3) := by decide +kernel
theorem dX12_findKnots_109 : decode cX12_findKnots 109 = .ok (.iload_n 3, 1) := by decide +kernel
theorem dX12_findKnots_11 : decode cX12_findKnots 11 = .ok (.aload_n 0, 1) := by decide +kernel
theorem dX12_findKnots_110 : decode cX12_findKnots 110 = .ok (.iaload, 1) := by decide +kernel
theorem dX12_findKnots_111 : decode cX12_findKnots 111 = .ok (.iaload, 1) := by decide +kernel
theorem dX12_findKnots_112 : decode cX12_findKnots 112 = .ok (.istore 4, 2) := by decide +kernel
theorem dX12_findKnots_114 : decode cX12_findKnots 114 = .ok (.iload 4, 2) := by decide +kernel
theorem dX12_findKnots_116 : decode cX12_findKnots 116 = .ok (.iconst (-1), 1) := by decide +kernel
theorem dX12_findKnots_117 : decode cX12_findKnots 117 = .ok (.if_icmp .eq 66, 3) := by decide +kernel
theorem dX12_findKnots_12 : decode cX12_findKnots 12 = .ok (.getfield 322, 3) := by decide +kernel
theorem dX12_findKnots_15 : decode cX12_findKnots 15 = .ok (.if_icmp .ge 16, 3) := by decide +kernel
theorem dX12_findKnots_18 : decode cX12_findKnots 18 = .ok (.aload_n 0, 1) := by decide +kernel
theorem dX12_findKnots_183 : decode cX12_findKnots 183 = .ok (.iinc 3 1, 3) := by decide +kernel
theorem dX12_findKnots_186 : decode cX12_findKnots 186 = .ok (.goto (-90), 3) := by decide +kernel
theorem dX12_findKnots_189 : decode cX12_findKnots 189 = .ok (.aload_n 0, 1) := by decide +kernel
theorem dX12_findKnots_19 : decode cX12_findKnots 19 = .ok (.getfield 93, 3) := by decide +kernel
theorem dX12_findKnots_190 : decode cX12_findKnots 190 = .ok (.dup, 1) := by decide +kernel
theorem dX12_findKnots_191 : decode cX12_findKnots 191 = .ok (.getfield 354, 3) := by decide +kernel
theorem dX12_findKnots_194 : decode cX12_findKnots 194 = .ok (.iconst 1, 1) := by decide +kernel
theorem dX12_findKnots_195 : decode cX12_findKnots 195 = .ok (.iadd, 1) := by decide +kernel
theorem dX12_findKnots_196 : decode cX12_findKnots 196 = .ok (.putfield 354, 3) := by decide +kernel
theorem dX12_findKnots_199 : decode cX12_findKnots 199 = .ok (.iinc 1 (-1), 3) := by decide +kernel
theorem dX12_findKnots_202 : decode cX12_findKnots 202 = .ok (.goto (-159), 3) := by decide +kernel
theorem dX12_findKnots_205 : decode cX12_findKnots 205 = .ok (.iconst 0, 1) := by decide +kernel
theorem dX12_findKnots_206 : decode cX12_findKnots 206 = .ok (.istore_n 1, 1) := by decide +kernel
theorem dX12_findKnots_207 : decode cX12_findKnots 207 = .ok (.iload_n 1, 1) := by decide +kernel
theorem dX12_findKnots_208 : decode cX12_findKnots 208 = .ok (.aload_n 0, 1) := by decide +kernel
theorem dX12_findKnots_209 : decode cX12_findKnots 209 = .ok (.getfield 354, 3) := by decide +kernel
theorem dX12_findKnots_212 : decode cX12_findKnots 212 = .ok (.if_icmp .ge 16, 3) := by decide +kernel
theorem dX12_findKnots_215 : decode cX12_findKnots 215 = .ok (.aload_n 0, 1) := by decide +kernel
theorem dX12_findKnots_216 : decode cX12_findKnots 216 = .ok (.getfield 83, 3) := by decide +kernel
theorem dX12_findKnots_219 : decode cX12_findKnots 219 = .ok (.iload_n 1, 1) := by decide +kernel
theorem dX12_findKnots_22 : decode cX12_findKnots 22 = .ok (.iload_n 1, 1) := by decide +kernel
theorem dX12_findKnots_220 : decode cX12_findKnots 220 = .ok (.iconst 1, 1) := by decide +kernel
theorem dX12_findKnots_221 : decode cX12_findKnots 221 = .ok (.bastore, 1) := by decide +kernel
theorem dX12_findKnots_222 : decode cX12_findKnots 222 = .ok (.iinc 1 1, 3) := by decide +kernel
theorem dX12_findKnots_225 : decode cX12_findKnots 225 = .ok (.goto (-18), 3) := by decide +kernel
theorem dX12_findKnots_228 : decode cX12_findKnots 228 = .ok (.iconst 0, 1) := by decide +kernel
theorem dX12_findKnots_229 : decode cX12_findKnots 229 = .ok (.istore_n 1, 1) := by decide +kernel
theorem dX12_findKnots_23 : decode cX12_findKnots 23 = .ok (.iconst (-1), 1) := by decide +kernel
theorem dX12_findKnots_230 : decode cX12_findKnots 230 = .ok (.iload_n 1, 1) := by decide +kernel
theorem dX12_findKnots_231 : decode cX12_findKnots 231 = .ok (.aload_n 0, 1) := by decide +kernel
theorem dX12_findKnots_232 : decode cX12_findKnots 232 = .ok (.getfield 322, 3) := by decide +kernel
theorem dX12_findKnots_235 : decode cX12_findKnots 235 = .ok (.if_icmp .ge 77, 3) := by decide +kernel
theorem dX12_findKnots_238 : decode cX12_findKnots 238 = .ok (.iconst 0, 1) := by decide +kernel
theorem dX12_findKnots_239 : decode cX12_findKnots 239 = .ok (.istore_n 2, 1) := by decide +kernel
theorem dX12_findKnots_24 : decode cX12_findKnots 24 = .ok (.iastore, 1) := by decide +kernel
theorem dX12_findKnots_240 : decode cX12_findKnots 240 = .ok (.iload_n 2, 1) := by decide +kernel
theorem dX12_findKnots_241 : decode cX12_findKnots 241 = .ok (.aload_n 0, 1) := by decide +kernel
theorem dX12_findKnots_242 : decode cX12_findKnots 242 = .ok (.invokevirtual 286, 3) := by decide +kernel
theorem dX12_findKnots_245 : decode cX12_findKnots 245 = .ok (.if_icmp .ge 61, 3) := by decide +kernel
theorem dX12_findKnots_25 : decode cX12_findKnots 25 = .ok (.iinc 1 1, 3) := by decide +kernel
theorem dX12_findKnots_28 : decode cX12_findKnots 28 = .ok (.goto (-18), 3) := by decide +kernel
theorem dX12_findKnots_306 : decode cX12_findKnots 306 = .ok (.iinc 1 1, 3) := by decide +kernel
theorem dX12_findKnots_309 : decode cX12_findKnots 309 = .ok (.goto (-79), 3) := by decide +kernel
