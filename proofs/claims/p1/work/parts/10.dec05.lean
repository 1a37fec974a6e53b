theorem dX12_net_75 : decode cX12_net 75 = .ok (.iload_n 2, 1) := by decide +kernel
theorem dX12_net_76 : decode cX12_net 76 = .ok (.iconst 0, 1) := by decide +kernel
theorem dX12_net_77 : decode cX12_net 77 = .ok (.iastore, 1) := by decide +kernel
theorem dX12_net_78 : decode cX12_net 78 = .ok (.iinc 2 1, 3) := by decide +kernel
theorem dX12_net_81 : decode cX12_net 81 = .ok (.goto (-17), 3) := by decide +kernel
theorem dX12_net_84 : decode cX12_net 84 = .ok (.iconst 0, 1) := by decide +kernel
theorem dX12_net_85 : decode cX12_net 85 = .ok (.istore_n 2, 1) := by decide +kernel
theorem dX12_net_86 : decode cX12_net 86 = .ok (.aload_n 0, 1) := by decide +kernel
theorem dX12_net_87 : decode cX12_net 87 = .ok (.invokevirtual 180, 3) := by decide +kernel
theorem dX12_net_90 : decode cX12_net 90 = .ok (.ifCond .eq 120, 3) := by decide +kernel
theorem dX12_net_93 : decode cX12_net 93 = .ok (.aload_n 0, 1) := by decide +kernel
theorem dX12_net_94 : decode cX12_net 94 = .ok (.invokevirtual 271, 3) := by decide +kernel
theorem dX12_net_97 : decode cX12_net 97 = .ok (.ifCond .eq 113, 3) := by decide +kernel
theorem dX12_never_0 : decode cX12_never 0 = .ok (.aload_n 0, 1) := by decide +kernel
theorem dX12_never_1 : decode cX12_never 1 = .ok (.iconst 0, 1) := by decide +kernel
theorem dX12_never_10 : decode cX12_never 10 = .ok (.iconst 0, 1) := by decide +kernel
theorem dX12_never_11 : decode cX12_never 11 = .ok (.istore_n 1, 1) := by decide +kernel
theorem dX12_never_12 : decode cX12_never 12 = .ok (.iload_n 1, 1) := by decide +kernel
theorem dX12_never_13 : decode cX12_never 13 = .ok (.aload_n 0, 1) := by decide +kernel
theorem dX12_never_14 : decode cX12_never 14 = .ok (.getfield 386, 3) := by decide +kernel
theorem dX12_never_17 : decode cX12_never 17 = .ok (.if_icmp .ge 72, 3) := by decide +kernel
theorem dX12_never_2 : decode cX12_never 2 = .ok (.putfield 1, 3) := by decide +kernel
theorem dX12_never_5 : decode cX12_never 5 = .ok (.aload_n 0, 1) := by decide +kernel
theorem dX12_never_6 : decode cX12_never 6 = .ok (.iconst 0, 1) := by decide +kernel
theorem dX12_never_7 : decode cX12_never 7 = .ok (.invokevirtual 389, 3) := by decide +kernel
theorem dX12_never_89 : decode cX12_never 89 = .ok (.iconst 0, 1) := by decide +kernel
theorem dX12_never_90 : decode cX12_never 90 = .ok (.ireturn, 1) := by decide +kernel
theorem dX12_often_0 : decode cX12_often 0 = .ok (.aload_n 0, 1) := by decide +kernel
theorem dX12_often_1 : decode cX12_often 1 = .ok (.iconst 0, 1) := by decide +kernel
theorem dX12_often_11 : decode cX12_often 11 = .ok (.ifCond .eq 12, 3) := by decide +kernel
theorem dX12_often_2 : decode cX12_often 2 = .ok (.putfield 1, 3) := by decide +kernel
theorem dX12_often_23 : decode cX12_often 23 = .ok (.iconst 0, 1) := by decide +kernel
theorem dX12_often_24 : decode cX12_often 24 = .ok (.ireturn, 1) := by decide +kernel
theorem dX12_often_5 : decode cX12_often 5 = .ok (.aload_n 0, 1) := by decide +kernel
theorem dX12_often_6 : decode cX12_often 6 = .ok (.iload_n 2, 1) := by decide +kernel
theorem dX12_often_7 : decode cX12_often 7 = .ok (.iconst 1, 1) := by decide +kernel
theorem dX12_often_8 : decode cX12_often 8 = .ok (.invokevirtual 293, 3) := by decide +kernel
theorem dX12_once_0 : decode cX12_once 0 = .ok (.aload_n 0, 1) := by decide +kernel
theorem dX12_once_1 : decode cX12_once 1 = .ok (.iconst 0, 1) := by decide +kernel
theorem dX12_once_10 : decode cX12_once 10 = .ok (.iconst 1, 1) := by decide +kernel
theorem dX12_once_11 : decode cX12_once 11 = .ok (.aload_n 0, 1) := by decide +kernel
theorem dX12_once_12 : decode cX12_once 12 = .ok (.invokevirtual 286, 3) := by decide +kernel
theorem dX12_once_15 : decode cX12_once 15 = .ok (.ishl, 1) := by decide +kernel
theorem dX12_once_16 : decode cX12_once 16 = .ok (.if_icmp .ge 30, 3) := by decide +kernel
theorem dX12_once_2 : decode cX12_once 2 = .ok (.putfield 1, 3) := by decide +kernel
theorem dX12_once_46 : decode cX12_once 46 = .ok (.iload_n 1, 1) := by decide +kernel
theorem dX12_once_47 : decode cX12_once 47 = .ok (.ireturn, 1) := by decide +kernel
theorem dX12_once_5 : decode cX12_once 5 = .ok (.iconst 0, 1) := by decide +kernel
theorem dX12_once_6 : decode cX12_once 6 = .ok (.istore_n 1, 1) := by decide +kernel
theorem dX12_once_7 : decode cX12_once 7 = .ok (.iconst 1, 1) := by decide +kernel
theorem dX12_once_8 : decode cX12_once 8 = .ok (.istore_n 2, 1) := by decide +kernel
theorem dX12_once_9 : decode cX12_once 9 = .ok (.iload_n 2, 1) := by decide +kernel
theorem dX12_orders_0 : decode cX12_orders 0 = .ok (.iconst 0, 1) := by decide +kernel
theorem dX12_orders_1 : decode cX12_orders 1 = .ok (.istore_n 1, 1) := by decide +kernel
theorem dX12_orders_102 : decode cX12_orders 102 = .ok (.iload_n 1, 1) := by decide +kernel
theorem dX12_orders_103 : decode cX12_orders 103 = .ok (.iload 4, 2) := by decide +kernel
theorem dX12_orders_105 : decode cX12_orders 105 = .ok (.iastore, 1) := by decide +kernel
theorem dX12_orders_106 : decode cX12_orders 106 = .ok (.iinc 1 1, 3) := by decide +kernel
theorem dX12_orders_109 : decode cX12_orders 109 = .ok (.iinc 3 (-1), 3) := by decide +kernel
theorem dX12_orders_112 : decode cX12_orders 112 = .ok (.goto (-42), 3) := by decide +kernel
theorem dX12_orders_12 : decode cX12_orders 12 = .ok (.aload_n 0, 1) := by decide +kernel
theorem dX12_orders_13 : decode cX12_orders 13 = .ok (.getfield 83, 3) := by decide +kernel
theorem dX12_orders_16 : decode cX12_orders 16 = .ok (.iload_n 2, 1) := by decide +kernel
theorem dX12_orders_17 : decode cX12_orders 17 = .ok (.iconst 0, 1) := by decide +kernel
theorem dX12_orders_18 : decode cX12_orders 18 = .ok (.bastore, 1) := by decide +kernel
theorem dX12_orders_187 : decode cX12_orders 187 = .ok (.iinc 2 1, 3) := by decide +kernel
theorem dX12_orders_19 : decode cX12_orders 19 = .ok (.aload_n 0, 1) := by decide +kernel
theorem dX12_orders_190 : decode cX12_orders 190 = .ok (.goto (-156), 3) := by decide +kernel
theorem dX12_orders_193 : decode cX12_orders 193 = .ok (.return_, 1) := by decide +kernel
theorem dX12_orders_2 : decode cX12_orders 2 = .ok (.iconst 0, 1) := by decide +kernel
theorem dX12_orders_20 : decode cX12_orders 20 = .ok (.getfield 90, 3) := by decide +kernel
theorem dX12_orders_23 : decode cX12_orders 23 = .ok (.iload_n 2, 1) := by decide +kernel
theorem dX12_orders_24 : decode cX12_orders 24 = .ok (.iconst 0, 1) := by decide +kernel
theorem dX12_orders_25 : decode cX12_orders 25 = .ok (.iastore, 1) := by decide +kernel
theorem dX12_orders_26 : decode cX12_orders 26 = .ok (.iinc 2 1, 3) := by decide +kernel
theorem dX12_orders_29 : decode cX12_orders 29 = .ok (.goto (-25), 3) := by decide +kernel
theorem dX12_orders_3 : decode cX12_orders 3 = .ok (.istore_n 2, 1) := by decide +kernel
theorem dX12_orders_32 : decode cX12_orders 32 = .ok (.iconst 0, 1) := by decide +kernel
theorem dX12_orders_33 : decode cX12_orders 33 = .ok (.istore_n 2, 1) := by decide +kernel
theorem dX12_orders_34 : decode cX12_orders 34 = .ok (.iload_n 2, 1) := by decide +kernel
theorem dX12_orders_35 : decode cX12_orders 35 = .ok (.aload_n 0, 1) := by decide +kernel
theorem dX12_orders_36 : decode cX12_orders 36 = .ok (.getfield 322, 3) := by decide +kernel
theorem dX12_orders_39 : decode cX12_orders 39 = .ok (.if_icmp .ge 154, 3) := by decide +kernel
theorem dX12_orders_4 : decode cX12_orders 4 = .ok (.iload_n 2, 1) := by decide +kernel
theorem dX12_orders_42 : decode cX12_orders 42 = .ok (.aload_n 0, 1) := by decide +kernel
theorem dX12_orders_43 : decode cX12_orders 43 = .ok (.getfield 83, 3) := by decide +kernel
theorem dX12_orders_46 : decode cX12_orders 46 = .ok (.iload_n 2, 1) := by decide +kernel
theorem dX12_orders_47 : decode cX12_orders 47 = .ok (.baload, 1) := by decide +kernel
theorem dX12_orders_48 : decode cX12_orders 48 = .ok (.ifCond .eq 6, 3) := by decide +kernel
theorem dX12_orders_5 : decode cX12_orders 5 = .ok (.aload_n 0, 1) := by decide +kernel
theorem dX12_orders_54 : decode cX12_orders 54 = .ok (.iconst 1, 1) := by decide +kernel
theorem dX12_orders_55 : decode cX12_orders 55 = .ok (.istore_n 3, 1) := by decide +kernel
theorem dX12_orders_56 : decode cX12_orders 56 = .ok (.aload_n 0, 1) := by decide +kernel
theorem dX12_orders_57 : decode cX12_orders 57 = .ok (.getfield 80, 3) := by decide +kernel
theorem dX12_orders_6 : decode cX12_orders 6 = .ok (.getfield 322, 3) := by decide +kernel
theorem dX12_orders_60 : decode cX12_orders 60 = .ok (.iconst 0, 1) := by decide +kernel
theorem dX12_orders_61 : decode cX12_orders 61 = .ok (.iload_n 2, 1) := by decide +kernel
theorem dX12_orders_62 : decode cX12_orders 62 = .ok (.iastore, 1) := by decide +kernel
theorem dX12_orders_63 : decode cX12_orders 63 = .ok (.aload_n 0, 1) := by decide +kernel
theorem dX12_orders_64 : decode cX12_orders 64 = .ok (.getfield 83, 3) := by decide +kernel
theorem dX12_orders_67 : decode cX12_orders 67 = .ok (.iload_n 2, 1) := by decide +kernel
theorem dX12_orders_68 : decode cX12_orders 68 = .ok (.iconst 1, 1) := by decide +kernel
theorem dX12_orders_69 : decode cX12_orders 69 = .ok (.bastore, 1) := by decide +kernel
theorem dX12_orders_70 : decode cX12_orders 70 = .ok (.iload_n 3, 1) := by decide +kernel
theorem dX12_orders_71 : decode cX12_orders 71 = .ok (.ifCond .le 116, 3) := by decide +kernel
theorem dX12_orders_74 : decode cX12_orders 74 = .ok (.aload_n 0, 1) := by decide +kernel
theorem dX12_orders_75 : decode cX12_orders 75 = .ok (.getfield 80, 3) := by decide +kernel
theorem dX12_orders_78 : decode cX12_orders 78 = .ok (.iload_n 3, 1) := by decide +kernel
theorem dX12_orders_79 : decode cX12_orders 79 = .ok (.iconst 1, 1) := by decide +kernel
theorem dX12_orders_80 : decode cX12_orders 80 = .ok (.isub, 1) := by decide +kernel
theorem dX12_orders_81 : decode cX12_orders 81 = .ok (.iaload, 1) := by decide +kernel
theorem dX12_orders_82 : decode cX12_orders 82 = .ok (.istore 4, 2) := by decide +kernel
theorem dX12_orders_84 : decode cX12_orders 84 = .ok (.aload_n 0, 1) := by decide +kernel
theorem dX12_orders_85 : decode cX12_orders 85 = .ok (.getfield 90, 3) := by decide +kernel
theorem dX12_orders_88 : decode cX12_orders 88 = .ok (.iload 4, 2) := by decide +kernel
theorem dX12_orders_9 : decode cX12_orders 9 = .ok (.if_icmp .ge 23, 3) := by decide +kernel
theorem dX12_orders_90 : decode cX12_orders 90 = .ok (.iaload, 1) := by decide +kernel
theorem dX12_orders_91 : decode cX12_orders 91 = .ok (.aload_n 0, 1) := by decide +kernel
theorem dX12_orders_92 : decode cX12_orders 92 = .ok (.invokevirtual 286, 3) := by decide +kernel
theorem dX12_orders_95 : decode cX12_orders 95 = .ok (.if_icmp .ne 20, 3) := by decide +kernel
theorem dX12_orders_98 : decode cX12_orders 98 = .ok (.aload_n 0, 1) := by decide +kernel
theorem dX12_orders_99 : decode cX12_orders 99 = .ok (.getfield 87, 3) := by decide +kernel
theorem dX12_period_0 : decode cX12_period 0 = .ok (.aload_n 0, 1) := by decide +kernel
theorem dX12_period_1 : decode cX12_period 1 = .ok (.iconst 0, 1) := by decide +kernel
theorem dX12_period_12 : decode cX12_period 12 = .ok (.iconst 1, 1) := by decide +kernel
theorem dX12_period_13 : decode cX12_period 13 = .ok (.invokevirtual 267, 3) := by decide +kernel
theorem dX12_period_16 : decode cX12_period 16 = .ok (.ifCond .ne 5, 3) := by decide +kernel
theorem dX12_period_19 : decode cX12_period 19 = .ok (.iconst 0, 1) := by decide +kernel
theorem dX12_period_2 : decode cX12_period 2 = .ok (.putfield 1, 3) := by decide +kernel
theorem dX12_period_20 : decode cX12_period 20 = .ok (.ireturn, 1) := by decide +kernel
theorem dX12_period_21 : decode cX12_period 21 = .ok (.aload_n 0, 1) := by decide +kernel
theorem dX12_period_22 : decode cX12_period 22 = .ok (.invokevirtual 450, 3) := by decide +kernel
theorem dX12_period_25 : decode cX12_period 25 = .ok (.aload_n 0, 1) := by decide +kernel
theorem dX12_period_26 : decode cX12_period 26 = .ok (.getfield 444, 3) := by decide +kernel
theorem dX12_period_29 : decode cX12_period 29 = .ok (.iconst (-1), 1) := by decide +kernel
theorem dX12_period_30 : decode cX12_period 30 = .ok (.if_icmp .ne 7, 3) := by decide +kernel
theorem dX12_period_37 : decode cX12_period 37 = .ok (.iload_n 1, 1) := by decide +kernel
theorem dX12_period_38 : decode cX12_period 38 = .ok (.ifCond .ne 10, 3) := by decide +kernel
theorem dX12_period_41 : decode cX12_period 41 = .ok (.aload_n 0, 1) := by decide +kernel
theorem dX12_period_42 : decode cX12_period 42 = .ok (.getfield 444, 3) := by decide +kernel
theorem dX12_period_45 : decode cX12_period 45 = .ok (.goto 12, 3) := by decide +kernel
theorem dX12_period_48 : decode cX12_period 48 = .ok (.aload_n 0, 1) := by decide +kernel
theorem dX12_period_49 : decode cX12_period 49 = .ok (.getfield 447, 3) := by decide +kernel
theorem dX12_period_5 : decode cX12_period 5 = .ok (.aload_n 0, 1) := by decide +kernel
theorem dX12_period_52 : decode cX12_period 52 = .ok (.aload_n 0, 1) := by decide +kernel
theorem dX12_period_53 : decode cX12_period 53 = .ok (.getfield 444, 3) := by decide +kernel
theorem dX12_period_56 : decode cX12_period 56 = .ok (.isub, 1) := by decide +kernel
theorem dX12_period_57 : decode cX12_period 57 = .ok (.ireturn, 1) := by decide +kernel
theorem dX12_period_6 : decode cX12_period 6 = .ok (.iload_n 1, 1) := by decide +kernel
theorem dX12_period_7 : decode cX12_period 7 = .ok (.iconst 0, 1) := by decide +kernel
theorem dX12_period_8 : decode cX12_period 8 = .ok (.iconst 1, 1) := by decide +kernel
theorem dX12_period_9 : decode cX12_period 9 = .ok (.invokestatic 289, 3) := by decide +kernel
theorem dX12_places_0 : decode cX12_places 0 = .ok (.aload_n 0, 1) := by decide +kernel
theorem dX12_places_1 : decode cX12_places 1 = .ok (.getfield 20, 3) := by decide +kernel
theorem dX12_places_4 : decode cX12_places 4 = .ok (.iconst 0, 1) := by decide +kernel
theorem dX12_places_5 : decode cX12_places 5 = .ok (.iaload, 1) := by decide +kernel
theorem dX12_places_6 : decode cX12_places 6 = .ok (.ireturn, 1) := by decide +kernel
theorem dX12_put_0 : decode cX12_put 0 = .ok (.aload_n 0, 1) := by decide +kernel
theorem dX12_put_1 : decode cX12_put 1 = .ok (.iconst 0, 1) := by decide +kernel
theorem dX12_put_11 : decode cX12_put 11 = .ok (.ifCond .eq 39, 3) := by decide +kernel
theorem dX12_put_2 : decode cX12_put 2 = .ok (.putfield 1, 3) := by decide +kernel
theorem dX12_put_5 : decode cX12_put 5 = .ok (.aload_n 0, 1) := by decide +kernel
theorem dX12_put_50 : decode cX12_put 50 = .ok (.iconst 0, 1) := by decide +kernel
theorem dX12_put_51 : decode cX12_put 51 = .ok (.ireturn, 1) := by decide +kernel
theorem dX12_put_6 : decode cX12_put 6 = .ok (.iload_n 1, 1) := by decide +kernel
theorem dX12_put_7 : decode cX12_put 7 = .ok (.iconst 1, 1) := by decide +kernel
theorem dX12_put_8 : decode cX12_put 8 = .ok (.invokevirtual 297, 3) := by decide +kernel
theorem dX12_reduces_0 : decode cX12_reduces 0 = .ok (.iconst 0, 1) := by decide +kernel
theorem dX12_reduces_1 : decode cX12_reduces 1 = .ok (.istore_n 3, 1) := by decide +kernel
theorem dX12_reduces_12 : decode cX12_reduces 12 = .ok (.iload_n 3, 1) := by decide +kernel
theorem dX12_reduces_13 : decode cX12_reduces 13 = .ok (.iload_n 2, 1) := by decide +kernel
theorem dX12_reduces_14 : decode cX12_reduces 14 = .ok (.if_icmp .ge 309, 3) := by decide +kernel
theorem dX12_reduces_17 : decode cX12_reduces 17 = .ok (.iload_n 3, 1) := by decide +kernel
theorem dX12_reduces_18 : decode cX12_reduces 18 = .ok (.istore 5, 2) := by decide +kernel
theorem dX12_reduces_2 : decode cX12_reduces 2 = .ok (.iconst 0, 1) := by decide +kernel
theorem dX12_reduces_20 : decode cX12_reduces 20 = .ok (.iload 5, 2) := by decide +kernel
theorem dX12_reduces_22 : decode cX12_reduces 22 = .ok (.iload_n 2, 1) := by decide +kernel
theorem dX12_reduces_23 : decode cX12_reduces 23 = .ok (.if_icmp .ge 24, 3) := by decide +kernel
theorem dX12_reduces_26 : decode cX12_reduces 26 = .ok (.aload_n 1, 1) := by decide +kernel
theorem dX12_reduces_27 : decode cX12_reduces 27 = .ok (.bipush 8, 2) := by decide +kernel
theorem dX12_reduces_29 : decode cX12_reduces 29 = .ok (.iload 5, 2) := by decide +kernel
theorem dX12_reduces_3 : decode cX12_reduces 3 = .ok (.istore 4, 2) := by decide +kernel
theorem dX12_reduces_31 : decode cX12_reduces 31 = .ok (.imul, 1) := by decide +kernel
theorem dX12_reduces_317 : decode cX12_reduces 317 = .ok (.iinc 4 1, 3) := by decide +kernel
theorem dX12_reduces_32 : decode cX12_reduces 32 = .ok (.iload 4, 2) := by decide +kernel
theorem dX12_reduces_320 : decode cX12_reduces 320 = .ok (.goto (-315), 3) := by decide +kernel
theorem dX12_reduces_323 : decode cX12_reduces 323 = .ok (.iload_n 3, 1) := by decide +kernel
theorem dX12_reduces_324 : decode cX12_reduces 324 = .ok (.ireturn, 1) := by decide +kernel
theorem dX12_reduces_34 : decode cX12_reduces 34 = .ok (.iadd, 1) := by decide +kernel
theorem dX12_reduces_35 : decode cX12_reduces 35 = .ok (.laload, 1) := by decide +kernel
theorem dX12_reduces_36 : decode cX12_reduces 36 = .ok (.lconst 0, 1) := by decide +kernel
theorem dX12_reduces_37 : decode cX12_reduces 37 = .ok (.lcmp, 1) := by decide +kernel
theorem dX12_reduces_38 : decode cX12_reduces 38 = .ok (.ifCond .ne 9, 3) := by decide +kernel
theorem dX12_reduces_41 : decode cX12_reduces 41 = .ok (.iinc 5 1, 3) := by decide +kernel
theorem dX12_reduces_44 : decode cX12_reduces 44 = .ok (.goto (-24), 3) := by decide +kernel
theorem dX12_reduces_47 : decode cX12_reduces 47 = .ok (.iload 5, 2) := by decide +kernel
theorem dX12_reduces_49 : decode cX12_reduces 49 = .ok (.iload_n 2, 1) := by decide +kernel
theorem dX12_reduces_5 : decode cX12_reduces 5 = .ok (.iload 4, 2) := by decide +kernel
theorem dX12_reduces_50 : decode cX12_reduces 50 = .ok (.if_icmp .ne 6, 3) := by decide +kernel
theorem dX12_reduces_53 : decode cX12_reduces 53 = .ok (.goto 264, 3) := by decide +kernel
theorem dX12_reduces_7 : decode cX12_reduces 7 = .ok (.bipush 8, 2) := by decide +kernel
theorem dX12_reduces_9 : decode cX12_reduces 9 = .ok (.if_icmp .ge 314, 3) := by decide +kernel
theorem dX12_restore_0 : decode cX12_restore 0 = .ok (.aload_n 0, 1) := by decide +kernel
theorem dX12_restore_1 : decode cX12_restore 1 = .ok (.iconst 0, 1) := by decide +kernel
theorem dX12_restore_12 : decode cX12_restore 12 = .ok (.iconst (-1), 1) := by decide +kernel
theorem dX12_restore_13 : decode cX12_restore 13 = .ok (.ireturn, 1) := by decide +kernel
theorem dX12_restore_2 : decode cX12_restore 2 = .ok (.putfield 1, 3) := by decide +kernel
theorem dX12_restore_5 : decode cX12_restore 5 = .ok (.aload_n 0, 1) := by decide +kernel
theorem dX12_restore_6 : decode cX12_restore 6 = .ok (.getfield 283, 3) := by decide +kernel
theorem dX12_restore_9 : decode cX12_restore 9 = .ok (.ifCond .ne 5, 3) := by decide +kernel
theorem dX12_round_0 : decode cX12_round 0 = .ok (.aload_n 0, 1) := by decide +kernel
theorem dX12_round_1 : decode cX12_round 1 = .ok (.iconst 0, 1) := by decide +kernel
theorem dX12_round_11 : decode cX12_round 11 = .ok (.ifCond .ne 5, 3) := by decide +kernel
theorem dX12_round_14 : decode cX12_round 14 = .ok (.lconst 0, 1) := by decide +kernel
theorem dX12_round_15 : decode cX12_round 15 = .ok (.lreturn, 1) := by decide +kernel
theorem dX12_round_2 : decode cX12_round 2 = .ok (.putfield 1, 3) := by decide +kernel
theorem dX12_round_5 : decode cX12_round 5 = .ok (.aload_n 0, 1) := by decide +kernel
theorem dX12_round_6 : decode cX12_round 6 = .ok (.iload_n 2, 1) := by decide +kernel
theorem dX12_round_7 : decode cX12_round 7 = .ok (.iconst 1, 1) := by decide +kernel
theorem dX12_round_8 : decode cX12_round 8 = .ok (.invokevirtual 293, 3) := by decide +kernel
theorem dX12_row_0 : decode cX12_row 0 = .ok (.aload_n 0, 1) := by decide +kernel
theorem dX12_row_1 : decode cX12_row 1 = .ok (.iconst 0, 1) := by decide +kernel
theorem dX12_row_11 : decode cX12_row 11 = .ok (.ifCond .ne 5, 3) := by decide +kernel
theorem dX12_row_14 : decode cX12_row 14 = .ok (.iconst 0, 1) := by decide +kernel
theorem dX12_row_15 : decode cX12_row 15 = .ok (.ireturn, 1) := by decide +kernel
theorem dX12_row_2 : decode cX12_row 2 = .ok (.putfield 1, 3) := by decide +kernel
theorem dX12_row_5 : decode cX12_row 5 = .ok (.aload_n 0, 1) := by decide +kernel
theorem dX12_row_6 : decode cX12_row 6 = .ok (.iload_n 1, 1) := by decide +kernel
theorem dX12_row_7 : decode cX12_row 7 = .ok (.iconst 1, 1) := by decide +kernel
theorem dX12_row_8 : decode cX12_row 8 = .ok (.invokevirtual 293, 3) := by decide +kernel
theorem dX12_rows_0 : decode cX12_rows 0 = .ok (.aload_n 0, 1) := by decide +kernel
theorem dX12_rows_1 : decode cX12_rows 1 = .ok (.iconst 0, 1) := by decide +kernel
theorem dX12_rows_101 : decode cX12_rows 101 = .ok (.iload 4, 2) := by decide +kernel
theorem dX12_rows_103 : decode cX12_rows 103 = .ok (.lconst 0, 1) := by decide +kernel
theorem dX12_rows_104 : decode cX12_rows 104 = .ok (.lastore, 1) := by decide +kernel
theorem dX12_rows_105 : decode cX12_rows 105 = .ok (.iinc 4 1, 3) := by decide +kernel
theorem dX12_rows_108 : decode cX12_rows 108 = .ok (.goto (-20), 3) := by decide +kernel
theorem dX12_rows_11 : decode cX12_rows 11 = .ok (.ifCond .eq 18, 3) := by decide +kernel
theorem dX12_rows_111 : decode cX12_rows 111 = .ok (.iconst 0, 1) := by decide +kernel
theorem dX12_rows_112 : decode cX12_rows 112 = .ok (.istore 4, 2) := by decide +kernel
theorem dX12_rows_114 : decode cX12_rows 114 = .ok (.iload 4, 2) := by decide +kernel
theorem dX12_rows_116 : decode cX12_rows 116 = .ok (.aload_n 0, 1) := by decide +kernel
theorem dX12_rows_117 : decode cX12_rows 117 = .ok (.getfield 322, 3) := by decide +kernel
theorem dX12_rows_120 : decode cX12_rows 120 = .ok (.if_icmp .ge 72, 3) := by decide +kernel
theorem dX12_rows_123 : decode cX12_rows 123 = .ok (.iconst 0, 1) := by decide +kernel
theorem dX12_rows_124 : decode cX12_rows 124 = .ok (.istore 5, 2) := by decide +kernel
theorem dX12_rows_126 : decode cX12_rows 126 = .ok (.iload 5, 2) := by decide +kernel
theorem dX12_rows_128 : decode cX12_rows 128 = .ok (.aload_n 0, 1) := by decide +kernel
theorem dX12_rows_129 : decode cX12_rows 129 = .ok (.invokevirtual 286, 3) := by decide +kernel
theorem dX12_rows_132 : decode cX12_rows 132 = .ok (.if_icmp .ge 54, 3) := by decide +kernel
theorem dX12_rows_14 : decode cX12_rows 14 = .ok (.aload_n 0, 1) := by decide +kernel
theorem dX12_rows_15 : decode cX12_rows 15 = .ok (.iload_n 2, 1) := by decide +kernel
theorem dX12_rows_16 : decode cX12_rows 16 = .ok (.iconst 0, 1) := by decide +kernel
theorem dX12_rows_17 : decode cX12_rows 17 = .ok (.bipush 20, 2) := by decide +kernel
theorem dX12_rows_186 : decode cX12_rows 186 = .ok (.iinc 4 1, 3) := by decide +kernel
theorem dX12_rows_189 : decode cX12_rows 189 = .ok (.goto (-75), 3) := by decide +kernel
theorem dX12_rows_19 : decode cX12_rows 19 = .ok (.invokestatic 289, 3) := by decide +kernel
theorem dX12_rows_192 : decode cX12_rows 192 = .ok (.iconst 0, 1) := by decide +kernel
theorem dX12_rows_193 : decode cX12_rows 193 = .ok (.istore 4, 2) := by decide +kernel
theorem dX12_rows_195 : decode cX12_rows 195 = .ok (.iload 4, 2) := by decide +kernel
theorem dX12_rows_197 : decode cX12_rows 197 = .ok (.aload_n 0, 1) := by decide +kernel
theorem dX12_rows_198 : decode cX12_rows 198 = .ok (.getfield 322, 3) := by decide +kernel
theorem dX12_rows_2 : decode cX12_rows 2 = .ok (.putfield 1, 3) := by decide +kernel
theorem dX12_rows_201 : decode cX12_rows 201 = .ok (.if_icmp .ge 23, 3) := by decide +kernel
theorem dX12_rows_204 : decode cX12_rows 204 = .ok (.aload_n 0, 1) := by decide +kernel
theorem dX12_rows_205 : decode cX12_rows 205 = .ok (.getfield 99, 3) := by decide +kernel
theorem dX12_rows_208 : decode cX12_rows 208 = .ok (.iload 4, 2) := by decide +kernel
theorem dX12_rows_210 : decode cX12_rows 210 = .ok (.aload_n 0, 1) := by decide +kernel
theorem dX12_rows_211 : decode cX12_rows 211 = .ok (.getfield 103, 3) := by decide +kernel
theorem dX12_rows_214 : decode cX12_rows 214 = .ok (.iload 4, 2) := by decide +kernel
theorem dX12_rows_216 : decode cX12_rows 216 = .ok (.laload, 1) := by decide +kernel
theorem dX12_rows_217 : decode cX12_rows 217 = .ok (.lastore, 1) := by decide +kernel
theorem dX12_rows_218 : decode cX12_rows 218 = .ok (.iinc 4 1, 3) := by decide +kernel
theorem dX12_rows_22 : decode cX12_rows 22 = .ok (.iconst 1, 1) := by decide +kernel
theorem dX12_rows_221 : decode cX12_rows 221 = .ok (.goto (-26), 3) := by decide +kernel
theorem dX12_rows_224 : decode cX12_rows 224 = .ok (.iinc 3 1, 3) := by decide +kernel
theorem dX12_rows_227 : decode cX12_rows 227 = .ok (.goto (-147), 3) := by decide +kernel
theorem dX12_rows_23 : decode cX12_rows 23 = .ok (.invokevirtual 267, 3) := by decide +kernel
theorem dX12_rows_230 : decode cX12_rows 230 = .ok (.lconst 0, 1) := by decide +kernel
theorem dX12_rows_231 : decode cX12_rows 231 = .ok (.lstore_n 3, 1) := by decide +kernel
theorem dX12_rows_232 : decode cX12_rows 232 = .ok (.iconst 0, 1) := by decide +kernel
theorem dX12_rows_233 : decode cX12_rows 233 = .ok (.istore 5, 2) := by decide +kernel
theorem dX12_rows_235 : decode cX12_rows 235 = .ok (.iload 5, 2) := by decide +kernel
theorem dX12_rows_237 : decode cX12_rows 237 = .ok (.aload_n 0, 1) := by decide +kernel
theorem dX12_rows_238 : decode cX12_rows 238 = .ok (.getfield 322, 3) := by decide +kernel
theorem dX12_rows_241 : decode cX12_rows 241 = .ok (.if_icmp .ge 19, 3) := by decide +kernel
theorem dX12_rows_244 : decode cX12_rows 244 = .ok (.lload_n 3, 1) := by decide +kernel
theorem dX12_rows_245 : decode cX12_rows 245 = .ok (.aload_n 0, 1) := by decide +kernel
theorem dX12_rows_246 : decode cX12_rows 246 = .ok (.getfield 99, 3) := by decide +kernel
theorem dX12_rows_249 : decode cX12_rows 249 = .ok (.iload 5, 2) := by decide +kernel
theorem dX12_rows_251 : decode cX12_rows 251 = .ok (.laload, 1) := by decide +kernel
theorem dX12_rows_252 : decode cX12_rows 252 = .ok (.ladd, 1) := by decide +kernel
theorem dX12_rows_253 : decode cX12_rows 253 = .ok (.lstore_n 3, 1) := by decide +kernel
theorem dX12_rows_254 : decode cX12_rows 254 = .ok (.iinc 5 1, 3) := by decide +kernel
theorem dX12_rows_257 : decode cX12_rows 257 = .ok (.goto (-22), 3) := by decide +kernel
theorem dX12_rows_26 : decode cX12_rows 26 = .ok (.ifCond .ne 5, 3) := by decide +kernel
theorem dX12_rows_260 : decode cX12_rows 260 = .ok (.lload_n 3, 1) := by decide +kernel
theorem dX12_rows_261 : decode cX12_rows 261 = .ok (.lreturn, 1) := by decide +kernel
theorem dX12_rows_29 : decode cX12_rows 29 = .ok (.lconst 0, 1) := by decide +kernel
theorem dX12_rows_30 : decode cX12_rows 30 = .ok (.lreturn, 1) := by decide +kernel
theorem dX12_rows_31 : decode cX12_rows 31 = .ok (.aload_n 0, 1) := by decide +kernel
theorem dX12_rows_32 : decode cX12_rows 32 = .ok (.iload_n 1, 1) := by decide +kernel
theorem dX12_rows_33 : decode cX12_rows 33 = .ok (.invokevirtual 339, 3) := by decide +kernel
theorem dX12_rows_36 : decode cX12_rows 36 = .ok (.aload_n 0, 1) := by decide +kernel
theorem dX12_rows_37 : decode cX12_rows 37 = .ok (.getfield 325, 3) := by decide +kernel
theorem dX12_rows_40 : decode cX12_rows 40 = .ok (.ifCond .eq 7, 3) := by decide +kernel
theorem dX12_rows_47 : decode cX12_rows 47 = .ok (.iconst 0, 1) := by decide +kernel
theorem dX12_rows_48 : decode cX12_rows 48 = .ok (.istore_n 3, 1) := by decide +kernel
theorem dX12_rows_49 : decode cX12_rows 49 = .ok (.iload_n 3, 1) := by decide +kernel
theorem dX12_rows_5 : decode cX12_rows 5 = .ok (.aload_n 0, 1) := by decide +kernel
theorem dX12_rows_50 : decode cX12_rows 50 = .ok (.aload_n 0, 1) := by decide +kernel
theorem dX12_rows_51 : decode cX12_rows 51 = .ok (.getfield 322, 3) := by decide +kernel
theorem dX12_rows_54 : decode cX12_rows 54 = .ok (.if_icmp .ge 24, 3) := by decide +kernel
theorem dX12_rows_57 : decode cX12_rows 57 = .ok (.aload_n 0, 1) := by decide +kernel
theorem dX12_rows_58 : decode cX12_rows 58 = .ok (.getfield 99, 3) := by decide +kernel
theorem dX12_rows_6 : decode cX12_rows 6 = .ok (.iload_n 1, 1) := by decide +kernel
theorem dX12_rows_61 : decode cX12_rows 61 = .ok (.iload_n 3, 1) := by decide +kernel
theorem dX12_rows_62 : decode cX12_rows 62 = .ok (.iload_n 3, 1) := by decide +kernel
theorem dX12_rows_63 : decode cX12_rows 63 = .ok (.ifCond .ne 7, 3) := by decide +kernel
theorem dX12_rows_66 : decode cX12_rows 66 = .ok (.lconst 1, 1) := by decide +kernel
theorem dX12_rows_67 : decode cX12_rows 67 = .ok (.goto 4, 3) := by decide +kernel
theorem dX12_rows_7 : decode cX12_rows 7 = .ok (.iconst 1, 1) := by decide +kernel
theorem dX12_rows_71 : decode cX12_rows 71 = .ok (.lastore, 1) := by decide +kernel
theorem dX12_rows_72 : decode cX12_rows 72 = .ok (.iinc 3 1, 3) := by decide +kernel
theorem dX12_rows_75 : decode cX12_rows 75 = .ok (.goto (-26), 3) := by decide +kernel
theorem dX12_rows_78 : decode cX12_rows 78 = .ok (.iconst 0, 1) := by decide +kernel
theorem dX12_rows_79 : decode cX12_rows 79 = .ok (.istore_n 3, 1) := by decide +kernel
theorem dX12_rows_8 : decode cX12_rows 8 = .ok (.invokevirtual 336, 3) := by decide +kernel
theorem dX12_rows_80 : decode cX12_rows 80 = .ok (.iload_n 3, 1) := by decide +kernel
theorem dX12_rows_81 : decode cX12_rows 81 = .ok (.iload_n 2, 1) := by decide +kernel
theorem dX12_rows_82 : decode cX12_rows 82 = .ok (.if_icmp .ge 148, 3) := by decide +kernel
theorem dX12_rows_85 : decode cX12_rows 85 = .ok (.iconst 0, 1) := by decide +kernel
theorem dX12_rows_86 : decode cX12_rows 86 = .ok (.istore 4, 2) := by decide +kernel
theorem dX12_rows_88 : decode cX12_rows 88 = .ok (.iload 4, 2) := by decide +kernel
theorem dX12_rows_90 : decode cX12_rows 90 = .ok (.aload_n 0, 1) := by decide +kernel
theorem dX12_rows_91 : decode cX12_rows 91 = .ok (.getfield 322, 3) := by decide +kernel
theorem dX12_rows_94 : decode cX12_rows 94 = .ok (.if_icmp .ge 17, 3) := by decide +kernel
theorem dX12_rows_97 : decode cX12_rows 97 = .ok (.aload_n 0, 1) := by decide +kernel
theorem dX12_rows_98 : decode cX12_rows 98 = .ok (.getfield 103, 3) := by decide +kernel
theorem dX12_siphon_0 : decode cX12_siphon 0 = .ok (.aload_n 0, 1) := by decide +kernel
theorem dX12_siphon_1 : decode cX12_siphon 1 = .ok (.iconst 0, 1) := by decide +kernel
theorem dX12_siphon_10 : decode cX12_siphon 10 = .ok (.iconst 1, 1) := by decide +kernel
theorem dX12_siphon_11 : decode cX12_siphon 11 = .ok (.goto 4, 3) := by decide +kernel
theorem dX12_siphon_14 : decode cX12_siphon 14 = .ok (.iconst 0, 1) := by decide +kernel
theorem dX12_siphon_15 : decode cX12_siphon 15 = .ok (.iconst 1, 1) := by decide +kernel
theorem dX12_siphon_16 : decode cX12_siphon 16 = .ok (.invokevirtual 267, 3) := by decide +kernel
theorem dX12_siphon_19 : decode cX12_siphon 19 = .ok (.ifCond .ne 5, 3) := by decide +kernel
theorem dX12_siphon_2 : decode cX12_siphon 2 = .ok (.putfield 1, 3) := by decide +kernel
theorem dX12_siphon_22 : decode cX12_siphon 22 = .ok (.iconst 0, 1) := by decide +kernel
theorem dX12_siphon_23 : decode cX12_siphon 23 = .ok (.ireturn, 1) := by decide +kernel
theorem dX12_siphon_24 : decode cX12_siphon 24 = .ok (.iconst 0, 1) := by decide +kernel
theorem dX12_siphon_25 : decode cX12_siphon 25 = .ok (.istore_n 3, 1) := by decide +kernel
theorem dX12_siphon_26 : decode cX12_siphon 26 = .ok (.iconst 1, 1) := by decide +kernel
theorem dX12_siphon_27 : decode cX12_siphon 27 = .ok (.istore 4, 2) := by decide +kernel
theorem dX12_siphon_29 : decode cX12_siphon 29 = .ok (.iload 4, 2) := by decide +kernel
theorem dX12_siphon_31 : decode cX12_siphon 31 = .ok (.iconst 1, 1) := by decide +kernel
theorem dX12_siphon_32 : decode cX12_siphon 32 = .ok (.aload_n 0, 1) := by decide +kernel
theorem dX12_siphon_33 : decode cX12_siphon 33 = .ok (.invokevirtual 280, 3) := by decide +kernel
theorem dX12_siphon_36 : decode cX12_siphon 36 = .ok (.ishl, 1) := by decide +kernel
theorem dX12_siphon_37 : decode cX12_siphon 37 = .ok (.if_icmp .ge 33, 3) := by decide +kernel
theorem dX12_siphon_5 : decode cX12_siphon 5 = .ok (.aload_n 0, 1) := by decide +kernel
theorem dX12_siphon_6 : decode cX12_siphon 6 = .ok (.iload_n 2, 1) := by decide +kernel
theorem dX12_siphon_7 : decode cX12_siphon 7 = .ok (.ifCond .lt 7, 3) := by decide +kernel
theorem dX12_siphon_70 : decode cX12_siphon 70 = .ok (.iconst 0, 1) := by decide +kernel
theorem dX12_siphon_71 : decode cX12_siphon 71 = .ok (.ireturn, 1) := by decide +kernel
theorem dX12_state_0 : decode cX12_state 0 = .ok (.aload_n 0, 1) := by decide +kernel
theorem dX12_state_1 : decode cX12_state 1 = .ok (.iconst 0, 1) := by decide +kernel
theorem dX12_state_11 : decode cX12_state 11 = .ok (.ifCond .eq 12, 3) := by decide +kernel
theorem dX12_state_2 : decode cX12_state 2 = .ok (.putfield 1, 3) := by decide +kernel
theorem dX12_state_23 : decode cX12_state 23 = .ok (.iconst 0, 1) := by decide +kernel
theorem dX12_state_24 : decode cX12_state 24 = .ok (.ireturn, 1) := by decide +kernel
theorem dX12_state_5 : decode cX12_state 5 = .ok (.aload_n 0, 1) := by decide +kernel
theorem dX12_state_6 : decode cX12_state 6 = .ok (.iload_n 3, 1) := by decide +kernel
theorem dX12_state_7 : decode cX12_state 7 = .ok (.iconst 1, 1) := by decide +kernel
theorem dX12_state_8 : decode cX12_state 8 = .ok (.invokevirtual 297, 3) := by decide +kernel
theorem dX12_states_0 : decode cX12_states 0 = .ok (.aload_n 0, 1) := by decide +kernel
theorem dX12_states_1 : decode cX12_states 1 = .ok (.iconst 0, 1) := by decide +kernel
theorem dX12_states_11 : decode cX12_states 11 = .ok (.ifCond .ne 5, 3) := by decide +kernel
theorem dX12_states_14 : decode cX12_states 14 = .ok (.iconst 0, 1) := by decide +kernel
theorem dX12_states_15 : decode cX12_states 15 = .ok (.ireturn, 1) := by decide +kernel
theorem dX12_states_16 : decode cX12_states 16 = .ok (.aload_n 0, 1) := by decide +kernel
theorem dX12_states_17 : decode cX12_states 17 = .ok (.iload_n 1, 1) := by decide +kernel
theorem dX12_states_18 : decode cX12_states 18 = .ok (.invokevirtual 339, 3) := by decide +kernel
theorem dX12_states_2 : decode cX12_states 2 = .ok (.putfield 1, 3) := by decide +kernel
theorem dX12_states_21 : decode cX12_states 21 = .ok (.aload_n 0, 1) := by decide +kernel
theorem dX12_states_22 : decode cX12_states 22 = .ok (.getfield 325, 3) := by decide +kernel
theorem dX12_states_25 : decode cX12_states 25 = .ok (.ifCond .eq 8, 3) := by decide +kernel
theorem dX12_states_33 : decode cX12_states 33 = .ok (.aload_n 0, 1) := by decide +kernel
theorem dX12_states_34 : decode cX12_states 34 = .ok (.getfield 322, 3) := by decide +kernel
theorem dX12_states_37 : decode cX12_states 37 = .ok (.ireturn, 1) := by decide +kernel
theorem dX12_states_5 : decode cX12_states 5 = .ok (.aload_n 0, 1) := by decide +kernel
theorem dX12_states_6 : decode cX12_states 6 = .ok (.iload_n 1, 1) := by decide +kernel
theorem dX12_states_7 : decode cX12_states 7 = .ok (.iconst 1, 1) := by decide +kernel
theorem dX12_states_8 : decode cX12_states 8 = .ok (.invokevirtual 336, 3) := by decide +kernel
theorem dX12_step_0 : decode cX12_step 0 = .ok (.aload_n 0, 1) := by decide +kernel
theorem dX12_step_1 : decode cX12_step 1 = .ok (.iconst 0, 1) := by decide +kernel
theorem dX12_step_11 : decode cX12_step 11 = .ok (.ifCond .ne 5, 3) := by decide +kernel
theorem dX12_step_14 : decode cX12_step 14 = .ok (.iconst 0, 1) := by decide +kernel
theorem dX12_step_15 : decode cX12_step 15 = .ok (.ireturn, 1) := by decide +kernel
theorem dX12_step_16 : decode cX12_step 16 = .ok (.aload_n 0, 1) := by decide +kernel
theorem dX12_step_17 : decode cX12_step 17 = .ok (.iload_n 1, 1) := by decide +kernel
theorem dX12_step_18 : decode cX12_step 18 = .ok (.invokevirtual 339, 3) := by decide +kernel
theorem dX12_step_2 : decode cX12_step 2 = .ok (.putfield 1, 3) := by decide +kernel
theorem dX12_step_21 : decode cX12_step 21 = .ok (.aload_n 0, 1) := by decide +kernel
theorem dX12_step_22 : decode cX12_step 22 = .ok (.iload_n 2, 1) := by decide +kernel
theorem dX12_step_23 : decode cX12_step 23 = .ok (.invokevirtual 364, 3) := by decide +kernel
theorem dX12_step_26 : decode cX12_step 26 = .ok (.istore 4, 2) := by decide +kernel
theorem dX12_step_28 : decode cX12_step 28 = .ok (.iload 4, 2) := by decide +kernel
theorem dX12_step_30 : decode cX12_step 30 = .ok (.ifCond .ge 6, 3) := by decide +kernel
theorem dX12_step_36 : decode cX12_step 36 = .ok (.aload_n 0, 1) := by decide +kernel
theorem dX12_step_37 : decode cX12_step 37 = .ok (.iload 4, 2) := by decide +kernel
theorem dX12_step_39 : decode cX12_step 39 = .ok (.invokevirtual 368, 3) := by decide +kernel
theorem dX12_step_42 : decode cX12_step 42 = .ok (.istore 5, 2) := by decide +kernel
theorem dX12_step_44 : decode cX12_step 44 = .ok (.iload_n 3, 1) := by decide +kernel
theorem dX12_step_45 : decode cX12_step 45 = .ok (.iconst 0, 1) := by decide +kernel
theorem dX12_step_46 : decode cX12_step 46 = .ok (.iload 5, 2) := by decide +kernel
theorem dX12_step_48 : decode cX12_step 48 = .ok (.iconst 1, 1) := by decide +kernel
theorem dX12_step_49 : decode cX12_step 49 = .ok (.isub, 1) := by decide +kernel
theorem dX12_step_5 : decode cX12_step 5 = .ok (.aload_n 0, 1) := by decide +kernel
theorem dX12_step_50 : decode cX12_step 50 = .ok (.invokestatic 289, 3) := by decide +kernel
theorem dX12_step_53 : decode cX12_step 53 = .ok (.ifCond .ne 5, 3) := by decide +kernel
theorem dX12_step_56 : decode cX12_step 56 = .ok (.iconst (-1), 1) := by decide +kernel
theorem dX12_step_57 : decode cX12_step 57 = .ok (.ireturn, 1) := by decide +kernel
theorem dX12_step_6 : decode cX12_step 6 = .ok (.iload_n 1, 1) := by decide +kernel
theorem dX12_step_7 : decode cX12_step 7 = .ok (.iconst 1, 1) := by decide +kernel
theorem dX12_step_8 : decode cX12_step 8 = .ok (.invokevirtual 336, 3) := by decide +kernel
theorem dX12_thrown_0 : decode cX12_thrown 0 = .ok (.aload_n 0, 1) := by decide +kernel
theorem dX12_thrown_1 : decode cX12_thrown 1 = .ok (.getfield 1, 3) := by decide +kernel
theorem dX12_thrown_4 : decode cX12_thrown 4 = .ok (.ireturn, 1) := by decide +kernel
theorem dX12_told_0 : decode cX12_told 0 = .ok (.aload_n 0, 1) := by decide +kernel
theorem dX12_told_1 : decode cX12_told 1 = .ok (.iconst 0, 1) := by decide +kernel
theorem dX12_told_12 : decode cX12_told 12 = .ok (.iconst 1, 1) := by decide +kernel
theorem dX12_told_13 : decode cX12_told 13 = .ok (.invokevirtual 267, 3) := by decide +kernel
theorem dX12_told_16 : decode cX12_told 16 = .ok (.ifCond .ne 5, 3) := by decide +kernel
theorem dX12_told_19 : decode cX12_told 19 = .ok (.iconst 0, 1) := by decide +kernel
theorem dX12_told_2 : decode cX12_told 2 = .ok (.putfield 1, 3) := by decide +kernel
theorem dX12_told_20 : decode cX12_told 20 = .ok (.ireturn, 1) := by decide +kernel
theorem dX12_told_21 : decode cX12_told 21 = .ok (.iload_n 1, 1) := by decide +kernel
theorem dX12_told_22 : decode cX12_told 22 = .ok (.ifCond .ne 10, 3) := by decide +kernel
theorem dX12_told_25 : decode cX12_told 25 = .ok (.aload_n 0, 1) := by decide +kernel
theorem dX12_told_26 : decode cX12_told 26 = .ok (.invokevirtual 280, 3) := by decide +kernel
theorem dX12_told_29 : decode cX12_told 29 = .ok (.goto 7, 3) := by decide +kernel
theorem dX12_told_32 : decode cX12_told 32 = .ok (.aload_n 0, 1) := by decide +kernel
theorem dX12_told_33 : decode cX12_told 33 = .ok (.invokevirtual 286, 3) := by decide +kernel
theorem dX12_told_36 : decode cX12_told 36 = .ok (.ireturn, 1) := by decide +kernel
theorem dX12_told_5 : decode cX12_told 5 = .ok (.aload_n 0, 1) := by decide +kernel
theorem dX12_told_6 : decode cX12_told 6 = .ok (.iload_n 1, 1) := by decide +kernel
theorem dX12_told_7 : decode cX12_told 7 = .ok (.iconst 0, 1) := by decide +kernel
theorem dX12_told_8 : decode cX12_told 8 = .ok (.iconst 1, 1) := by decide +kernel
theorem dX12_told_9 : decode cX12_told 9 = .ok (.invokestatic 289, 3) := by decide +kernel
theorem dX12_turnsBack_0 : decode cX12_turnsBack 0 = .ok (.iconst 0, 1) := by decide +kernel
theorem dX12_turnsBack_1 : decode cX12_turnsBack 1 = .ok (.istore_n 1, 1) := by decide +kernel
theorem dX12_turnsBack_10 : decode cX12_turnsBack 10 = .ok (.aload_n 0, 1) := by decide +kernel
theorem dX12_turnsBack_104 : decode cX12_turnsBack 104 = .ok (.iinc 2 1, 3) := by decide +kernel
theorem dX12_turnsBack_107 : decode cX12_turnsBack 107 = .ok (.goto (-80), 3) := by decide +kernel
theorem dX12_turnsBack_11 : decode cX12_turnsBack 11 = .ok (.getfield 71, 3) := by decide +kernel
theorem dX12_turnsBack_110 : decode cX12_turnsBack 110 = .ok (.return_, 1) := by decide +kernel
theorem dX12_turnsBack_14 : decode cX12_turnsBack 14 = .ok (.iload_n 1, 1) := by decide +kernel
theorem dX12_turnsBack_15 : decode cX12_turnsBack 15 = .ok (.iconst (-1), 1) := by decide +kernel
theorem dX12_turnsBack_16 : decode cX12_turnsBack 16 = .ok (.iastore, 1) := by decide +kernel
theorem dX12_turnsBack_17 : decode cX12_turnsBack 17 = .ok (.iinc 1 1, 3) := by decide +kernel
theorem dX12_turnsBack_2 : decode cX12_turnsBack 2 = .ok (.iload_n 1, 1) := by decide +kernel
theorem dX12_turnsBack_20 : decode cX12_turnsBack 20 = .ok (.goto (-18), 3) := by decide +kernel
theorem dX12_turnsBack_23 : decode cX12_turnsBack 23 = .ok (.iconst 0, 1) := by decide +kernel
theorem dX12_turnsBack_24 : decode cX12_turnsBack 24 = .ok (.istore_n 1, 1) := by decide +kernel
theorem dX12_turnsBack_25 : decode cX12_turnsBack 25 = .ok (.iconst 0, 1) := by decide +kernel
theorem dX12_turnsBack_26 : decode cX12_turnsBack 26 = .ok (.istore_n 2, 1) := by decide +kernel
theorem dX12_turnsBack_27 : decode cX12_turnsBack 27 = .ok (.iload_n 2, 1) := by decide +kernel
theorem dX12_turnsBack_28 : decode cX12_turnsBack 28 = .ok (.aload_n 0, 1) := by decide +kernel
theorem dX12_turnsBack_29 : decode cX12_turnsBack 29 = .ok (.getfield 322, 3) := by decide +kernel
theorem dX12_turnsBack_3 : decode cX12_turnsBack 3 = .ok (.aload_n 0, 1) := by decide +kernel
theorem dX12_turnsBack_32 : decode cX12_turnsBack 32 = .ok (.if_icmp .ge 78, 3) := by decide +kernel
theorem dX12_turnsBack_35 : decode cX12_turnsBack 35 = .ok (.iconst 0, 1) := by decide +kernel
theorem dX12_turnsBack_36 : decode cX12_turnsBack 36 = .ok (.istore_n 3, 1) := by decide +kernel
theorem dX12_turnsBack_37 : decode cX12_turnsBack 37 = .ok (.iload_n 3, 1) := by decide +kernel
theorem dX12_turnsBack_38 : decode cX12_turnsBack 38 = .ok (.aload_n 0, 1) := by decide +kernel
theorem dX12_turnsBack_39 : decode cX12_turnsBack 39 = .ok (.invokevirtual 286, 3) := by decide +kernel
theorem dX12_turnsBack_4 : decode cX12_turnsBack 4 = .ok (.getfield 322, 3) := by decide +kernel
theorem dX12_turnsBack_42 : decode cX12_turnsBack 42 = .ok (.if_icmp .ge 62, 3) := by decide +kernel
theorem dX12_turnsBack_7 : decode cX12_turnsBack 7 = .ok (.if_icmp .ge 16, 3) := by decide +kernel
theorem dX12_two_0 : decode cX12_two 0 = .ok (.aload_n 0, 1) := by decide +kernel
theorem dX12_two_1 : decode cX12_two 1 = .ok (.iconst 0, 1) := by decide +kernel
theorem dX12_two_11 : decode cX12_two 11 = .ok (.ifCond .eq 39, 3) := by decide +kernel
theorem dX12_two_2 : decode cX12_two 2 = .ok (.putfield 1, 3) := by decide +kernel
theorem dX12_two_5 : decode cX12_two 5 = .ok (.aload_n 0, 1) := by decide +kernel
theorem dX12_two_50 : decode cX12_two 50 = .ok (.iconst 0, 1) := by decide +kernel
theorem dX12_two_51 : decode cX12_two 51 = .ok (.ireturn, 1) := by decide +kernel
theorem dX12_two_6 : decode cX12_two 6 = .ok (.iload_n 1, 1) := by decide +kernel
theorem dX12_two_7 : decode cX12_two 7 = .ok (.iconst 1, 1) := by decide +kernel
theorem dX12_two_8 : decode cX12_two 8 = .ok (.invokevirtual 293, 3) := by decide +kernel
theorem dX12_way_0 : decode cX12_way 0 = .ok (.aload_n 0, 1) := by decide +kernel
theorem dX12_way_1 : decode cX12_way 1 = .ok (.iconst 0, 1) := by decide +kernel
theorem dX12_way_11 : decode cX12_way 11 = .ok (.ifCond .ne 5, 3) := by decide +kernel
theorem dX12_way_14 : decode cX12_way 14 = .ok (.iconst 0, 1) := by decide +kernel
theorem dX12_way_15 : decode cX12_way 15 = .ok (.ireturn, 1) := by decide +kernel
theorem dX12_way_16 : decode cX12_way 16 = .ok (.aload_n 0, 1) := by decide +kernel
theorem dX12_way_17 : decode cX12_way 17 = .ok (.iload_n 1, 1) := by decide +kernel
theorem dX12_way_18 : decode cX12_way 18 = .ok (.invokevirtual 339, 3) := by decide +kernel
theorem dX12_way_2 : decode cX12_way 2 = .ok (.putfield 1, 3) := by decide +kernel
theorem dX12_way_21 : decode cX12_way 21 = .ok (.aload_n 0, 1) := by decide +kernel
theorem dX12_way_22 : decode cX12_way 22 = .ok (.iload_n 2, 1) := by decide +kernel
theorem dX12_way_23 : decode cX12_way 23 = .ok (.invokevirtual 364, 3) := by decide +kernel
theorem dX12_way_26 : decode cX12_way 26 = .ok (.istore_n 3, 1) := by decide +kernel
theorem dX12_way_27 : decode cX12_way 27 = .ok (.iload_n 3, 1) := by decide +kernel
theorem dX12_way_28 : decode cX12_way 28 = .ok (.ifCond .ge 7, 3) := by decide +kernel
theorem dX12_way_35 : decode cX12_way 35 = .ok (.aload_n 0, 1) := by decide +kernel
theorem dX12_way_36 : decode cX12_way 36 = .ok (.iload_n 3, 1) := by decide +kernel
theorem dX12_way_37 : decode cX12_way 37 = .ok (.invokevirtual 368, 3) := by decide +kernel
theorem dX12_way_40 : decode cX12_way 40 = .ok (.ireturn, 1) := by decide +kernel
theorem dX12_way_5 : decode cX12_way 5 = .ok (.aload_n 0, 1) := by decide +kernel
theorem dX12_way_6 : decode cX12_way 6 = .ok (.iload_n 1, 1) := by decide +kernel
theorem dX12_way_7 : decode cX12_way 7 = .ok (.iconst 1, 1) := by decide +kernel
theorem dX12_way_8 : decode cX12_way 8 = .ok (.invokevirtual 336, 3) := by decide +kernel
theorem dX12_within_0 : decode cX12_within 0 = .ok (.iload_n 0, 1) := by decide +kernel
theorem dX12_within_1 : decode cX12_within 1 = .ok (.iload_n 1, 1) := by decide +kernel
theorem dX12_within_10 : decode cX12_within 10 = .ok (.iconst 1, 1) := by decide +kernel
theorem dX12_within_11 : decode cX12_within 11 = .ok (.goto 4, 3) := by decide +kernel
theorem dX12_within_14 : decode cX12_within 14 = .ok (.iconst 0, 1) := by decide +kernel
theorem dX12_within_15 : decode cX12_within 15 = .ok (.ireturn, 1) := by decide +kernel
theorem dX12_within_2 : decode cX12_within 2 = .ok (.if_icmp .lt 12, 3) := by decide +kernel
theorem dX12_within_5 : decode cX12_within 5 = .ok (.iload_n 0, 1) := by decide +kernel
theorem dX12_within_6 : decode cX12_within 6 = .ok (.iload_n 2, 1) := by decide +kernel
theorem dX12_within_7 : decode cX12_within 7 = .ok (.if_icmp .gt 7, 3) := by decide +kernel
theorem dX12_wrong_0 : decode cX12_wrong 0 = .ok (.aload_n 0, 1) := by decide +kernel
theorem dX12_wrong_1 : decode cX12_wrong 1 = .ok (.getfield 151, 3) := by decide +kernel
theorem dX12_wrong_10 : decode cX12_wrong 10 = .ok (.iload_n 2, 1) := by decide +kernel
theorem dX12_wrong_11 : decode cX12_wrong 11 = .ok (.putfield 151, 3) := by decide +kernel
theorem dX12_wrong_14 : decode cX12_wrong 14 = .ok (.aload_n 0, 1) := by decide +kernel
theorem dX12_wrong_15 : decode cX12_wrong 15 = .ok (.iload_n 1, 1) := by decide +kernel
theorem dX12_wrong_16 : decode cX12_wrong 16 = .ok (.putfield 154, 3) := by decide +kernel
theorem dX12_wrong_19 : decode cX12_wrong 19 = .ok (.return_, 1) := by decide +kernel
theorem dX12_wrong_4 : decode cX12_wrong 4 = .ok (.iconst (-1), 1) := by decide +kernel
theorem dX12_wrong_5 : decode cX12_wrong 5 = .ok (.if_icmp .eq 4, 3) := by decide +kernel
theorem dX12_wrong_9 : decode cX12_wrong 9 = .ok (.aload_n 0, 1) := by decide +kernel
theorem dX1_actOnWay_0 : decode cX1_actOnWay 0 = .ok (.iload_n 2, 1) := by decide +kernel
theorem dX1_actOnWay_1 : decode cX1_actOnWay 1 = .ok (.ifCond .lt 13, 3) := by decide +kernel
theorem dX1_actOnWay_10 : decode cX1_actOnWay 10 = .ok (.iaload, 1) := by decide +kernel
theorem dX1_actOnWay_11 : decode cX1_actOnWay 11 = .ok (.if_icmp .lt 5, 3) := by decide +kernel
theorem dX1_actOnWay_14 : decode cX1_actOnWay 14 = .ok (.iconst (-1), 1) := by decide +kernel
theorem dX1_actOnWay_15 : decode cX1_actOnWay 15 = .ok (.ireturn, 1) := by decide +kernel
theorem dX1_actOnWay_4 : decode cX1_actOnWay 4 = .ok (.iload_n 2, 1) := by decide +kernel
theorem dX1_actOnWay_5 : decode cX1_actOnWay 5 = .ok (.aload_n 0, 1) := by decide +kernel
theorem dX1_actOnWay_6 : decode cX1_actOnWay 6 = .ok (.getfield 28, 3) := by decide +kernel
theorem dX1_actOnWay_9 : decode cX1_actOnWay 9 = .ok (.iload_n 1, 1) := by decide +kernel
theorem dX1_begin_0 : decode cX1_begin 0 = .ok (.aload_n 0, 1) := by decide +kernel
theorem dX1_begin_1 : decode cX1_begin 1 = .ok (.aload_n 1, 1) := by decide +kernel
theorem dX1_begin_10 : decode cX1_begin 10 = .ok (.aload_n 0, 1) := by decide +kernel
theorem dX1_begin_11 : decode cX1_begin 11 = .ok (.getfield 24, 3) := by decide +kernel
theorem dX1_begin_14 : decode cX1_begin 14 = .ok (.aload_n 0, 1) := by decide +kernel
theorem dX1_begin_15 : decode cX1_begin 15 = .ok (.getfield 40, 3) := by decide +kernel
theorem dX1_begin_18 : decode cX1_begin 18 = .ok (.getfield 44, 3) := by decide +kernel
theorem dX1_begin_2 : decode cX1_begin 2 = .ok (.putfield 40, 3) := by decide +kernel
theorem dX1_begin_21 : decode cX1_begin 21 = .ok (.invokevirtual 49, 3) := by decide +kernel
theorem dX1_begin_24 : decode cX1_begin 24 = .ok (.aload_n 0, 1) := by decide +kernel
theorem dX1_begin_25 : decode cX1_begin 25 = .ok (.iconst 0, 1) := by decide +kernel
theorem dX1_begin_26 : decode cX1_begin 26 = .ok (.putfield 53, 3) := by decide +kernel
theorem dX1_begin_29 : decode cX1_begin 29 = .ok (.aload_n 0, 1) := by decide +kernel
theorem dX1_begin_30 : decode cX1_begin 30 = .ok (.getfield 24, 3) := by decide +kernel
theorem dX1_begin_33 : decode cX1_begin 33 = .ok (.aload_n 2, 1) := by decide +kernel
theorem dX1_begin_34 : decode cX1_begin 34 = .ok (.invokevirtual 56, 3) := by decide +kernel
theorem dX1_begin_37 : decode cX1_begin 37 = .ok (.pop, 1) := by decide +kernel
theorem dX1_begin_38 : decode cX1_begin 38 = .ok (.aload_n 0, 1) := by decide +kernel
theorem dX1_begin_39 : decode cX1_begin 39 = .ok (.getfield 28, 3) := by decide +kernel
theorem dX1_begin_42 : decode cX1_begin 42 = .ok (.iconst 0, 1) := by decide +kernel
theorem dX1_begin_43 : decode cX1_begin 43 = .ok (.iconst 0, 1) := by decide +kernel
theorem dX1_begin_44 : decode cX1_begin 44 = .ok (.iastore, 1) := by decide +kernel
theorem dX1_begin_45 : decode cX1_begin 45 = .ok (.aload_n 0, 1) := by decide +kernel
theorem dX1_begin_46 : decode cX1_begin 46 = .ok (.getfield 31, 3) := by decide +kernel
theorem dX1_begin_49 : decode cX1_begin 49 = .ok (.iconst 0, 1) := by decide +kernel
theorem dX1_begin_5 : decode cX1_begin 5 = .ok (.aload_n 0, 1) := by decide +kernel
theorem dX1_begin_50 : decode cX1_begin 50 = .ok (.iconst (-1), 1) := by decide +kernel
theorem dX1_begin_51 : decode cX1_begin 51 = .ok (.iastore, 1) := by decide +kernel
theorem dX1_begin_52 : decode cX1_begin 52 = .ok (.aload_n 0, 1) := by decide +kernel
theorem dX1_begin_53 : decode cX1_begin 53 = .ok (.getfield 34, 3) := by decide +kernel
theorem dX1_begin_56 : decode cX1_begin 56 = .ok (.iconst 0, 1) := by decide +kernel
theorem dX1_begin_57 : decode cX1_begin 57 = .ok (.iconst (-1), 1) := by decide +kernel
theorem dX1_begin_58 : decode cX1_begin 58 = .ok (.iastore, 1) := by decide +kernel
theorem dX1_begin_59 : decode cX1_begin 59 = .ok (.return_, 1) := by decide +kernel
theorem dX1_begin_6 : decode cX1_begin 6 = .ok (.iload_n 3, 1) := by decide +kernel
theorem dX1_begin_7 : decode cX1_begin 7 = .ok (.putfield 9, 3) := by decide +kernel
theorem dX1_deadState_0 : decode cX1_deadState 0 = .ok (.iconst 0, 1) := by decide +kernel
theorem dX1_deadState_1 : decode cX1_deadState 1 = .ok (.istore_n 2, 1) := by decide +kernel
theorem dX1_deadState_12 : decode cX1_deadState 12 = .ok (.if_icmp .ge 27, 3) := by decide +kernel
theorem dX1_deadState_15 : decode cX1_deadState 15 = .ok (.aload_n 0, 1) := by decide +kernel
theorem dX1_deadState_16 : decode cX1_deadState 16 = .ok (.iload_n 3, 1) := by decide +kernel
theorem dX1_deadState_17 : decode cX1_deadState 17 = .ok (.invokevirtual 90, 3) := by decide +kernel
theorem dX1_deadState_2 : decode cX1_deadState 2 = .ok (.iconst 0, 1) := by decide +kernel
theorem dX1_deadState_20 : decode cX1_deadState 20 = .ok (.ifCond .eq 13, 3) := by decide +kernel
theorem dX1_deadState_23 : decode cX1_deadState 23 = .ok (.iload_n 2, 1) := by decide +kernel
theorem dX1_deadState_24 : decode cX1_deadState 24 = .ok (.iload_n 1, 1) := by decide +kernel
theorem dX1_deadState_25 : decode cX1_deadState 25 = .ok (.if_icmp .ne 5, 3) := by decide +kernel
theorem dX1_deadState_28 : decode cX1_deadState 28 = .ok (.iload_n 3, 1) := by decide +kernel
theorem dX1_deadState_29 : decode cX1_deadState 29 = .ok (.ireturn, 1) := by decide +kernel
theorem dX1_deadState_3 : decode cX1_deadState 3 = .ok (.istore_n 3, 1) := by decide +kernel
theorem dX1_deadState_30 : decode cX1_deadState 30 = .ok (.iinc 2 1, 3) := by decide +kernel
theorem dX1_deadState_33 : decode cX1_deadState 33 = .ok (.iinc 3 1, 3) := by decide +kernel
theorem dX1_deadState_36 : decode cX1_deadState 36 = .ok (.goto (-32), 3) := by decide +kernel
theorem dX1_deadState_39 : decode cX1_deadState 39 = .ok (.iconst (-1), 1) := by decide +kernel
theorem dX1_deadState_4 : decode cX1_deadState 4 = .ok (.iload_n 3, 1) := by decide +kernel
theorem dX1_deadState_40 : decode cX1_deadState 40 = .ok (.ireturn, 1) := by decide +kernel
theorem dX1_deadState_5 : decode cX1_deadState 5 = .ok (.aload_n 0, 1) := by decide +kernel
theorem dX1_deadState_6 : decode cX1_deadState 6 = .ok (.getfield 24, 3) := by decide +kernel
theorem dX1_deadState_9 : decode cX1_deadState 9 = .ok (.getfield 60, 3) := by decide +kernel
theorem dX1_depthOf_0 : decode cX1_depthOf 0 = .ok (.aload_n 0, 1) := by decide +kernel
theorem dX1_depthOf_1 : decode cX1_depthOf 1 = .ok (.getfield 28, 3) := by decide +kernel
theorem dX1_depthOf_4 : decode cX1_depthOf 4 = .ok (.iload_n 1, 1) := by decide +kernel
theorem dX1_depthOf_5 : decode cX1_depthOf 5 = .ok (.iaload, 1) := by decide +kernel
theorem dX1_depthOf_6 : decode cX1_depthOf 6 = .ok (.ireturn, 1) := by decide +kernel
theorem dX1_explore_0 : decode cX1_explore 0 = .ok (.aload_n 0, 1) := by decide +kernel
theorem dX1_explore_1 : decode cX1_explore 1 = .ok (.getfield 53, 3) := by decide +kernel
theorem dX1_explore_11 : decode cX1_explore 11 = .ok (.if_icmp .ge 69, 3) := by decide +kernel
theorem dX1_explore_14 : decode cX1_explore 14 = .ok (.aload_n 0, 1) := by decide +kernel
theorem dX1_explore_15 : decode cX1_explore 15 = .ok (.getfield 24, 3) := by decide +kernel
theorem dX1_explore_18 : decode cX1_explore 18 = .ok (.getfield 60, 3) := by decide +kernel
theorem dX1_explore_21 : decode cX1_explore 21 = .ok (.iload_n 1, 1) := by decide +kernel
theorem dX1_explore_22 : decode cX1_explore 22 = .ok (.if_icmp .gt 58, 3) := by decide +kernel
theorem dX1_explore_25 : decode cX1_explore 25 = .ok (.iconst 0, 1) := by decide +kernel
theorem dX1_explore_26 : decode cX1_explore 26 = .ok (.istore_n 2, 1) := by decide +kernel
theorem dX1_explore_27 : decode cX1_explore 27 = .ok (.iload_n 2, 1) := by decide +kernel
theorem dX1_explore_28 : decode cX1_explore 28 = .ok (.aload_n 0, 1) := by decide +kernel
theorem dX1_explore_29 : decode cX1_explore 29 = .ok (.getfield 40, 3) := by decide +kernel
theorem dX1_explore_32 : decode cX1_explore 32 = .ok (.getfield 63, 3) := by decide +kernel
theorem dX1_explore_35 : decode cX1_explore 35 = .ok (.if_icmp .ge 32, 3) := by decide +kernel
theorem dX1_explore_4 : decode cX1_explore 4 = .ok (.aload_n 0, 1) := by decide +kernel
theorem dX1_explore_5 : decode cX1_explore 5 = .ok (.getfield 24, 3) := by decide +kernel
theorem dX1_explore_67 : decode cX1_explore 67 = .ok (.aload_n 0, 1) := by decide +kernel
theorem dX1_explore_68 : decode cX1_explore 68 = .ok (.dup, 1) := by decide +kernel
theorem dX1_explore_69 : decode cX1_explore 69 = .ok (.getfield 53, 3) := by decide +kernel
theorem dX1_explore_72 : decode cX1_explore 72 = .ok (.iconst 1, 1) := by decide +kernel
theorem dX1_explore_73 : decode cX1_explore 73 = .ok (.iadd, 1) := by decide +kernel
theorem dX1_explore_74 : decode cX1_explore 74 = .ok (.putfield 53, 3) := by decide +kernel
theorem dX1_explore_77 : decode cX1_explore 77 = .ok (.goto (-77), 3) := by decide +kernel
theorem dX1_explore_8 : decode cX1_explore 8 = .ok (.getfield 60, 3) := by decide +kernel
theorem dX1_explore_80 : decode cX1_explore 80 = .ok (.return_, 1) := by decide +kernel
theorem dX1_firstDeepest_0 : decode cX1_firstDeepest 0 = .ok (.iconst 0, 1) := by decide +kernel
theorem dX1_firstDeepest_1 : decode cX1_firstDeepest 1 = .ok (.istore_n 1, 1) := by decide +kernel
theorem dX1_firstDeepest_12 : decode cX1_firstDeepest 12 = .ok (.if_icmp .ge 26, 3) := by decide +kernel
theorem dX1_firstDeepest_2 : decode cX1_firstDeepest 2 = .ok (.iconst 1, 1) := by decide +kernel
theorem dX1_firstDeepest_3 : decode cX1_firstDeepest 3 = .ok (.istore_n 2, 1) := by decide +kernel
theorem dX1_firstDeepest_38 : decode cX1_firstDeepest 38 = .ok (.iload_n 1, 1) := by decide +kernel
theorem dX1_firstDeepest_39 : decode cX1_firstDeepest 39 = .ok (.ireturn, 1) := by decide +kernel
theorem dX1_firstDeepest_4 : decode cX1_firstDeepest 4 = .ok (.iload_n 2, 1) := by decide +kernel
theorem dX1_firstDeepest_5 : decode cX1_firstDeepest 5 = .ok (.aload_n 0, 1) := by decide +kernel
theorem dX1_firstDeepest_6 : decode cX1_firstDeepest 6 = .ok (.getfield 24, 3) := by decide +kernel
theorem dX1_firstDeepest_9 : decode cX1_firstDeepest 9 = .ok (.getfield 60, 3) := by decide +kernel
theorem dX1_firstMeeting_0 : decode cX1_firstMeeting 0 = .ok (.iconst 0, 1) := by decide +kernel
theorem dX1_firstMeeting_1 : decode cX1_firstMeeting 1 = .ok (.istore 4, 2) := by decide +kernel
theorem dX1_firstMeeting_12 : decode cX1_firstMeeting 12 = .ok (.if_icmp .ge 29, 3) := by decide +kernel
theorem dX1_firstMeeting_15 : decode cX1_firstMeeting 15 = .ok (.iload 4, 2) := by decide +kernel
theorem dX1_firstMeeting_17 : decode cX1_firstMeeting 17 = .ok (.iload_n 1, 1) := by decide +kernel
theorem dX1_firstMeeting_18 : decode cX1_firstMeeting 18 = .ok (.if_icmp .ge 23, 3) := by decide +kernel
theorem dX1_firstMeeting_21 : decode cX1_firstMeeting 21 = .ok (.aload_n 0, 1) := by decide +kernel
theorem dX1_firstMeeting_22 : decode cX1_firstMeeting 22 = .ok (.iload 4, 2) := by decide +kernel
theorem dX1_firstMeeting_24 : decode cX1_firstMeeting 24 = .ok (.aload_n 2, 1) := by decide +kernel
theorem dX1_firstMeeting_25 : decode cX1_firstMeeting 25 = .ok (.iload_n 3, 1) := by decide +kernel
theorem dX1_firstMeeting_26 : decode cX1_firstMeeting 26 = .ok (.invokevirtual 98, 3) := by decide +kernel
theorem dX1_firstMeeting_29 : decode cX1_firstMeeting 29 = .ok (.ifCond .eq 6, 3) := by decide +kernel
theorem dX1_firstMeeting_3 : decode cX1_firstMeeting 3 = .ok (.iload 4, 2) := by decide +kernel
theorem dX1_firstMeeting_32 : decode cX1_firstMeeting 32 = .ok (.iload 4, 2) := by decide +kernel
theorem dX1_firstMeeting_34 : decode cX1_firstMeeting 34 = .ok (.ireturn, 1) := by decide +kernel
theorem dX1_firstMeeting_5 : decode cX1_firstMeeting 5 = .ok (.aload_n 0, 1) := by decide +kernel
theorem dX1_firstMeeting_6 : decode cX1_firstMeeting 6 = .ok (.getfield 24, 3) := by decide +kernel
theorem dX1_firstMeeting_9 : decode cX1_firstMeeting 9 = .ok (.getfield 60, 3) := by decide +kernel
theorem dX1_init_0 : decode cX1_init 0 = .ok (.aload_n 0, 1) := by decide +kernel
theorem dX1_init_1 : decode cX1_init 1 = .ok (.invokespecial 3, 3) := by decide +kernel
theorem dX1_init_10 : decode cX1_init 10 = .ok (.sipush 24064, 3) := by decide +kernel
theorem dX1_init_13 : decode cX1_init 13 = .ok (.newarray .int, 2) := by decide +kernel
theorem dX1_init_15 : decode cX1_init 15 = .ok (.putfield 15, 3) := by decide +kernel
theorem dX1_init_18 : decode cX1_init 18 = .ok (.aload_n 0, 1) := by decide +kernel
theorem dX1_init_19 : decode cX1_init 19 = .ok (.new 19, 3) := by decide +kernel
theorem dX1_init_22 : decode cX1_init 22 = .ok (.dup, 1) := by decide +kernel
theorem dX1_init_23 : decode cX1_init 23 = .ok (.bipush 8, 2) := by decide +kernel
theorem dX1_init_25 : decode cX1_init 25 = .ok (.sipush 3008, 3) := by decide +kernel
theorem dX1_init_28 : decode cX1_init 28 = .ok (.sipush 8192, 3) := by decide +kernel
theorem dX1_init_31 : decode cX1_init 31 = .ok (.invokespecial 21, 3) := by decide +kernel
theorem dX1_init_34 : decode cX1_init 34 = .ok (.putfield 24, 3) := by decide +kernel
theorem dX1_init_37 : decode cX1_init 37 = .ok (.aload_n 0, 1) := by decide +kernel
theorem dX1_init_38 : decode cX1_init 38 = .ok (.sipush 3008, 3) := by decide +kernel
theorem dX1_init_4 : decode cX1_init 4 = .ok (.aload_n 0, 1) := by decide +kernel
theorem dX1_init_41 : decode cX1_init 41 = .ok (.newarray .int, 2) := by decide +kernel
theorem dX1_init_43 : decode cX1_init 43 = .ok (.putfield 28, 3) := by decide +kernel
theorem dX1_init_46 : decode cX1_init 46 = .ok (.aload_n 0, 1) := by decide +kernel
theorem dX1_init_47 : decode cX1_init 47 = .ok (.sipush 3008, 3) := by decide +kernel
theorem dX1_init_5 : decode cX1_init 5 = .ok (.iconst (-1), 1) := by decide +kernel
theorem dX1_init_50 : decode cX1_init 50 = .ok (.newarray .int, 2) := by decide +kernel
theorem dX1_init_52 : decode cX1_init 52 = .ok (.putfield 31, 3) := by decide +kernel
theorem dX1_init_55 : decode cX1_init 55 = .ok (.aload_n 0, 1) := by decide +kernel
theorem dX1_init_56 : decode cX1_init 56 = .ok (.sipush 3008, 3) := by decide +kernel
theorem dX1_init_59 : decode cX1_init 59 = .ok (.newarray .int, 2) := by decide +kernel
theorem dX1_init_6 : decode cX1_init 6 = .ok (.putfield 9, 3) := by decide +kernel
theorem dX1_init_61 : decode cX1_init 61 = .ok (.putfield 34, 3) := by decide +kernel
theorem dX1_init_64 : decode cX1_init 64 = .ok (.aload_n 0, 1) := by decide +kernel
theorem dX1_init_65 : decode cX1_init 65 = .ok (.bipush 8, 2) := by decide +kernel
theorem dX1_init_67 : decode cX1_init 67 = .ok (.newarray .int, 2) := by decide +kernel
theorem dX1_init_69 : decode cX1_init 69 = .ok (.putfield 37, 3) := by decide +kernel
theorem dX1_init_72 : decode cX1_init 72 = .ok (.return_, 1) := by decide +kernel
theorem dX1_init_9 : decode cX1_init 9 = .ok (.aload_n 0, 1) := by decide +kernel
theorem dX1_isBeyond_0 : decode cX1_isBeyond 0 = .ok (.aload_n 0, 1) := by decide +kernel
theorem dX1_isBeyond_1 : decode cX1_isBeyond 1 = .ok (.getfield 24, 3) := by decide +kernel
theorem dX1_isBeyond_15 : decode cX1_isBeyond 15 = .ok (.iconst 0, 1) := by decide +kernel
theorem dX1_isBeyond_16 : decode cX1_isBeyond 16 = .ok (.ireturn, 1) := by decide +kernel
theorem dX1_isBeyond_4 : decode cX1_isBeyond 4 = .ok (.getfield 60, 3) := by decide +kernel
theorem dX1_isBeyond_7 : decode cX1_isBeyond 7 = .ok (.iload_n 1, 1) := by decide +kernel
theorem dX1_isBeyond_8 : decode cX1_isBeyond 8 = .ok (.if_icmp .le 7, 3) := by decide +kernel
theorem dX1_isDead_0 : decode cX1_isDead 0 = .ok (.iconst 0, 1) := by decide +kernel
theorem dX1_isDead_1 : decode cX1_isDead 1 = .ok (.istore_n 2, 1) := by decide +kernel
theorem dX1_isDead_10 : decode cX1_isDead 10 = .ok (.if_icmp .ge 26, 3) := by decide +kernel
theorem dX1_isDead_2 : decode cX1_isDead 2 = .ok (.iload_n 2, 1) := by decide +kernel
theorem dX1_isDead_3 : decode cX1_isDead 3 = .ok (.aload_n 0, 1) := by decide +kernel
theorem dX1_isDead_36 : decode cX1_isDead 36 = .ok (.iconst 1, 1) := by decide +kernel
theorem dX1_isDead_37 : decode cX1_isDead 37 = .ok (.ireturn, 1) := by decide +kernel
theorem dX1_isDead_4 : decode cX1_isDead 4 = .ok (.getfield 40, 3) := by decide +kernel
theorem dX1_isDead_7 : decode cX1_isDead 7 = .ok (.getfield 63, 3) := by decide +kernel
theorem dX1_isMeeting_0 : decode cX1_isMeeting 0 = .ok (.iconst 0, 1) := by decide +kernel
theorem dX1_isMeeting_1 : decode cX1_isMeeting 1 = .ok (.istore 4, 2) := by decide +kernel
theorem dX1_isMeeting_12 : decode cX1_isMeeting 12 = .ok (.if_icmp .ge 55, 3) := by decide +kernel
theorem dX1_isMeeting_3 : decode cX1_isMeeting 3 = .ok (.iload 4, 2) := by decide +kernel
theorem dX1_isMeeting_5 : decode cX1_isMeeting 5 = .ok (.aload_n 0, 1) := by decide +kernel
theorem dX1_isMeeting_6 : decode cX1_isMeeting 6 = .ok (.getfield 40, 3) := by decide +kernel
theorem dX1_isMeeting_67 : decode cX1_isMeeting 67 = .ok (.iconst 1, 1) := by decide +kernel
theorem dX1_isMeeting_68 : decode cX1_isMeeting 68 = .ok (.ireturn, 1) := by decide +kernel
theorem dX1_isMeeting_9 : decode cX1_isMeeting 9 = .ok (.getfield 44, 3) := by decide +kernel
theorem dX1_size_0 : decode cX1_size 0 = .ok (.aload_n 0, 1) := by decide +kernel
theorem dX1_size_1 : decode cX1_size 1 = .ok (.getfield 24, 3) := by decide +kernel
theorem dX1_size_4 : decode cX1_size 4 = .ok (.getfield 60, 3) := by decide +kernel
theorem dX1_size_7 : decode cX1_size 7 = .ok (.ireturn, 1) := by decide +kernel
theorem dX2_ableActs_0 : decode cX2_ableActs 0 = .ok (.iconst 0, 1) := by decide +kernel
theorem dX2_ableActs_1 : decode cX2_ableActs 1 = .ok (.istore_n 2, 1) := by decide +kernel
theorem dX2_ableActs_2 : decode cX2_ableActs 2 = .ok (.iconst 0, 1) := by decide +kernel
theorem dX2_ableActs_3 : decode cX2_ableActs 3 = .ok (.istore_n 3, 1) := by decide +kernel
theorem dX2_ableActs_38 : decode cX2_ableActs 38 = .ok (.iload_n 2, 1) := by decide +kernel
theorem dX2_ableActs_39 : decode cX2_ableActs 39 = .ok (.ireturn, 1) := by decide +kernel
theorem dX2_ableActs_4 : decode cX2_ableActs 4 = .ok (.iload_n 3, 1) := by decide +kernel
theorem dX2_ableActs_5 : decode cX2_ableActs 5 = .ok (.aload_n 0, 1) := by decide +kernel
theorem dX2_ableActs_6 : decode cX2_ableActs 6 = .ok (.getfield 58, 3) := by decide +kernel
theorem dX2_ableActs_9 : decode cX2_ableActs 9 = .ok (.if_icmp .ge 29, 3) := by decide +kernel
theorem dX2_init_0 : decode cX2_init 0 = .ok (.aload_n 0, 1) := by decide +kernel
theorem dX2_init_1 : decode cX2_init 1 = .ok (.invokespecial 3, 3) := by decide +kernel
theorem dX2_init_100 : decode cX2_init 100 = .ok (.aload_n 0, 1) := by decide +kernel
theorem dX2_init_101 : decode cX2_init 101 = .ok (.sipush 600, 3) := by decide +kernel
theorem dX2_init_104 : decode cX2_init 104 = .ok (.newarray .int, 2) := by decide +kernel
theorem dX2_init_106 : decode cX2_init 106 = .ok (.putfield 48, 3) := by decide +kernel
theorem dX2_init_109 : decode cX2_init 109 = .ok (.aload_n 0, 1) := by decide +kernel
theorem dX2_init_110 : decode cX2_init 110 = .ok (.bipush 32, 2) := by decide +kernel
theorem dX2_init_112 : decode cX2_init 112 = .ok (.newarray .int, 2) := by decide +kernel
theorem dX2_init_114 : decode cX2_init 114 = .ok (.putfield 51, 3) := by decide +kernel
theorem dX2_init_117 : decode cX2_init 117 = .ok (.return_, 1) := by decide +kernel
theorem dX2_init_12 : decode cX2_init 12 = .ok (.aload_n 0, 1) := by decide +kernel
theorem dX2_init_13 : decode cX2_init 13 = .ok (.bipush 8, 2) := by decide +kernel
theorem dX2_init_15 : decode cX2_init 15 = .ok (.newarray .int, 2) := by decide +kernel
theorem dX2_init_17 : decode cX2_init 17 = .ok (.putfield 15, 3) := by decide +kernel
theorem dX2_init_20 : decode cX2_init 20 = .ok (.aload_n 0, 1) := by decide +kernel
theorem dX2_init_21 : decode cX2_init 21 = .ok (.bipush 8, 2) := by decide +kernel
theorem dX2_init_23 : decode cX2_init 23 = .ok (.newarray .int, 2) := by decide +kernel
theorem dX2_init_25 : decode cX2_init 25 = .ok (.putfield 18, 3) := by decide +kernel
theorem dX2_init_28 : decode cX2_init 28 = .ok (.aload_n 0, 1) := by decide +kernel
theorem dX2_init_29 : decode cX2_init 29 = .ok (.bipush 8, 2) := by decide +kernel
theorem dX2_init_31 : decode cX2_init 31 = .ok (.newarray .int, 2) := by decide +kernel
theorem dX2_init_33 : decode cX2_init 33 = .ok (.putfield 21, 3) := by decide +kernel
theorem dX2_init_36 : decode cX2_init 36 = .ok (.aload_n 0, 1) := by decide +kernel
theorem dX2_init_37 : decode cX2_init 37 = .ok (.bipush 64, 2) := by decide +kernel
theorem dX2_init_39 : decode cX2_init 39 = .ok (.newarray .int, 2) := by decide +kernel
theorem dX2_init_4 : decode cX2_init 4 = .ok (.aload_n 0, 1) := by decide +kernel
theorem dX2_init_41 : decode cX2_init 41 = .ok (.putfield 24, 3) := by decide +kernel
theorem dX2_init_44 : decode cX2_init 44 = .ok (.aload_n 0, 1) := by decide +kernel
theorem dX2_init_45 : decode cX2_init 45 = .ok (.bipush 64, 2) := by decide +kernel
theorem dX2_init_47 : decode cX2_init 47 = .ok (.newarray .int, 2) := by decide +kernel
theorem dX2_init_49 : decode cX2_init 49 = .ok (.putfield 27, 3) := by decide +kernel
theorem dX2_init_5 : decode cX2_init 5 = .ok (.bipush 8, 2) := by decide +kernel
theorem dX2_init_52 : decode cX2_init 52 = .ok (.aload_n 0, 1) := by decide +kernel
theorem dX2_init_53 : decode cX2_init 53 = .ok (.bipush 64, 2) := by decide +kernel
theorem dX2_init_55 : decode cX2_init 55 = .ok (.newarray .int, 2) := by decide +kernel
theorem dX2_init_57 : decode cX2_init 57 = .ok (.putfield 30, 3) := by decide +kernel
theorem dX2_init_60 : decode cX2_init 60 = .ok (.aload_n 0, 1) := by decide +kernel
theorem dX2_init_61 : decode cX2_init 61 = .ok (.bipush 8, 2) := by decide +kernel
theorem dX2_init_63 : decode cX2_init 63 = .ok (.newarray .int, 2) := by decide +kernel
theorem dX2_init_65 : decode cX2_init 65 = .ok (.putfield 33, 3) := by decide +kernel
theorem dX2_init_68 : decode cX2_init 68 = .ok (.aload_n 0, 1) := by decide +kernel
theorem dX2_init_69 : decode cX2_init 69 = .ok (.bipush 8, 2) := by decide +kernel
theorem dX2_init_7 : decode cX2_init 7 = .ok (.newarray .int, 2) := by decide +kernel
theorem dX2_init_71 : decode cX2_init 71 = .ok (.newarray .int, 2) := by decide +kernel
theorem dX2_init_73 : decode cX2_init 73 = .ok (.putfield 36, 3) := by decide +kernel
theorem dX2_init_76 : decode cX2_init 76 = .ok (.aload_n 0, 1) := by decide +kernel
theorem dX2_init_77 : decode cX2_init 77 = .ok (.bipush 64, 2) := by decide +kernel
theorem dX2_init_79 : decode cX2_init 79 = .ok (.newarray .int, 2) := by decide +kernel
theorem dX2_init_81 : decode cX2_init 81 = .ok (.putfield 39, 3) := by decide +kernel
theorem dX2_init_84 : decode cX2_init 84 = .ok (.aload_n 0, 1) := by decide +kernel
theorem dX2_init_85 : decode cX2_init 85 = .ok (.bipush 8, 2) := by decide +kernel
theorem dX2_init_87 : decode cX2_init 87 = .ok (.newarray .int, 2) := by decide +kernel
theorem dX2_init_89 : decode cX2_init 89 = .ok (.putfield 42, 3) := by decide +kernel
theorem dX2_init_9 : decode cX2_init 9 = .ok (.putfield 9, 3) := by decide +kernel
theorem dX2_init_92 : decode cX2_init 92 = .ok (.aload_n 0, 1) := by decide +kernel
theorem dX2_init_93 : decode cX2_init 93 = .ok (.bipush 8, 2) := by decide +kernel
theorem dX2_init_95 : decode cX2_init 95 = .ok (.newarray .int, 2) := by decide +kernel
theorem dX2_init_97 : decode cX2_init 97 = .ok (.putfield 45, 3) := by decide +kernel
theorem dX2_wipe_0 : decode cX2_wipe 0 = .ok (.aload_n 0, 1) := by decide +kernel
theorem dX2_wipe_1 : decode cX2_wipe 1 = .ok (.iconst 0, 1) := by decide +kernel
theorem dX2_wipe_10 : decode cX2_wipe 10 = .ok (.aload_n 0, 1) := by decide +kernel
theorem dX2_wipe_11 : decode cX2_wipe 11 = .ok (.iconst 0, 1) := by decide +kernel
theorem dX2_wipe_12 : decode cX2_wipe 12 = .ok (.putfield 61, 3) := by decide +kernel
theorem dX2_wipe_15 : decode cX2_wipe 15 = .ok (.aload_n 0, 1) := by decide +kernel
theorem dX2_wipe_16 : decode cX2_wipe 16 = .ok (.getfield 24, 3) := by decide +kernel
theorem dX2_wipe_19 : decode cX2_wipe 19 = .ok (.iconst 0, 1) := by decide +kernel
theorem dX2_wipe_2 : decode cX2_wipe 2 = .ok (.putfield 54, 3) := by decide +kernel
theorem dX2_wipe_20 : decode cX2_wipe 20 = .ok (.invokestatic 64, 3) := by decide +kernel
theorem dX2_wipe_23 : decode cX2_wipe 23 = .ok (.aload_n 0, 1) := by decide +kernel
theorem dX2_wipe_24 : decode cX2_wipe 24 = .ok (.getfield 27, 3) := by decide +kernel
theorem dX2_wipe_27 : decode cX2_wipe 27 = .ok (.iconst 0, 1) := by decide +kernel
theorem dX2_wipe_28 : decode cX2_wipe 28 = .ok (.invokestatic 64, 3) := by decide +kernel
theorem dX2_wipe_31 : decode cX2_wipe 31 = .ok (.aload_n 0, 1) := by decide +kernel
theorem dX2_wipe_32 : decode cX2_wipe 32 = .ok (.getfield 30, 3) := by decide +kernel
theorem dX2_wipe_35 : decode cX2_wipe 35 = .ok (.iconst 0, 1) := by decide +kernel
theorem dX2_wipe_36 : decode cX2_wipe 36 = .ok (.invokestatic 64, 3) := by decide +kernel
theorem dX2_wipe_39 : decode cX2_wipe 39 = .ok (.return_, 1) := by decide +kernel
theorem dX2_wipe_5 : decode cX2_wipe 5 = .ok (.aload_n 0, 1) := by decide +kernel
theorem dX2_wipe_6 : decode cX2_wipe 6 = .ok (.iconst 0, 1) := by decide +kernel
theorem dX2_wipe_7 : decode cX2_wipe 7 = .ok (.putfield 58, 3) := by decide +kernel
theorem dX3_advance_0 : decode cX3_advance 0 = .ok (.aload_n 0, 1) := by decide +kernel
theorem dX3_advance_1 : decode cX3_advance 1 = .ok (.aload_n 0, 1) := by decide +kernel
theorem dX3_advance_12 : decode cX3_advance 12 = .ok (.aload_n 0, 1) := by decide +kernel
theorem dX3_advance_13 : decode cX3_advance 13 = .ok (.getfield 19, 3) := by decide +kernel
theorem dX3_advance_150 : decode cX3_advance 150 = .ok (.aload_n 0, 1) := by decide +kernel
theorem dX3_advance_151 : decode cX3_advance 151 = .ok (.getfield 31, 3) := by decide +kernel
theorem dX3_advance_154 : decode cX3_advance 154 = .ok (.aload_n 0, 1) := by decide +kernel
theorem dX3_advance_155 : decode cX3_advance 155 = .ok (.getfield 19, 3) := by decide +kernel
theorem dX3_advance_158 : decode cX3_advance 158 = .ok (.if_icmp .ge 57, 3) := by decide +kernel
theorem dX3_advance_16 : decode cX3_advance 16 = .ok (.if_icmp .ge 30, 3) := by decide +kernel
theorem dX3_advance_2 : decode cX3_advance 2 = .ok (.getfield 31, 3) := by decide +kernel
theorem dX3_advance_215 : decode cX3_advance 215 = .ok (.aload_n 0, 1) := by decide +kernel
theorem dX3_advance_216 : decode cX3_advance 216 = .ok (.getfield 60, 3) := by decide +kernel
theorem dX3_advance_219 : decode cX3_advance 219 = .ok (.aload_n 0, 1) := by decide +kernel
theorem dX3_advance_220 : decode cX3_advance 220 = .ok (.getfield 19, 3) := by decide +kernel
theorem dX3_advance_223 : decode cX3_advance 223 = .ok (.if_icmp .ge 38, 3) := by decide +kernel
theorem dX3_advance_261 : decode cX3_advance 261 = .ok (.return_, 1) := by decide +kernel
theorem dX3_advance_46 : decode cX3_advance 46 = .ok (.aload_n 0, 1) := by decide +kernel
theorem dX3_advance_47 : decode cX3_advance 47 = .ok (.aload_n 0, 1) := by decide +kernel
theorem dX3_advance_48 : decode cX3_advance 48 = .ok (.getfield 60, 3) := by decide +kernel
theorem dX3_advance_5 : decode cX3_advance 5 = .ok (.putfield 60, 3) := by decide +kernel
theorem dX3_advance_51 : decode cX3_advance 51 = .ok (.putfield 31, 3) := by decide +kernel
theorem dX3_advance_54 : decode cX3_advance 54 = .ok (.aload_n 0, 1) := by decide +kernel
theorem dX3_advance_55 : decode cX3_advance 55 = .ok (.iconst 0, 1) := by decide +kernel
theorem dX3_advance_56 : decode cX3_advance 56 = .ok (.putfield 43, 3) := by decide +kernel
theorem dX3_advance_59 : decode cX3_advance 59 = .ok (.aload_n 0, 1) := by decide +kernel
theorem dX3_advance_60 : decode cX3_advance 60 = .ok (.iconst 0, 1) := by decide +kernel
theorem dX3_advance_61 : decode cX3_advance 61 = .ok (.putfield 63, 3) := by decide +kernel
theorem dX3_advance_64 : decode cX3_advance 64 = .ok (.aload_n 0, 1) := by decide +kernel
theorem dX3_advance_65 : decode cX3_advance 65 = .ok (.getfield 31, 3) := by decide +kernel
theorem dX3_advance_68 : decode cX3_advance 68 = .ok (.aload_n 0, 1) := by decide +kernel
theorem dX3_advance_69 : decode cX3_advance 69 = .ok (.getfield 19, 3) := by decide +kernel
theorem dX3_advance_72 : decode cX3_advance 72 = .ok (.if_icmp .ge 78, 3) := by decide +kernel
theorem dX3_advance_8 : decode cX3_advance 8 = .ok (.aload_n 0, 1) := by decide +kernel
theorem dX3_advance_9 : decode cX3_advance 9 = .ok (.getfield 60, 3) := by decide +kernel
theorem dX3_fails_0 : decode cX3_fails 0 = .ok (.aload_n 0, 1) := by decide +kernel
theorem dX3_fails_1 : decode cX3_fails 1 = .ok (.iload_n 1, 1) := by decide +kernel
theorem dX3_fails_10 : decode cX3_fails 10 = .ok (.iconst 0, 1) := by decide +kernel
theorem dX3_fails_11 : decode cX3_fails 11 = .ok (.ireturn, 1) := by decide +kernel
theorem dX3_fails_2 : decode cX3_fails 2 = .ok (.putfield 37, 3) := by decide +kernel
theorem dX3_fails_5 : decode cX3_fails 5 = .ok (.aload_n 0, 1) := by decide +kernel
theorem dX3_fails_6 : decode cX3_fails 6 = .ok (.iload_n 2, 1) := by decide +kernel
theorem dX3_fails_7 : decode cX3_fails 7 = .ok (.putfield 9, 3) := by decide +kernel
theorem dX3_init_0 : decode cX3_init 0 = .ok (.aload_n 0, 1) := by decide +kernel
theorem dX3_init_1 : decode cX3_init 1 = .ok (.invokespecial 3, 3) := by decide +kernel
theorem dX3_init_4 : decode cX3_init 4 = .ok (.aload_n 0, 1) := by decide +kernel
theorem dX3_init_5 : decode cX3_init 5 = .ok (.iconst (-1), 1) := by decide +kernel
theorem dX3_init_6 : decode cX3_init 6 = .ok (.putfield 9, 3) := by decide +kernel
theorem dX3_init_9 : decode cX3_init 9 = .ok (.return_, 1) := by decide +kernel
theorem dX3_readNet_0 : decode cX3_readNet 0 = .ok (.aload_n 0, 1) := by decide +kernel
theorem dX3_readNet_1 : decode cX3_readNet 1 = .ok (.aload_n 1, 1) := by decide +kernel
theorem dX3_readNet_10 : decode cX3_readNet 10 = .ok (.aload_n 0, 1) := by decide +kernel
theorem dX3_readNet_11 : decode cX3_readNet 11 = .ok (.aload_n 3, 1) := by decide +kernel
theorem dX3_readNet_110 : decode cX3_readNet 110 = .ok (.aload_n 0, 1) := by decide +kernel
theorem dX3_readNet_111 : decode cX3_readNet 111 = .ok (.iconst 4, 1) := by decide +kernel
theorem dX3_readNet_112 : decode cX3_readNet 112 = .ok (.aload_n 0, 1) := by decide +kernel
theorem dX3_readNet_113 : decode cX3_readNet 113 = .ok (.getfield 19, 3) := by decide +kernel
theorem dX3_readNet_116 : decode cX3_readNet 116 = .ok (.invokevirtual 56, 3) := by decide +kernel
theorem dX3_readNet_119 : decode cX3_readNet 119 = .ok (.pop, 1) := by decide +kernel
theorem dX3_readNet_12 : decode cX3_readNet 12 = .ok (.putfield 22, 3) := by decide +kernel
theorem dX3_readNet_120 : decode cX3_readNet 120 = .ok (.aload_n 0, 1) := by decide +kernel
theorem dX3_readNet_121 : decode cX3_readNet 121 = .ok (.getfield 37, 3) := by decide +kernel
theorem dX3_readNet_124 : decode cX3_readNet 124 = .ok (.ireturn, 1) := by decide +kernel
theorem dX3_readNet_15 : decode cX3_readNet 15 = .ok (.aload_n 0, 1) := by decide +kernel
theorem dX3_readNet_16 : decode cX3_readNet 16 = .ok (.getfield 22, 3) := by decide +kernel
theorem dX3_readNet_19 : decode cX3_readNet 19 = .ok (.invokevirtual 26, 3) := by decide +kernel
theorem dX3_readNet_2 : decode cX3_readNet 2 = .ok (.putfield 15, 3) := by decide +kernel
theorem dX3_readNet_22 : decode cX3_readNet 22 = .ok (.aload_n 0, 1) := by decide +kernel
theorem dX3_readNet_23 : decode cX3_readNet 23 = .ok (.iconst 0, 1) := by decide +kernel
theorem dX3_readNet_24 : decode cX3_readNet 24 = .ok (.putfield 31, 3) := by decide +kernel
theorem dX3_readNet_27 : decode cX3_readNet 27 = .ok (.aload_n 0, 1) := by decide +kernel
theorem dX3_readNet_28 : decode cX3_readNet 28 = .ok (.iconst 0, 1) := by decide +kernel
theorem dX3_readNet_29 : decode cX3_readNet 29 = .ok (.putfield 34, 3) := by decide +kernel
theorem dX3_readNet_32 : decode cX3_readNet 32 = .ok (.aload_n 0, 1) := by decide +kernel
theorem dX3_readNet_33 : decode cX3_readNet 33 = .ok (.iconst 0, 1) := by decide +kernel
theorem dX3_readNet_34 : decode cX3_readNet 34 = .ok (.putfield 37, 3) := by decide +kernel
theorem dX3_readNet_37 : decode cX3_readNet 37 = .ok (.aload_n 0, 1) := by decide +kernel
theorem dX3_readNet_38 : decode cX3_readNet 38 = .ok (.iconst (-1), 1) := by decide +kernel
theorem dX3_readNet_39 : decode cX3_readNet 39 = .ok (.putfield 9, 3) := by decide +kernel
theorem dX3_readNet_42 : decode cX3_readNet 42 = .ok (.aload_n 0, 1) := by decide +kernel
theorem dX3_readNet_43 : decode cX3_readNet 43 = .ok (.invokevirtual 40, 3) := by decide +kernel
theorem dX3_readNet_46 : decode cX3_readNet 46 = .ok (.iconst 0, 1) := by decide +kernel
theorem dX3_readNet_47 : decode cX3_readNet 47 = .ok (.istore 4, 2) := by decide +kernel
