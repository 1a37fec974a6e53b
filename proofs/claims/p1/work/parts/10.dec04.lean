theorem dX12_findKnots_31 : decode cX12_findKnots 31 = .ok (.aload_n 0, 1) := by decide +kernel
theorem dX12_findKnots_312 : decode cX12_findKnots 312 = .ok (.return_, 1) := by decide +kernel
theorem dX12_findKnots_32 : decode cX12_findKnots 32 = .ok (.iconst 0, 1) := by decide +kernel
theorem dX12_findKnots_33 : decode cX12_findKnots 33 = .ok (.putfield 354, 3) := by decide +kernel
theorem dX12_findKnots_36 : decode cX12_findKnots 36 = .ok (.aload_n 0, 1) := by decide +kernel
theorem dX12_findKnots_37 : decode cX12_findKnots 37 = .ok (.getfield 322, 3) := by decide +kernel
theorem dX12_findKnots_4 : decode cX12_findKnots 4 = .ok (.aload_n 0, 1) := by decide +kernel
theorem dX12_findKnots_40 : decode cX12_findKnots 40 = .ok (.iconst 1, 1) := by decide +kernel
theorem dX12_findKnots_41 : decode cX12_findKnots 41 = .ok (.isub, 1) := by decide +kernel
theorem dX12_findKnots_42 : decode cX12_findKnots 42 = .ok (.istore_n 1, 1) := by decide +kernel
theorem dX12_findKnots_43 : decode cX12_findKnots 43 = .ok (.iload_n 1, 1) := by decide +kernel
theorem dX12_findKnots_44 : decode cX12_findKnots 44 = .ok (.ifCond .lt 161, 3) := by decide +kernel
theorem dX12_findKnots_47 : decode cX12_findKnots 47 = .ok (.aload_n 0, 1) := by decide +kernel
theorem dX12_findKnots_48 : decode cX12_findKnots 48 = .ok (.getfield 93, 3) := by decide +kernel
theorem dX12_findKnots_5 : decode cX12_findKnots 5 = .ok (.invokevirtual 345, 3) := by decide +kernel
theorem dX12_findKnots_51 : decode cX12_findKnots 51 = .ok (.aload_n 0, 1) := by decide +kernel
theorem dX12_findKnots_52 : decode cX12_findKnots 52 = .ok (.getfield 87, 3) := by decide +kernel
theorem dX12_findKnots_55 : decode cX12_findKnots 55 = .ok (.iload_n 1, 1) := by decide +kernel
theorem dX12_findKnots_56 : decode cX12_findKnots 56 = .ok (.iaload, 1) := by decide +kernel
theorem dX12_findKnots_57 : decode cX12_findKnots 57 = .ok (.iaload, 1) := by decide +kernel
theorem dX12_findKnots_58 : decode cX12_findKnots 58 = .ok (.iconst (-1), 1) := by decide +kernel
theorem dX12_findKnots_59 : decode cX12_findKnots 59 = .ok (.if_icmp .eq 6, 3) := by decide +kernel
theorem dX12_findKnots_65 : decode cX12_findKnots 65 = .ok (.iconst 1, 1) := by decide +kernel
theorem dX12_findKnots_66 : decode cX12_findKnots 66 = .ok (.istore_n 2, 1) := by decide +kernel
theorem dX12_findKnots_67 : decode cX12_findKnots 67 = .ok (.aload_n 0, 1) := by decide +kernel
theorem dX12_findKnots_68 : decode cX12_findKnots 68 = .ok (.getfield 80, 3) := by decide +kernel
theorem dX12_findKnots_71 : decode cX12_findKnots 71 = .ok (.iconst 0, 1) := by decide +kernel
theorem dX12_findKnots_72 : decode cX12_findKnots 72 = .ok (.aload_n 0, 1) := by decide +kernel
theorem dX12_findKnots_73 : decode cX12_findKnots 73 = .ok (.getfield 87, 3) := by decide +kernel
theorem dX12_findKnots_76 : decode cX12_findKnots 76 = .ok (.iload_n 1, 1) := by decide +kernel
theorem dX12_findKnots_77 : decode cX12_findKnots 77 = .ok (.iaload, 1) := by decide +kernel
theorem dX12_findKnots_78 : decode cX12_findKnots 78 = .ok (.iastore, 1) := by decide +kernel
theorem dX12_findKnots_79 : decode cX12_findKnots 79 = .ok (.aload_n 0, 1) := by decide +kernel
theorem dX12_findKnots_8 : decode cX12_findKnots 8 = .ok (.iconst 0, 1) := by decide +kernel
theorem dX12_findKnots_80 : decode cX12_findKnots 80 = .ok (.getfield 93, 3) := by decide +kernel
theorem dX12_findKnots_83 : decode cX12_findKnots 83 = .ok (.aload_n 0, 1) := by decide +kernel
theorem dX12_findKnots_84 : decode cX12_findKnots 84 = .ok (.getfield 87, 3) := by decide +kernel
theorem dX12_findKnots_87 : decode cX12_findKnots 87 = .ok (.iload_n 1, 1) := by decide +kernel
theorem dX12_findKnots_88 : decode cX12_findKnots 88 = .ok (.iaload, 1) := by decide +kernel
theorem dX12_findKnots_89 : decode cX12_findKnots 89 = .ok (.aload_n 0, 1) := by decide +kernel
theorem dX12_findKnots_9 : decode cX12_findKnots 9 = .ok (.istore_n 1, 1) := by decide +kernel
theorem dX12_findKnots_90 : decode cX12_findKnots 90 = .ok (.getfield 354, 3) := by decide +kernel
theorem dX12_findKnots_93 : decode cX12_findKnots 93 = .ok (.iastore, 1) := by decide +kernel
theorem dX12_findKnots_94 : decode cX12_findKnots 94 = .ok (.iconst 0, 1) := by decide +kernel
theorem dX12_findKnots_95 : decode cX12_findKnots 95 = .ok (.istore_n 3, 1) := by decide +kernel
theorem dX12_findKnots_96 : decode cX12_findKnots 96 = .ok (.iload_n 3, 1) := by decide +kernel
theorem dX12_findKnots_97 : decode cX12_findKnots 97 = .ok (.iload_n 2, 1) := by decide +kernel
theorem dX12_findKnots_98 : decode cX12_findKnots 98 = .ok (.if_icmp .ge 91, 3) := by decide +kernel
theorem dX12_findPeriod_0 : decode cX12_findPeriod 0 = .ok (.aload_n 0, 1) := by decide +kernel
theorem dX12_findPeriod_1 : decode cX12_findPeriod 1 = .ok (.iconst (-1), 1) := by decide +kernel
theorem dX12_findPeriod_10 : decode cX12_findPeriod 10 = .ok (.istore_n 1, 1) := by decide +kernel
theorem dX12_findPeriod_101 : decode cX12_findPeriod 101 = .ok (.iconst 1, 1) := by decide +kernel
theorem dX12_findPeriod_102 : decode cX12_findPeriod 102 = .ok (.istore_n 3, 1) := by decide +kernel
theorem dX12_findPeriod_103 : decode cX12_findPeriod 103 = .ok (.iconst 0, 1) := by decide +kernel
theorem dX12_findPeriod_104 : decode cX12_findPeriod 104 = .ok (.istore 4, 2) := by decide +kernel
theorem dX12_findPeriod_106 : decode cX12_findPeriod 106 = .ok (.iload 4, 2) := by decide +kernel
theorem dX12_findPeriod_108 : decode cX12_findPeriod 108 = .ok (.bipush 16, 2) := by decide +kernel
theorem dX12_findPeriod_11 : decode cX12_findPeriod 11 = .ok (.iload_n 1, 1) := by decide +kernel
theorem dX12_findPeriod_110 : decode cX12_findPeriod 110 = .ok (.if_icmp .ge 46, 3) := by decide +kernel
theorem dX12_findPeriod_113 : decode cX12_findPeriod 113 = .ok (.iload_n 3, 1) := by decide +kernel
theorem dX12_findPeriod_114 : decode cX12_findPeriod 114 = .ok (.ifCond .eq 42, 3) := by decide +kernel
theorem dX12_findPeriod_117 : decode cX12_findPeriod 117 = .ok (.aload_n 0, 1) := by decide +kernel
theorem dX12_findPeriod_118 : decode cX12_findPeriod 118 = .ok (.getfield 130, 3) := by decide +kernel
theorem dX12_findPeriod_12 : decode cX12_findPeriod 12 = .ok (.sipush 2000, 3) := by decide +kernel
theorem dX12_findPeriod_121 : decode cX12_findPeriod 121 = .ok (.bipush 16, 2) := by decide +kernel
theorem dX12_findPeriod_123 : decode cX12_findPeriod 123 = .ok (.iload_n 2, 1) := by decide +kernel
theorem dX12_findPeriod_124 : decode cX12_findPeriod 124 = .ok (.imul, 1) := by decide +kernel
theorem dX12_findPeriod_125 : decode cX12_findPeriod 125 = .ok (.iload 4, 2) := by decide +kernel
theorem dX12_findPeriod_127 : decode cX12_findPeriod 127 = .ok (.iadd, 1) := by decide +kernel
theorem dX12_findPeriod_128 : decode cX12_findPeriod 128 = .ok (.iaload, 1) := by decide +kernel
theorem dX12_findPeriod_129 : decode cX12_findPeriod 129 = .ok (.aload_n 0, 1) := by decide +kernel
theorem dX12_findPeriod_130 : decode cX12_findPeriod 130 = .ok (.getfield 130, 3) := by decide +kernel
theorem dX12_findPeriod_133 : decode cX12_findPeriod 133 = .ok (.bipush 16, 2) := by decide +kernel
theorem dX12_findPeriod_135 : decode cX12_findPeriod 135 = .ok (.iload_n 1, 1) := by decide +kernel
theorem dX12_findPeriod_136 : decode cX12_findPeriod 136 = .ok (.imul, 1) := by decide +kernel
theorem dX12_findPeriod_137 : decode cX12_findPeriod 137 = .ok (.iload 4, 2) := by decide +kernel
theorem dX12_findPeriod_139 : decode cX12_findPeriod 139 = .ok (.iadd, 1) := by decide +kernel
theorem dX12_findPeriod_140 : decode cX12_findPeriod 140 = .ok (.iaload, 1) := by decide +kernel
theorem dX12_findPeriod_141 : decode cX12_findPeriod 141 = .ok (.if_icmp .ne 7, 3) := by decide +kernel
theorem dX12_findPeriod_144 : decode cX12_findPeriod 144 = .ok (.iconst 1, 1) := by decide +kernel
theorem dX12_findPeriod_145 : decode cX12_findPeriod 145 = .ok (.goto 4, 3) := by decide +kernel
theorem dX12_findPeriod_149 : decode cX12_findPeriod 149 = .ok (.istore_n 3, 1) := by decide +kernel
theorem dX12_findPeriod_15 : decode cX12_findPeriod 15 = .ok (.if_icmp .gt 180, 3) := by decide +kernel
theorem dX12_findPeriod_150 : decode cX12_findPeriod 150 = .ok (.iinc 4 1, 3) := by decide +kernel
theorem dX12_findPeriod_153 : decode cX12_findPeriod 153 = .ok (.goto (-47), 3) := by decide +kernel
theorem dX12_findPeriod_156 : decode cX12_findPeriod 156 = .ok (.iload_n 3, 1) := by decide +kernel
theorem dX12_findPeriod_157 : decode cX12_findPeriod 157 = .ok (.ifCond .eq 8, 3) := by decide +kernel
theorem dX12_findPeriod_160 : decode cX12_findPeriod 160 = .ok (.aload_n 0, 1) := by decide +kernel
theorem dX12_findPeriod_161 : decode cX12_findPeriod 161 = .ok (.iload_n 2, 1) := by decide +kernel
theorem dX12_findPeriod_162 : decode cX12_findPeriod 162 = .ok (.putfield 444, 3) := by decide +kernel
theorem dX12_findPeriod_165 : decode cX12_findPeriod 165 = .ok (.iinc 2 1, 3) := by decide +kernel
theorem dX12_findPeriod_168 : decode cX12_findPeriod 168 = .ok (.goto (-80), 3) := by decide +kernel
theorem dX12_findPeriod_171 : decode cX12_findPeriod 171 = .ok (.aload_n 0, 1) := by decide +kernel
theorem dX12_findPeriod_172 : decode cX12_findPeriod 172 = .ok (.getfield 444, 3) := by decide +kernel
theorem dX12_findPeriod_175 : decode cX12_findPeriod 175 = .ok (.iconst (-1), 1) := by decide +kernel
theorem dX12_findPeriod_176 : decode cX12_findPeriod 176 = .ok (.if_icmp .eq 9, 3) := by decide +kernel
theorem dX12_findPeriod_179 : decode cX12_findPeriod 179 = .ok (.aload_n 0, 1) := by decide +kernel
theorem dX12_findPeriod_18 : decode cX12_findPeriod 18 = .ok (.iconst 0, 1) := by decide +kernel
theorem dX12_findPeriod_180 : decode cX12_findPeriod 180 = .ok (.iload_n 1, 1) := by decide +kernel
theorem dX12_findPeriod_181 : decode cX12_findPeriod 181 = .ok (.putfield 447, 3) := by decide +kernel
theorem dX12_findPeriod_184 : decode cX12_findPeriod 184 = .ok (.return_, 1) := by decide +kernel
theorem dX12_findPeriod_185 : decode cX12_findPeriod 185 = .ok (.aload_n 0, 1) := by decide +kernel
theorem dX12_findPeriod_186 : decode cX12_findPeriod 186 = .ok (.invokevirtual 441, 3) := by decide +kernel
theorem dX12_findPeriod_189 : decode cX12_findPeriod 189 = .ok (.iinc 1 1, 3) := by decide +kernel
theorem dX12_findPeriod_19 : decode cX12_findPeriod 19 = .ok (.istore_n 2, 1) := by decide +kernel
theorem dX12_findPeriod_192 : decode cX12_findPeriod 192 = .ok (.goto (-181), 3) := by decide +kernel
theorem dX12_findPeriod_2 : decode cX12_findPeriod 2 = .ok (.putfield 444, 3) := by decide +kernel
theorem dX12_findPeriod_20 : decode cX12_findPeriod 20 = .ok (.iload_n 2, 1) := by decide +kernel
theorem dX12_findPeriod_21 : decode cX12_findPeriod 21 = .ok (.bipush 8, 2) := by decide +kernel
theorem dX12_findPeriod_23 : decode cX12_findPeriod 23 = .ok (.if_icmp .ge 63, 3) := by decide +kernel
theorem dX12_findPeriod_26 : decode cX12_findPeriod 26 = .ok (.aload_n 0, 1) := by decide +kernel
theorem dX12_findPeriod_27 : decode cX12_findPeriod 27 = .ok (.getfield 130, 3) := by decide +kernel
theorem dX12_findPeriod_30 : decode cX12_findPeriod 30 = .ok (.bipush 16, 2) := by decide +kernel
theorem dX12_findPeriod_32 : decode cX12_findPeriod 32 = .ok (.iload_n 1, 1) := by decide +kernel
theorem dX12_findPeriod_33 : decode cX12_findPeriod 33 = .ok (.imul, 1) := by decide +kernel
theorem dX12_findPeriod_34 : decode cX12_findPeriod 34 = .ok (.iload_n 2, 1) := by decide +kernel
theorem dX12_findPeriod_35 : decode cX12_findPeriod 35 = .ok (.iadd, 1) := by decide +kernel
theorem dX12_findPeriod_36 : decode cX12_findPeriod 36 = .ok (.aload_n 0, 1) := by decide +kernel
theorem dX12_findPeriod_37 : decode cX12_findPeriod 37 = .ok (.getfield 47, 3) := by decide +kernel
theorem dX12_findPeriod_40 : decode cX12_findPeriod 40 = .ok (.iload_n 2, 1) := by decide +kernel
theorem dX12_findPeriod_41 : decode cX12_findPeriod 41 = .ok (.iaload, 1) := by decide +kernel
theorem dX12_findPeriod_42 : decode cX12_findPeriod 42 = .ok (.iastore, 1) := by decide +kernel
theorem dX12_findPeriod_43 : decode cX12_findPeriod 43 = .ok (.aload_n 0, 1) := by decide +kernel
theorem dX12_findPeriod_44 : decode cX12_findPeriod 44 = .ok (.getfield 130, 3) := by decide +kernel
theorem dX12_findPeriod_47 : decode cX12_findPeriod 47 = .ok (.bipush 16, 2) := by decide +kernel
theorem dX12_findPeriod_49 : decode cX12_findPeriod 49 = .ok (.iload_n 1, 1) := by decide +kernel
theorem dX12_findPeriod_5 : decode cX12_findPeriod 5 = .ok (.aload_n 0, 1) := by decide +kernel
theorem dX12_findPeriod_50 : decode cX12_findPeriod 50 = .ok (.imul, 1) := by decide +kernel
theorem dX12_findPeriod_51 : decode cX12_findPeriod 51 = .ok (.bipush 8, 2) := by decide +kernel
theorem dX12_findPeriod_53 : decode cX12_findPeriod 53 = .ok (.iadd, 1) := by decide +kernel
theorem dX12_findPeriod_54 : decode cX12_findPeriod 54 = .ok (.iload_n 2, 1) := by decide +kernel
theorem dX12_findPeriod_55 : decode cX12_findPeriod 55 = .ok (.iadd, 1) := by decide +kernel
theorem dX12_findPeriod_56 : decode cX12_findPeriod 56 = .ok (.aload_n 0, 1) := by decide +kernel
theorem dX12_findPeriod_57 : decode cX12_findPeriod 57 = .ok (.getfield 124, 3) := by decide +kernel
theorem dX12_findPeriod_6 : decode cX12_findPeriod 6 = .ok (.invokevirtual 438, 3) := by decide +kernel
theorem dX12_findPeriod_60 : decode cX12_findPeriod 60 = .ok (.iload_n 2, 1) := by decide +kernel
theorem dX12_findPeriod_61 : decode cX12_findPeriod 61 = .ok (.iaload, 1) := by decide +kernel
theorem dX12_findPeriod_62 : decode cX12_findPeriod 62 = .ok (.iastore, 1) := by decide +kernel
theorem dX12_findPeriod_63 : decode cX12_findPeriod 63 = .ok (.aload_n 0, 1) := by decide +kernel
theorem dX12_findPeriod_64 : decode cX12_findPeriod 64 = .ok (.getfield 133, 3) := by decide +kernel
theorem dX12_findPeriod_67 : decode cX12_findPeriod 67 = .ok (.bipush 8, 2) := by decide +kernel
theorem dX12_findPeriod_69 : decode cX12_findPeriod 69 = .ok (.iload_n 1, 1) := by decide +kernel
theorem dX12_findPeriod_70 : decode cX12_findPeriod 70 = .ok (.imul, 1) := by decide +kernel
theorem dX12_findPeriod_71 : decode cX12_findPeriod 71 = .ok (.iload_n 2, 1) := by decide +kernel
theorem dX12_findPeriod_72 : decode cX12_findPeriod 72 = .ok (.iadd, 1) := by decide +kernel
theorem dX12_findPeriod_73 : decode cX12_findPeriod 73 = .ok (.aload_n 0, 1) := by decide +kernel
theorem dX12_findPeriod_74 : decode cX12_findPeriod 74 = .ok (.getfield 127, 3) := by decide +kernel
theorem dX12_findPeriod_77 : decode cX12_findPeriod 77 = .ok (.iload_n 2, 1) := by decide +kernel
theorem dX12_findPeriod_78 : decode cX12_findPeriod 78 = .ok (.iaload, 1) := by decide +kernel
theorem dX12_findPeriod_79 : decode cX12_findPeriod 79 = .ok (.iastore, 1) := by decide +kernel
theorem dX12_findPeriod_80 : decode cX12_findPeriod 80 = .ok (.iinc 2 1, 3) := by decide +kernel
theorem dX12_findPeriod_83 : decode cX12_findPeriod 83 = .ok (.goto (-63), 3) := by decide +kernel
theorem dX12_findPeriod_86 : decode cX12_findPeriod 86 = .ok (.iconst 0, 1) := by decide +kernel
theorem dX12_findPeriod_87 : decode cX12_findPeriod 87 = .ok (.istore_n 2, 1) := by decide +kernel
theorem dX12_findPeriod_88 : decode cX12_findPeriod 88 = .ok (.iload_n 2, 1) := by decide +kernel
theorem dX12_findPeriod_89 : decode cX12_findPeriod 89 = .ok (.iload_n 1, 1) := by decide +kernel
theorem dX12_findPeriod_9 : decode cX12_findPeriod 9 = .ok (.iconst 0, 1) := by decide +kernel
theorem dX12_findPeriod_90 : decode cX12_findPeriod 90 = .ok (.if_icmp .ge 81, 3) := by decide +kernel
theorem dX12_findPeriod_93 : decode cX12_findPeriod 93 = .ok (.aload_n 0, 1) := by decide +kernel
theorem dX12_findPeriod_94 : decode cX12_findPeriod 94 = .ok (.getfield 444, 3) := by decide +kernel
theorem dX12_findPeriod_97 : decode cX12_findPeriod 97 = .ok (.iconst (-1), 1) := by decide +kernel
theorem dX12_findPeriod_98 : decode cX12_findPeriod 98 = .ok (.if_icmp .ne 73, 3) := by decide +kernel
theorem dX12_fine_0 : decode cX12_fine 0 = .ok (.aload_n 0, 1) := by decide +kernel
theorem dX12_fine_1 : decode cX12_fine 1 = .ok (.getfield 151, 3) := by decide +kernel
theorem dX12_fine_12 : decode cX12_fine 12 = .ok (.iconst 0, 1) := by decide +kernel
theorem dX12_fine_13 : decode cX12_fine 13 = .ok (.ireturn, 1) := by decide +kernel
theorem dX12_fine_4 : decode cX12_fine 4 = .ok (.iconst (-1), 1) := by decide +kernel
theorem dX12_fine_5 : decode cX12_fine 5 = .ok (.if_icmp .ne 7, 3) := by decide +kernel
theorem dX12_fine_8 : decode cX12_fine 8 = .ok (.iconst 1, 1) := by decide +kernel
theorem dX12_fine_9 : decode cX12_fine 9 = .ok (.goto 4, 3) := by decide +kernel
theorem dX12_fire_0 : decode cX12_fire 0 = .ok (.aload_n 0, 1) := by decide +kernel
theorem dX12_fire_1 : decode cX12_fire 1 = .ok (.iconst 0, 1) := by decide +kernel
theorem dX12_fire_11 : decode cX12_fire 11 = .ok (.ifCond .ne 5, 3) := by decide +kernel
theorem dX12_fire_14 : decode cX12_fire 14 = .ok (.iconst 0, 1) := by decide +kernel
theorem dX12_fire_15 : decode cX12_fire 15 = .ok (.ireturn, 1) := by decide +kernel
theorem dX12_fire_2 : decode cX12_fire 2 = .ok (.putfield 1, 3) := by decide +kernel
theorem dX12_fire_5 : decode cX12_fire 5 = .ok (.aload_n 0, 1) := by decide +kernel
theorem dX12_fire_6 : decode cX12_fire 6 = .ok (.iload_n 1, 1) := by decide +kernel
theorem dX12_fire_7 : decode cX12_fire 7 = .ok (.iconst 1, 1) := by decide +kernel
theorem dX12_fire_8 : decode cX12_fire 8 = .ok (.invokevirtual 293, 3) := by decide +kernel
theorem dX12_first_0 : decode cX12_first 0 = .ok (.aload_n 0, 1) := by decide +kernel
theorem dX12_first_1 : decode cX12_first 1 = .ok (.iconst 0, 1) := by decide +kernel
theorem dX12_first_100 : decode cX12_first 100 = .ok (.iload_n 1, 1) := by decide +kernel
theorem dX12_first_101 : decode cX12_first 101 = .ok (.ifCond .ne 12, 3) := by decide +kernel
theorem dX12_first_104 : decode cX12_first 104 = .ok (.aload_n 0, 1) := by decide +kernel
theorem dX12_first_105 : decode cX12_first 105 = .ok (.getfield 322, 3) := by decide +kernel
theorem dX12_first_108 : decode cX12_first 108 = .ok (.iconst 1, 1) := by decide +kernel
theorem dX12_first_109 : decode cX12_first 109 = .ok (.isub, 1) := by decide +kernel
theorem dX12_first_110 : decode cX12_first 110 = .ok (.goto 4, 3) := by decide +kernel
theorem dX12_first_113 : decode cX12_first 113 = .ok (.iconst (-1), 1) := by decide +kernel
theorem dX12_first_114 : decode cX12_first 114 = .ok (.ireturn, 1) := by decide +kernel
theorem dX12_first_12 : decode cX12_first 12 = .ok (.iconst 1, 1) := by decide +kernel
theorem dX12_first_13 : decode cX12_first 13 = .ok (.invokevirtual 267, 3) := by decide +kernel
theorem dX12_first_16 : decode cX12_first 16 = .ok (.ifCond .ne 5, 3) := by decide +kernel
theorem dX12_first_19 : decode cX12_first 19 = .ok (.iconst 0, 1) := by decide +kernel
theorem dX12_first_2 : decode cX12_first 2 = .ok (.putfield 1, 3) := by decide +kernel
theorem dX12_first_20 : decode cX12_first 20 = .ok (.ireturn, 1) := by decide +kernel
theorem dX12_first_21 : decode cX12_first 21 = .ok (.iconst 0, 1) := by decide +kernel
theorem dX12_first_22 : decode cX12_first 22 = .ok (.istore_n 2, 1) := by decide +kernel
theorem dX12_first_23 : decode cX12_first 23 = .ok (.iload_n 2, 1) := by decide +kernel
theorem dX12_first_24 : decode cX12_first 24 = .ok (.sipush 4096, 3) := by decide +kernel
theorem dX12_first_27 : decode cX12_first 27 = .ok (.if_icmp .ge 16, 3) := by decide +kernel
theorem dX12_first_30 : decode cX12_first 30 = .ok (.aload_n 0, 1) := by decide +kernel
theorem dX12_first_31 : decode cX12_first 31 = .ok (.getfield 62, 3) := by decide +kernel
theorem dX12_first_34 : decode cX12_first 34 = .ok (.iload_n 2, 1) := by decide +kernel
theorem dX12_first_35 : decode cX12_first 35 = .ok (.iconst (-1), 1) := by decide +kernel
theorem dX12_first_36 : decode cX12_first 36 = .ok (.iastore, 1) := by decide +kernel
theorem dX12_first_37 : decode cX12_first 37 = .ok (.iinc 2 1, 3) := by decide +kernel
theorem dX12_first_40 : decode cX12_first 40 = .ok (.goto (-17), 3) := by decide +kernel
theorem dX12_first_43 : decode cX12_first 43 = .ok (.aload_n 0, 1) := by decide +kernel
theorem dX12_first_44 : decode cX12_first 44 = .ok (.iconst 0, 1) := by decide +kernel
theorem dX12_first_45 : decode cX12_first 45 = .ok (.putfield 322, 3) := by decide +kernel
theorem dX12_first_48 : decode cX12_first 48 = .ok (.aload_n 0, 1) := by decide +kernel
theorem dX12_first_49 : decode cX12_first 49 = .ok (.invokevirtual 315, 3) := by decide +kernel
theorem dX12_first_5 : decode cX12_first 5 = .ok (.aload_n 0, 1) := by decide +kernel
theorem dX12_first_52 : decode cX12_first 52 = .ok (.aload_n 0, 1) := by decide +kernel
theorem dX12_first_53 : decode cX12_first 53 = .ok (.aload_n 0, 1) := by decide +kernel
theorem dX12_first_54 : decode cX12_first 54 = .ok (.getfield 47, 3) := by decide +kernel
theorem dX12_first_57 : decode cX12_first 57 = .ok (.iconst (-1), 1) := by decide +kernel
theorem dX12_first_58 : decode cX12_first 58 = .ok (.iconst (-1), 1) := by decide +kernel
theorem dX12_first_59 : decode cX12_first 59 = .ok (.invokevirtual 329, 3) := by decide +kernel
theorem dX12_first_6 : decode cX12_first 6 = .ok (.iload_n 1, 1) := by decide +kernel
theorem dX12_first_62 : decode cX12_first 62 = .ok (.pop, 1) := by decide +kernel
theorem dX12_first_63 : decode cX12_first 63 = .ok (.iconst 0, 1) := by decide +kernel
theorem dX12_first_64 : decode cX12_first 64 = .ok (.istore_n 2, 1) := by decide +kernel
theorem dX12_first_65 : decode cX12_first 65 = .ok (.iload_n 2, 1) := by decide +kernel
theorem dX12_first_66 : decode cX12_first 66 = .ok (.aload_n 0, 1) := by decide +kernel
theorem dX12_first_67 : decode cX12_first 67 = .ok (.invokevirtual 286, 3) := by decide +kernel
theorem dX12_first_7 : decode cX12_first 7 = .ok (.iconst 0, 1) := by decide +kernel
theorem dX12_first_70 : decode cX12_first 70 = .ok (.if_icmp .ge 22, 3) := by decide +kernel
theorem dX12_first_8 : decode cX12_first 8 = .ok (.iconst 2, 1) := by decide +kernel
theorem dX12_first_9 : decode cX12_first 9 = .ok (.invokestatic 289, 3) := by decide +kernel
theorem dX12_first_92 : decode cX12_first 92 = .ok (.iload_n 2, 1) := by decide +kernel
theorem dX12_first_93 : decode cX12_first 93 = .ok (.aload_n 0, 1) := by decide +kernel
theorem dX12_first_94 : decode cX12_first 94 = .ok (.invokevirtual 286, 3) := by decide +kernel
theorem dX12_first_97 : decode cX12_first 97 = .ok (.if_icmp .ne 18, 3) := by decide +kernel
theorem dX12_goalOf_0 : decode cX12_goalOf 0 = .ok (.iconst 0, 1) := by decide +kernel
theorem dX12_goalOf_1 : decode cX12_goalOf 1 = .ok (.istore_n 2, 1) := by decide +kernel
theorem dX12_goalOf_10 : decode cX12_goalOf 10 = .ok (.aload_n 0, 1) := by decide +kernel
theorem dX12_goalOf_11 : decode cX12_goalOf 11 = .ok (.iload_n 2, 1) := by decide +kernel
theorem dX12_goalOf_12 : decode cX12_goalOf 12 = .ok (.iload_n 1, 1) := by decide +kernel
theorem dX12_goalOf_13 : decode cX12_goalOf 13 = .ok (.invokevirtual 360, 3) := by decide +kernel
theorem dX12_goalOf_16 : decode cX12_goalOf 16 = .ok (.ifCond .eq 5, 3) := by decide +kernel
theorem dX12_goalOf_19 : decode cX12_goalOf 19 = .ok (.iload_n 2, 1) := by decide +kernel
theorem dX12_goalOf_2 : decode cX12_goalOf 2 = .ok (.iload_n 2, 1) := by decide +kernel
theorem dX12_goalOf_20 : decode cX12_goalOf 20 = .ok (.ireturn, 1) := by decide +kernel
theorem dX12_goalOf_3 : decode cX12_goalOf 3 = .ok (.aload_n 0, 1) := by decide +kernel
theorem dX12_goalOf_4 : decode cX12_goalOf 4 = .ok (.getfield 322, 3) := by decide +kernel
theorem dX12_goalOf_7 : decode cX12_goalOf 7 = .ok (.if_icmp .ge 20, 3) := by decide +kernel
theorem dX12_goal_0 : decode cX12_goal 0 = .ok (.aload_n 0, 1) := by decide +kernel
theorem dX12_goal_1 : decode cX12_goal 1 = .ok (.iconst 0, 1) := by decide +kernel
theorem dX12_goal_11 : decode cX12_goal 11 = .ok (.ifCond .eq 18, 3) := by decide +kernel
theorem dX12_goal_2 : decode cX12_goal 2 = .ok (.putfield 1, 3) := by decide +kernel
theorem dX12_goal_29 : decode cX12_goal 29 = .ok (.iconst 0, 1) := by decide +kernel
theorem dX12_goal_30 : decode cX12_goal 30 = .ok (.ireturn, 1) := by decide +kernel
theorem dX12_goal_5 : decode cX12_goal 5 = .ok (.aload_n 0, 1) := by decide +kernel
theorem dX12_goal_6 : decode cX12_goal 6 = .ok (.iload_n 1, 1) := by decide +kernel
theorem dX12_goal_7 : decode cX12_goal 7 = .ok (.iconst 1, 1) := by decide +kernel
theorem dX12_goal_8 : decode cX12_goal 8 = .ok (.invokevirtual 297, 3) := by decide +kernel
theorem dX12_grows_0 : decode cX12_grows 0 = .ok (.aload_n 0, 1) := by decide +kernel
theorem dX12_grows_1 : decode cX12_grows 1 = .ok (.iconst 1, 1) := by decide +kernel
theorem dX12_grows_10 : decode cX12_grows 10 = .ok (.iconst (-1), 1) := by decide +kernel
theorem dX12_grows_11 : decode cX12_grows 11 = .ok (.iastore, 1) := by decide +kernel
theorem dX12_grows_12 : decode cX12_grows 12 = .ok (.iconst 0, 1) := by decide +kernel
theorem dX12_grows_13 : decode cX12_grows 13 = .ok (.istore_n 1, 1) := by decide +kernel
theorem dX12_grows_14 : decode cX12_grows 14 = .ok (.iload_n 1, 1) := by decide +kernel
theorem dX12_grows_15 : decode cX12_grows 15 = .ok (.bipush 8, 2) := by decide +kernel
theorem dX12_grows_157 : decode cX12_grows 157 = .ok (.iinc 1 1, 3) := by decide +kernel
theorem dX12_grows_160 : decode cX12_grows 160 = .ok (.goto (-120), 3) := by decide +kernel
theorem dX12_grows_163 : decode cX12_grows 163 = .ok (.iconst 0, 1) := by decide +kernel
theorem dX12_grows_164 : decode cX12_grows 164 = .ok (.ireturn, 1) := by decide +kernel
theorem dX12_grows_17 : decode cX12_grows 17 = .ok (.if_icmp .ge 21, 3) := by decide +kernel
theorem dX12_grows_2 : decode cX12_grows 2 = .ok (.putfield 392, 3) := by decide +kernel
theorem dX12_grows_20 : decode cX12_grows 20 = .ok (.aload_n 0, 1) := by decide +kernel
theorem dX12_grows_21 : decode cX12_grows 21 = .ok (.getfield 115, 3) := by decide +kernel
theorem dX12_grows_24 : decode cX12_grows 24 = .ok (.iload_n 1, 1) := by decide +kernel
theorem dX12_grows_25 : decode cX12_grows 25 = .ok (.aload_n 0, 1) := by decide +kernel
theorem dX12_grows_26 : decode cX12_grows 26 = .ok (.getfield 41, 3) := by decide +kernel
theorem dX12_grows_29 : decode cX12_grows 29 = .ok (.iload_n 1, 1) := by decide +kernel
theorem dX12_grows_30 : decode cX12_grows 30 = .ok (.iaload, 1) := by decide +kernel
theorem dX12_grows_31 : decode cX12_grows 31 = .ok (.iastore, 1) := by decide +kernel
theorem dX12_grows_32 : decode cX12_grows 32 = .ok (.iinc 1 1, 3) := by decide +kernel
theorem dX12_grows_35 : decode cX12_grows 35 = .ok (.goto (-21), 3) := by decide +kernel
theorem dX12_grows_38 : decode cX12_grows 38 = .ok (.iconst 0, 1) := by decide +kernel
theorem dX12_grows_39 : decode cX12_grows 39 = .ok (.istore_n 1, 1) := by decide +kernel
theorem dX12_grows_40 : decode cX12_grows 40 = .ok (.iload_n 1, 1) := by decide +kernel
theorem dX12_grows_41 : decode cX12_grows 41 = .ok (.aload_n 0, 1) := by decide +kernel
theorem dX12_grows_42 : decode cX12_grows 42 = .ok (.getfield 392, 3) := by decide +kernel
theorem dX12_grows_45 : decode cX12_grows 45 = .ok (.if_icmp .ge 118, 3) := by decide +kernel
theorem dX12_grows_48 : decode cX12_grows 48 = .ok (.iconst 0, 1) := by decide +kernel
theorem dX12_grows_49 : decode cX12_grows 49 = .ok (.istore_n 2, 1) := by decide +kernel
theorem dX12_grows_5 : decode cX12_grows 5 = .ok (.aload_n 0, 1) := by decide +kernel
theorem dX12_grows_50 : decode cX12_grows 50 = .ok (.iload_n 2, 1) := by decide +kernel
theorem dX12_grows_51 : decode cX12_grows 51 = .ok (.aload_n 0, 1) := by decide +kernel
theorem dX12_grows_52 : decode cX12_grows 52 = .ok (.invokevirtual 286, 3) := by decide +kernel
theorem dX12_grows_55 : decode cX12_grows 55 = .ok (.if_icmp .ge 102, 3) := by decide +kernel
theorem dX12_grows_6 : decode cX12_grows 6 = .ok (.getfield 118, 3) := by decide +kernel
theorem dX12_grows_9 : decode cX12_grows 9 = .ok (.iconst 0, 1) := by decide +kernel
theorem dX12_growth_0 : decode cX12_growth 0 = .ok (.aload_n 0, 1) := by decide +kernel
theorem dX12_growth_1 : decode cX12_growth 1 = .ok (.iconst 0, 1) := by decide +kernel
theorem dX12_growth_17 : decode cX12_growth 17 = .ok (.aload_n 0, 1) := by decide +kernel
theorem dX12_growth_18 : decode cX12_growth 18 = .ok (.getfield 392, 3) := by decide +kernel
theorem dX12_growth_2 : decode cX12_growth 2 = .ok (.putfield 1, 3) := by decide +kernel
theorem dX12_growth_21 : decode cX12_growth 21 = .ok (.ireturn, 1) := by decide +kernel
theorem dX12_growth_5 : decode cX12_growth 5 = .ok (.aload_n 0, 1) := by decide +kernel
theorem dX12_growth_6 : decode cX12_growth 6 = .ok (.invokevirtual 405, 3) := by decide +kernel
theorem dX12_growth_9 : decode cX12_growth 9 = .ok (.ifCond .eq 8, 3) := by decide +kernel
theorem dX12_here_0 : decode cX12_here 0 = .ok (.aload_n 0, 1) := by decide +kernel
theorem dX12_here_1 : decode cX12_here 1 = .ok (.getfield 157, 3) := by decide +kernel
theorem dX12_here_38 : decode cX12_here 38 = .ok (.aload_n 0, 1) := by decide +kernel
theorem dX12_here_39 : decode cX12_here 39 = .ok (.getfield 157, 3) := by decide +kernel
theorem dX12_here_4 : decode cX12_here 4 = .ok (.aload_n 0, 1) := by decide +kernel
theorem dX12_here_42 : decode cX12_here 42 = .ok (.aload_n 0, 1) := by decide +kernel
theorem dX12_here_43 : decode cX12_here 43 = .ok (.getfield 160, 3) := by decide +kernel
theorem dX12_here_46 : decode cX12_here 46 = .ok (.if_icmp .ge 15, 3) := by decide +kernel
theorem dX12_here_5 : decode cX12_here 5 = .ok (.getfield 160, 3) := by decide +kernel
theorem dX12_here_61 : decode cX12_here 61 = .ok (.iconst 0, 1) := by decide +kernel
theorem dX12_here_62 : decode cX12_here 62 = .ok (.ireturn, 1) := by decide +kernel
theorem dX12_here_8 : decode cX12_here 8 = .ok (.if_icmp .ge 30, 3) := by decide +kernel
theorem dX12_home_0 : decode cX12_home 0 = .ok (.aload_n 0, 1) := by decide +kernel
theorem dX12_home_1 : decode cX12_home 1 = .ok (.iconst 0, 1) := by decide +kernel
theorem dX12_home_100 : decode cX12_home 100 = .ok (.iconst 1, 1) := by decide +kernel
theorem dX12_home_101 : decode cX12_home 101 = .ok (.if_icmp .eq 5, 3) := by decide +kernel
theorem dX12_home_106 : decode cX12_home 106 = .ok (.iconst 0, 1) := by decide +kernel
theorem dX12_home_107 : decode cX12_home 107 = .ok (.istore 5, 2) := by decide +kernel
theorem dX12_home_109 : decode cX12_home 109 = .ok (.iconst 0, 1) := by decide +kernel
theorem dX12_home_11 : decode cX12_home 11 = .ok (.ifCond .eq 17, 3) := by decide +kernel
theorem dX12_home_110 : decode cX12_home 110 = .ok (.istore 6, 2) := by decide +kernel
theorem dX12_home_112 : decode cX12_home 112 = .ok (.iload 6, 2) := by decide +kernel
theorem dX12_home_114 : decode cX12_home 114 = .ok (.aload_n 0, 1) := by decide +kernel
theorem dX12_home_115 : decode cX12_home 115 = .ok (.getfield 322, 3) := by decide +kernel
theorem dX12_home_118 : decode cX12_home 118 = .ok (.if_icmp .ge 31, 3) := by decide +kernel
theorem dX12_home_121 : decode cX12_home 121 = .ok (.iload 5, 2) := by decide +kernel
theorem dX12_home_123 : decode cX12_home 123 = .ok (.aload_n 0, 1) := by decide +kernel
theorem dX12_home_124 : decode cX12_home 124 = .ok (.getfield 93, 3) := by decide +kernel
theorem dX12_home_127 : decode cX12_home 127 = .ok (.iload 6, 2) := by decide +kernel
theorem dX12_home_129 : decode cX12_home 129 = .ok (.iaload, 1) := by decide +kernel
theorem dX12_home_130 : decode cX12_home 130 = .ok (.iload 4, 2) := by decide +kernel
theorem dX12_home_132 : decode cX12_home 132 = .ok (.if_icmp .ne 7, 3) := by decide +kernel
theorem dX12_home_135 : decode cX12_home 135 = .ok (.iconst 1, 1) := by decide +kernel
theorem dX12_home_136 : decode cX12_home 136 = .ok (.goto 4, 3) := by decide +kernel
theorem dX12_home_14 : decode cX12_home 14 = .ok (.aload_n 0, 1) := by decide +kernel
theorem dX12_home_140 : decode cX12_home 140 = .ok (.iadd, 1) := by decide +kernel
theorem dX12_home_141 : decode cX12_home 141 = .ok (.istore 5, 2) := by decide +kernel
theorem dX12_home_143 : decode cX12_home 143 = .ok (.iinc 6 1, 3) := by decide +kernel
theorem dX12_home_146 : decode cX12_home 146 = .ok (.goto (-34), 3) := by decide +kernel
theorem dX12_home_149 : decode cX12_home 149 = .ok (.iload_n 2, 1) := by decide +kernel
theorem dX12_home_15 : decode cX12_home 15 = .ok (.iload_n 2, 1) := by decide +kernel
theorem dX12_home_150 : decode cX12_home 150 = .ok (.ifCond .ne 8, 3) := by decide +kernel
theorem dX12_home_153 : decode cX12_home 153 = .ok (.iload 5, 2) := by decide +kernel
theorem dX12_home_155 : decode cX12_home 155 = .ok (.goto 19, 3) := by decide +kernel
theorem dX12_home_158 : decode cX12_home 158 = .ok (.aload_n 0, 1) := by decide +kernel
theorem dX12_home_159 : decode cX12_home 159 = .ok (.getfield 93, 3) := by decide +kernel
theorem dX12_home_16 : decode cX12_home 16 = .ok (.iconst 0, 1) := by decide +kernel
theorem dX12_home_162 : decode cX12_home 162 = .ok (.iconst 0, 1) := by decide +kernel
theorem dX12_home_163 : decode cX12_home 163 = .ok (.iaload, 1) := by decide +kernel
theorem dX12_home_164 : decode cX12_home 164 = .ok (.iload 4, 2) := by decide +kernel
theorem dX12_home_166 : decode cX12_home 166 = .ok (.if_icmp .ne 7, 3) := by decide +kernel
theorem dX12_home_169 : decode cX12_home 169 = .ok (.iconst 1, 1) := by decide +kernel
theorem dX12_home_17 : decode cX12_home 17 = .ok (.iconst 2, 1) := by decide +kernel
theorem dX12_home_170 : decode cX12_home 170 = .ok (.goto 4, 3) := by decide +kernel
theorem dX12_home_174 : decode cX12_home 174 = .ok (.ireturn, 1) := by decide +kernel
theorem dX12_home_18 : decode cX12_home 18 = .ok (.invokestatic 289, 3) := by decide +kernel
theorem dX12_home_2 : decode cX12_home 2 = .ok (.putfield 1, 3) := by decide +kernel
theorem dX12_home_21 : decode cX12_home 21 = .ok (.iconst 1, 1) := by decide +kernel
theorem dX12_home_22 : decode cX12_home 22 = .ok (.invokevirtual 267, 3) := by decide +kernel
theorem dX12_home_25 : decode cX12_home 25 = .ok (.ifCond .ne 5, 3) := by decide +kernel
theorem dX12_home_28 : decode cX12_home 28 = .ok (.iconst 0, 1) := by decide +kernel
theorem dX12_home_29 : decode cX12_home 29 = .ok (.ireturn, 1) := by decide +kernel
theorem dX12_home_30 : decode cX12_home 30 = .ok (.aload_n 0, 1) := by decide +kernel
theorem dX12_home_31 : decode cX12_home 31 = .ok (.iload_n 1, 1) := by decide +kernel
theorem dX12_home_32 : decode cX12_home 32 = .ok (.invokevirtual 339, 3) := by decide +kernel
theorem dX12_home_35 : decode cX12_home 35 = .ok (.aload_n 0, 1) := by decide +kernel
theorem dX12_home_36 : decode cX12_home 36 = .ok (.getfield 325, 3) := by decide +kernel
theorem dX12_home_39 : decode cX12_home 39 = .ok (.ifCond .eq 6, 3) := by decide +kernel
theorem dX12_home_45 : decode cX12_home 45 = .ok (.aload_n 0, 1) := by decide +kernel
theorem dX12_home_46 : decode cX12_home 46 = .ok (.invokevirtual 357, 3) := by decide +kernel
theorem dX12_home_49 : decode cX12_home 49 = .ok (.iconst 0, 1) := by decide +kernel
theorem dX12_home_5 : decode cX12_home 5 = .ok (.aload_n 0, 1) := by decide +kernel
theorem dX12_home_50 : decode cX12_home 50 = .ok (.istore_n 3, 1) := by decide +kernel
theorem dX12_home_51 : decode cX12_home 51 = .ok (.iconst (-1), 1) := by decide +kernel
theorem dX12_home_52 : decode cX12_home 52 = .ok (.istore 4, 2) := by decide +kernel
theorem dX12_home_54 : decode cX12_home 54 = .ok (.iconst 0, 1) := by decide +kernel
theorem dX12_home_55 : decode cX12_home 55 = .ok (.istore 5, 2) := by decide +kernel
theorem dX12_home_57 : decode cX12_home 57 = .ok (.iload 5, 2) := by decide +kernel
theorem dX12_home_59 : decode cX12_home 59 = .ok (.aload_n 0, 1) := by decide +kernel
theorem dX12_home_6 : decode cX12_home 6 = .ok (.iload_n 1, 1) := by decide +kernel
theorem dX12_home_60 : decode cX12_home 60 = .ok (.getfield 354, 3) := by decide +kernel
theorem dX12_home_63 : decode cX12_home 63 = .ok (.if_icmp .ge 29, 3) := by decide +kernel
theorem dX12_home_66 : decode cX12_home 66 = .ok (.aload_n 0, 1) := by decide +kernel
theorem dX12_home_67 : decode cX12_home 67 = .ok (.getfield 83, 3) := by decide +kernel
theorem dX12_home_7 : decode cX12_home 7 = .ok (.iconst 1, 1) := by decide +kernel
theorem dX12_home_70 : decode cX12_home 70 = .ok (.iload 5, 2) := by decide +kernel
theorem dX12_home_72 : decode cX12_home 72 = .ok (.baload, 1) := by decide +kernel
theorem dX12_home_73 : decode cX12_home 73 = .ok (.ifCond .ne 6, 3) := by decide +kernel
theorem dX12_home_79 : decode cX12_home 79 = .ok (.iinc 3 1, 3) := by decide +kernel
theorem dX12_home_8 : decode cX12_home 8 = .ok (.invokevirtual 336, 3) := by decide +kernel
theorem dX12_home_82 : decode cX12_home 82 = .ok (.iload 5, 2) := by decide +kernel
theorem dX12_home_84 : decode cX12_home 84 = .ok (.istore 4, 2) := by decide +kernel
theorem dX12_home_86 : decode cX12_home 86 = .ok (.iinc 5 1, 3) := by decide +kernel
theorem dX12_home_89 : decode cX12_home 89 = .ok (.goto (-32), 3) := by decide +kernel
theorem dX12_home_92 : decode cX12_home 92 = .ok (.iload_n 2, 1) := by decide +kernel
theorem dX12_home_93 : decode cX12_home 93 = .ok (.iconst 2, 1) := by decide +kernel
theorem dX12_home_94 : decode cX12_home 94 = .ok (.if_icmp .ne 5, 3) := by decide +kernel
theorem dX12_home_97 : decode cX12_home 97 = .ok (.iload_n 3, 1) := by decide +kernel
theorem dX12_home_98 : decode cX12_home 98 = .ok (.ireturn, 1) := by decide +kernel
theorem dX12_home_99 : decode cX12_home 99 = .ok (.iload_n 3, 1) := by decide +kernel
theorem dX12_image_0 : decode cX12_image 0 = .ok (.aload_n 0, 1) := by decide +kernel
theorem dX12_image_1 : decode cX12_image 1 = .ok (.iconst 0, 1) := by decide +kernel
theorem dX12_image_10 : decode cX12_image 10 = .ok (.if_icmp .ne 5, 3) := by decide +kernel
theorem dX12_image_15 : decode cX12_image 15 = .ok (.iconst 0, 1) := by decide +kernel
theorem dX12_image_16 : decode cX12_image 16 = .ok (.istore_n 1, 1) := by decide +kernel
theorem dX12_image_17 : decode cX12_image 17 = .ok (.iload_n 1, 1) := by decide +kernel
theorem dX12_image_18 : decode cX12_image 18 = .ok (.bipush 57, 2) := by decide +kernel
theorem dX12_image_2 : decode cX12_image 2 = .ok (.putfield 1, 3) := by decide +kernel
theorem dX12_image_20 : decode cX12_image 20 = .ok (.if_icmp .ge 29, 3) := by decide +kernel
theorem dX12_image_23 : decode cX12_image 23 = .ok (.aload_n 0, 1) := by decide +kernel
theorem dX12_image_24 : decode cX12_image 24 = .ok (.getfield 44, 3) := by decide +kernel
theorem dX12_image_27 : decode cX12_image 27 = .ok (.bipush 57, 2) := by decide +kernel
theorem dX12_image_29 : decode cX12_image 29 = .ok (.aload_n 0, 1) := by decide +kernel
theorem dX12_image_30 : decode cX12_image 30 = .ok (.getfield 283, 3) := by decide +kernel
theorem dX12_image_33 : decode cX12_image 33 = .ok (.imul, 1) := by decide +kernel
theorem dX12_image_34 : decode cX12_image 34 = .ok (.iload_n 1, 1) := by decide +kernel
theorem dX12_image_35 : decode cX12_image 35 = .ok (.iadd, 1) := by decide +kernel
theorem dX12_image_36 : decode cX12_image 36 = .ok (.aload_n 0, 1) := by decide +kernel
theorem dX12_image_37 : decode cX12_image 37 = .ok (.getfield 41, 3) := by decide +kernel
theorem dX12_image_40 : decode cX12_image 40 = .ok (.iload_n 1, 1) := by decide +kernel
theorem dX12_image_41 : decode cX12_image 41 = .ok (.iaload, 1) := by decide +kernel
theorem dX12_image_42 : decode cX12_image 42 = .ok (.iastore, 1) := by decide +kernel
theorem dX12_image_43 : decode cX12_image 43 = .ok (.iinc 1 1, 3) := by decide +kernel
theorem dX12_image_46 : decode cX12_image 46 = .ok (.goto (-29), 3) := by decide +kernel
theorem dX12_image_49 : decode cX12_image 49 = .ok (.aload_n 0, 1) := by decide +kernel
theorem dX12_image_5 : decode cX12_image 5 = .ok (.aload_n 0, 1) := by decide +kernel
theorem dX12_image_50 : decode cX12_image 50 = .ok (.dup, 1) := by decide +kernel
theorem dX12_image_51 : decode cX12_image 51 = .ok (.getfield 283, 3) := by decide +kernel
theorem dX12_image_54 : decode cX12_image 54 = .ok (.iconst 1, 1) := by decide +kernel
theorem dX12_image_55 : decode cX12_image 55 = .ok (.iadd, 1) := by decide +kernel
theorem dX12_image_56 : decode cX12_image 56 = .ok (.putfield 283, 3) := by decide +kernel
theorem dX12_image_59 : decode cX12_image 59 = .ok (.aload_n 0, 1) := by decide +kernel
theorem dX12_image_6 : decode cX12_image 6 = .ok (.getfield 283, 3) := by decide +kernel
theorem dX12_image_60 : decode cX12_image 60 = .ok (.getfield 283, 3) := by decide +kernel
theorem dX12_image_63 : decode cX12_image 63 = .ok (.ireturn, 1) := by decide +kernel
theorem dX12_image_9 : decode cX12_image 9 = .ok (.iconst 3, 1) := by decide +kernel
theorem dX12_init_0 : decode cX12_init 0 = .ok (.aload_n 0, 1) := by decide +kernel
theorem dX12_init_1 : decode cX12_init 1 = .ok (.invokespecial 7, 3) := by decide +kernel
theorem dX12_init_10 : decode cX12_init 10 = .ok (.sipush 600, 3) := by decide +kernel
theorem dX12_init_101 : decode cX12_init 101 = .ok (.newarray .int, 2) := by decide +kernel
theorem dX12_init_103 : decode cX12_init 103 = .ok (.putfield 47, 3) := by decide +kernel
theorem dX12_init_106 : decode cX12_init 106 = .ok (.aload_n 0, 1) := by decide +kernel
theorem dX12_init_107 : decode cX12_init 107 = .ok (.sipush 24008, 3) := by decide +kernel
theorem dX12_init_110 : decode cX12_init 110 = .ok (.newarray .int, 2) := by decide +kernel
theorem dX12_init_112 : decode cX12_init 112 = .ok (.putfield 50, 3) := by decide +kernel
theorem dX12_init_115 : decode cX12_init 115 = .ok (.aload_n 0, 1) := by decide +kernel
theorem dX12_init_116 : decode cX12_init 116 = .ok (.sipush 24000, 3) := by decide +kernel
theorem dX12_init_119 : decode cX12_init 119 = .ok (.newarray .int, 2) := by decide +kernel
theorem dX12_init_121 : decode cX12_init 121 = .ok (.putfield 53, 3) := by decide +kernel
theorem dX12_init_124 : decode cX12_init 124 = .ok (.aload_n 0, 1) := by decide +kernel
theorem dX12_init_125 : decode cX12_init 125 = .ok (.sipush 3000, 3) := by decide +kernel
theorem dX12_init_128 : decode cX12_init 128 = .ok (.newarray .int, 2) := by decide +kernel
theorem dX12_init_13 : decode cX12_init 13 = .ok (.newarray .int, 2) := by decide +kernel
theorem dX12_init_130 : decode cX12_init 130 = .ok (.putfield 56, 3) := by decide +kernel
theorem dX12_init_133 : decode cX12_init 133 = .ok (.aload_n 0, 1) := by decide +kernel
theorem dX12_init_134 : decode cX12_init 134 = .ok (.sipush 3000, 3) := by decide +kernel
theorem dX12_init_137 : decode cX12_init 137 = .ok (.newarray .int, 2) := by decide +kernel
theorem dX12_init_139 : decode cX12_init 139 = .ok (.putfield 59, 3) := by decide +kernel
theorem dX12_init_142 : decode cX12_init 142 = .ok (.aload_n 0, 1) := by decide +kernel
theorem dX12_init_143 : decode cX12_init 143 = .ok (.sipush 4096, 3) := by decide +kernel
theorem dX12_init_146 : decode cX12_init 146 = .ok (.newarray .int, 2) := by decide +kernel
theorem dX12_init_148 : decode cX12_init 148 = .ok (.putfield 62, 3) := by decide +kernel
theorem dX12_init_15 : decode cX12_init 15 = .ok (.putfield 16, 3) := by decide +kernel
theorem dX12_init_151 : decode cX12_init 151 = .ok (.aload_n 0, 1) := by decide +kernel
theorem dX12_init_152 : decode cX12_init 152 = .ok (.sipush 3000, 3) := by decide +kernel
theorem dX12_init_155 : decode cX12_init 155 = .ok (.newarray .int, 2) := by decide +kernel
theorem dX12_init_157 : decode cX12_init 157 = .ok (.putfield 65, 3) := by decide +kernel
theorem dX12_init_160 : decode cX12_init 160 = .ok (.aload_n 0, 1) := by decide +kernel
theorem dX12_init_161 : decode cX12_init 161 = .ok (.iconst (-1), 1) := by decide +kernel
theorem dX12_init_162 : decode cX12_init 162 = .ok (.putfield 68, 3) := by decide +kernel
theorem dX12_init_165 : decode cX12_init 165 = .ok (.aload_n 0, 1) := by decide +kernel
theorem dX12_init_166 : decode cX12_init 166 = .ok (.sipush 3000, 3) := by decide +kernel
theorem dX12_init_169 : decode cX12_init 169 = .ok (.newarray .int, 2) := by decide +kernel
theorem dX12_init_171 : decode cX12_init 171 = .ok (.putfield 71, 3) := by decide +kernel
theorem dX12_init_174 : decode cX12_init 174 = .ok (.aload_n 0, 1) := by decide +kernel
theorem dX12_init_175 : decode cX12_init 175 = .ok (.sipush 24000, 3) := by decide +kernel
theorem dX12_init_178 : decode cX12_init 178 = .ok (.newarray .int, 2) := by decide +kernel
theorem dX12_init_18 : decode cX12_init 18 = .ok (.aload_n 0, 1) := by decide +kernel
theorem dX12_init_180 : decode cX12_init 180 = .ok (.putfield 74, 3) := by decide +kernel
theorem dX12_init_183 : decode cX12_init 183 = .ok (.aload_n 0, 1) := by decide +kernel
theorem dX12_init_184 : decode cX12_init 184 = .ok (.sipush 24000, 3) := by decide +kernel
theorem dX12_init_187 : decode cX12_init 187 = .ok (.newarray .int, 2) := by decide +kernel
theorem dX12_init_189 : decode cX12_init 189 = .ok (.putfield 77, 3) := by decide +kernel
theorem dX12_init_19 : decode cX12_init 19 = .ok (.sipush 242, 3) := by decide +kernel
theorem dX12_init_192 : decode cX12_init 192 = .ok (.aload_n 0, 1) := by decide +kernel
theorem dX12_init_193 : decode cX12_init 193 = .ok (.sipush 3000, 3) := by decide +kernel
theorem dX12_init_196 : decode cX12_init 196 = .ok (.newarray .int, 2) := by decide +kernel
theorem dX12_init_198 : decode cX12_init 198 = .ok (.putfield 80, 3) := by decide +kernel
theorem dX12_init_201 : decode cX12_init 201 = .ok (.aload_n 0, 1) := by decide +kernel
theorem dX12_init_202 : decode cX12_init 202 = .ok (.sipush 3000, 3) := by decide +kernel
theorem dX12_init_205 : decode cX12_init 205 = .ok (.newarray .boolean, 2) := by decide +kernel
theorem dX12_init_207 : decode cX12_init 207 = .ok (.putfield 83, 3) := by decide +kernel
theorem dX12_init_210 : decode cX12_init 210 = .ok (.aload_n 0, 1) := by decide +kernel
theorem dX12_init_211 : decode cX12_init 211 = .ok (.sipush 3000, 3) := by decide +kernel
theorem dX12_init_214 : decode cX12_init 214 = .ok (.newarray .int, 2) := by decide +kernel
theorem dX12_init_216 : decode cX12_init 216 = .ok (.putfield 87, 3) := by decide +kernel
theorem dX12_init_219 : decode cX12_init 219 = .ok (.aload_n 0, 1) := by decide +kernel
theorem dX12_init_22 : decode cX12_init 22 = .ok (.newarray .int, 2) := by decide +kernel
theorem dX12_init_220 : decode cX12_init 220 = .ok (.sipush 3000, 3) := by decide +kernel
theorem dX12_init_223 : decode cX12_init 223 = .ok (.newarray .int, 2) := by decide +kernel
theorem dX12_init_225 : decode cX12_init 225 = .ok (.putfield 90, 3) := by decide +kernel
theorem dX12_init_228 : decode cX12_init 228 = .ok (.aload_n 0, 1) := by decide +kernel
theorem dX12_init_229 : decode cX12_init 229 = .ok (.sipush 3000, 3) := by decide +kernel
theorem dX12_init_232 : decode cX12_init 232 = .ok (.newarray .int, 2) := by decide +kernel
theorem dX12_init_234 : decode cX12_init 234 = .ok (.putfield 93, 3) := by decide +kernel
theorem dX12_init_237 : decode cX12_init 237 = .ok (.aload_n 0, 1) := by decide +kernel
theorem dX12_init_238 : decode cX12_init 238 = .ok (.sipush 3000, 3) := by decide +kernel
theorem dX12_init_24 : decode cX12_init 24 = .ok (.putfield 20, 3) := by decide +kernel
theorem dX12_init_241 : decode cX12_init 241 = .ok (.newarray .int, 2) := by decide +kernel
theorem dX12_init_243 : decode cX12_init 243 = .ok (.putfield 96, 3) := by decide +kernel
theorem dX12_init_246 : decode cX12_init 246 = .ok (.aload_n 0, 1) := by decide +kernel
theorem dX12_init_247 : decode cX12_init 247 = .ok (.sipush 3000, 3) := by decide +kernel
theorem dX12_init_250 : decode cX12_init 250 = .ok (.newarray .long, 2) := by decide +kernel
theorem dX12_init_252 : decode cX12_init 252 = .ok (.putfield 99, 3) := by decide +kernel
theorem dX12_init_255 : decode cX12_init 255 = .ok (.aload_n 0, 1) := by decide +kernel
theorem dX12_init_256 : decode cX12_init 256 = .ok (.sipush 3000, 3) := by decide +kernel
theorem dX12_init_259 : decode cX12_init 259 = .ok (.newarray .long, 2) := by decide +kernel
theorem dX12_init_261 : decode cX12_init 261 = .ok (.putfield 103, 3) := by decide +kernel
theorem dX12_init_264 : decode cX12_init 264 = .ok (.aload_n 0, 1) := by decide +kernel
theorem dX12_init_265 : decode cX12_init 265 = .ok (.bipush 64, 2) := by decide +kernel
theorem dX12_init_267 : decode cX12_init 267 = .ok (.newarray .long, 2) := by decide +kernel
theorem dX12_init_269 : decode cX12_init 269 = .ok (.putfield 106, 3) := by decide +kernel
theorem dX12_init_27 : decode cX12_init 27 = .ok (.aload_n 0, 1) := by decide +kernel
theorem dX12_init_272 : decode cX12_init 272 = .ok (.aload_n 0, 1) := by decide +kernel
theorem dX12_init_273 : decode cX12_init 273 = .ok (.bipush 64, 2) := by decide +kernel
theorem dX12_init_275 : decode cX12_init 275 = .ok (.newarray .long, 2) := by decide +kernel
theorem dX12_init_277 : decode cX12_init 277 = .ok (.putfield 109, 3) := by decide +kernel
theorem dX12_init_28 : decode cX12_init 28 = .ok (.sipush 242, 3) := by decide +kernel
theorem dX12_init_280 : decode cX12_init 280 = .ok (.aload_n 0, 1) := by decide +kernel
theorem dX12_init_281 : decode cX12_init 281 = .ok (.bipush 8, 2) := by decide +kernel
theorem dX12_init_283 : decode cX12_init 283 = .ok (.newarray .int, 2) := by decide +kernel
theorem dX12_init_285 : decode cX12_init 285 = .ok (.putfield 112, 3) := by decide +kernel
theorem dX12_init_288 : decode cX12_init 288 = .ok (.aload_n 0, 1) := by decide +kernel
theorem dX12_init_289 : decode cX12_init 289 = .ok (.sipush 8008, 3) := by decide +kernel
theorem dX12_init_292 : decode cX12_init 292 = .ok (.newarray .int, 2) := by decide +kernel
theorem dX12_init_294 : decode cX12_init 294 = .ok (.putfield 115, 3) := by decide +kernel
theorem dX12_init_297 : decode cX12_init 297 = .ok (.aload_n 0, 1) := by decide +kernel
theorem dX12_init_298 : decode cX12_init 298 = .ok (.sipush 1001, 3) := by decide +kernel
theorem dX12_init_301 : decode cX12_init 301 = .ok (.newarray .int, 2) := by decide +kernel
theorem dX12_init_303 : decode cX12_init 303 = .ok (.putfield 118, 3) := by decide +kernel
theorem dX12_init_306 : decode cX12_init 306 = .ok (.aload_n 0, 1) := by decide +kernel
theorem dX12_init_307 : decode cX12_init 307 = .ok (.bipush 8, 2) := by decide +kernel
theorem dX12_init_309 : decode cX12_init 309 = .ok (.newarray .int, 2) := by decide +kernel
theorem dX12_init_31 : decode cX12_init 31 = .ok (.newarray .int, 2) := by decide +kernel
theorem dX12_init_311 : decode cX12_init 311 = .ok (.putfield 121, 3) := by decide +kernel
theorem dX12_init_314 : decode cX12_init 314 = .ok (.aload_n 0, 1) := by decide +kernel
theorem dX12_init_315 : decode cX12_init 315 = .ok (.bipush 8, 2) := by decide +kernel
theorem dX12_init_317 : decode cX12_init 317 = .ok (.newarray .int, 2) := by decide +kernel
theorem dX12_init_319 : decode cX12_init 319 = .ok (.putfield 124, 3) := by decide +kernel
theorem dX12_init_322 : decode cX12_init 322 = .ok (.aload_n 0, 1) := by decide +kernel
theorem dX12_init_323 : decode cX12_init 323 = .ok (.bipush 8, 2) := by decide +kernel
theorem dX12_init_325 : decode cX12_init 325 = .ok (.newarray .int, 2) := by decide +kernel
theorem dX12_init_327 : decode cX12_init 327 = .ok (.putfield 127, 3) := by decide +kernel
theorem dX12_init_33 : decode cX12_init 33 = .ok (.putfield 23, 3) := by decide +kernel
theorem dX12_init_330 : decode cX12_init 330 = .ok (.aload_n 0, 1) := by decide +kernel
theorem dX12_init_331 : decode cX12_init 331 = .ok (.sipush 32016, 3) := by decide +kernel
theorem dX12_init_334 : decode cX12_init 334 = .ok (.newarray .int, 2) := by decide +kernel
theorem dX12_init_336 : decode cX12_init 336 = .ok (.putfield 130, 3) := by decide +kernel
theorem dX12_init_339 : decode cX12_init 339 = .ok (.aload_n 0, 1) := by decide +kernel
theorem dX12_init_340 : decode cX12_init 340 = .ok (.sipush 16008, 3) := by decide +kernel
theorem dX12_init_343 : decode cX12_init 343 = .ok (.newarray .int, 2) := by decide +kernel
theorem dX12_init_345 : decode cX12_init 345 = .ok (.putfield 133, 3) := by decide +kernel
theorem dX12_init_348 : decode cX12_init 348 = .ok (.aload_n 0, 1) := by decide +kernel
theorem dX12_init_349 : decode cX12_init 349 = .ok (.sipush 3000, 3) := by decide +kernel
theorem dX12_init_352 : decode cX12_init 352 = .ok (.newarray .int, 2) := by decide +kernel
theorem dX12_init_354 : decode cX12_init 354 = .ok (.putfield 136, 3) := by decide +kernel
theorem dX12_init_357 : decode cX12_init 357 = .ok (.aload_n 0, 1) := by decide +kernel
theorem dX12_init_358 : decode cX12_init 358 = .ok (.sipush 3000, 3) := by decide +kernel
theorem dX12_init_36 : decode cX12_init 36 = .ok (.aload_n 0, 1) := by decide +kernel
theorem dX12_init_361 : decode cX12_init 361 = .ok (.newarray .int, 2) := by decide +kernel
theorem dX12_init_363 : decode cX12_init 363 = .ok (.putfield 139, 3) := by decide +kernel
theorem dX12_init_366 : decode cX12_init 366 = .ok (.aload_n 0, 1) := by decide +kernel
theorem dX12_init_367 : decode cX12_init 367 = .ok (.sipush 3000, 3) := by decide +kernel
theorem dX12_init_37 : decode cX12_init 37 = .ok (.sipush 620, 3) := by decide +kernel
theorem dX12_init_370 : decode cX12_init 370 = .ok (.newarray .int, 2) := by decide +kernel
theorem dX12_init_372 : decode cX12_init 372 = .ok (.putfield 142, 3) := by decide +kernel
theorem dX12_init_375 : decode cX12_init 375 = .ok (.aload_n 0, 1) := by decide +kernel
theorem dX12_init_376 : decode cX12_init 376 = .ok (.bipush 8, 2) := by decide +kernel
theorem dX12_init_378 : decode cX12_init 378 = .ok (.newarray .int, 2) := by decide +kernel
theorem dX12_init_380 : decode cX12_init 380 = .ok (.putfield 145, 3) := by decide +kernel
theorem dX12_init_383 : decode cX12_init 383 = .ok (.return_, 1) := by decide +kernel
theorem dX12_init_4 : decode cX12_init 4 = .ok (.aload_n 0, 1) := by decide +kernel
theorem dX12_init_40 : decode cX12_init 40 = .ok (.newarray .int, 2) := by decide +kernel
theorem dX12_init_42 : decode cX12_init 42 = .ok (.putfield 26, 3) := by decide +kernel
theorem dX12_init_45 : decode cX12_init 45 = .ok (.aload_n 0, 1) := by decide +kernel
theorem dX12_init_46 : decode cX12_init 46 = .ok (.sipush 620, 3) := by decide +kernel
theorem dX12_init_49 : decode cX12_init 49 = .ok (.newarray .int, 2) := by decide +kernel
theorem dX12_init_5 : decode cX12_init 5 = .ok (.iconst (-1), 1) := by decide +kernel
theorem dX12_init_51 : decode cX12_init 51 = .ok (.putfield 29, 3) := by decide +kernel
theorem dX12_init_54 : decode cX12_init 54 = .ok (.aload_n 0, 1) := by decide +kernel
theorem dX12_init_55 : decode cX12_init 55 = .ok (.sipush 620, 3) := by decide +kernel
theorem dX12_init_58 : decode cX12_init 58 = .ok (.newarray .int, 2) := by decide +kernel
theorem dX12_init_6 : decode cX12_init 6 = .ok (.putfield 13, 3) := by decide +kernel
theorem dX12_init_60 : decode cX12_init 60 = .ok (.putfield 32, 3) := by decide +kernel
theorem dX12_init_63 : decode cX12_init 63 = .ok (.aload_n 0, 1) := by decide +kernel
theorem dX12_init_64 : decode cX12_init 64 = .ok (.sipush 620, 3) := by decide +kernel
theorem dX12_init_67 : decode cX12_init 67 = .ok (.newarray .int, 2) := by decide +kernel
theorem dX12_init_69 : decode cX12_init 69 = .ok (.putfield 35, 3) := by decide +kernel
theorem dX12_init_72 : decode cX12_init 72 = .ok (.aload_n 0, 1) := by decide +kernel
theorem dX12_init_73 : decode cX12_init 73 = .ok (.sipush 620, 3) := by decide +kernel
theorem dX12_init_76 : decode cX12_init 76 = .ok (.newarray .int, 2) := by decide +kernel
theorem dX12_init_78 : decode cX12_init 78 = .ok (.putfield 38, 3) := by decide +kernel
theorem dX12_init_81 : decode cX12_init 81 = .ok (.aload_n 0, 1) := by decide +kernel
theorem dX12_init_82 : decode cX12_init 82 = .ok (.bipush 57, 2) := by decide +kernel
theorem dX12_init_84 : decode cX12_init 84 = .ok (.newarray .int, 2) := by decide +kernel
theorem dX12_init_86 : decode cX12_init 86 = .ok (.putfield 41, 3) := by decide +kernel
theorem dX12_init_89 : decode cX12_init 89 = .ok (.aload_n 0, 1) := by decide +kernel
theorem dX12_init_9 : decode cX12_init 9 = .ok (.aload_n 0, 1) := by decide +kernel
theorem dX12_init_90 : decode cX12_init 90 = .ok (.sipush 171, 3) := by decide +kernel
theorem dX12_init_93 : decode cX12_init 93 = .ok (.newarray .int, 2) := by decide +kernel
theorem dX12_init_95 : decode cX12_init 95 = .ok (.putfield 44, 3) := by decide +kernel
theorem dX12_init_98 : decode cX12_init 98 = .ok (.aload_n 0, 1) := by decide +kernel
theorem dX12_init_99 : decode cX12_init 99 = .ok (.bipush 8, 2) := by decide +kernel
theorem dX12_isAct_0 : decode cX12_isAct 0 = .ok (.aload_n 0, 1) := by decide +kernel
theorem dX12_isAct_1 : decode cX12_isAct 1 = .ok (.iload_n 1, 1) := by decide +kernel
theorem dX12_isAct_12 : decode cX12_isAct 12 = .ok (.iload_n 2, 1) := by decide +kernel
theorem dX12_isAct_13 : decode cX12_isAct 13 = .ok (.invokevirtual 267, 3) := by decide +kernel
theorem dX12_isAct_16 : decode cX12_isAct 16 = .ok (.ireturn, 1) := by decide +kernel
theorem dX12_isAct_2 : decode cX12_isAct 2 = .ok (.iconst 0, 1) := by decide +kernel
theorem dX12_isAct_3 : decode cX12_isAct 3 = .ok (.aload_n 0, 1) := by decide +kernel
theorem dX12_isAct_4 : decode cX12_isAct 4 = .ok (.invokevirtual 286, 3) := by decide +kernel
theorem dX12_isAct_7 : decode cX12_isAct 7 = .ok (.iconst 1, 1) := by decide +kernel
theorem dX12_isAct_8 : decode cX12_isAct 8 = .ok (.isub, 1) := by decide +kernel
theorem dX12_isAct_9 : decode cX12_isAct 9 = .ok (.invokestatic 289, 3) := by decide +kernel
theorem dX12_isDead_0 : decode cX12_isDead 0 = .ok (.iconst 0, 1) := by decide +kernel
theorem dX12_isDead_1 : decode cX12_isDead 1 = .ok (.istore_n 2, 1) := by decide +kernel
theorem dX12_isDead_2 : decode cX12_isDead 2 = .ok (.iload_n 2, 1) := by decide +kernel
theorem dX12_isDead_3 : decode cX12_isDead 3 = .ok (.aload_n 0, 1) := by decide +kernel
theorem dX12_isDead_33 : decode cX12_isDead 33 = .ok (.iconst 1, 1) := by decide +kernel
theorem dX12_isDead_34 : decode cX12_isDead 34 = .ok (.ireturn, 1) := by decide +kernel
theorem dX12_isDead_4 : decode cX12_isDead 4 = .ok (.invokevirtual 286, 3) := by decide +kernel
theorem dX12_isDead_7 : decode cX12_isDead 7 = .ok (.if_icmp .ge 26, 3) := by decide +kernel
theorem dX12_isGoal_0 : decode cX12_isGoal 0 = .ok (.iconst 0, 1) := by decide +kernel
theorem dX12_isGoal_1 : decode cX12_isGoal 1 = .ok (.istore_n 3, 1) := by decide +kernel
theorem dX12_isGoal_2 : decode cX12_isGoal 2 = .ok (.iload_n 3, 1) := by decide +kernel
theorem dX12_isGoal_3 : decode cX12_isGoal 3 = .ok (.aload_n 0, 1) := by decide +kernel
theorem dX12_isGoal_4 : decode cX12_isGoal 4 = .ok (.invokevirtual 280, 3) := by decide +kernel
theorem dX12_isGoal_7 : decode cX12_isGoal 7 = .ok (.if_icmp .ge 64, 3) := by decide +kernel
theorem dX12_isGoal_71 : decode cX12_isGoal 71 = .ok (.iconst 1, 1) := by decide +kernel
theorem dX12_isGoal_72 : decode cX12_isGoal 72 = .ok (.ireturn, 1) := by decide +kernel
theorem dX12_isMore_0 : decode cX12_isMore 0 = .ok (.aload_n 0, 1) := by decide +kernel
theorem dX12_isMore_1 : decode cX12_isMore 1 = .ok (.invokevirtual 163, 3) := by decide +kernel
theorem dX12_isMore_10 : decode cX12_isMore 10 = .ok (.getfield 160, 3) := by decide +kernel
theorem dX12_isMore_13 : decode cX12_isMore 13 = .ok (.if_icmp .ge 7, 3) := by decide +kernel
theorem dX12_isMore_20 : decode cX12_isMore 20 = .ok (.iconst 0, 1) := by decide +kernel
theorem dX12_isMore_21 : decode cX12_isMore 21 = .ok (.ireturn, 1) := by decide +kernel
theorem dX12_isMore_4 : decode cX12_isMore 4 = .ok (.pop, 1) := by decide +kernel
theorem dX12_isMore_5 : decode cX12_isMore 5 = .ok (.aload_n 0, 1) := by decide +kernel
theorem dX12_isMore_6 : decode cX12_isMore 6 = .ok (.getfield 157, 3) := by decide +kernel
theorem dX12_isMore_9 : decode cX12_isMore 9 = .ok (.aload_n 0, 1) := by decide +kernel
theorem dX12_isMost_0 : decode cX12_isMost 0 = .ok (.aload_n 0, 1) := by decide +kernel
theorem dX12_isMost_1 : decode cX12_isMost 1 = .ok (.iload_n 1, 1) := by decide +kernel
theorem dX12_isMost_10 : decode cX12_isMost 10 = .ok (.invokevirtual 267, 3) := by decide +kernel
theorem dX12_isMost_13 : decode cX12_isMost 13 = .ok (.ireturn, 1) := by decide +kernel
theorem dX12_isMost_2 : decode cX12_isMost 2 = .ok (.iconst 1, 1) := by decide +kernel
theorem dX12_isMost_3 : decode cX12_isMost 3 = .ok (.sipush 3000, 3) := by decide +kernel
theorem dX12_isMost_6 : decode cX12_isMost 6 = .ok (.invokestatic 289, 3) := by decide +kernel
theorem dX12_isMost_9 : decode cX12_isMost 9 = .ok (.iload_n 2, 1) := by decide +kernel
theorem dX12_isPlace_0 : decode cX12_isPlace 0 = .ok (.aload_n 0, 1) := by decide +kernel
theorem dX12_isPlace_1 : decode cX12_isPlace 1 = .ok (.iload_n 1, 1) := by decide +kernel
theorem dX12_isPlace_12 : decode cX12_isPlace 12 = .ok (.iload_n 2, 1) := by decide +kernel
theorem dX12_isPlace_13 : decode cX12_isPlace 13 = .ok (.invokevirtual 267, 3) := by decide +kernel
theorem dX12_isPlace_16 : decode cX12_isPlace 16 = .ok (.ireturn, 1) := by decide +kernel
theorem dX12_isPlace_2 : decode cX12_isPlace 2 = .ok (.iconst 0, 1) := by decide +kernel
theorem dX12_isPlace_3 : decode cX12_isPlace 3 = .ok (.aload_n 0, 1) := by decide +kernel
theorem dX12_isPlace_4 : decode cX12_isPlace 4 = .ok (.invokevirtual 280, 3) := by decide +kernel
theorem dX12_isPlace_7 : decode cX12_isPlace 7 = .ok (.iconst 1, 1) := by decide +kernel
theorem dX12_isPlace_8 : decode cX12_isPlace 8 = .ok (.isub, 1) := by decide +kernel
theorem dX12_isPlace_9 : decode cX12_isPlace 9 = .ok (.invokestatic 289, 3) := by decide +kernel
theorem dX12_is_0 : decode cX12_is 0 = .ok (.aload_n 0, 1) := by decide +kernel
theorem dX12_is_1 : decode cX12_is 1 = .ok (.iconst 0, 1) := by decide +kernel
theorem dX12_is_11 : decode cX12_is 11 = .ok (.iload_n 1, 1) := by decide +kernel
theorem dX12_is_12 : decode cX12_is 12 = .ok (.iconst 1, 1) := by decide +kernel
theorem dX12_is_13 : decode cX12_is 13 = .ok (.aload_n 0, 1) := by decide +kernel
theorem dX12_is_14 : decode cX12_is 14 = .ok (.invokevirtual 280, 3) := by decide +kernel
theorem dX12_is_17 : decode cX12_is 17 = .ok (.ishl, 1) := by decide +kernel
theorem dX12_is_18 : decode cX12_is 18 = .ok (.if_icmp .ge 16, 3) := by decide +kernel
theorem dX12_is_2 : decode cX12_is 2 = .ok (.putfield 1, 3) := by decide +kernel
theorem dX12_is_34 : decode cX12_is 34 = .ok (.iconst 0, 1) := by decide +kernel
theorem dX12_is_35 : decode cX12_is 35 = .ok (.iconst 1, 1) := by decide +kernel
theorem dX12_is_36 : decode cX12_is 36 = .ok (.invokevirtual 267, 3) := by decide +kernel
theorem dX12_is_39 : decode cX12_is 39 = .ok (.ifCond .ne 5, 3) := by decide +kernel
theorem dX12_is_42 : decode cX12_is 42 = .ok (.iconst 0, 1) := by decide +kernel
theorem dX12_is_43 : decode cX12_is 43 = .ok (.ireturn, 1) := by decide +kernel
theorem dX12_is_5 : decode cX12_is 5 = .ok (.aload_n 0, 1) := by decide +kernel
theorem dX12_is_6 : decode cX12_is 6 = .ok (.iload_n 1, 1) := by decide +kernel
theorem dX12_is_7 : decode cX12_is 7 = .ok (.iconst 1, 1) := by decide +kernel
theorem dX12_is_8 : decode cX12_is 8 = .ok (.if_icmp .lt 26, 3) := by decide +kernel
theorem dX12_judge_0 : decode cX12_judge 0 = .ok (.aload_n 0, 1) := by decide +kernel
theorem dX12_judge_1 : decode cX12_judge 1 = .ok (.iconst 0, 1) := by decide +kernel
theorem dX12_judge_10 : decode cX12_judge 10 = .ok (.istore_n 1, 1) := by decide +kernel
theorem dX12_judge_11 : decode cX12_judge 11 = .ok (.iload_n 1, 1) := by decide +kernel
theorem dX12_judge_12 : decode cX12_judge 12 = .ok (.aload_n 0, 1) := by decide +kernel
theorem dX12_judge_13 : decode cX12_judge 13 = .ok (.getfield 41, 3) := by decide +kernel
theorem dX12_judge_16 : decode cX12_judge 16 = .ok (.bipush 16, 2) := by decide +kernel
theorem dX12_judge_18 : decode cX12_judge 18 = .ok (.iaload, 1) := by decide +kernel
theorem dX12_judge_19 : decode cX12_judge 19 = .ok (.if_icmp .ge 57, 3) := by decide +kernel
theorem dX12_judge_2 : decode cX12_judge 2 = .ok (.putfield 1, 3) := by decide +kernel
theorem dX12_judge_5 : decode cX12_judge 5 = .ok (.aload_n 0, 1) := by decide +kernel
theorem dX12_judge_6 : decode cX12_judge 6 = .ok (.invokevirtual 315, 3) := by decide +kernel
theorem dX12_judge_76 : decode cX12_judge 76 = .ok (.iconst (-1), 1) := by decide +kernel
theorem dX12_judge_77 : decode cX12_judge 77 = .ok (.ireturn, 1) := by decide +kernel
theorem dX12_judge_9 : decode cX12_judge 9 = .ok (.iconst 0, 1) := by decide +kernel
theorem dX12_kept_0 : decode cX12_kept 0 = .ok (.aload_n 0, 1) := by decide +kernel
theorem dX12_kept_1 : decode cX12_kept 1 = .ok (.iconst 0, 1) := by decide +kernel
theorem dX12_kept_11 : decode cX12_kept 11 = .ok (.ifCond .ne 5, 3) := by decide +kernel
theorem dX12_kept_14 : decode cX12_kept 14 = .ok (.lconst 0, 1) := by decide +kernel
theorem dX12_kept_15 : decode cX12_kept 15 = .ok (.lreturn, 1) := by decide +kernel
theorem dX12_kept_2 : decode cX12_kept 2 = .ok (.putfield 1, 3) := by decide +kernel
theorem dX12_kept_5 : decode cX12_kept 5 = .ok (.aload_n 0, 1) := by decide +kernel
theorem dX12_kept_6 : decode cX12_kept 6 = .ok (.iload_n 2, 1) := by decide +kernel
theorem dX12_kept_7 : decode cX12_kept 7 = .ok (.iconst 1, 1) := by decide +kernel
theorem dX12_kept_8 : decode cX12_kept 8 = .ok (.invokevirtual 297, 3) := by decide +kernel
theorem dX12_lives_0 : decode cX12_lives 0 = .ok (.aload_n 0, 1) := by decide +kernel
theorem dX12_lives_1 : decode cX12_lives 1 = .ok (.iconst 0, 1) := by decide +kernel
theorem dX12_lives_11 : decode cX12_lives 11 = .ok (.ifCond .eq 12, 3) := by decide +kernel
theorem dX12_lives_2 : decode cX12_lives 2 = .ok (.putfield 1, 3) := by decide +kernel
theorem dX12_lives_23 : decode cX12_lives 23 = .ok (.iconst 0, 1) := by decide +kernel
theorem dX12_lives_24 : decode cX12_lives 24 = .ok (.ireturn, 1) := by decide +kernel
theorem dX12_lives_5 : decode cX12_lives 5 = .ok (.aload_n 0, 1) := by decide +kernel
theorem dX12_lives_6 : decode cX12_lives 6 = .ok (.iload_n 2, 1) := by decide +kernel
theorem dX12_lives_7 : decode cX12_lives 7 = .ok (.iconst 1, 1) := by decide +kernel
theorem dX12_lives_8 : decode cX12_lives 8 = .ok (.invokevirtual 293, 3) := by decide +kernel
theorem dX12_looks_0 : decode cX12_looks 0 = .ok (.aload_n 0, 1) := by decide +kernel
theorem dX12_looks_1 : decode cX12_looks 1 = .ok (.iconst 0, 1) := by decide +kernel
theorem dX12_looks_12 : decode cX12_looks 12 = .ok (.iconst 0, 1) := by decide +kernel
theorem dX12_looks_13 : decode cX12_looks 13 = .ok (.ireturn, 1) := by decide +kernel
theorem dX12_looks_2 : decode cX12_looks 2 = .ok (.putfield 1, 3) := by decide +kernel
theorem dX12_looks_5 : decode cX12_looks 5 = .ok (.aload_n 0, 1) := by decide +kernel
theorem dX12_looks_6 : decode cX12_looks 6 = .ok (.invokevirtual 280, 3) := by decide +kernel
theorem dX12_looks_9 : decode cX12_looks 9 = .ok (.ifCond .ne 5, 3) := by decide +kernel
theorem dX12_lot_0 : decode cX12_lot 0 = .ok (.aload_n 0, 1) := by decide +kernel
theorem dX12_lot_1 : decode cX12_lot 1 = .ok (.iconst 0, 1) := by decide +kernel
theorem dX12_lot_11 : decode cX12_lot 11 = .ok (.ifCond .eq 15, 3) := by decide +kernel
theorem dX12_lot_2 : decode cX12_lot 2 = .ok (.putfield 1, 3) := by decide +kernel
theorem dX12_lot_26 : decode cX12_lot 26 = .ok (.iconst 0, 1) := by decide +kernel
theorem dX12_lot_27 : decode cX12_lot 27 = .ok (.ireturn, 1) := by decide +kernel
theorem dX12_lot_5 : decode cX12_lot 5 = .ok (.aload_n 0, 1) := by decide +kernel
theorem dX12_lot_6 : decode cX12_lot 6 = .ok (.iload_n 3, 1) := by decide +kernel
theorem dX12_lot_7 : decode cX12_lot 7 = .ok (.iconst 1, 1) := by decide +kernel
theorem dX12_lot_8 : decode cX12_lot 8 = .ok (.invokevirtual 297, 3) := by decide +kernel
theorem dX12_lots_0 : decode cX12_lots 0 = .ok (.aload_n 0, 1) := by decide +kernel
theorem dX12_lots_1 : decode cX12_lots 1 = .ok (.iconst 0, 1) := by decide +kernel
theorem dX12_lots_10 : decode cX12_lots 10 = .ok (.iconst 1, 1) := by decide +kernel
theorem dX12_lots_11 : decode cX12_lots 11 = .ok (.invokevirtual 267, 3) := by decide +kernel
theorem dX12_lots_14 : decode cX12_lots 14 = .ok (.ifCond .ne 5, 3) := by decide +kernel
theorem dX12_lots_17 : decode cX12_lots 17 = .ok (.iconst 0, 1) := by decide +kernel
theorem dX12_lots_18 : decode cX12_lots 18 = .ok (.ireturn, 1) := by decide +kernel
theorem dX12_lots_19 : decode cX12_lots 19 = .ok (.aload_n 0, 1) := by decide +kernel
theorem dX12_lots_2 : decode cX12_lots 2 = .ok (.putfield 1, 3) := by decide +kernel
theorem dX12_lots_20 : decode cX12_lots 20 = .ok (.iload_n 1, 1) := by decide +kernel
theorem dX12_lots_21 : decode cX12_lots 21 = .ok (.iload_n 2, 1) := by decide +kernel
theorem dX12_lots_22 : decode cX12_lots 22 = .ok (.invokevirtual 457, 3) := by decide +kernel
theorem dX12_lots_25 : decode cX12_lots 25 = .ok (.ireturn, 1) := by decide +kernel
theorem dX12_lots_5 : decode cX12_lots 5 = .ok (.aload_n 0, 1) := by decide +kernel
theorem dX12_lots_6 : decode cX12_lots 6 = .ok (.iload_n 1, 1) := by decide +kernel
theorem dX12_lots_7 : decode cX12_lots 7 = .ok (.invokestatic 454, 3) := by decide +kernel
theorem dX12_marks_0 : decode cX12_marks 0 = .ok (.aload_n 0, 1) := by decide +kernel
theorem dX12_marks_1 : decode cX12_marks 1 = .ok (.iconst 0, 1) := by decide +kernel
theorem dX12_marks_11 : decode cX12_marks 11 = .ok (.ifCond .eq 17, 3) := by decide +kernel
theorem dX12_marks_2 : decode cX12_marks 2 = .ok (.putfield 1, 3) := by decide +kernel
theorem dX12_marks_28 : decode cX12_marks 28 = .ok (.iconst 0, 1) := by decide +kernel
theorem dX12_marks_29 : decode cX12_marks 29 = .ok (.ireturn, 1) := by decide +kernel
theorem dX12_marks_5 : decode cX12_marks 5 = .ok (.aload_n 0, 1) := by decide +kernel
theorem dX12_marks_6 : decode cX12_marks 6 = .ok (.iload_n 1, 1) := by decide +kernel
theorem dX12_marks_7 : decode cX12_marks 7 = .ok (.iconst 1, 1) := by decide +kernel
theorem dX12_marks_8 : decode cX12_marks 8 = .ok (.invokevirtual 297, 3) := by decide +kernel
theorem dX12_may_0 : decode cX12_may 0 = .ok (.iload_n 1, 1) := by decide +kernel
theorem dX12_may_1 : decode cX12_may 1 = .ok (.ifCond .ne 15, 3) := by decide +kernel
theorem dX12_may_11 : decode cX12_may 11 = .ok (.aload_n 0, 1) := by decide +kernel
theorem dX12_may_12 : decode cX12_may 12 = .ok (.iload_n 2, 1) := by decide +kernel
theorem dX12_may_13 : decode cX12_may 13 = .ok (.putfield 1, 3) := by decide +kernel
theorem dX12_may_16 : decode cX12_may 16 = .ok (.aload_n 0, 1) := by decide +kernel
theorem dX12_may_17 : decode cX12_may 17 = .ok (.getfield 1, 3) := by decide +kernel
theorem dX12_may_20 : decode cX12_may 20 = .ok (.ifCond .ne 7, 3) := by decide +kernel
theorem dX12_may_23 : decode cX12_may 23 = .ok (.iconst 1, 1) := by decide +kernel
theorem dX12_may_24 : decode cX12_may 24 = .ok (.goto 4, 3) := by decide +kernel
theorem dX12_may_27 : decode cX12_may 27 = .ok (.iconst 0, 1) := by decide +kernel
theorem dX12_may_28 : decode cX12_may 28 = .ok (.ireturn, 1) := by decide +kernel
theorem dX12_may_4 : decode cX12_may 4 = .ok (.aload_n 0, 1) := by decide +kernel
theorem dX12_may_5 : decode cX12_may 5 = .ok (.getfield 1, 3) := by decide +kernel
theorem dX12_may_8 : decode cX12_may 8 = .ok (.ifCond .ne 8, 3) := by decide +kernel
theorem dX12_may__0 : decode cX12_may_ 0 = .ok (.aload_n 0, 1) := by decide +kernel
theorem dX12_may__1 : decode cX12_may_ 1 = .ok (.iconst 0, 1) := by decide +kernel
theorem dX12_may__11 : decode cX12_may_ 11 = .ok (.ifCond .ne 5, 3) := by decide +kernel
theorem dX12_may__14 : decode cX12_may_ 14 = .ok (.iconst 0, 1) := by decide +kernel
theorem dX12_may__15 : decode cX12_may_ 15 = .ok (.ireturn, 1) := by decide +kernel
theorem dX12_may__2 : decode cX12_may_ 2 = .ok (.putfield 1, 3) := by decide +kernel
theorem dX12_may__5 : decode cX12_may_ 5 = .ok (.aload_n 0, 1) := by decide +kernel
theorem dX12_may__6 : decode cX12_may_ 6 = .ok (.iload_n 1, 1) := by decide +kernel
theorem dX12_may__7 : decode cX12_may_ 7 = .ok (.iconst 1, 1) := by decide +kernel
theorem dX12_may__8 : decode cX12_may_ 8 = .ok (.invokevirtual 293, 3) := by decide +kernel
theorem dX12_most_0 : decode cX12_most 0 = .ok (.aload_n 0, 1) := by decide +kernel
theorem dX12_most_1 : decode cX12_most 1 = .ok (.iconst 0, 1) := by decide +kernel
theorem dX12_most_11 : decode cX12_most 11 = .ok (.ifCond .eq 12, 3) := by decide +kernel
theorem dX12_most_2 : decode cX12_most 2 = .ok (.putfield 1, 3) := by decide +kernel
theorem dX12_most_23 : decode cX12_most 23 = .ok (.iconst 0, 1) := by decide +kernel
theorem dX12_most_24 : decode cX12_most 24 = .ok (.ireturn, 1) := by decide +kernel
theorem dX12_most_5 : decode cX12_most 5 = .ok (.aload_n 0, 1) := by decide +kernel
theorem dX12_most_6 : decode cX12_most 6 = .ok (.iload_n 2, 1) := by decide +kernel
theorem dX12_most_7 : decode cX12_most 7 = .ok (.iconst 1, 1) := by decide +kernel
theorem dX12_most_8 : decode cX12_most 8 = .ok (.invokevirtual 297, 3) := by decide +kernel
theorem dX12_moves_0 : decode cX12_moves 0 = .ok (.iconst 0, 1) := by decide +kernel
theorem dX12_moves_1 : decode cX12_moves 1 = .ok (.istore_n 1, 1) := by decide +kernel
theorem dX12_moves_2 : decode cX12_moves 2 = .ok (.iload_n 1, 1) := by decide +kernel
theorem dX12_moves_248 : decode cX12_moves 248 = .ok (.return_, 1) := by decide +kernel
theorem dX12_moves_3 : decode cX12_moves 3 = .ok (.aload_n 0, 1) := by decide +kernel
theorem dX12_moves_4 : decode cX12_moves 4 = .ok (.invokevirtual 286, 3) := by decide +kernel
theorem dX12_moves_7 : decode cX12_moves 7 = .ok (.if_icmp .ge 82, 3) := by decide +kernel
theorem dX12_moves_89 : decode cX12_moves 89 = .ok (.iconst 0, 1) := by decide +kernel
theorem dX12_moves_90 : decode cX12_moves 90 = .ok (.istore_n 1, 1) := by decide +kernel
theorem dX12_moves_91 : decode cX12_moves 91 = .ok (.iload_n 1, 1) := by decide +kernel
theorem dX12_moves_92 : decode cX12_moves 92 = .ok (.aload_n 0, 1) := by decide +kernel
theorem dX12_moves_93 : decode cX12_moves 93 = .ok (.invokevirtual 286, 3) := by decide +kernel
theorem dX12_moves_96 : decode cX12_moves 96 = .ok (.if_icmp .ge 152, 3) := by decide +kernel
theorem dX12_needed_0 : decode cX12_needed 0 = .ok (.aload_n 0, 1) := by decide +kernel
theorem dX12_needed_1 : decode cX12_needed 1 = .ok (.iconst 0, 1) := by decide +kernel
theorem dX12_needed_11 : decode cX12_needed 11 = .ok (.ifCond .eq 12, 3) := by decide +kernel
theorem dX12_needed_2 : decode cX12_needed 2 = .ok (.putfield 1, 3) := by decide +kernel
theorem dX12_needed_23 : decode cX12_needed 23 = .ok (.iconst 0, 1) := by decide +kernel
theorem dX12_needed_24 : decode cX12_needed 24 = .ok (.ireturn, 1) := by decide +kernel
theorem dX12_needed_5 : decode cX12_needed 5 = .ok (.aload_n 0, 1) := by decide +kernel
theorem dX12_needed_6 : decode cX12_needed 6 = .ok (.iload_n 3, 1) := by decide +kernel
theorem dX12_needed_7 : decode cX12_needed 7 = .ok (.iconst 1, 1) := by decide +kernel
theorem dX12_needed_8 : decode cX12_needed 8 = .ok (.invokevirtual 293, 3) := by decide +kernel
theorem dX12_net_0 : decode cX12_net 0 = .ok (.aload_n 0, 1) := by decide +kernel
theorem dX12_net_1 : decode cX12_net 1 = .ok (.iconst 0, 1) := by decide +kernel
theorem dX12_net_10 : decode cX12_net 10 = .ok (.iload_n 1, 1) := by decide +kernel
theorem dX12_net_11 : decode cX12_net 11 = .ok (.aload_n 0, 1) := by decide +kernel
theorem dX12_net_12 : decode cX12_net 12 = .ok (.getfield 148, 3) := by decide +kernel
theorem dX12_net_15 : decode cX12_net 15 = .ok (.if_icmp .gt 7, 3) := by decide +kernel
theorem dX12_net_18 : decode cX12_net 18 = .ok (.iconst 1, 1) := by decide +kernel
theorem dX12_net_19 : decode cX12_net 19 = .ok (.goto 4, 3) := by decide +kernel
theorem dX12_net_2 : decode cX12_net 2 = .ok (.putfield 1, 3) := by decide +kernel
theorem dX12_net_210 : decode cX12_net 210 = .ok (.aload_n 0, 1) := by decide +kernel
theorem dX12_net_211 : decode cX12_net 211 = .ok (.invokevirtual 180, 3) := by decide +kernel
theorem dX12_net_214 : decode cX12_net 214 = .ok (.ifCond .eq 30, 3) := by decide +kernel
theorem dX12_net_217 : decode cX12_net 217 = .ok (.aload_n 0, 1) := by decide +kernel
theorem dX12_net_218 : decode cX12_net 218 = .ok (.getfield 23, 3) := by decide +kernel
theorem dX12_net_22 : decode cX12_net 22 = .ok (.iconst 0, 1) := by decide +kernel
theorem dX12_net_221 : decode cX12_net 221 = .ok (.iconst 0, 1) := by decide +kernel
theorem dX12_net_222 : decode cX12_net 222 = .ok (.iaload, 1) := by decide +kernel
theorem dX12_net_223 : decode cX12_net 223 = .ok (.ifCond .eq 12, 3) := by decide +kernel
theorem dX12_net_23 : decode cX12_net 23 = .ok (.iconst 1, 1) := by decide +kernel
theorem dX12_net_235 : decode cX12_net 235 = .ok (.aload_n 0, 1) := by decide +kernel
theorem dX12_net_236 : decode cX12_net 236 = .ok (.iconst 4, 1) := by decide +kernel
theorem dX12_net_237 : decode cX12_net 237 = .ok (.aload_n 0, 1) := by decide +kernel
theorem dX12_net_238 : decode cX12_net 238 = .ok (.getfield 160, 3) := by decide +kernel
theorem dX12_net_24 : decode cX12_net 24 = .ok (.invokevirtual 267, 3) := by decide +kernel
theorem dX12_net_241 : decode cX12_net 241 = .ok (.invokevirtual 187, 3) := by decide +kernel
theorem dX12_net_244 : decode cX12_net 244 = .ok (.aload_n 0, 1) := by decide +kernel
theorem dX12_net_245 : decode cX12_net 245 = .ok (.aload_n 0, 1) := by decide +kernel
theorem dX12_net_246 : decode cX12_net 246 = .ok (.getfield 151, 3) := by decide +kernel
theorem dX12_net_249 : decode cX12_net 249 = .ok (.putfield 13, 3) := by decide +kernel
theorem dX12_net_252 : decode cX12_net 252 = .ok (.aload_n 0, 1) := by decide +kernel
theorem dX12_net_253 : decode cX12_net 253 = .ok (.invokevirtual 180, 3) := by decide +kernel
theorem dX12_net_256 : decode cX12_net 256 = .ok (.ifCond .ne 11, 3) := by decide +kernel
theorem dX12_net_259 : decode cX12_net 259 = .ok (.aload_n 0, 1) := by decide +kernel
theorem dX12_net_260 : decode cX12_net 260 = .ok (.getfield 154, 3) := by decide +kernel
theorem dX12_net_263 : decode cX12_net 263 = .ok (.bipush 10, 2) := by decide +kernel
theorem dX12_net_265 : decode cX12_net 265 = .ok (.isub, 1) := by decide +kernel
theorem dX12_net_266 : decode cX12_net 266 = .ok (.ireturn, 1) := by decide +kernel
theorem dX12_net_27 : decode cX12_net 27 = .ok (.ifCond .ne 5, 3) := by decide +kernel
theorem dX12_net_30 : decode cX12_net 30 = .ok (.iconst 0, 1) := by decide +kernel
theorem dX12_net_31 : decode cX12_net 31 = .ok (.ireturn, 1) := by decide +kernel
theorem dX12_net_32 : decode cX12_net 32 = .ok (.aload_n 0, 1) := by decide +kernel
theorem dX12_net_33 : decode cX12_net 33 = .ok (.iconst 0, 1) := by decide +kernel
theorem dX12_net_34 : decode cX12_net 34 = .ok (.putfield 148, 3) := by decide +kernel
theorem dX12_net_37 : decode cX12_net 37 = .ok (.aload_n 0, 1) := by decide +kernel
theorem dX12_net_38 : decode cX12_net 38 = .ok (.iload_n 1, 1) := by decide +kernel
theorem dX12_net_39 : decode cX12_net 39 = .ok (.putfield 160, 3) := by decide +kernel
theorem dX12_net_42 : decode cX12_net 42 = .ok (.aload_n 0, 1) := by decide +kernel
theorem dX12_net_43 : decode cX12_net 43 = .ok (.iconst 0, 1) := by decide +kernel
theorem dX12_net_44 : decode cX12_net 44 = .ok (.putfield 157, 3) := by decide +kernel
theorem dX12_net_47 : decode cX12_net 47 = .ok (.aload_n 0, 1) := by decide +kernel
theorem dX12_net_48 : decode cX12_net 48 = .ok (.iconst (-1), 1) := by decide +kernel
theorem dX12_net_49 : decode cX12_net 49 = .ok (.putfield 151, 3) := by decide +kernel
theorem dX12_net_5 : decode cX12_net 5 = .ok (.aload_n 0, 1) := by decide +kernel
theorem dX12_net_52 : decode cX12_net 52 = .ok (.aload_n 0, 1) := by decide +kernel
theorem dX12_net_53 : decode cX12_net 53 = .ok (.iconst 0, 1) := by decide +kernel
theorem dX12_net_54 : decode cX12_net 54 = .ok (.putfield 194, 3) := by decide +kernel
theorem dX12_net_57 : decode cX12_net 57 = .ok (.aload_n 0, 1) := by decide +kernel
theorem dX12_net_58 : decode cX12_net 58 = .ok (.iconst 0, 1) := by decide +kernel
theorem dX12_net_59 : decode cX12_net 59 = .ok (.putfield 191, 3) := by decide +kernel
theorem dX12_net_6 : decode cX12_net 6 = .ok (.iload_n 1, 1) := by decide +kernel
theorem dX12_net_62 : decode cX12_net 62 = .ok (.iconst 0, 1) := by decide +kernel
theorem dX12_net_63 : decode cX12_net 63 = .ok (.istore_n 2, 1) := by decide +kernel
theorem dX12_net_64 : decode cX12_net 64 = .ok (.iload_n 2, 1) := by decide +kernel
theorem dX12_net_65 : decode cX12_net 65 = .ok (.sipush 242, 3) := by decide +kernel
theorem dX12_net_68 : decode cX12_net 68 = .ok (.if_icmp .ge 16, 3) := by decide +kernel
theorem dX12_net_7 : decode cX12_net 7 = .ok (.ifCond .lt 15, 3) := by decide +kernel
theorem dX12_net_71 : decode cX12_net 71 = .ok (.aload_n 0, 1) := by decide +kernel
theorem dX12_net_72 : decode cX12_net 72 = .ok (.getfield 23, 3) := by decide +kernel
