theorem dX10_meetAhead_99 : decode cX10_meetAhead 99 = .ok (.iinc 5 1, 3) := by decide +kernel
theorem dX10_meetAhead_102 : decode cX10_meetAhead 102 = .ok (.goto (-84), 3) := by decide +kernel
theorem dX10_meetAhead_105 : decode cX10_meetAhead 105 = .ok (.iconst 0, 1) := by decide +kernel
theorem dX10_meetAhead_106 : decode cX10_meetAhead 106 = .ok (.istore 5, 2) := by decide +kernel
theorem dX10_meetAhead_108 : decode cX10_meetAhead 108 = .ok (.iload 5, 2) := by decide +kernel
theorem dX10_meetAhead_110 : decode cX10_meetAhead 110 = .ok (.aload_n 0, 1) := by decide +kernel
theorem dX10_meetAhead_111 : decode cX10_meetAhead 111 = .ok (.getfield 13, 3) := by decide +kernel
theorem dX10_meetAhead_114 : decode cX10_meetAhead 114 = .ok (.iconst 0, 1) := by decide +kernel
theorem dX10_meetAhead_115 : decode cX10_meetAhead 115 = .ok (.iaload, 1) := by decide +kernel
theorem dX10_meetAhead_116 : decode cX10_meetAhead 116 = .ok (.if_icmp .ge 60, 3) := by decide +kernel
theorem dX10_meetAhead_119 : decode cX10_meetAhead 119 = .ok (.iconst 0, 1) := by decide +kernel
theorem dX10_meetAhead_120 : decode cX10_meetAhead 120 = .ok (.istore 6, 2) := by decide +kernel
theorem dX10_meetAhead_122 : decode cX10_meetAhead 122 = .ok (.iload 6, 2) := by decide +kernel
theorem dX10_meetAhead_124 : decode cX10_meetAhead 124 = .ok (.iconst 3, 1) := by decide +kernel
theorem dX10_meetAhead_125 : decode cX10_meetAhead 125 = .ok (.if_icmp .ge 45, 3) := by decide +kernel
theorem dX10_meetAhead_128 : decode cX10_meetAhead 128 = .ok (.iload 6, 2) := by decide +kernel
theorem dX10_meetAhead_130 : decode cX10_meetAhead 130 = .ok (.aload_n 0, 1) := by decide +kernel
theorem dX10_meetAhead_131 : decode cX10_meetAhead 131 = .ok (.iload_n 1, 1) := by decide +kernel
theorem dX10_meetAhead_132 : decode cX10_meetAhead 132 = .ok (.iload 5, 2) := by decide +kernel
theorem dX10_meetAhead_134 : decode cX10_meetAhead 134 = .ok (.invokevirtual 136, 3) := by decide +kernel
theorem dX10_meetAhead_137 : decode cX10_meetAhead 137 = .ok (.if_icmp .eq 27, 3) := by decide +kernel
theorem dX10_meetAhead_140 : decode cX10_meetAhead 140 = .ok (.aload_n 0, 1) := by decide +kernel
theorem dX10_meetAhead_141 : decode cX10_meetAhead 141 = .ok (.aload_n 0, 1) := by decide +kernel
theorem dX10_meetAhead_142 : decode cX10_meetAhead 142 = .ok (.iload_n 1, 1) := by decide +kernel
theorem dX10_meetAhead_143 : decode cX10_meetAhead 143 = .ok (.iload 5, 2) := by decide +kernel
theorem dX10_meetAhead_145 : decode cX10_meetAhead 145 = .ok (.iload 6, 2) := by decide +kernel
theorem dX10_meetAhead_147 : decode cX10_meetAhead 147 = .ok (.invokevirtual 143, 3) := by decide +kernel
theorem dX10_meetAhead_150 : decode cX10_meetAhead 150 = .ok (.iload_n 2, 1) := by decide +kernel
theorem dX10_meetAhead_151 : decode cX10_meetAhead 151 = .ok (.aload_n 0, 1) := by decide +kernel
theorem dX10_meetAhead_152 : decode cX10_meetAhead 152 = .ok (.iload_n 1, 1) := by decide +kernel
theorem dX10_meetAhead_153 : decode cX10_meetAhead 153 = .ok (.bipush 10, 2) := by decide +kernel
theorem dX10_meetAhead_155 : decode cX10_meetAhead 155 = .ok (.invokevirtual 176, 3) := by decide +kernel
theorem dX10_meetAhead_158 : decode cX10_meetAhead 158 = .ok (.isub, 1) := by decide +kernel
theorem dX10_meetAhead_159 : decode cX10_meetAhead 159 = .ok (.iload 4, 2) := by decide +kernel
theorem dX10_meetAhead_161 : decode cX10_meetAhead 161 = .ok (.invokevirtual 209, 3) := by decide +kernel
theorem dX10_meetAhead_164 : decode cX10_meetAhead 164 = .ok (.iinc 6 1, 3) := by decide +kernel
theorem dX10_meetAhead_167 : decode cX10_meetAhead 167 = .ok (.goto (-45), 3) := by decide +kernel
theorem dX10_meetAhead_170 : decode cX10_meetAhead 170 = .ok (.iinc 5 1, 3) := by decide +kernel
theorem dX10_meetAhead_173 : decode cX10_meetAhead 173 = .ok (.goto (-65), 3) := by decide +kernel
theorem dX10_meetAhead_176 : decode cX10_meetAhead 176 = .ok (.return_, 1) := by decide +kernel
theorem dX10_layTicks_0 : decode cX10_layTicks 0 = .ok (.aload_n 0, 1) := by decide +kernel
theorem dX10_layTicks_1 : decode cX10_layTicks 1 = .ok (.aload_n 0, 1) := by decide +kernel
theorem dX10_layTicks_2 : decode cX10_layTicks 2 = .ok (.getfield 28, 3) := by decide +kernel
theorem dX10_layTicks_5 : decode cX10_layTicks 5 = .ok (.iconst 0, 1) := by decide +kernel
theorem dX10_layTicks_6 : decode cX10_layTicks 6 = .ok (.iaload, 1) := by decide +kernel
theorem dX10_layTicks_7 : decode cX10_layTicks 7 = .ok (.putfield 149, 3) := by decide +kernel
theorem dX10_layTicks_10 : decode cX10_layTicks 10 = .ok (.aload_n 0, 1) := by decide +kernel
theorem dX10_layTicks_11 : decode cX10_layTicks 11 = .ok (.getfield 49, 3) := by decide +kernel
theorem dX10_layTicks_14 : decode cX10_layTicks 14 = .ok (.iload_n 1, 1) := by decide +kernel
theorem dX10_layTicks_15 : decode cX10_layTicks 15 = .ok (.if_icmp .ne 4, 3) := by decide +kernel
theorem dX10_layTicks_18 : decode cX10_layTicks 18 = .ok (.return_, 1) := by decide +kernel
theorem dX10_layTicks_19 : decode cX10_layTicks 19 = .ok (.aload_n 0, 1) := by decide +kernel
theorem dX10_layTicks_20 : decode cX10_layTicks 20 = .ok (.iload_n 1, 1) := by decide +kernel
theorem dX10_layTicks_21 : decode cX10_layTicks 21 = .ok (.putfield 49, 3) := by decide +kernel
theorem dX10_layTicks_24 : decode cX10_layTicks 24 = .ok (.aload_n 0, 1) := by decide +kernel
theorem dX10_layTicks_25 : decode cX10_layTicks 25 = .ok (.invokevirtual 212, 3) := by decide +kernel
theorem dX10_layTicks_28 : decode cX10_layTicks 28 = .ok (.istore_n 2, 1) := by decide +kernel
theorem dX10_layTicks_29 : decode cX10_layTicks 29 = .ok (.aload_n 0, 1) := by decide +kernel
theorem dX10_layTicks_30 : decode cX10_layTicks 30 = .ok (.iconst 0, 1) := by decide +kernel
theorem dX10_layTicks_31 : decode cX10_layTicks 31 = .ok (.putfield 206, 3) := by decide +kernel
theorem dX10_layTicks_34 : decode cX10_layTicks 34 = .ok (.iconst 0, 1) := by decide +kernel
theorem dX10_layTicks_35 : decode cX10_layTicks 35 = .ok (.istore_n 3, 1) := by decide +kernel
theorem dX10_layTicks_36 : decode cX10_layTicks 36 = .ok (.iload_n 3, 1) := by decide +kernel
theorem dX10_layTicks_37 : decode cX10_layTicks 37 = .ok (.sipush 360, 3) := by decide +kernel
theorem dX10_layTicks_40 : decode cX10_layTicks 40 = .ok (.iload_n 2, 1) := by decide +kernel
theorem dX10_layTicks_41 : decode cX10_layTicks 41 = .ok (.imul, 1) := by decide +kernel
theorem dX10_layTicks_42 : decode cX10_layTicks 42 = .ok (.if_icmp .ge 16, 3) := by decide +kernel
theorem dX10_layTicks_45 : decode cX10_layTicks 45 = .ok (.aload_n 0, 1) := by decide +kernel
theorem dX10_layTicks_46 : decode cX10_layTicks 46 = .ok (.getfield 54, 3) := by decide +kernel
theorem dX10_layTicks_49 : decode cX10_layTicks 49 = .ok (.iload_n 3, 1) := by decide +kernel
theorem dX10_layTicks_50 : decode cX10_layTicks 50 = .ok (.iconst (-1), 1) := by decide +kernel
theorem dX10_layTicks_51 : decode cX10_layTicks 51 = .ok (.iastore, 1) := by decide +kernel
theorem dX10_layTicks_52 : decode cX10_layTicks 52 = .ok (.iinc 3 1, 3) := by decide +kernel
theorem dX10_layTicks_55 : decode cX10_layTicks 55 = .ok (.goto (-19), 3) := by decide +kernel
theorem dX10_layTicks_58 : decode cX10_layTicks 58 = .ok (.iconst 0, 1) := by decide +kernel
theorem dX10_layTicks_59 : decode cX10_layTicks 59 = .ok (.istore_n 3, 1) := by decide +kernel
theorem dX10_layTicks_60 : decode cX10_layTicks 60 = .ok (.iload_n 3, 1) := by decide +kernel
theorem dX10_layTicks_61 : decode cX10_layTicks 61 = .ok (.iload_n 2, 1) := by decide +kernel
theorem dX10_layTicks_62 : decode cX10_layTicks 62 = .ok (.if_icmp .ge 51, 3) := by decide +kernel
theorem dX10_layTicks_65 : decode cX10_layTicks 65 = .ok (.iconst 0, 1) := by decide +kernel
theorem dX10_layTicks_66 : decode cX10_layTicks 66 = .ok (.istore 4, 2) := by decide +kernel
theorem dX10_layTicks_68 : decode cX10_layTicks 68 = .ok (.iload 4, 2) := by decide +kernel
theorem dX10_layTicks_70 : decode cX10_layTicks 70 = .ok (.sipush 360, 3) := by decide +kernel
theorem dX10_layTicks_73 : decode cX10_layTicks 73 = .ok (.if_icmp .ge 34, 3) := by decide +kernel
theorem dX10_layTicks_76 : decode cX10_layTicks 76 = .ok (.aload_n 0, 1) := by decide +kernel
theorem dX10_layTicks_77 : decode cX10_layTicks 77 = .ok (.iload_n 3, 1) := by decide +kernel
theorem dX10_layTicks_78 : decode cX10_layTicks 78 = .ok (.invokevirtual 197, 3) := by decide +kernel
theorem dX10_layTicks_81 : decode cX10_layTicks 81 = .ok (.ifCond .eq 26, 3) := by decide +kernel
theorem dX10_layTicks_84 : decode cX10_layTicks 84 = .ok (.aload_n 0, 1) := by decide +kernel
theorem dX10_layTicks_85 : decode cX10_layTicks 85 = .ok (.iload 4, 2) := by decide +kernel
theorem dX10_layTicks_87 : decode cX10_layTicks 87 = .ok (.invokevirtual 215, 3) := by decide +kernel
theorem dX10_layTicks_90 : decode cX10_layTicks 90 = .ok (.ifCond .eq 11, 3) := by decide +kernel
theorem dX10_layTicks_93 : decode cX10_layTicks 93 = .ok (.aload_n 0, 1) := by decide +kernel
theorem dX10_layTicks_94 : decode cX10_layTicks 94 = .ok (.iload_n 3, 1) := by decide +kernel
theorem dX10_layTicks_95 : decode cX10_layTicks 95 = .ok (.iload 4, 2) := by decide +kernel
theorem dX10_layTicks_97 : decode cX10_layTicks 97 = .ok (.iconst 0, 1) := by decide +kernel
theorem dX10_layTicks_98 : decode cX10_layTicks 98 = .ok (.invokevirtual 209, 3) := by decide +kernel
theorem dX10_layTicks_101 : decode cX10_layTicks 101 = .ok (.iinc 4 1, 3) := by decide +kernel
theorem dX10_layTicks_104 : decode cX10_layTicks 104 = .ok (.goto (-36), 3) := by decide +kernel
theorem dX10_layTicks_107 : decode cX10_layTicks 107 = .ok (.iinc 3 1, 3) := by decide +kernel
theorem dX10_layTicks_110 : decode cX10_layTicks 110 = .ok (.goto (-50), 3) := by decide +kernel
theorem dX10_layTicks_113 : decode cX10_layTicks 113 = .ok (.iconst 0, 1) := by decide +kernel
theorem dX10_layTicks_114 : decode cX10_layTicks 114 = .ok (.istore_n 3, 1) := by decide +kernel
theorem dX10_layTicks_115 : decode cX10_layTicks 115 = .ok (.iload_n 3, 1) := by decide +kernel
theorem dX10_layTicks_116 : decode cX10_layTicks 116 = .ok (.aload_n 0, 1) := by decide +kernel
theorem dX10_layTicks_117 : decode cX10_layTicks 117 = .ok (.getfield 206, 3) := by decide +kernel
theorem dX10_layTicks_120 : decode cX10_layTicks 120 = .ok (.if_icmp .ge 47, 3) := by decide +kernel
theorem dX10_layTicks_123 : decode cX10_layTicks 123 = .ok (.aload_n 0, 1) := by decide +kernel
theorem dX10_layTicks_124 : decode cX10_layTicks 124 = .ok (.aload_n 0, 1) := by decide +kernel
theorem dX10_layTicks_125 : decode cX10_layTicks 125 = .ok (.getfield 57, 3) := by decide +kernel
theorem dX10_layTicks_128 : decode cX10_layTicks 128 = .ok (.iload_n 3, 1) := by decide +kernel
theorem dX10_layTicks_129 : decode cX10_layTicks 129 = .ok (.iaload, 1) := by decide +kernel
theorem dX10_layTicks_130 : decode cX10_layTicks 130 = .ok (.sipush 360, 3) := by decide +kernel
theorem dX10_layTicks_133 : decode cX10_layTicks 133 = .ok (.idiv, 1) := by decide +kernel
theorem dX10_layTicks_134 : decode cX10_layTicks 134 = .ok (.aload_n 0, 1) := by decide +kernel
theorem dX10_layTicks_135 : decode cX10_layTicks 135 = .ok (.getfield 57, 3) := by decide +kernel
theorem dX10_layTicks_138 : decode cX10_layTicks 138 = .ok (.iload_n 3, 1) := by decide +kernel
theorem dX10_layTicks_139 : decode cX10_layTicks 139 = .ok (.iaload, 1) := by decide +kernel
theorem dX10_layTicks_140 : decode cX10_layTicks 140 = .ok (.sipush 360, 3) := by decide +kernel
theorem dX10_layTicks_143 : decode cX10_layTicks 143 = .ok (.irem, 1) := by decide +kernel
theorem dX10_layTicks_144 : decode cX10_layTicks 144 = .ok (.iload_n 1, 1) := by decide +kernel
theorem dX10_layTicks_145 : decode cX10_layTicks 145 = .ok (.aload_n 0, 1) := by decide +kernel
theorem dX10_layTicks_146 : decode cX10_layTicks 146 = .ok (.getfield 54, 3) := by decide +kernel
theorem dX10_layTicks_149 : decode cX10_layTicks 149 = .ok (.aload_n 0, 1) := by decide +kernel
theorem dX10_layTicks_150 : decode cX10_layTicks 150 = .ok (.getfield 57, 3) := by decide +kernel
theorem dX10_layTicks_153 : decode cX10_layTicks 153 = .ok (.iload_n 3, 1) := by decide +kernel
theorem dX10_layTicks_154 : decode cX10_layTicks 154 = .ok (.iaload, 1) := by decide +kernel
theorem dX10_layTicks_155 : decode cX10_layTicks 155 = .ok (.iaload, 1) := by decide +kernel
theorem dX10_layTicks_156 : decode cX10_layTicks 156 = .ok (.iconst 1, 1) := by decide +kernel
theorem dX10_layTicks_157 : decode cX10_layTicks 157 = .ok (.iadd, 1) := by decide +kernel
theorem dX10_layTicks_158 : decode cX10_layTicks 158 = .ok (.invokevirtual 218, 3) := by decide +kernel
theorem dX10_layTicks_161 : decode cX10_layTicks 161 = .ok (.iinc 3 1, 3) := by decide +kernel
theorem dX10_layTicks_164 : decode cX10_layTicks 164 = .ok (.goto (-49), 3) := by decide +kernel
theorem dX10_layTicks_167 : decode cX10_layTicks 167 = .ok (.return_, 1) := by decide +kernel
theorem dX10_allJoints_0 : decode cX10_allJoints 0 = .ok (.iconst 1, 1) := by decide +kernel
theorem dX10_allJoints_1 : decode cX10_allJoints 1 = .ok (.aload_n 0, 1) := by decide +kernel
theorem dX10_allJoints_2 : decode cX10_allJoints 2 = .ok (.getfield 19, 3) := by decide +kernel
theorem dX10_allJoints_5 : decode cX10_allJoints 5 = .ok (.iconst 0, 1) := by decide +kernel
theorem dX10_allJoints_6 : decode cX10_allJoints 6 = .ok (.iaload, 1) := by decide +kernel
theorem dX10_allJoints_7 : decode cX10_allJoints 7 = .ok (.ishl, 1) := by decide +kernel
theorem dX10_allJoints_8 : decode cX10_allJoints 8 = .ok (.iconst 1, 1) := by decide +kernel
theorem dX10_allJoints_9 : decode cX10_allJoints 9 = .ok (.isub, 1) := by decide +kernel
theorem dX10_allJoints_10 : decode cX10_allJoints 10 = .ok (.ireturn, 1) := by decide +kernel
theorem dX10_soonBy_0 : decode cX10_soonBy 0 = .ok (.aload_n 0, 1) := by decide +kernel
theorem dX10_soonBy_1 : decode cX10_soonBy 1 = .ok (.iload_n 1, 1) := by decide +kernel
theorem dX10_soonBy_2 : decode cX10_soonBy 2 = .ok (.invokevirtual 222, 3) := by decide +kernel
theorem dX10_soonBy_5 : decode cX10_soonBy 5 = .ok (.aload_n 0, 1) := by decide +kernel
theorem dX10_soonBy_6 : decode cX10_soonBy 6 = .ok (.getfield 54, 3) := by decide +kernel
theorem dX10_soonBy_9 : decode cX10_soonBy 9 = .ok (.sipush 360, 3) := by decide +kernel
theorem dX10_soonBy_12 : decode cX10_soonBy 12 = .ok (.aload_n 0, 1) := by decide +kernel
theorem dX10_soonBy_13 : decode cX10_soonBy 13 = .ok (.invokevirtual 161, 3) := by decide +kernel
theorem dX10_soonBy_16 : decode cX10_soonBy 16 = .ok (.imul, 1) := by decide +kernel
theorem dX10_soonBy_17 : decode cX10_soonBy 17 = .ok (.iload_n 2, 1) := by decide +kernel
theorem dX10_soonBy_18 : decode cX10_soonBy 18 = .ok (.iadd, 1) := by decide +kernel
theorem dX10_soonBy_19 : decode cX10_soonBy 19 = .ok (.iaload, 1) := by decide +kernel
theorem dX10_soonBy_20 : decode cX10_soonBy 20 = .ok (.istore_n 3, 1) := by decide +kernel
theorem dX10_soonBy_21 : decode cX10_soonBy 21 = .ok (.iload_n 3, 1) := by decide +kernel
theorem dX10_soonBy_22 : decode cX10_soonBy 22 = .ok (.i2l, 1) := by decide +kernel
theorem dX10_soonBy_23 : decode cX10_soonBy 23 = .ok (.lconst 0, 1) := by decide +kernel
theorem dX10_soonBy_24 : decode cX10_soonBy 24 = .ok (.ldc2_w 226, 3) := by decide +kernel
theorem dX10_soonBy_27 : decode cX10_soonBy 27 = .ok (.invokestatic 65, 3) := by decide +kernel
theorem dX10_soonBy_30 : decode cX10_soonBy 30 = .ok (.ifCond .eq 7, 3) := by decide +kernel
theorem dX10_soonBy_33 : decode cX10_soonBy 33 = .ok (.iload_n 3, 1) := by decide +kernel
theorem dX10_soonBy_34 : decode cX10_soonBy 34 = .ok (.goto 5, 3) := by decide +kernel
theorem dX10_soonBy_37 : decode cX10_soonBy 37 = .ok (.bipush (-4), 2) := by decide +kernel
theorem dX10_soonBy_39 : decode cX10_soonBy 39 = .ok (.ireturn, 1) := by decide +kernel
theorem dX10_soon_0 : decode cX10_soon 0 = .ok (.iload_n 1, 1) := by decide +kernel
theorem dX10_soon_1 : decode cX10_soon 1 = .ok (.invokestatic 182, 3) := by decide +kernel
theorem dX10_soon_4 : decode cX10_soon 4 = .ok (.ifCond .eq 8, 3) := by decide +kernel
theorem dX10_soon_7 : decode cX10_soon 7 = .ok (.iload_n 2, 1) := by decide +kernel
theorem dX10_soon_8 : decode cX10_soon 8 = .ok (.iconst (-1), 1) := by decide +kernel
theorem dX10_soon_9 : decode cX10_soon 9 = .ok (.if_icmp .ge 5, 3) := by decide +kernel
theorem dX10_soon_12 : decode cX10_soon 12 = .ok (.iconst (-1), 1) := by decide +kernel
theorem dX10_soon_13 : decode cX10_soon 13 = .ok (.ireturn, 1) := by decide +kernel
theorem dX10_soon_14 : decode cX10_soon 14 = .ok (.aload_n 0, 1) := by decide +kernel
theorem dX10_soon_15 : decode cX10_soon 15 = .ok (.aload_n 0, 1) := by decide +kernel
theorem dX10_soon_16 : decode cX10_soon 16 = .ok (.invokevirtual 228, 3) := by decide +kernel
theorem dX10_soon_19 : decode cX10_soon 19 = .ok (.iload_n 1, 1) := by decide +kernel
theorem dX10_soon_20 : decode cX10_soon 20 = .ok (.invokevirtual 231, 3) := by decide +kernel
theorem dX10_soon_23 : decode cX10_soon 23 = .ok (.istore_n 3, 1) := by decide +kernel
theorem dX10_soon_24 : decode cX10_soon 24 = .ok (.iload_n 3, 1) := by decide +kernel
theorem dX10_soon_25 : decode cX10_soon 25 = .ok (.bipush (-4), 2) := by decide +kernel
theorem dX10_soon_27 : decode cX10_soon 27 = .ok (.if_icmp .eq 12, 3) := by decide +kernel
theorem dX10_soon_30 : decode cX10_soon 30 = .ok (.iload_n 2, 1) := by decide +kernel
theorem dX10_soon_31 : decode cX10_soon 31 = .ok (.ifCond .lt 8, 3) := by decide +kernel
theorem dX10_soon_34 : decode cX10_soon 34 = .ok (.iload_n 2, 1) := by decide +kernel
theorem dX10_soon_35 : decode cX10_soon 35 = .ok (.iload_n 3, 1) := by decide +kernel
theorem dX10_soon_36 : decode cX10_soon 36 = .ok (.if_icmp .lt 14, 3) := by decide +kernel
theorem dX10_soon_39 : decode cX10_soon 39 = .ok (.iload_n 2, 1) := by decide +kernel
theorem dX10_soon_40 : decode cX10_soon 40 = .ok (.ifCond .ge 7, 3) := by decide +kernel
theorem dX10_soon_43 : decode cX10_soon 43 = .ok (.iload_n 3, 1) := by decide +kernel
theorem dX10_soon_44 : decode cX10_soon 44 = .ok (.goto 5, 3) := by decide +kernel
theorem dX10_soon_47 : decode cX10_soon 47 = .ok (.bipush (-4), 2) := by decide +kernel
theorem dX10_soon_49 : decode cX10_soon 49 = .ok (.ireturn, 1) := by decide +kernel
theorem dX10_soon_50 : decode cX10_soon 50 = .ok (.aload_n 0, 1) := by decide +kernel
theorem dX10_soon_51 : decode cX10_soon 51 = .ok (.invokevirtual 161, 3) := by decide +kernel
theorem dX10_soon_54 : decode cX10_soon 54 = .ok (.istore 4, 2) := by decide +kernel
theorem dX10_soon_56 : decode cX10_soon 56 = .ok (.iload_n 1, 1) := by decide +kernel
theorem dX10_soon_57 : decode cX10_soon 57 = .ok (.istore 5, 2) := by decide +kernel
theorem dX10_soon_59 : decode cX10_soon 59 = .ok (.iconst 0, 1) := by decide +kernel
theorem dX10_soon_60 : decode cX10_soon 60 = .ok (.istore 6, 2) := by decide +kernel
theorem dX10_soon_62 : decode cX10_soon 62 = .ok (.iconst 0, 1) := by decide +kernel
theorem dX10_soon_63 : decode cX10_soon 63 = .ok (.istore 7, 2) := by decide +kernel
theorem dX10_soon_65 : decode cX10_soon 65 = .ok (.iload 7, 2) := by decide +kernel
theorem dX10_soon_67 : decode cX10_soon 67 = .ok (.iload_n 2, 1) := by decide +kernel
theorem dX10_soon_68 : decode cX10_soon 68 = .ok (.if_icmp .gt 107, 3) := by decide +kernel
theorem dX10_soon_71 : decode cX10_soon 71 = .ok (.aload_n 0, 1) := by decide +kernel
theorem dX10_soon_72 : decode cX10_soon 72 = .ok (.getfield 54, 3) := by decide +kernel
theorem dX10_soon_75 : decode cX10_soon 75 = .ok (.sipush 360, 3) := by decide +kernel
theorem dX10_soon_78 : decode cX10_soon 78 = .ok (.iload 4, 2) := by decide +kernel
theorem dX10_soon_80 : decode cX10_soon 80 = .ok (.imul, 1) := by decide +kernel
theorem dX10_soon_81 : decode cX10_soon 81 = .ok (.iload 5, 2) := by decide +kernel
theorem dX10_soon_83 : decode cX10_soon 83 = .ok (.iadd, 1) := by decide +kernel
theorem dX10_soon_84 : decode cX10_soon 84 = .ok (.iaload, 1) := by decide +kernel
theorem dX10_soon_85 : decode cX10_soon 85 = .ok (.istore 8, 2) := by decide +kernel
theorem dX10_soon_87 : decode cX10_soon 87 = .ok (.iconst (-1), 1) := by decide +kernel
theorem dX10_soon_88 : decode cX10_soon 88 = .ok (.istore 6, 2) := by decide +kernel
theorem dX10_soon_90 : decode cX10_soon 90 = .ok (.bipush (-4), 2) := by decide +kernel
theorem dX10_soon_92 : decode cX10_soon 92 = .ok (.istore 9, 2) := by decide +kernel
theorem dX10_soon_94 : decode cX10_soon 94 = .ok (.iconst 0, 1) := by decide +kernel
theorem dX10_soon_95 : decode cX10_soon 95 = .ok (.istore 10, 2) := by decide +kernel
theorem dX10_soon_97 : decode cX10_soon 97 = .ok (.iinc 6 1, 3) := by decide +kernel
theorem dX10_soon_100 : decode cX10_soon 100 = .ok (.aload_n 0, 1) := by decide +kernel
theorem dX10_soon_101 : decode cX10_soon 101 = .ok (.iload 4, 2) := by decide +kernel
theorem dX10_soon_103 : decode cX10_soon 103 = .ok (.iload 6, 2) := by decide +kernel
theorem dX10_soon_105 : decode cX10_soon 105 = .ok (.invokevirtual 173, 3) := by decide +kernel
theorem dX10_soon_108 : decode cX10_soon 108 = .ok (.istore 9, 2) := by decide +kernel
theorem dX10_soon_110 : decode cX10_soon 110 = .ok (.iload 9, 2) := by decide +kernel
theorem dX10_soon_112 : decode cX10_soon 112 = .ok (.ifCond .ge 7, 3) := by decide +kernel
theorem dX10_soon_115 : decode cX10_soon 115 = .ok (.iconst 0, 1) := by decide +kernel
theorem dX10_soon_116 : decode cX10_soon 116 = .ok (.goto 17, 3) := by decide +kernel
theorem dX10_soon_119 : decode cX10_soon 119 = .ok (.iload 5, 2) := by decide +kernel
theorem dX10_soon_121 : decode cX10_soon 121 = .ok (.aload_n 0, 1) := by decide +kernel
theorem dX10_soon_122 : decode cX10_soon 122 = .ok (.iload 9, 2) := by decide +kernel
theorem dX10_soon_124 : decode cX10_soon 124 = .ok (.iload 6, 2) := by decide +kernel
theorem dX10_soon_126 : decode cX10_soon 126 = .ok (.invokevirtual 176, 3) := by decide +kernel
theorem dX10_soon_129 : decode cX10_soon 129 = .ok (.iadd, 1) := by decide +kernel
theorem dX10_soon_130 : decode cX10_soon 130 = .ok (.invokestatic 179, 3) := by decide +kernel
theorem dX10_soon_133 : decode cX10_soon 133 = .ok (.istore 10, 2) := by decide +kernel
theorem dX10_soon_135 : decode cX10_soon 135 = .ok (.iload 9, 2) := by decide +kernel
theorem dX10_soon_137 : decode cX10_soon 137 = .ok (.ifCond .lt (-40), 3) := by decide +kernel
theorem dX10_soon_140 : decode cX10_soon 140 = .ok (.aload_n 0, 1) := by decide +kernel
theorem dX10_soon_141 : decode cX10_soon 141 = .ok (.getfield 54, 3) := by decide +kernel
theorem dX10_soon_144 : decode cX10_soon 144 = .ok (.sipush 360, 3) := by decide +kernel
theorem dX10_soon_147 : decode cX10_soon 147 = .ok (.iload 9, 2) := by decide +kernel
theorem dX10_soon_149 : decode cX10_soon 149 = .ok (.imul, 1) := by decide +kernel
theorem dX10_soon_150 : decode cX10_soon 150 = .ok (.iload 10, 2) := by decide +kernel
theorem dX10_soon_152 : decode cX10_soon 152 = .ok (.iadd, 1) := by decide +kernel
theorem dX10_soon_153 : decode cX10_soon 153 = .ok (.iaload, 1) := by decide +kernel
theorem dX10_soon_154 : decode cX10_soon 154 = .ok (.iload 8, 2) := by decide +kernel
theorem dX10_soon_156 : decode cX10_soon 156 = .ok (.iconst 1, 1) := by decide +kernel
theorem dX10_soon_157 : decode cX10_soon 157 = .ok (.isub, 1) := by decide +kernel
theorem dX10_soon_158 : decode cX10_soon 158 = .ok (.if_icmp .ne (-61), 3) := by decide +kernel
theorem dX10_soon_161 : decode cX10_soon 161 = .ok (.iload 9, 2) := by decide +kernel
theorem dX10_soon_163 : decode cX10_soon 163 = .ok (.istore 4, 2) := by decide +kernel
theorem dX10_soon_165 : decode cX10_soon 165 = .ok (.iload 10, 2) := by decide +kernel
theorem dX10_soon_167 : decode cX10_soon 167 = .ok (.istore 5, 2) := by decide +kernel
theorem dX10_soon_169 : decode cX10_soon 169 = .ok (.iinc 7 1, 3) := by decide +kernel
theorem dX10_soon_172 : decode cX10_soon 172 = .ok (.goto (-107), 3) := by decide +kernel
theorem dX10_soon_175 : decode cX10_soon 175 = .ok (.iload 6, 2) := by decide +kernel
theorem dX10_soon_177 : decode cX10_soon 177 = .ok (.ireturn, 1) := by decide +kernel
theorem dX10_fallOf_0 : decode cX10_fallOf 0 = .ok (.iconst 0, 1) := by decide +kernel
theorem dX10_fallOf_1 : decode cX10_fallOf 1 = .ok (.istore_n 1, 1) := by decide +kernel
theorem dX10_fallOf_2 : decode cX10_fallOf 2 = .ok (.iload_n 1, 1) := by decide +kernel
theorem dX10_fallOf_3 : decode cX10_fallOf 3 = .ok (.iconst 1, 1) := by decide +kernel
theorem dX10_fallOf_4 : decode cX10_fallOf 4 = .ok (.iadd, 1) := by decide +kernel
theorem dX10_fallOf_5 : decode cX10_fallOf 5 = .ok (.iload_n 1, 1) := by decide +kernel
theorem dX10_fallOf_6 : decode cX10_fallOf 6 = .ok (.iconst 1, 1) := by decide +kernel
theorem dX10_fallOf_7 : decode cX10_fallOf 7 = .ok (.iadd, 1) := by decide +kernel
theorem dX10_fallOf_8 : decode cX10_fallOf 8 = .ok (.imul, 1) := by decide +kernel
theorem dX10_fallOf_9 : decode cX10_fallOf 9 = .ok (.iload_n 0, 1) := by decide +kernel
theorem dX10_fallOf_10 : decode cX10_fallOf 10 = .ok (.if_icmp .gt 9, 3) := by decide +kernel
theorem dX10_fallOf_13 : decode cX10_fallOf 13 = .ok (.iinc 1 1, 3) := by decide +kernel
theorem dX10_fallOf_16 : decode cX10_fallOf 16 = .ok (.goto (-14), 3) := by decide +kernel
theorem dX10_fallOf_19 : decode cX10_fallOf 19 = .ok (.iload_n 1, 1) := by decide +kernel
theorem dX10_fallOf_20 : decode cX10_fallOf 20 = .ok (.ireturn, 1) := by decide +kernel
theorem dX10_isHeight_0 : decode cX10_isHeight 0 = .ok (.iload_n 0, 1) := by decide +kernel
theorem dX10_isHeight_1 : decode cX10_isHeight 1 = .ok (.i2l, 1) := by decide +kernel
theorem dX10_isHeight_2 : decode cX10_isHeight 2 = .ok (.lconst 0, 1) := by decide +kernel
theorem dX10_isHeight_3 : decode cX10_isHeight 3 = .ok (.ldc2_w 234, 3) := by decide +kernel
theorem dX10_isHeight_6 : decode cX10_isHeight 6 = .ok (.invokestatic 65, 3) := by decide +kernel
theorem dX10_isHeight_9 : decode cX10_isHeight 9 = .ok (.ireturn, 1) := by decide +kernel
theorem dX10_fall_0 : decode cX10_fall 0 = .ok (.iload_n 1, 1) := by decide +kernel
theorem dX10_fall_1 : decode cX10_fall 1 = .ok (.invokestatic 236, 3) := by decide +kernel
theorem dX10_fall_4 : decode cX10_fall 4 = .ok (.ifCond .eq 10, 3) := by decide +kernel
theorem dX10_fall_7 : decode cX10_fall 7 = .ok (.iload_n 1, 1) := by decide +kernel
theorem dX10_fall_8 : decode cX10_fall 8 = .ok (.invokestatic 239, 3) := by decide +kernel
theorem dX10_fall_11 : decode cX10_fall 11 = .ok (.goto 4, 3) := by decide +kernel
theorem dX10_fall_14 : decode cX10_fall 14 = .ok (.iconst (-1), 1) := by decide +kernel
theorem dX10_fall_15 : decode cX10_fall 15 = .ok (.ireturn, 1) := by decide +kernel
theorem dX10_saved_0 : decode cX10_saved 0 = .ok (.iload_n 1, 1) := by decide +kernel
theorem dX10_saved_1 : decode cX10_saved 1 = .ok (.invokestatic 236, 3) := by decide +kernel
theorem dX10_saved_4 : decode cX10_saved 4 = .ok (.ifCond .ne 5, 3) := by decide +kernel
theorem dX10_saved_7 : decode cX10_saved 7 = .ok (.iconst (-1), 1) := by decide +kernel
theorem dX10_saved_8 : decode cX10_saved 8 = .ok (.ireturn, 1) := by decide +kernel
theorem dX10_saved_9 : decode cX10_saved 9 = .ok (.iconst 0, 1) := by decide +kernel
theorem dX10_saved_10 : decode cX10_saved 10 = .ok (.istore_n 2, 1) := by decide +kernel
theorem dX10_saved_11 : decode cX10_saved 11 = .ok (.iconst 0, 1) := by decide +kernel
theorem dX10_saved_12 : decode cX10_saved 12 = .ok (.istore_n 3, 1) := by decide +kernel
theorem dX10_saved_13 : decode cX10_saved 13 = .ok (.iload_n 3, 1) := by decide +kernel
theorem dX10_saved_14 : decode cX10_saved 14 = .ok (.sipush 360, 3) := by decide +kernel
theorem dX10_saved_17 : decode cX10_saved 17 = .ok (.if_icmp .ge 44, 3) := by decide +kernel
theorem dX10_saved_20 : decode cX10_saved 20 = .ok (.aload_n 0, 1) := by decide +kernel
theorem dX10_saved_21 : decode cX10_saved 21 = .ok (.aload_n 0, 1) := by decide +kernel
theorem dX10_saved_22 : decode cX10_saved 22 = .ok (.invokevirtual 228, 3) := by decide +kernel
theorem dX10_saved_25 : decode cX10_saved 25 = .ok (.iload_n 3, 1) := by decide +kernel
theorem dX10_saved_26 : decode cX10_saved 26 = .ok (.invokevirtual 231, 3) := by decide +kernel
theorem dX10_saved_29 : decode cX10_saved 29 = .ok (.istore 4, 2) := by decide +kernel
theorem dX10_saved_31 : decode cX10_saved 31 = .ok (.iload_n 2, 1) := by decide +kernel
theorem dX10_saved_32 : decode cX10_saved 32 = .ok (.iload 4, 2) := by decide +kernel
theorem dX10_saved_34 : decode cX10_saved 34 = .ok (.bipush (-4), 2) := by decide +kernel
theorem dX10_saved_36 : decode cX10_saved 36 = .ok (.if_icmp .eq 16, 3) := by decide +kernel
theorem dX10_saved_39 : decode cX10_saved 39 = .ok (.iload 4, 2) := by decide +kernel
theorem dX10_saved_41 : decode cX10_saved 41 = .ok (.iload_n 1, 1) := by decide +kernel
theorem dX10_saved_42 : decode cX10_saved 42 = .ok (.invokestatic 239, 3) := by decide +kernel
theorem dX10_saved_45 : decode cX10_saved 45 = .ok (.if_icmp .gt 7, 3) := by decide +kernel
theorem dX10_saved_48 : decode cX10_saved 48 = .ok (.iconst 1, 1) := by decide +kernel
theorem dX10_saved_49 : decode cX10_saved 49 = .ok (.goto 4, 3) := by decide +kernel
theorem dX10_saved_52 : decode cX10_saved 52 = .ok (.iconst 0, 1) := by decide +kernel
theorem dX10_saved_53 : decode cX10_saved 53 = .ok (.iadd, 1) := by decide +kernel
theorem dX10_saved_54 : decode cX10_saved 54 = .ok (.istore_n 2, 1) := by decide +kernel
theorem dX10_saved_55 : decode cX10_saved 55 = .ok (.iinc 3 1, 3) := by decide +kernel
theorem dX10_saved_58 : decode cX10_saved 58 = .ok (.goto (-45), 3) := by decide +kernel
theorem dX10_saved_61 : decode cX10_saved 61 = .ok (.iload_n 2, 1) := by decide +kernel
theorem dX10_saved_62 : decode cX10_saved 62 = .ok (.ireturn, 1) := by decide +kernel
theorem dX10_freeBy_0 : decode cX10_freeBy 0 = .ok (.aload_n 0, 1) := by decide +kernel
theorem dX10_freeBy_1 : decode cX10_freeBy 1 = .ok (.getfield 60, 3) := by decide +kernel
theorem dX10_freeBy_4 : decode cX10_freeBy 4 = .ok (.iload_n 1, 1) := by decide +kernel
theorem dX10_freeBy_5 : decode cX10_freeBy 5 = .ok (.iaload, 1) := by decide +kernel
theorem dX10_freeBy_6 : decode cX10_freeBy 6 = .ok (.ifCond .le 10, 3) := by decide +kernel
theorem dX10_freeBy_9 : decode cX10_freeBy 9 = .ok (.aload_n 0, 1) := by decide +kernel
theorem dX10_freeBy_10 : decode cX10_freeBy 10 = .ok (.getfield 60, 3) := by decide +kernel
theorem dX10_freeBy_13 : decode cX10_freeBy 13 = .ok (.iload_n 1, 1) := by decide +kernel
theorem dX10_freeBy_14 : decode cX10_freeBy 14 = .ok (.iaload, 1) := by decide +kernel
theorem dX10_freeBy_15 : decode cX10_freeBy 15 = .ok (.ireturn, 1) := by decide +kernel
theorem dX10_freeBy_16 : decode cX10_freeBy 16 = .ok (.aload_n 0, 1) := by decide +kernel
theorem dX10_freeBy_17 : decode cX10_freeBy 17 = .ok (.bipush (-4), 2) := by decide +kernel
theorem dX10_freeBy_19 : decode cX10_freeBy 19 = .ok (.putfield 49, 3) := by decide +kernel
theorem dX10_freeBy_22 : decode cX10_freeBy 22 = .ok (.aload_n 0, 1) := by decide +kernel
theorem dX10_freeBy_23 : decode cX10_freeBy 23 = .ok (.iconst 0, 1) := by decide +kernel
theorem dX10_freeBy_24 : decode cX10_freeBy 24 = .ok (.putfield 149, 3) := by decide +kernel
theorem dX10_freeBy_27 : decode cX10_freeBy 27 = .ok (.aload_n 0, 1) := by decide +kernel
theorem dX10_freeBy_28 : decode cX10_freeBy 28 = .ok (.iconst 0, 1) := by decide +kernel
theorem dX10_freeBy_29 : decode cX10_freeBy 29 = .ok (.putfield 206, 3) := by decide +kernel
theorem dX10_freeBy_32 : decode cX10_freeBy 32 = .ok (.aload_n 0, 1) := by decide +kernel
theorem dX10_freeBy_33 : decode cX10_freeBy 33 = .ok (.invokevirtual 212, 3) := by decide +kernel
theorem dX10_freeBy_36 : decode cX10_freeBy 36 = .ok (.istore_n 2, 1) := by decide +kernel
theorem dX10_freeBy_37 : decode cX10_freeBy 37 = .ok (.iconst 0, 1) := by decide +kernel
theorem dX10_freeBy_38 : decode cX10_freeBy 38 = .ok (.istore_n 3, 1) := by decide +kernel
theorem dX10_freeBy_39 : decode cX10_freeBy 39 = .ok (.iload_n 3, 1) := by decide +kernel
theorem dX10_freeBy_40 : decode cX10_freeBy 40 = .ok (.sipush 360, 3) := by decide +kernel
theorem dX10_freeBy_43 : decode cX10_freeBy 43 = .ok (.iload_n 2, 1) := by decide +kernel
theorem dX10_freeBy_44 : decode cX10_freeBy 44 = .ok (.imul, 1) := by decide +kernel
theorem dX10_freeBy_45 : decode cX10_freeBy 45 = .ok (.if_icmp .ge 16, 3) := by decide +kernel
theorem dX10_freeBy_48 : decode cX10_freeBy 48 = .ok (.aload_n 0, 1) := by decide +kernel
theorem dX10_freeBy_49 : decode cX10_freeBy 49 = .ok (.getfield 54, 3) := by decide +kernel
theorem dX10_freeBy_52 : decode cX10_freeBy 52 = .ok (.iload_n 3, 1) := by decide +kernel
theorem dX10_freeBy_53 : decode cX10_freeBy 53 = .ok (.iconst (-1), 1) := by decide +kernel
theorem dX10_freeBy_54 : decode cX10_freeBy 54 = .ok (.iastore, 1) := by decide +kernel
theorem dX10_freeBy_55 : decode cX10_freeBy 55 = .ok (.iinc 3 1, 3) := by decide +kernel
theorem dX10_freeBy_58 : decode cX10_freeBy 58 = .ok (.goto (-19), 3) := by decide +kernel
theorem dX10_freeBy_61 : decode cX10_freeBy 61 = .ok (.aload_n 0, 1) := by decide +kernel
theorem dX10_freeBy_62 : decode cX10_freeBy 62 = .ok (.aload_n 0, 1) := by decide +kernel
theorem dX10_freeBy_63 : decode cX10_freeBy 63 = .ok (.invokevirtual 161, 3) := by decide +kernel
theorem dX10_freeBy_66 : decode cX10_freeBy 66 = .ok (.iconst 0, 1) := by decide +kernel
theorem dX10_freeBy_67 : decode cX10_freeBy 67 = .ok (.iconst 0, 1) := by decide +kernel
theorem dX10_freeBy_68 : decode cX10_freeBy 68 = .ok (.invokevirtual 209, 3) := by decide +kernel
theorem dX10_freeBy_71 : decode cX10_freeBy 71 = .ok (.iconst 0, 1) := by decide +kernel
theorem dX10_freeBy_72 : decode cX10_freeBy 72 = .ok (.istore_n 3, 1) := by decide +kernel
theorem dX10_freeBy_73 : decode cX10_freeBy 73 = .ok (.iload_n 3, 1) := by decide +kernel
theorem dX10_freeBy_74 : decode cX10_freeBy 74 = .ok (.aload_n 0, 1) := by decide +kernel
theorem dX10_freeBy_75 : decode cX10_freeBy 75 = .ok (.getfield 206, 3) := by decide +kernel
theorem dX10_freeBy_78 : decode cX10_freeBy 78 = .ok (.if_icmp .ge 92, 3) := by decide +kernel
theorem dX10_freeBy_81 : decode cX10_freeBy 81 = .ok (.aload_n 0, 1) := by decide +kernel
theorem dX10_freeBy_82 : decode cX10_freeBy 82 = .ok (.getfield 57, 3) := by decide +kernel
theorem dX10_freeBy_85 : decode cX10_freeBy 85 = .ok (.iload_n 3, 1) := by decide +kernel
theorem dX10_freeBy_86 : decode cX10_freeBy 86 = .ok (.iaload, 1) := by decide +kernel
theorem dX10_freeBy_87 : decode cX10_freeBy 87 = .ok (.sipush 360, 3) := by decide +kernel
theorem dX10_freeBy_90 : decode cX10_freeBy 90 = .ok (.idiv, 1) := by decide +kernel
theorem dX10_freeBy_91 : decode cX10_freeBy 91 = .ok (.istore 4, 2) := by decide +kernel
theorem dX10_freeBy_93 : decode cX10_freeBy 93 = .ok (.iconst 1, 1) := by decide +kernel
theorem dX10_freeBy_94 : decode cX10_freeBy 94 = .ok (.istore 5, 2) := by decide +kernel
theorem dX10_freeBy_96 : decode cX10_freeBy 96 = .ok (.iload 5, 2) := by decide +kernel
theorem dX10_freeBy_98 : decode cX10_freeBy 98 = .ok (.bipush 19, 2) := by decide +kernel
theorem dX10_freeBy_100 : decode cX10_freeBy 100 = .ok (.if_icmp .ge 64, 3) := by decide +kernel
theorem dX10_freeBy_103 : decode cX10_freeBy 103 = .ok (.iload 5, 2) := by decide +kernel
theorem dX10_freeBy_105 : decode cX10_freeBy 105 = .ok (.iload_n 1, 1) := by decide +kernel
theorem dX10_freeBy_106 : decode cX10_freeBy 106 = .ok (.invokestatic 242, 3) := by decide +kernel
theorem dX10_freeBy_109 : decode cX10_freeBy 109 = .ok (.ifCond .eq 8, 3) := by decide +kernel
theorem dX10_freeBy_112 : decode cX10_freeBy 112 = .ok (.bipush (-4), 2) := by decide +kernel
theorem dX10_freeBy_114 : decode cX10_freeBy 114 = .ok (.goto 11, 3) := by decide +kernel
theorem dX10_freeBy_117 : decode cX10_freeBy 117 = .ok (.aload_n 0, 1) := by decide +kernel
theorem dX10_freeBy_118 : decode cX10_freeBy 118 = .ok (.iload 4, 2) := by decide +kernel
theorem dX10_freeBy_120 : decode cX10_freeBy 120 = .ok (.iload 5, 2) := by decide +kernel
theorem dX10_freeBy_122 : decode cX10_freeBy 122 = .ok (.invokevirtual 173, 3) := by decide +kernel
theorem dX10_freeBy_125 : decode cX10_freeBy 125 = .ok (.istore 6, 2) := by decide +kernel
theorem dX10_freeBy_127 : decode cX10_freeBy 127 = .ok (.iload 6, 2) := by decide +kernel
theorem dX10_freeBy_129 : decode cX10_freeBy 129 = .ok (.ifCond .lt 29, 3) := by decide +kernel
theorem dX10_freeBy_132 : decode cX10_freeBy 132 = .ok (.aload_n 0, 1) := by decide +kernel
theorem dX10_freeBy_133 : decode cX10_freeBy 133 = .ok (.iload 6, 2) := by decide +kernel
theorem dX10_freeBy_135 : decode cX10_freeBy 135 = .ok (.aload_n 0, 1) := by decide +kernel
theorem dX10_freeBy_136 : decode cX10_freeBy 136 = .ok (.getfield 57, 3) := by decide +kernel
theorem dX10_freeBy_139 : decode cX10_freeBy 139 = .ok (.iload_n 3, 1) := by decide +kernel
theorem dX10_freeBy_140 : decode cX10_freeBy 140 = .ok (.iaload, 1) := by decide +kernel
theorem dX10_freeBy_141 : decode cX10_freeBy 141 = .ok (.sipush 360, 3) := by decide +kernel
theorem dX10_freeBy_144 : decode cX10_freeBy 144 = .ok (.irem, 1) := by decide +kernel
theorem dX10_freeBy_145 : decode cX10_freeBy 145 = .ok (.aload_n 0, 1) := by decide +kernel
theorem dX10_freeBy_146 : decode cX10_freeBy 146 = .ok (.iload 6, 2) := by decide +kernel
theorem dX10_freeBy_148 : decode cX10_freeBy 148 = .ok (.iload 5, 2) := by decide +kernel
theorem dX10_freeBy_150 : decode cX10_freeBy 150 = .ok (.invokevirtual 176, 3) := by decide +kernel
theorem dX10_freeBy_153 : decode cX10_freeBy 153 = .ok (.iadd, 1) := by decide +kernel
theorem dX10_freeBy_154 : decode cX10_freeBy 154 = .ok (.iconst 0, 1) := by decide +kernel
theorem dX10_freeBy_155 : decode cX10_freeBy 155 = .ok (.invokevirtual 209, 3) := by decide +kernel
theorem dX10_freeBy_158 : decode cX10_freeBy 158 = .ok (.iinc 5 1, 3) := by decide +kernel
theorem dX10_freeBy_161 : decode cX10_freeBy 161 = .ok (.goto (-65), 3) := by decide +kernel
theorem dX10_freeBy_164 : decode cX10_freeBy 164 = .ok (.iinc 3 1, 3) := by decide +kernel
theorem dX10_freeBy_167 : decode cX10_freeBy 167 = .ok (.goto (-94), 3) := by decide +kernel
theorem dX10_freeBy_170 : decode cX10_freeBy 170 = .ok (.iconst 0, 1) := by decide +kernel
theorem dX10_freeBy_171 : decode cX10_freeBy 171 = .ok (.istore_n 3, 1) := by decide +kernel
theorem dX10_freeBy_172 : decode cX10_freeBy 172 = .ok (.iconst 0, 1) := by decide +kernel
theorem dX10_freeBy_173 : decode cX10_freeBy 173 = .ok (.istore 4, 2) := by decide +kernel
theorem dX10_freeBy_175 : decode cX10_freeBy 175 = .ok (.iload 4, 2) := by decide +kernel
theorem dX10_freeBy_177 : decode cX10_freeBy 177 = .ok (.sipush 360, 3) := by decide +kernel
theorem dX10_freeBy_180 : decode cX10_freeBy 180 = .ok (.if_icmp .ge 36, 3) := by decide +kernel
theorem dX10_freeBy_183 : decode cX10_freeBy 183 = .ok (.iload_n 3, 1) := by decide +kernel
theorem dX10_freeBy_184 : decode cX10_freeBy 184 = .ok (.aload_n 0, 1) := by decide +kernel
theorem dX10_freeBy_185 : decode cX10_freeBy 185 = .ok (.getfield 54, 3) := by decide +kernel
theorem dX10_freeBy_188 : decode cX10_freeBy 188 = .ok (.sipush 360, 3) := by decide +kernel
theorem dX10_freeBy_191 : decode cX10_freeBy 191 = .ok (.aload_n 0, 1) := by decide +kernel
theorem dX10_freeBy_192 : decode cX10_freeBy 192 = .ok (.invokevirtual 161, 3) := by decide +kernel
theorem dX10_freeBy_195 : decode cX10_freeBy 195 = .ok (.imul, 1) := by decide +kernel
theorem dX10_freeBy_196 : decode cX10_freeBy 196 = .ok (.iload 4, 2) := by decide +kernel
theorem dX10_freeBy_198 : decode cX10_freeBy 198 = .ok (.iadd, 1) := by decide +kernel
theorem dX10_freeBy_199 : decode cX10_freeBy 199 = .ok (.iaload, 1) := by decide +kernel
theorem dX10_freeBy_200 : decode cX10_freeBy 200 = .ok (.ifCond .ne 7, 3) := by decide +kernel
theorem dX10_freeBy_203 : decode cX10_freeBy 203 = .ok (.iconst 1, 1) := by decide +kernel
theorem dX10_freeBy_204 : decode cX10_freeBy 204 = .ok (.goto 4, 3) := by decide +kernel
theorem dX10_freeBy_207 : decode cX10_freeBy 207 = .ok (.iconst 0, 1) := by decide +kernel
theorem dX10_freeBy_208 : decode cX10_freeBy 208 = .ok (.iadd, 1) := by decide +kernel
theorem dX10_freeBy_209 : decode cX10_freeBy 209 = .ok (.istore_n 3, 1) := by decide +kernel
theorem dX10_freeBy_210 : decode cX10_freeBy 210 = .ok (.iinc 4 1, 3) := by decide +kernel
theorem dX10_freeBy_213 : decode cX10_freeBy 213 = .ok (.goto (-38), 3) := by decide +kernel
theorem dX10_freeBy_216 : decode cX10_freeBy 216 = .ok (.aload_n 0, 1) := by decide +kernel
theorem dX10_freeBy_217 : decode cX10_freeBy 217 = .ok (.getfield 60, 3) := by decide +kernel
theorem dX10_freeBy_220 : decode cX10_freeBy 220 = .ok (.iload_n 1, 1) := by decide +kernel
theorem dX10_freeBy_221 : decode cX10_freeBy 221 = .ok (.iload_n 3, 1) := by decide +kernel
theorem dX10_freeBy_222 : decode cX10_freeBy 222 = .ok (.iastore, 1) := by decide +kernel
theorem dX10_freeBy_223 : decode cX10_freeBy 223 = .ok (.iload_n 3, 1) := by decide +kernel
theorem dX10_freeBy_224 : decode cX10_freeBy 224 = .ok (.ireturn, 1) := by decide +kernel
theorem dX10_free_0 : decode cX10_free 0 = .ok (.iload_n 1, 1) := by decide +kernel
theorem dX10_free_1 : decode cX10_free 1 = .ok (.i2l, 1) := by decide +kernel
theorem dX10_free_2 : decode cX10_free 2 = .ok (.lconst 0, 1) := by decide +kernel
theorem dX10_free_3 : decode cX10_free 3 = .ok (.aload_n 0, 1) := by decide +kernel
theorem dX10_free_4 : decode cX10_free 4 = .ok (.invokevirtual 228, 3) := by decide +kernel
theorem dX10_free_7 : decode cX10_free 7 = .ok (.i2l, 1) := by decide +kernel
theorem dX10_free_8 : decode cX10_free 8 = .ok (.invokestatic 65, 3) := by decide +kernel
theorem dX10_free_11 : decode cX10_free 11 = .ok (.ifCond .eq 11, 3) := by decide +kernel
theorem dX10_free_14 : decode cX10_free 14 = .ok (.aload_n 0, 1) := by decide +kernel
theorem dX10_free_15 : decode cX10_free 15 = .ok (.iload_n 1, 1) := by decide +kernel
theorem dX10_free_16 : decode cX10_free 16 = .ok (.invokevirtual 245, 3) := by decide +kernel
theorem dX10_free_19 : decode cX10_free 19 = .ok (.goto 4, 3) := by decide +kernel
theorem dX10_free_22 : decode cX10_free 22 = .ok (.iconst (-1), 1) := by decide +kernel
theorem dX10_free_23 : decode cX10_free 23 = .ok (.ireturn, 1) := by decide +kernel
theorem dX10_fewest_0 : decode cX10_fewest 0 = .ok (.bipush (-4), 2) := by decide +kernel
theorem dX10_fewest_2 : decode cX10_fewest 2 = .ok (.istore_n 1, 1) := by decide +kernel
theorem dX10_fewest_3 : decode cX10_fewest 3 = .ok (.iconst 0, 1) := by decide +kernel
theorem dX10_fewest_4 : decode cX10_fewest 4 = .ok (.istore_n 2, 1) := by decide +kernel
theorem dX10_fewest_5 : decode cX10_fewest 5 = .ok (.iload_n 2, 1) := by decide +kernel
theorem dX10_fewest_6 : decode cX10_fewest 6 = .ok (.aload_n 0, 1) := by decide +kernel
theorem dX10_fewest_7 : decode cX10_fewest 7 = .ok (.invokevirtual 228, 3) := by decide +kernel
theorem dX10_fewest_10 : decode cX10_fewest 10 = .ok (.if_icmp .gt 50, 3) := by decide +kernel
theorem dX10_fewest_13 : decode cX10_fewest 13 = .ok (.iload_n 1, 1) := by decide +kernel
theorem dX10_fewest_14 : decode cX10_fewest 14 = .ok (.bipush (-4), 2) := by decide +kernel
theorem dX10_fewest_16 : decode cX10_fewest 16 = .ok (.if_icmp .eq 13, 3) := by decide +kernel
theorem dX10_fewest_19 : decode cX10_fewest 19 = .ok (.iload_n 1, 1) := by decide +kernel
theorem dX10_fewest_20 : decode cX10_fewest 20 = .ok (.iconst 3, 1) := by decide +kernel
theorem dX10_fewest_21 : decode cX10_fewest 21 = .ok (.if_icmp .ne 12, 3) := by decide +kernel
theorem dX10_fewest_24 : decode cX10_fewest 24 = .ok (.iload_n 2, 1) := by decide +kernel
theorem dX10_fewest_25 : decode cX10_fewest 25 = .ok (.iconst 3, 1) := by decide +kernel
theorem dX10_fewest_26 : decode cX10_fewest 26 = .ok (.if_icmp .ge 7, 3) := by decide +kernel
theorem dX10_fewest_29 : decode cX10_fewest 29 = .ok (.iconst 1, 1) := by decide +kernel
theorem dX10_fewest_30 : decode cX10_fewest 30 = .ok (.goto 4, 3) := by decide +kernel
theorem dX10_fewest_33 : decode cX10_fewest 33 = .ok (.iconst 0, 1) := by decide +kernel
theorem dX10_fewest_34 : decode cX10_fewest 34 = .ok (.istore_n 3, 1) := by decide +kernel
theorem dX10_fewest_35 : decode cX10_fewest 35 = .ok (.iload_n 3, 1) := by decide +kernel
theorem dX10_fewest_36 : decode cX10_fewest 36 = .ok (.ifCond .eq 16, 3) := by decide +kernel
theorem dX10_fewest_39 : decode cX10_fewest 39 = .ok (.aload_n 0, 1) := by decide +kernel
theorem dX10_fewest_40 : decode cX10_fewest 40 = .ok (.iload_n 2, 1) := by decide +kernel
theorem dX10_fewest_41 : decode cX10_fewest 41 = .ok (.invokevirtual 245, 3) := by decide +kernel
theorem dX10_fewest_44 : decode cX10_fewest 44 = .ok (.iconst 1, 1) := by decide +kernel
theorem dX10_fewest_45 : decode cX10_fewest 45 = .ok (.if_icmp .le 7, 3) := by decide +kernel
theorem dX10_fewest_48 : decode cX10_fewest 48 = .ok (.iload_n 2, 1) := by decide +kernel
theorem dX10_fewest_49 : decode cX10_fewest 49 = .ok (.goto 4, 3) := by decide +kernel
theorem dX10_fewest_52 : decode cX10_fewest 52 = .ok (.iload_n 1, 1) := by decide +kernel
theorem dX10_fewest_53 : decode cX10_fewest 53 = .ok (.istore_n 1, 1) := by decide +kernel
theorem dX10_fewest_54 : decode cX10_fewest 54 = .ok (.iinc 2 1, 3) := by decide +kernel
theorem dX10_fewest_57 : decode cX10_fewest 57 = .ok (.goto (-52), 3) := by decide +kernel
theorem dX10_fewest_60 : decode cX10_fewest 60 = .ok (.iload_n 1, 1) := by decide +kernel
theorem dX10_fewest_61 : decode cX10_fewest 61 = .ok (.ireturn, 1) := by decide +kernel
theorem dX10_worth_0 : decode cX10_worth 0 = .ok (.aload_n 0, 1) := by decide +kernel
theorem dX10_worth_1 : decode cX10_worth 1 = .ok (.iload_n 1, 1) := by decide +kernel
theorem dX10_worth_2 : decode cX10_worth 2 = .ok (.invokevirtual 120, 3) := by decide +kernel
theorem dX10_worth_5 : decode cX10_worth 5 = .ok (.ifCond .eq 10, 3) := by decide +kernel
theorem dX10_worth_8 : decode cX10_worth 8 = .ok (.iload_n 2, 1) := by decide +kernel
theorem dX10_worth_9 : decode cX10_worth 9 = .ok (.invokestatic 182, 3) := by decide +kernel
theorem dX10_worth_12 : decode cX10_worth 12 = .ok (.ifCond .ne 5, 3) := by decide +kernel
theorem dX10_worth_15 : decode cX10_worth 15 = .ok (.iconst (-1), 1) := by decide +kernel
theorem dX10_worth_16 : decode cX10_worth 16 = .ok (.ireturn, 1) := by decide +kernel
theorem dX10_worth_17 : decode cX10_worth 17 = .ok (.aload_n 0, 1) := by decide +kernel
theorem dX10_worth_18 : decode cX10_worth 18 = .ok (.aload_n 0, 1) := by decide +kernel
theorem dX10_worth_19 : decode cX10_worth 19 = .ok (.invokevirtual 228, 3) := by decide +kernel
theorem dX10_worth_22 : decode cX10_worth 22 = .ok (.iconst 1, 1) := by decide +kernel
theorem dX10_worth_23 : decode cX10_worth 23 = .ok (.iload_n 1, 1) := by decide +kernel
theorem dX10_worth_24 : decode cX10_worth 24 = .ok (.ishl, 1) := by decide +kernel
theorem dX10_worth_25 : decode cX10_worth 25 = .ok (.iconst (-1), 1) := by decide +kernel
theorem dX10_worth_26 : decode cX10_worth 26 = .ok (.ixor, 1) := by decide +kernel
theorem dX10_worth_27 : decode cX10_worth 27 = .ok (.iand, 1) := by decide +kernel
theorem dX10_worth_28 : decode cX10_worth 28 = .ok (.iload_n 2, 1) := by decide +kernel
theorem dX10_worth_29 : decode cX10_worth 29 = .ok (.invokevirtual 231, 3) := by decide +kernel
theorem dX10_worth_32 : decode cX10_worth 32 = .ok (.istore_n 3, 1) := by decide +kernel
theorem dX10_worth_33 : decode cX10_worth 33 = .ok (.aload_n 0, 1) := by decide +kernel
theorem dX10_worth_34 : decode cX10_worth 34 = .ok (.aload_n 0, 1) := by decide +kernel
theorem dX10_worth_35 : decode cX10_worth 35 = .ok (.invokevirtual 228, 3) := by decide +kernel
theorem dX10_worth_38 : decode cX10_worth 38 = .ok (.iload_n 2, 1) := by decide +kernel
theorem dX10_worth_39 : decode cX10_worth 39 = .ok (.invokevirtual 231, 3) := by decide +kernel
theorem dX10_worth_42 : decode cX10_worth 42 = .ok (.istore 4, 2) := by decide +kernel
theorem dX10_worth_44 : decode cX10_worth 44 = .ok (.iload_n 3, 1) := by decide +kernel
theorem dX10_worth_45 : decode cX10_worth 45 = .ok (.bipush (-4), 2) := by decide +kernel
theorem dX10_worth_47 : decode cX10_worth 47 = .ok (.if_icmp .eq 10, 3) := by decide +kernel
theorem dX10_worth_50 : decode cX10_worth 50 = .ok (.iload 4, 2) := by decide +kernel
theorem dX10_worth_52 : decode cX10_worth 52 = .ok (.bipush (-4), 2) := by decide +kernel
theorem dX10_worth_54 : decode cX10_worth 54 = .ok (.if_icmp .ne 8, 3) := by decide +kernel
theorem dX10_worth_57 : decode cX10_worth 57 = .ok (.bipush (-4), 2) := by decide +kernel
theorem dX10_worth_59 : decode cX10_worth 59 = .ok (.goto 7, 3) := by decide +kernel
theorem dX10_worth_62 : decode cX10_worth 62 = .ok (.iload_n 3, 1) := by decide +kernel
theorem dX10_worth_63 : decode cX10_worth 63 = .ok (.iload 4, 2) := by decide +kernel
theorem dX10_worth_65 : decode cX10_worth 65 = .ok (.isub, 1) := by decide +kernel
theorem dX10_worth_66 : decode cX10_worth 66 = .ok (.ireturn, 1) := by decide +kernel
theorem dX10_picture_0 : decode cX10_picture 0 = .ok (.iload_n 1, 1) := by decide +kernel
theorem dX10_picture_1 : decode cX10_picture 1 = .ok (.i2l, 1) := by decide +kernel
theorem dX10_picture_2 : decode cX10_picture 2 = .ok (.lconst 0, 1) := by decide +kernel
theorem dX10_picture_3 : decode cX10_picture 3 = .ok (.ldc2_w 185, 3) := by decide +kernel
theorem dX10_picture_6 : decode cX10_picture 6 = .ok (.invokestatic 65, 3) := by decide +kernel
theorem dX10_picture_9 : decode cX10_picture 9 = .ok (.ifCond .eq 31, 3) := by decide +kernel
theorem dX10_picture_12 : decode cX10_picture 12 = .ok (.aload_n 0, 1) := by decide +kernel
theorem dX10_picture_13 : decode cX10_picture 13 = .ok (.iload_n 2, 1) := by decide +kernel
theorem dX10_picture_14 : decode cX10_picture 14 = .ok (.invokevirtual 115, 3) := by decide +kernel
theorem dX10_picture_17 : decode cX10_picture 17 = .ok (.ifCond .eq 23, 3) := by decide +kernel
theorem dX10_picture_20 : decode cX10_picture 20 = .ok (.iload_n 3, 1) := by decide +kernel
theorem dX10_picture_21 : decode cX10_picture 21 = .ok (.invokestatic 182, 3) := by decide +kernel
theorem dX10_picture_24 : decode cX10_picture 24 = .ok (.ifCond .eq 16, 3) := by decide +kernel
theorem dX10_picture_27 : decode cX10_picture 27 = .ok (.iload 4, 2) := by decide +kernel
theorem dX10_picture_29 : decode cX10_picture 29 = .ok (.i2l, 1) := by decide +kernel
theorem dX10_picture_30 : decode cX10_picture 30 = .ok (.lconst 0, 1) := by decide +kernel
theorem dX10_picture_31 : decode cX10_picture 31 = .ok (.ldc2_w 103, 3) := by decide +kernel
theorem dX10_picture_34 : decode cX10_picture 34 = .ok (.invokestatic 65, 3) := by decide +kernel
theorem dX10_picture_37 : decode cX10_picture 37 = .ok (.ifCond .ne 5, 3) := by decide +kernel
theorem dX10_picture_40 : decode cX10_picture 40 = .ok (.iconst (-1), 1) := by decide +kernel
theorem dX10_picture_41 : decode cX10_picture 41 = .ok (.ireturn, 1) := by decide +kernel
theorem dX10_picture_42 : decode cX10_picture 42 = .ok (.aload_n 0, 1) := by decide +kernel
theorem dX10_picture_43 : decode cX10_picture 43 = .ok (.getfield 40, 3) := by decide +kernel
theorem dX10_picture_46 : decode cX10_picture 46 = .ok (.iconst 0, 1) := by decide +kernel
theorem dX10_picture_47 : decode cX10_picture 47 = .ok (.iaload, 1) := by decide +kernel
theorem dX10_picture_48 : decode cX10_picture 48 = .ok (.bipush 30, 2) := by decide +kernel
theorem dX10_picture_50 : decode cX10_picture 50 = .ok (.if_icmp .ne 6, 3) := by decide +kernel
theorem dX10_picture_53 : decode cX10_picture 53 = .ok (.bipush (-3), 2) := by decide +kernel
theorem dX10_picture_55 : decode cX10_picture 55 = .ok (.ireturn, 1) := by decide +kernel
theorem dX10_picture_56 : decode cX10_picture 56 = .ok (.iconst 4, 1) := by decide +kernel
theorem dX10_picture_57 : decode cX10_picture 57 = .ok (.aload_n 0, 1) := by decide +kernel
theorem dX10_picture_58 : decode cX10_picture 58 = .ok (.getfield 40, 3) := by decide +kernel
theorem dX10_picture_61 : decode cX10_picture 61 = .ok (.iconst 0, 1) := by decide +kernel
theorem dX10_picture_62 : decode cX10_picture 62 = .ok (.iaload, 1) := by decide +kernel
theorem dX10_picture_63 : decode cX10_picture 63 = .ok (.imul, 1) := by decide +kernel
theorem dX10_picture_64 : decode cX10_picture 64 = .ok (.istore 5, 2) := by decide +kernel
theorem dX10_picture_66 : decode cX10_picture 66 = .ok (.aload_n 0, 1) := by decide +kernel
theorem dX10_picture_67 : decode cX10_picture 67 = .ok (.getfield 43, 3) := by decide +kernel
theorem dX10_picture_70 : decode cX10_picture 70 = .ok (.iload 5, 2) := by decide +kernel
theorem dX10_picture_72 : decode cX10_picture 72 = .ok (.iload_n 1, 1) := by decide +kernel
theorem dX10_picture_73 : decode cX10_picture 73 = .ok (.iastore, 1) := by decide +kernel
theorem dX10_picture_74 : decode cX10_picture 74 = .ok (.aload_n 0, 1) := by decide +kernel
theorem dX10_picture_75 : decode cX10_picture 75 = .ok (.getfield 43, 3) := by decide +kernel
theorem dX10_picture_78 : decode cX10_picture 78 = .ok (.iload 5, 2) := by decide +kernel
theorem dX10_picture_80 : decode cX10_picture 80 = .ok (.iconst 1, 1) := by decide +kernel
theorem dX10_picture_81 : decode cX10_picture 81 = .ok (.iadd, 1) := by decide +kernel
theorem dX10_picture_82 : decode cX10_picture 82 = .ok (.iload_n 2, 1) := by decide +kernel
theorem dX10_picture_83 : decode cX10_picture 83 = .ok (.iastore, 1) := by decide +kernel
theorem dX10_picture_84 : decode cX10_picture 84 = .ok (.aload_n 0, 1) := by decide +kernel
theorem dX10_picture_85 : decode cX10_picture 85 = .ok (.getfield 43, 3) := by decide +kernel
theorem dX10_picture_88 : decode cX10_picture 88 = .ok (.iload 5, 2) := by decide +kernel
theorem dX10_picture_90 : decode cX10_picture 90 = .ok (.iconst 2, 1) := by decide +kernel
theorem dX10_picture_91 : decode cX10_picture 91 = .ok (.iadd, 1) := by decide +kernel
theorem dX10_picture_92 : decode cX10_picture 92 = .ok (.iload_n 3, 1) := by decide +kernel
theorem dX10_picture_93 : decode cX10_picture 93 = .ok (.iastore, 1) := by decide +kernel
theorem dX10_picture_94 : decode cX10_picture 94 = .ok (.aload_n 0, 1) := by decide +kernel
theorem dX10_picture_95 : decode cX10_picture 95 = .ok (.getfield 43, 3) := by decide +kernel
theorem dX10_picture_98 : decode cX10_picture 98 = .ok (.iload 5, 2) := by decide +kernel
theorem dX10_picture_100 : decode cX10_picture 100 = .ok (.iconst 3, 1) := by decide +kernel
theorem dX10_picture_101 : decode cX10_picture 101 = .ok (.iadd, 1) := by decide +kernel
theorem dX10_picture_102 : decode cX10_picture 102 = .ok (.iload 4, 2) := by decide +kernel
theorem dX10_picture_104 : decode cX10_picture 104 = .ok (.iastore, 1) := by decide +kernel
theorem dX10_picture_105 : decode cX10_picture 105 = .ok (.aload_n 0, 1) := by decide +kernel
theorem dX10_picture_106 : decode cX10_picture 106 = .ok (.getfield 40, 3) := by decide +kernel
theorem dX10_picture_109 : decode cX10_picture 109 = .ok (.iconst 0, 1) := by decide +kernel
theorem dX10_picture_110 : decode cX10_picture 110 = .ok (.dup2, 1) := by decide +kernel
theorem dX10_picture_111 : decode cX10_picture 111 = .ok (.iaload, 1) := by decide +kernel
theorem dX10_picture_112 : decode cX10_picture 112 = .ok (.iconst 1, 1) := by decide +kernel
theorem dX10_picture_113 : decode cX10_picture 113 = .ok (.iadd, 1) := by decide +kernel
theorem dX10_picture_114 : decode cX10_picture 114 = .ok (.iastore, 1) := by decide +kernel
theorem dX10_picture_115 : decode cX10_picture 115 = .ok (.aload_n 0, 1) := by decide +kernel
theorem dX10_picture_116 : decode cX10_picture 116 = .ok (.getfield 40, 3) := by decide +kernel
theorem dX10_picture_119 : decode cX10_picture 119 = .ok (.iconst 0, 1) := by decide +kernel
theorem dX10_picture_120 : decode cX10_picture 120 = .ok (.iaload, 1) := by decide +kernel
theorem dX10_picture_121 : decode cX10_picture 121 = .ok (.ireturn, 1) := by decide +kernel
theorem dX10_noFilm_0 : decode cX10_noFilm 0 = .ok (.aload_n 0, 1) := by decide +kernel
theorem dX10_noFilm_1 : decode cX10_noFilm 1 = .ok (.getfield 40, 3) := by decide +kernel
theorem dX10_noFilm_4 : decode cX10_noFilm 4 = .ok (.iconst 0, 1) := by decide +kernel
theorem dX10_noFilm_5 : decode cX10_noFilm 5 = .ok (.iaload, 1) := by decide +kernel
theorem dX10_noFilm_6 : decode cX10_noFilm 6 = .ok (.istore_n 1, 1) := by decide +kernel
theorem dX10_noFilm_7 : decode cX10_noFilm 7 = .ok (.aload_n 0, 1) := by decide +kernel
theorem dX10_noFilm_8 : decode cX10_noFilm 8 = .ok (.getfield 40, 3) := by decide +kernel
theorem dX10_noFilm_11 : decode cX10_noFilm 11 = .ok (.iconst 0, 1) := by decide +kernel
theorem dX10_noFilm_12 : decode cX10_noFilm 12 = .ok (.iconst 0, 1) := by decide +kernel
theorem dX10_noFilm_13 : decode cX10_noFilm 13 = .ok (.iastore, 1) := by decide +kernel
theorem dX10_noFilm_14 : decode cX10_noFilm 14 = .ok (.iload_n 1, 1) := by decide +kernel
theorem dX10_noFilm_15 : decode cX10_noFilm 15 = .ok (.ireturn, 1) := by decide +kernel
theorem dX10_off_0 : decode cX10_off 0 = .ok (.iload_n 0, 1) := by decide +kernel
theorem dX10_off_1 : decode cX10_off 1 = .ok (.iload_n 1, 1) := by decide +kernel
theorem dX10_off_2 : decode cX10_off 2 = .ok (.if_icmp .ge 9, 3) := by decide +kernel
theorem dX10_off_5 : decode cX10_off 5 = .ok (.iload_n 1, 1) := by decide +kernel
theorem dX10_off_6 : decode cX10_off 6 = .ok (.iload_n 0, 1) := by decide +kernel
theorem dX10_off_7 : decode cX10_off 7 = .ok (.isub, 1) := by decide +kernel
theorem dX10_off_8 : decode cX10_off 8 = .ok (.goto 6, 3) := by decide +kernel
theorem dX10_off_11 : decode cX10_off 11 = .ok (.iload_n 0, 1) := by decide +kernel
theorem dX10_off_12 : decode cX10_off 12 = .ok (.iload_n 1, 1) := by decide +kernel
theorem dX10_off_13 : decode cX10_off 13 = .ok (.isub, 1) := by decide +kernel
theorem dX10_off_14 : decode cX10_off 14 = .ok (.istore_n 2, 1) := by decide +kernel
theorem dX10_off_15 : decode cX10_off 15 = .ok (.iload_n 2, 1) := by decide +kernel
theorem dX10_off_16 : decode cX10_off 16 = .ok (.sipush 180, 3) := by decide +kernel
theorem dX10_off_19 : decode cX10_off 19 = .ok (.if_icmp .le 11, 3) := by decide +kernel
theorem dX10_off_22 : decode cX10_off 22 = .ok (.sipush 360, 3) := by decide +kernel
theorem dX10_off_25 : decode cX10_off 25 = .ok (.iload_n 2, 1) := by decide +kernel
theorem dX10_off_26 : decode cX10_off 26 = .ok (.isub, 1) := by decide +kernel
theorem dX10_off_27 : decode cX10_off 27 = .ok (.goto 4, 3) := by decide +kernel
theorem dX10_off_30 : decode cX10_off 30 = .ok (.iload_n 2, 1) := by decide +kernel
theorem dX10_off_31 : decode cX10_off 31 = .ok (.ireturn, 1) := by decide +kernel
theorem dX10_mayBe_0 : decode cX10_mayBe 0 = .ok (.iconst 1, 1) := by decide +kernel
theorem dX10_mayBe_1 : decode cX10_mayBe 1 = .ok (.istore_n 3, 1) := by decide +kernel
theorem dX10_mayBe_2 : decode cX10_mayBe 2 = .ok (.iconst 0, 1) := by decide +kernel
theorem dX10_mayBe_3 : decode cX10_mayBe 3 = .ok (.istore 4, 2) := by decide +kernel
theorem dX10_mayBe_5 : decode cX10_mayBe 5 = .ok (.iload 4, 2) := by decide +kernel
theorem dX10_mayBe_7 : decode cX10_mayBe 7 = .ok (.aload_n 0, 1) := by decide +kernel
theorem dX10_mayBe_8 : decode cX10_mayBe 8 = .ok (.getfield 40, 3) := by decide +kernel
theorem dX10_mayBe_11 : decode cX10_mayBe 11 = .ok (.iconst 0, 1) := by decide +kernel
theorem dX10_mayBe_12 : decode cX10_mayBe 12 = .ok (.iaload, 1) := by decide +kernel
theorem dX10_mayBe_13 : decode cX10_mayBe 13 = .ok (.if_icmp .ge 89, 3) := by decide +kernel
theorem dX10_mayBe_16 : decode cX10_mayBe 16 = .ok (.iload_n 3, 1) := by decide +kernel
theorem dX10_mayBe_17 : decode cX10_mayBe 17 = .ok (.ifCond .eq 85, 3) := by decide +kernel
theorem dX10_mayBe_20 : decode cX10_mayBe 20 = .ok (.iconst 4, 1) := by decide +kernel
theorem dX10_mayBe_21 : decode cX10_mayBe 21 = .ok (.iload 4, 2) := by decide +kernel
theorem dX10_mayBe_23 : decode cX10_mayBe 23 = .ok (.imul, 1) := by decide +kernel
theorem dX10_mayBe_24 : decode cX10_mayBe 24 = .ok (.istore 5, 2) := by decide +kernel
theorem dX10_mayBe_26 : decode cX10_mayBe 26 = .ok (.aload_n 0, 1) := by decide +kernel
theorem dX10_mayBe_27 : decode cX10_mayBe 27 = .ok (.iload_n 1, 1) := by decide +kernel
theorem dX10_mayBe_28 : decode cX10_mayBe 28 = .ok (.iload_n 2, 1) := by decide +kernel
theorem dX10_mayBe_29 : decode cX10_mayBe 29 = .ok (.aload_n 0, 1) := by decide +kernel
theorem dX10_mayBe_30 : decode cX10_mayBe 30 = .ok (.getfield 43, 3) := by decide +kernel
theorem dX10_mayBe_33 : decode cX10_mayBe 33 = .ok (.iload 5, 2) := by decide +kernel
theorem dX10_mayBe_35 : decode cX10_mayBe 35 = .ok (.iaload, 1) := by decide +kernel
theorem dX10_mayBe_36 : decode cX10_mayBe 36 = .ok (.invokevirtual 187, 3) := by decide +kernel
theorem dX10_mayBe_39 : decode cX10_mayBe 39 = .ok (.aload_n 0, 1) := by decide +kernel
theorem dX10_mayBe_40 : decode cX10_mayBe 40 = .ok (.getfield 170, 3) := by decide +kernel
theorem dX10_mayBe_43 : decode cX10_mayBe 43 = .ok (.aload_n 0, 1) := by decide +kernel
theorem dX10_mayBe_44 : decode cX10_mayBe 44 = .ok (.getfield 43, 3) := by decide +kernel
theorem dX10_mayBe_47 : decode cX10_mayBe 47 = .ok (.iload 5, 2) := by decide +kernel
theorem dX10_mayBe_49 : decode cX10_mayBe 49 = .ok (.iaload, 1) := by decide +kernel
theorem dX10_mayBe_50 : decode cX10_mayBe 50 = .ok (.if_icmp .ne 44, 3) := by decide +kernel
theorem dX10_mayBe_53 : decode cX10_mayBe 53 = .ok (.aload_n 0, 1) := by decide +kernel
theorem dX10_mayBe_54 : decode cX10_mayBe 54 = .ok (.aload_n 0, 1) := by decide +kernel
theorem dX10_mayBe_55 : decode cX10_mayBe 55 = .ok (.getfield 43, 3) := by decide +kernel
theorem dX10_mayBe_58 : decode cX10_mayBe 58 = .ok (.iload 5, 2) := by decide +kernel
theorem dX10_mayBe_60 : decode cX10_mayBe 60 = .ok (.iconst 1, 1) := by decide +kernel
theorem dX10_mayBe_61 : decode cX10_mayBe 61 = .ok (.iadd, 1) := by decide +kernel
theorem dX10_mayBe_62 : decode cX10_mayBe 62 = .ok (.iaload, 1) := by decide +kernel
theorem dX10_mayBe_63 : decode cX10_mayBe 63 = .ok (.invokevirtual 191, 3) := by decide +kernel
theorem dX10_mayBe_66 : decode cX10_mayBe 66 = .ok (.aload_n 0, 1) := by decide +kernel
theorem dX10_mayBe_67 : decode cX10_mayBe 67 = .ok (.getfield 43, 3) := by decide +kernel
theorem dX10_mayBe_70 : decode cX10_mayBe 70 = .ok (.iload 5, 2) := by decide +kernel
theorem dX10_mayBe_72 : decode cX10_mayBe 72 = .ok (.iconst 2, 1) := by decide +kernel
theorem dX10_mayBe_73 : decode cX10_mayBe 73 = .ok (.iadd, 1) := by decide +kernel
theorem dX10_mayBe_74 : decode cX10_mayBe 74 = .ok (.iaload, 1) := by decide +kernel
theorem dX10_mayBe_75 : decode cX10_mayBe 75 = .ok (.invokestatic 248, 3) := by decide +kernel
theorem dX10_mayBe_78 : decode cX10_mayBe 78 = .ok (.aload_n 0, 1) := by decide +kernel
theorem dX10_mayBe_79 : decode cX10_mayBe 79 = .ok (.getfield 43, 3) := by decide +kernel
theorem dX10_mayBe_82 : decode cX10_mayBe 82 = .ok (.iload 5, 2) := by decide +kernel
theorem dX10_mayBe_84 : decode cX10_mayBe 84 = .ok (.iconst 3, 1) := by decide +kernel
theorem dX10_mayBe_85 : decode cX10_mayBe 85 = .ok (.iadd, 1) := by decide +kernel
theorem dX10_mayBe_86 : decode cX10_mayBe 86 = .ok (.iaload, 1) := by decide +kernel
theorem dX10_mayBe_87 : decode cX10_mayBe 87 = .ok (.if_icmp .gt 7, 3) := by decide +kernel
theorem dX10_mayBe_90 : decode cX10_mayBe 90 = .ok (.iconst 1, 1) := by decide +kernel
theorem dX10_mayBe_91 : decode cX10_mayBe 91 = .ok (.goto 4, 3) := by decide +kernel
theorem dX10_mayBe_94 : decode cX10_mayBe 94 = .ok (.iconst 0, 1) := by decide +kernel
theorem dX10_mayBe_95 : decode cX10_mayBe 95 = .ok (.istore_n 3, 1) := by decide +kernel
theorem dX10_mayBe_96 : decode cX10_mayBe 96 = .ok (.iinc 4 1, 3) := by decide +kernel
theorem dX10_mayBe_99 : decode cX10_mayBe 99 = .ok (.goto (-94), 3) := by decide +kernel
theorem dX10_mayBe_102 : decode cX10_mayBe 102 = .ok (.iload_n 3, 1) := by decide +kernel
theorem dX10_mayBe_103 : decode cX10_mayBe 103 = .ok (.ireturn, 1) := by decide +kernel
theorem dX10_may_0 : decode cX10_may 0 = .ok (.iload_n 1, 1) := by decide +kernel
theorem dX10_may_1 : decode cX10_may 1 = .ok (.invokestatic 156, 3) := by decide +kernel
theorem dX10_may_4 : decode cX10_may 4 = .ok (.ifCond .eq 10, 3) := by decide +kernel
theorem dX10_may_7 : decode cX10_may 7 = .ok (.iload_n 2, 1) := by decide +kernel
theorem dX10_may_8 : decode cX10_may 8 = .ok (.invokestatic 182, 3) := by decide +kernel
theorem dX10_may_11 : decode cX10_may 11 = .ok (.ifCond .ne 5, 3) := by decide +kernel
theorem dX10_may_14 : decode cX10_may 14 = .ok (.iconst (-1), 1) := by decide +kernel
theorem dX10_may_15 : decode cX10_may 15 = .ok (.ireturn, 1) := by decide +kernel
theorem dX10_may_16 : decode cX10_may 16 = .ok (.aload_n 0, 1) := by decide +kernel
theorem dX10_may_17 : decode cX10_may 17 = .ok (.aload_n 0, 1) := by decide +kernel
theorem dX10_may_18 : decode cX10_may 18 = .ok (.getfield 28, 3) := by decide +kernel
theorem dX10_may_21 : decode cX10_may 21 = .ok (.iconst 0, 1) := by decide +kernel
theorem dX10_may_22 : decode cX10_may 22 = .ok (.iaload, 1) := by decide +kernel
theorem dX10_may_23 : decode cX10_may 23 = .ok (.putfield 149, 3) := by decide +kernel
theorem dX10_may_26 : decode cX10_may 26 = .ok (.aload_n 0, 1) := by decide +kernel
theorem dX10_may_27 : decode cX10_may 27 = .ok (.iload_n 1, 1) := by decide +kernel
theorem dX10_may_28 : decode cX10_may 28 = .ok (.iload_n 2, 1) := by decide +kernel
theorem dX10_may_29 : decode cX10_may 29 = .ok (.invokevirtual 251, 3) := by decide +kernel
theorem dX10_may_32 : decode cX10_may 32 = .ok (.ifCond .eq 7, 3) := by decide +kernel
theorem dX10_may_35 : decode cX10_may 35 = .ok (.iconst 1, 1) := by decide +kernel
theorem dX10_may_36 : decode cX10_may 36 = .ok (.goto 4, 3) := by decide +kernel
theorem dX10_may_39 : decode cX10_may 39 = .ok (.iconst 0, 1) := by decide +kernel
theorem dX10_may_40 : decode cX10_may 40 = .ok (.ireturn, 1) := by decide +kernel
theorem dX10_looked_0 : decode cX10_looked 0 = .ok (.iload_n 1, 1) := by decide +kernel
theorem dX10_looked_1 : decode cX10_looked 1 = .ok (.invokestatic 156, 3) := by decide +kernel
theorem dX10_looked_4 : decode cX10_looked 4 = .ok (.ifCond .eq 13, 3) := by decide +kernel
theorem dX10_looked_7 : decode cX10_looked 7 = .ok (.iload_n 2, 1) := by decide +kernel
theorem dX10_looked_8 : decode cX10_looked 8 = .ok (.i2l, 1) := by decide +kernel
theorem dX10_looked_9 : decode cX10_looked 9 = .ok (.lconst 0, 1) := by decide +kernel
theorem dX10_looked_10 : decode cX10_looked 10 = .ok (.lconst 1, 1) := by decide +kernel
theorem dX10_looked_11 : decode cX10_looked 11 = .ok (.invokestatic 65, 3) := by decide +kernel
theorem dX10_looked_14 : decode cX10_looked 14 = .ok (.ifCond .ne 5, 3) := by decide +kernel
theorem dX10_looked_17 : decode cX10_looked 17 = .ok (.iconst (-1), 1) := by decide +kernel
theorem dX10_looked_18 : decode cX10_looked 18 = .ok (.ireturn, 1) := by decide +kernel
theorem dX10_looked_19 : decode cX10_looked 19 = .ok (.aload_n 0, 1) := by decide +kernel
theorem dX10_looked_20 : decode cX10_looked 20 = .ok (.aload_n 0, 1) := by decide +kernel
theorem dX10_looked_21 : decode cX10_looked 21 = .ok (.getfield 28, 3) := by decide +kernel
theorem dX10_looked_24 : decode cX10_looked 24 = .ok (.iconst 0, 1) := by decide +kernel
theorem dX10_looked_25 : decode cX10_looked 25 = .ok (.iaload, 1) := by decide +kernel
theorem dX10_looked_26 : decode cX10_looked 26 = .ok (.putfield 149, 3) := by decide +kernel
theorem dX10_looked_29 : decode cX10_looked 29 = .ok (.iconst 0, 1) := by decide +kernel
theorem dX10_looked_30 : decode cX10_looked 30 = .ok (.istore_n 3, 1) := by decide +kernel
theorem dX10_looked_31 : decode cX10_looked 31 = .ok (.bipush (-4), 2) := by decide +kernel
theorem dX10_looked_33 : decode cX10_looked 33 = .ok (.istore 4, 2) := by decide +kernel
theorem dX10_looked_35 : decode cX10_looked 35 = .ok (.sipush 359, 3) := by decide +kernel
theorem dX10_looked_38 : decode cX10_looked 38 = .ok (.istore 5, 2) := by decide +kernel
theorem dX10_looked_40 : decode cX10_looked 40 = .ok (.iload 5, 2) := by decide +kernel
theorem dX10_looked_42 : decode cX10_looked 42 = .ok (.ifCond .lt 26, 3) := by decide +kernel
theorem dX10_looked_45 : decode cX10_looked 45 = .ok (.aload_n 0, 1) := by decide +kernel
theorem dX10_looked_46 : decode cX10_looked 46 = .ok (.iload_n 1, 1) := by decide +kernel
theorem dX10_looked_47 : decode cX10_looked 47 = .ok (.iload 5, 2) := by decide +kernel
theorem dX10_looked_49 : decode cX10_looked 49 = .ok (.invokevirtual 251, 3) := by decide +kernel
theorem dX10_looked_52 : decode cX10_looked 52 = .ok (.ifCond .eq 10, 3) := by decide +kernel
theorem dX10_looked_55 : decode cX10_looked 55 = .ok (.iinc 3 1, 3) := by decide +kernel
theorem dX10_looked_58 : decode cX10_looked 58 = .ok (.iload 5, 2) := by decide +kernel
theorem dX10_looked_60 : decode cX10_looked 60 = .ok (.istore 4, 2) := by decide +kernel
theorem dX10_looked_62 : decode cX10_looked 62 = .ok (.iinc 5 (-1), 3) := by decide +kernel
theorem dX10_looked_65 : decode cX10_looked 65 = .ok (.goto (-25), 3) := by decide +kernel
theorem dX10_looked_68 : decode cX10_looked 68 = .ok (.iload_n 2, 1) := by decide +kernel
theorem dX10_looked_69 : decode cX10_looked 69 = .ok (.ifCond .ne 7, 3) := by decide +kernel
theorem dX10_looked_72 : decode cX10_looked 72 = .ok (.iload_n 3, 1) := by decide +kernel
theorem dX10_looked_73 : decode cX10_looked 73 = .ok (.goto 5, 3) := by decide +kernel
theorem dX10_looked_76 : decode cX10_looked 76 = .ok (.iload 4, 2) := by decide +kernel
theorem dX10_looked_78 : decode cX10_looked 78 = .ok (.ireturn, 1) := by decide +kernel
theorem dX10_pushed_0 : decode cX10_pushed 0 = .ok (.iload_n 1, 1) := by decide +kernel
theorem dX10_pushed_1 : decode cX10_pushed 1 = .ok (.invokestatic 156, 3) := by decide +kernel
theorem dX10_pushed_4 : decode cX10_pushed 4 = .ok (.ifCond .eq 33, 3) := by decide +kernel
theorem dX10_pushed_7 : decode cX10_pushed 7 = .ok (.iload_n 2, 1) := by decide +kernel
theorem dX10_pushed_8 : decode cX10_pushed 8 = .ok (.invokestatic 182, 3) := by decide +kernel
theorem dX10_pushed_11 : decode cX10_pushed 11 = .ok (.ifCond .eq 26, 3) := by decide +kernel
theorem dX10_pushed_14 : decode cX10_pushed 14 = .ok (.iload_n 3, 1) := by decide +kernel
theorem dX10_pushed_15 : decode cX10_pushed 15 = .ok (.i2l, 1) := by decide +kernel
theorem dX10_pushed_16 : decode cX10_pushed 16 = .ok (.lconst 0, 1) := by decide +kernel
theorem dX10_pushed_17 : decode cX10_pushed 17 = .ok (.ldc2_w 226, 3) := by decide +kernel
theorem dX10_pushed_20 : decode cX10_pushed 20 = .ok (.invokestatic 65, 3) := by decide +kernel
theorem dX10_pushed_23 : decode cX10_pushed 23 = .ok (.ifCond .eq 14, 3) := by decide +kernel
theorem dX10_pushed_26 : decode cX10_pushed 26 = .ok (.iload 4, 2) := by decide +kernel
theorem dX10_pushed_28 : decode cX10_pushed 28 = .ok (.i2l, 1) := by decide +kernel
theorem dX10_pushed_29 : decode cX10_pushed 29 = .ok (.lconst 0, 1) := by decide +kernel
theorem dX10_pushed_30 : decode cX10_pushed 30 = .ok (.lconst 1, 1) := by decide +kernel
theorem dX10_pushed_31 : decode cX10_pushed 31 = .ok (.invokestatic 65, 3) := by decide +kernel
theorem dX10_pushed_34 : decode cX10_pushed 34 = .ok (.ifCond .ne 7, 3) := by decide +kernel
theorem dX10_pushed_37 : decode cX10_pushed 37 = .ok (.sipush (-10001), 3) := by decide +kernel
theorem dX10_pushed_40 : decode cX10_pushed 40 = .ok (.ireturn, 1) := by decide +kernel
theorem dX10_pushed_41 : decode cX10_pushed 41 = .ok (.iconst 0, 1) := by decide +kernel
theorem dX10_pushed_42 : decode cX10_pushed 42 = .ok (.istore 5, 2) := by decide +kernel
theorem dX10_pushed_44 : decode cX10_pushed 44 = .ok (.sipush (-10004), 3) := by decide +kernel
theorem dX10_pushed_47 : decode cX10_pushed 47 = .ok (.istore 6, 2) := by decide +kernel
theorem dX10_pushed_49 : decode cX10_pushed 49 = .ok (.iload_n 3, 1) := by decide +kernel
theorem dX10_pushed_50 : decode cX10_pushed 50 = .ok (.ineg, 1) := by decide +kernel
theorem dX10_pushed_51 : decode cX10_pushed 51 = .ok (.istore 7, 2) := by decide +kernel
theorem dX10_pushed_53 : decode cX10_pushed 53 = .ok (.iload 7, 2) := by decide +kernel
theorem dX10_pushed_55 : decode cX10_pushed 55 = .ok (.iload_n 3, 1) := by decide +kernel
theorem dX10_pushed_56 : decode cX10_pushed 56 = .ok (.if_icmp .gt 77, 3) := by decide +kernel
theorem dX10_pushed_59 : decode cX10_pushed 59 = .ok (.aload_n 0, 1) := by decide +kernel
theorem dX10_pushed_60 : decode cX10_pushed 60 = .ok (.iload 7, 2) := by decide +kernel
theorem dX10_pushed_62 : decode cX10_pushed 62 = .ok (.putfield 149, 3) := by decide +kernel
theorem dX10_pushed_65 : decode cX10_pushed 65 = .ok (.aload_n 0, 1) := by decide +kernel
theorem dX10_pushed_66 : decode cX10_pushed 66 = .ok (.iload_n 1, 1) := by decide +kernel
theorem dX10_pushed_67 : decode cX10_pushed 67 = .ok (.iload_n 2, 1) := by decide +kernel
theorem dX10_pushed_68 : decode cX10_pushed 68 = .ok (.invokevirtual 251, 3) := by decide +kernel
theorem dX10_pushed_71 : decode cX10_pushed 71 = .ok (.ifCond .eq 56, 3) := by decide +kernel
theorem dX10_pushed_74 : decode cX10_pushed 74 = .ok (.iinc 5 1, 3) := by decide +kernel
theorem dX10_pushed_77 : decode cX10_pushed 77 = .ok (.iload 6, 2) := by decide +kernel
theorem dX10_pushed_79 : decode cX10_pushed 79 = .ok (.ifCond .ge 9, 3) := by decide +kernel
theorem dX10_pushed_82 : decode cX10_pushed 82 = .ok (.iload 6, 2) := by decide +kernel
theorem dX10_pushed_84 : decode cX10_pushed 84 = .ok (.ineg, 1) := by decide +kernel
theorem dX10_pushed_85 : decode cX10_pushed 85 = .ok (.goto 5, 3) := by decide +kernel
theorem dX10_pushed_88 : decode cX10_pushed 88 = .ok (.iload 6, 2) := by decide +kernel
theorem dX10_pushed_90 : decode cX10_pushed 90 = .ok (.istore 8, 2) := by decide +kernel
theorem dX10_pushed_92 : decode cX10_pushed 92 = .ok (.iload 6, 2) := by decide +kernel
theorem dX10_pushed_94 : decode cX10_pushed 94 = .ok (.sipush (-10004), 3) := by decide +kernel
theorem dX10_pushed_97 : decode cX10_pushed 97 = .ok (.if_icmp .eq 21, 3) := by decide +kernel
theorem dX10_pushed_100 : decode cX10_pushed 100 = .ok (.iload 7, 2) := by decide +kernel
theorem dX10_pushed_102 : decode cX10_pushed 102 = .ok (.ifCond .ge 9, 3) := by decide +kernel
theorem dX10_pushed_105 : decode cX10_pushed 105 = .ok (.iload 7, 2) := by decide +kernel
theorem dX10_pushed_107 : decode cX10_pushed 107 = .ok (.ineg, 1) := by decide +kernel
theorem dX10_pushed_108 : decode cX10_pushed 108 = .ok (.goto 5, 3) := by decide +kernel
theorem dX10_pushed_111 : decode cX10_pushed 111 = .ok (.iload 7, 2) := by decide +kernel
theorem dX10_pushed_113 : decode cX10_pushed 113 = .ok (.iload 8, 2) := by decide +kernel
theorem dX10_pushed_115 : decode cX10_pushed 115 = .ok (.if_icmp .ge 8, 3) := by decide +kernel
theorem dX10_pushed_118 : decode cX10_pushed 118 = .ok (.iload 7, 2) := by decide +kernel
theorem dX10_pushed_120 : decode cX10_pushed 120 = .ok (.goto 5, 3) := by decide +kernel
theorem dX10_pushed_123 : decode cX10_pushed 123 = .ok (.iload 6, 2) := by decide +kernel
theorem dX10_pushed_125 : decode cX10_pushed 125 = .ok (.istore 6, 2) := by decide +kernel
theorem dX10_pushed_127 : decode cX10_pushed 127 = .ok (.iinc 7 1, 3) := by decide +kernel
theorem dX10_pushed_130 : decode cX10_pushed 130 = .ok (.goto (-77), 3) := by decide +kernel
theorem dX10_pushed_133 : decode cX10_pushed 133 = .ok (.iload 4, 2) := by decide +kernel
theorem dX10_pushed_135 : decode cX10_pushed 135 = .ok (.ifCond .ne 8, 3) := by decide +kernel
theorem dX10_pushed_138 : decode cX10_pushed 138 = .ok (.iload 5, 2) := by decide +kernel
theorem dX10_pushed_140 : decode cX10_pushed 140 = .ok (.goto 5, 3) := by decide +kernel
theorem dX10_pushed_143 : decode cX10_pushed 143 = .ok (.iload 6, 2) := by decide +kernel
theorem dX10_pushed_145 : decode cX10_pushed 145 = .ok (.ireturn, 1) := by decide +kernel
theorem dX10_headOf_0 : decode cX10_headOf 0 = .ok (.aload_n 0, 1) := by decide +kernel
theorem dX10_headOf_1 : decode cX10_headOf 1 = .ok (.aload_n 0, 1) := by decide +kernel
theorem dX10_headOf_2 : decode cX10_headOf 2 = .ok (.getfield 28, 3) := by decide +kernel
theorem dX10_headOf_5 : decode cX10_headOf 5 = .ok (.iconst 0, 1) := by decide +kernel
theorem dX10_headOf_6 : decode cX10_headOf 6 = .ok (.iaload, 1) := by decide +kernel
theorem dX10_headOf_7 : decode cX10_headOf 7 = .ok (.putfield 149, 3) := by decide +kernel
theorem dX10_headOf_10 : decode cX10_headOf 10 = .ok (.iload_n 1, 1) := by decide +kernel
theorem dX10_headOf_11 : decode cX10_headOf 11 = .ok (.iload_n 2, 1) := by decide +kernel
theorem dX10_headOf_12 : decode cX10_headOf 12 = .ok (.aload_n 0, 1) := by decide +kernel
theorem dX10_headOf_13 : decode cX10_headOf 13 = .ok (.aload_n 0, 1) := by decide +kernel
theorem dX10_headOf_14 : decode cX10_headOf 14 = .ok (.invokevirtual 161, 3) := by decide +kernel
theorem dX10_headOf_17 : decode cX10_headOf 17 = .ok (.iconst 0, 1) := by decide +kernel
theorem dX10_headOf_18 : decode cX10_headOf 18 = .ok (.invokevirtual 176, 3) := by decide +kernel
theorem dX10_headOf_21 : decode cX10_headOf 21 = .ok (.imul, 1) := by decide +kernel
theorem dX10_headOf_22 : decode cX10_headOf 22 = .ok (.iadd, 1) := by decide +kernel
theorem dX10_headOf_23 : decode cX10_headOf 23 = .ok (.invokestatic 179, 3) := by decide +kernel
theorem dX10_headOf_26 : decode cX10_headOf 26 = .ok (.istore_n 3, 1) := by decide +kernel
theorem dX10_headOf_27 : decode cX10_headOf 27 = .ok (.iconst 0, 1) := by decide +kernel
theorem dX10_headOf_28 : decode cX10_headOf 28 = .ok (.istore 4, 2) := by decide +kernel
theorem dX10_headOf_30 : decode cX10_headOf 30 = .ok (.iload 4, 2) := by decide +kernel
theorem dX10_headOf_32 : decode cX10_headOf 32 = .ok (.iconst 4, 1) := by decide +kernel
theorem dX10_headOf_33 : decode cX10_headOf 33 = .ok (.if_icmp .ge 57, 3) := by decide +kernel
theorem dX10_headOf_36 : decode cX10_headOf 36 = .ok (.aload_n 0, 1) := by decide +kernel
theorem dX10_headOf_37 : decode cX10_headOf 37 = .ok (.iload 4, 2) := by decide +kernel
theorem dX10_headOf_39 : decode cX10_headOf 39 = .ok (.iload_n 3, 1) := by decide +kernel
theorem dX10_headOf_40 : decode cX10_headOf 40 = .ok (.bipush 60, 2) := by decide +kernel
theorem dX10_headOf_42 : decode cX10_headOf 42 = .ok (.invokevirtual 187, 3) := by decide +kernel
theorem dX10_headOf_45 : decode cX10_headOf 45 = .ok (.aload_n 0, 1) := by decide +kernel
theorem dX10_headOf_46 : decode cX10_headOf 46 = .ok (.getfield 170, 3) := by decide +kernel
theorem dX10_headOf_49 : decode cX10_headOf 49 = .ok (.aload_n 0, 1) := by decide +kernel
theorem dX10_headOf_50 : decode cX10_headOf 50 = .ok (.getfield 34, 3) := by decide +kernel
theorem dX10_headOf_53 : decode cX10_headOf 53 = .ok (.iload 4, 2) := by decide +kernel
theorem dX10_headOf_55 : decode cX10_headOf 55 = .ok (.iaload, 1) := by decide +kernel
theorem dX10_headOf_56 : decode cX10_headOf 56 = .ok (.if_icmp .ne 28, 3) := by decide +kernel
theorem dX10_headOf_59 : decode cX10_headOf 59 = .ok (.aload_n 0, 1) := by decide +kernel
theorem dX10_headOf_60 : decode cX10_headOf 60 = .ok (.aload_n 0, 1) := by decide +kernel
theorem dX10_headOf_61 : decode cX10_headOf 61 = .ok (.getfield 164, 3) := by decide +kernel
theorem dX10_headOf_64 : decode cX10_headOf 64 = .ok (.invokevirtual 197, 3) := by decide +kernel
theorem dX10_headOf_67 : decode cX10_headOf 67 = .ok (.ifCond .eq 17, 3) := by decide +kernel
theorem dX10_headOf_70 : decode cX10_headOf 70 = .ok (.aload_n 0, 1) := by decide +kernel
theorem dX10_headOf_71 : decode cX10_headOf 71 = .ok (.aload_n 0, 1) := by decide +kernel
theorem dX10_headOf_72 : decode cX10_headOf 72 = .ok (.getfield 167, 3) := by decide +kernel
theorem dX10_headOf_75 : decode cX10_headOf 75 = .ok (.invokevirtual 215, 3) := by decide +kernel
theorem dX10_headOf_78 : decode cX10_headOf 78 = .ok (.ifCond .eq 6, 3) := by decide +kernel
theorem dX10_headOf_81 : decode cX10_headOf 81 = .ok (.iload 4, 2) := by decide +kernel
theorem dX10_headOf_83 : decode cX10_headOf 83 = .ok (.ireturn, 1) := by decide +kernel
theorem dX10_headOf_84 : decode cX10_headOf 84 = .ok (.iinc 4 1, 3) := by decide +kernel
theorem dX10_headOf_87 : decode cX10_headOf 87 = .ok (.goto (-57), 3) := by decide +kernel
theorem dX10_headOf_90 : decode cX10_headOf 90 = .ok (.bipush (-4), 2) := by decide +kernel
theorem dX10_headOf_92 : decode cX10_headOf 92 = .ok (.ireturn, 1) := by decide +kernel
theorem dX10_head_0 : decode cX10_head 0 = .ok (.iload_n 1, 1) := by decide +kernel
theorem dX10_head_1 : decode cX10_head 1 = .ok (.invokestatic 182, 3) := by decide +kernel
theorem dX10_head_4 : decode cX10_head 4 = .ok (.ifCond .eq 24, 3) := by decide +kernel
theorem dX10_head_7 : decode cX10_head 7 = .ok (.iload_n 2, 1) := by decide +kernel
theorem dX10_head_8 : decode cX10_head 8 = .ok (.i2l, 1) := by decide +kernel
theorem dX10_head_9 : decode cX10_head 9 = .ok (.lconst 0, 1) := by decide +kernel
theorem dX10_head_10 : decode cX10_head 10 = .ok (.ldc2_w 185, 3) := by decide +kernel
theorem dX10_head_13 : decode cX10_head 13 = .ok (.invokestatic 65, 3) := by decide +kernel
theorem dX10_head_16 : decode cX10_head 16 = .ok (.ifCond .eq 12, 3) := by decide +kernel
theorem dX10_head_19 : decode cX10_head 19 = .ok (.aload_n 0, 1) := by decide +kernel
theorem dX10_head_20 : decode cX10_head 20 = .ok (.iload_n 1, 1) := by decide +kernel
theorem dX10_head_21 : decode cX10_head 21 = .ok (.iload_n 2, 1) := by decide +kernel
theorem dX10_head_22 : decode cX10_head 22 = .ok (.invokevirtual 254, 3) := by decide +kernel
theorem dX10_head_25 : decode cX10_head 25 = .ok (.goto 4, 3) := by decide +kernel
theorem dX10_head_28 : decode cX10_head 28 = .ok (.iconst (-1), 1) := by decide +kernel
theorem dX10_head_29 : decode cX10_head 29 = .ok (.ireturn, 1) := by decide +kernel
theorem dX10_down_0 : decode cX10_down 0 = .ok (.iload_n 1, 1) := by decide +kernel
theorem dX10_down_1 : decode cX10_down 1 = .ok (.i2l, 1) := by decide +kernel
theorem dX10_down_2 : decode cX10_down 2 = .ok (.lconst 0, 1) := by decide +kernel
theorem dX10_down_3 : decode cX10_down 3 = .ok (.ldc2_w 185, 3) := by decide +kernel
theorem dX10_down_6 : decode cX10_down 6 = .ok (.invokestatic 65, 3) := by decide +kernel
theorem dX10_down_9 : decode cX10_down 9 = .ok (.ifCond .ne 5, 3) := by decide +kernel
theorem dX10_down_12 : decode cX10_down 12 = .ok (.iconst (-1), 1) := by decide +kernel
theorem dX10_down_13 : decode cX10_down 13 = .ok (.ireturn, 1) := by decide +kernel
theorem dX10_down_14 : decode cX10_down 14 = .ok (.iconst 0, 1) := by decide +kernel
theorem dX10_down_15 : decode cX10_down 15 = .ok (.istore_n 2, 1) := by decide +kernel
theorem dX10_down_16 : decode cX10_down 16 = .ok (.iconst 0, 1) := by decide +kernel
theorem dX10_down_17 : decode cX10_down 17 = .ok (.istore_n 3, 1) := by decide +kernel
theorem dX10_down_18 : decode cX10_down 18 = .ok (.iload_n 3, 1) := by decide +kernel
theorem dX10_down_19 : decode cX10_down 19 = .ok (.sipush 360, 3) := by decide +kernel
theorem dX10_down_22 : decode cX10_down 22 = .ok (.if_icmp .ge 28, 3) := by decide +kernel
theorem dX10_down_25 : decode cX10_down 25 = .ok (.iload_n 2, 1) := by decide +kernel
theorem dX10_down_26 : decode cX10_down 26 = .ok (.aload_n 0, 1) := by decide +kernel
theorem dX10_down_27 : decode cX10_down 27 = .ok (.iload_n 3, 1) := by decide +kernel
theorem dX10_down_28 : decode cX10_down 28 = .ok (.iload_n 1, 1) := by decide +kernel
theorem dX10_down_29 : decode cX10_down 29 = .ok (.invokevirtual 254, 3) := by decide +kernel
theorem dX10_down_32 : decode cX10_down 32 = .ok (.bipush (-4), 2) := by decide +kernel
theorem dX10_down_34 : decode cX10_down 34 = .ok (.if_icmp .eq 7, 3) := by decide +kernel
theorem dX10_down_37 : decode cX10_down 37 = .ok (.iconst 1, 1) := by decide +kernel
theorem dX10_down_38 : decode cX10_down 38 = .ok (.goto 4, 3) := by decide +kernel
theorem dX10_down_41 : decode cX10_down 41 = .ok (.iconst 0, 1) := by decide +kernel
theorem dX10_down_42 : decode cX10_down 42 = .ok (.iadd, 1) := by decide +kernel
theorem dX10_down_43 : decode cX10_down 43 = .ok (.istore_n 2, 1) := by decide +kernel
theorem dX10_down_44 : decode cX10_down 44 = .ok (.iinc 3 1, 3) := by decide +kernel
theorem dX10_down_47 : decode cX10_down 47 = .ok (.goto (-29), 3) := by decide +kernel
theorem dX10_down_50 : decode cX10_down 50 = .ok (.iload_n 2, 1) := by decide +kernel
theorem dX10_down_51 : decode cX10_down 51 = .ok (.ireturn, 1) := by decide +kernel
theorem dX10_copy_0 : decode cX10_copy 0 = .ok (.iconst 0, 1) := by decide +kernel
theorem dX10_copy_1 : decode cX10_copy 1 = .ok (.istore_n 3, 1) := by decide +kernel
theorem dX10_copy_2 : decode cX10_copy 2 = .ok (.iload_n 3, 1) := by decide +kernel
theorem dX10_copy_3 : decode cX10_copy 3 = .ok (.iconst 4, 1) := by decide +kernel
theorem dX10_copy_4 : decode cX10_copy 4 = .ok (.if_icmp .ge 29, 3) := by decide +kernel
theorem dX10_copy_7 : decode cX10_copy 7 = .ok (.aload_n 0, 1) := by decide +kernel
theorem dX10_copy_8 : decode cX10_copy 8 = .ok (.getfield 34, 3) := by decide +kernel
theorem dX10_copy_11 : decode cX10_copy 11 = .ok (.iconst 4, 1) := by decide +kernel
theorem dX10_copy_12 : decode cX10_copy 12 = .ok (.iload_n 2, 1) := by decide +kernel
theorem dX10_copy_13 : decode cX10_copy 13 = .ok (.imul, 1) := by decide +kernel
theorem dX10_copy_14 : decode cX10_copy 14 = .ok (.iload_n 3, 1) := by decide +kernel
theorem dX10_copy_15 : decode cX10_copy 15 = .ok (.iadd, 1) := by decide +kernel
theorem dX10_copy_16 : decode cX10_copy 16 = .ok (.aload_n 0, 1) := by decide +kernel
theorem dX10_copy_17 : decode cX10_copy 17 = .ok (.getfield 34, 3) := by decide +kernel
theorem dX10_copy_20 : decode cX10_copy 20 = .ok (.iconst 4, 1) := by decide +kernel
theorem dX10_copy_21 : decode cX10_copy 21 = .ok (.iload_n 1, 1) := by decide +kernel
theorem dX10_copy_22 : decode cX10_copy 22 = .ok (.imul, 1) := by decide +kernel
theorem dX10_copy_23 : decode cX10_copy 23 = .ok (.iload_n 3, 1) := by decide +kernel
theorem dX10_copy_24 : decode cX10_copy 24 = .ok (.iadd, 1) := by decide +kernel
theorem dX10_copy_25 : decode cX10_copy 25 = .ok (.iaload, 1) := by decide +kernel
theorem dX10_copy_26 : decode cX10_copy 26 = .ok (.iastore, 1) := by decide +kernel
theorem dX10_copy_27 : decode cX10_copy 27 = .ok (.iinc 3 1, 3) := by decide +kernel
theorem dX10_copy_30 : decode cX10_copy 30 = .ok (.goto (-28), 3) := by decide +kernel
theorem dX10_copy_33 : decode cX10_copy 33 = .ok (.iconst 0, 1) := by decide +kernel
theorem dX10_copy_34 : decode cX10_copy 34 = .ok (.istore_n 3, 1) := by decide +kernel
theorem dX10_copy_35 : decode cX10_copy 35 = .ok (.iload_n 3, 1) := by decide +kernel
theorem dX10_copy_36 : decode cX10_copy 36 = .ok (.sipush 240, 3) := by decide +kernel
theorem dX10_copy_39 : decode cX10_copy 39 = .ok (.if_icmp .ge 33, 3) := by decide +kernel
theorem dX10_copy_42 : decode cX10_copy 42 = .ok (.aload_n 0, 1) := by decide +kernel
theorem dX10_copy_43 : decode cX10_copy 43 = .ok (.getfield 37, 3) := by decide +kernel
theorem dX10_copy_46 : decode cX10_copy 46 = .ok (.sipush 240, 3) := by decide +kernel
theorem dX10_copy_49 : decode cX10_copy 49 = .ok (.iload_n 2, 1) := by decide +kernel
theorem dX10_copy_50 : decode cX10_copy 50 = .ok (.imul, 1) := by decide +kernel
theorem dX10_copy_51 : decode cX10_copy 51 = .ok (.iload_n 3, 1) := by decide +kernel
theorem dX10_copy_52 : decode cX10_copy 52 = .ok (.iadd, 1) := by decide +kernel
theorem dX10_copy_53 : decode cX10_copy 53 = .ok (.aload_n 0, 1) := by decide +kernel
theorem dX10_copy_54 : decode cX10_copy 54 = .ok (.getfield 37, 3) := by decide +kernel
theorem dX10_copy_57 : decode cX10_copy 57 = .ok (.sipush 240, 3) := by decide +kernel
theorem dX10_copy_60 : decode cX10_copy 60 = .ok (.iload_n 1, 1) := by decide +kernel
theorem dX10_copy_61 : decode cX10_copy 61 = .ok (.imul, 1) := by decide +kernel
theorem dX10_copy_62 : decode cX10_copy 62 = .ok (.iload_n 3, 1) := by decide +kernel
theorem dX10_copy_63 : decode cX10_copy 63 = .ok (.iadd, 1) := by decide +kernel
theorem dX10_copy_64 : decode cX10_copy 64 = .ok (.iaload, 1) := by decide +kernel
theorem dX10_copy_65 : decode cX10_copy 65 = .ok (.iastore, 1) := by decide +kernel
theorem dX10_copy_66 : decode cX10_copy 66 = .ok (.iinc 3 1, 3) := by decide +kernel
theorem dX10_copy_69 : decode cX10_copy 69 = .ok (.goto (-34), 3) := by decide +kernel
theorem dX10_copy_72 : decode cX10_copy 72 = .ok (.aload_n 0, 1) := by decide +kernel
theorem dX10_copy_73 : decode cX10_copy 73 = .ok (.getfield 40, 3) := by decide +kernel
theorem dX10_copy_76 : decode cX10_copy 76 = .ok (.iload_n 2, 1) := by decide +kernel
theorem dX10_copy_77 : decode cX10_copy 77 = .ok (.aload_n 0, 1) := by decide +kernel
theorem dX10_copy_78 : decode cX10_copy 78 = .ok (.getfield 40, 3) := by decide +kernel
theorem dX10_copy_81 : decode cX10_copy 81 = .ok (.iload_n 1, 1) := by decide +kernel
theorem dX10_copy_82 : decode cX10_copy 82 = .ok (.iaload, 1) := by decide +kernel
theorem dX10_copy_83 : decode cX10_copy 83 = .ok (.iastore, 1) := by decide +kernel
theorem dX10_copy_84 : decode cX10_copy 84 = .ok (.iconst 0, 1) := by decide +kernel
theorem dX10_copy_85 : decode cX10_copy 85 = .ok (.istore_n 3, 1) := by decide +kernel
theorem dX10_copy_86 : decode cX10_copy 86 = .ok (.iload_n 3, 1) := by decide +kernel
theorem dX10_copy_87 : decode cX10_copy 87 = .ok (.bipush 120, 2) := by decide +kernel
theorem dX10_copy_89 : decode cX10_copy 89 = .ok (.if_icmp .ge 31, 3) := by decide +kernel
theorem dX10_copy_92 : decode cX10_copy 92 = .ok (.aload_n 0, 1) := by decide +kernel
theorem dX10_copy_93 : decode cX10_copy 93 = .ok (.getfield 43, 3) := by decide +kernel
theorem dX10_copy_96 : decode cX10_copy 96 = .ok (.bipush 120, 2) := by decide +kernel
theorem dX10_copy_98 : decode cX10_copy 98 = .ok (.iload_n 2, 1) := by decide +kernel
theorem dX10_copy_99 : decode cX10_copy 99 = .ok (.imul, 1) := by decide +kernel
theorem dX10_copy_100 : decode cX10_copy 100 = .ok (.iload_n 3, 1) := by decide +kernel
theorem dX10_copy_101 : decode cX10_copy 101 = .ok (.iadd, 1) := by decide +kernel
theorem dX10_copy_102 : decode cX10_copy 102 = .ok (.aload_n 0, 1) := by decide +kernel
theorem dX10_copy_103 : decode cX10_copy 103 = .ok (.getfield 43, 3) := by decide +kernel
theorem dX10_copy_106 : decode cX10_copy 106 = .ok (.bipush 120, 2) := by decide +kernel
theorem dX10_copy_108 : decode cX10_copy 108 = .ok (.iload_n 1, 1) := by decide +kernel
theorem dX10_copy_109 : decode cX10_copy 109 = .ok (.imul, 1) := by decide +kernel
theorem dX10_copy_110 : decode cX10_copy 110 = .ok (.iload_n 3, 1) := by decide +kernel
theorem dX10_copy_111 : decode cX10_copy 111 = .ok (.iadd, 1) := by decide +kernel
theorem dX10_copy_112 : decode cX10_copy 112 = .ok (.iaload, 1) := by decide +kernel
theorem dX10_copy_113 : decode cX10_copy 113 = .ok (.iastore, 1) := by decide +kernel
theorem dX10_copy_114 : decode cX10_copy 114 = .ok (.iinc 3 1, 3) := by decide +kernel
theorem dX10_copy_117 : decode cX10_copy 117 = .ok (.goto (-31), 3) := by decide +kernel
theorem dX10_copy_120 : decode cX10_copy 120 = .ok (.return_, 1) := by decide +kernel
theorem dX10_keep_0 : decode cX10_keep 0 = .ok (.aload_n 0, 1) := by decide +kernel
theorem dX10_keep_1 : decode cX10_keep 1 = .ok (.getfield 112, 3) := by decide +kernel
theorem dX10_keep_4 : decode cX10_keep 4 = .ok (.iconst 2, 1) := by decide +kernel
theorem dX10_keep_5 : decode cX10_keep 5 = .ok (.if_icmp .ne 6, 3) := by decide +kernel
theorem dX10_keep_8 : decode cX10_keep 8 = .ok (.bipush (-3), 2) := by decide +kernel
theorem dX10_keep_10 : decode cX10_keep 10 = .ok (.ireturn, 1) := by decide +kernel
theorem dX10_keep_11 : decode cX10_keep 11 = .ok (.aload_n 0, 1) := by decide +kernel
theorem dX10_keep_12 : decode cX10_keep 12 = .ok (.iconst 0, 1) := by decide +kernel
theorem dX10_keep_13 : decode cX10_keep 13 = .ok (.iconst 1, 1) := by decide +kernel
theorem dX10_keep_14 : decode cX10_keep 14 = .ok (.aload_n 0, 1) := by decide +kernel
theorem dX10_keep_15 : decode cX10_keep 15 = .ok (.getfield 112, 3) := by decide +kernel
theorem dX10_keep_18 : decode cX10_keep 18 = .ok (.iadd, 1) := by decide +kernel
theorem dX10_keep_19 : decode cX10_keep 19 = .ok (.invokevirtual 257, 3) := by decide +kernel
theorem dX10_keep_22 : decode cX10_keep 22 = .ok (.aload_n 0, 1) := by decide +kernel
theorem dX10_keep_23 : decode cX10_keep 23 = .ok (.dup, 1) := by decide +kernel
theorem dX10_keep_24 : decode cX10_keep 24 = .ok (.getfield 112, 3) := by decide +kernel
theorem dX10_keep_27 : decode cX10_keep 27 = .ok (.iconst 1, 1) := by decide +kernel
theorem dX10_keep_28 : decode cX10_keep 28 = .ok (.iadd, 1) := by decide +kernel
theorem dX10_keep_29 : decode cX10_keep 29 = .ok (.putfield 112, 3) := by decide +kernel
theorem dX10_keep_32 : decode cX10_keep 32 = .ok (.aload_n 0, 1) := by decide +kernel
theorem dX10_keep_33 : decode cX10_keep 33 = .ok (.getfield 112, 3) := by decide +kernel
theorem dX10_keep_36 : decode cX10_keep 36 = .ok (.ireturn, 1) := by decide +kernel
theorem dX10_back_0 : decode cX10_back 0 = .ok (.aload_n 0, 1) := by decide +kernel
theorem dX10_back_1 : decode cX10_back 1 = .ok (.getfield 112, 3) := by decide +kernel
theorem dX10_back_4 : decode cX10_back 4 = .ok (.ifCond .ne 6, 3) := by decide +kernel
theorem dX10_back_7 : decode cX10_back 7 = .ok (.bipush (-2), 2) := by decide +kernel
theorem dX10_back_9 : decode cX10_back 9 = .ok (.ireturn, 1) := by decide +kernel
theorem dX10_back_10 : decode cX10_back 10 = .ok (.aload_n 0, 1) := by decide +kernel
theorem dX10_back_11 : decode cX10_back 11 = .ok (.dup, 1) := by decide +kernel
theorem dX10_back_12 : decode cX10_back 12 = .ok (.getfield 112, 3) := by decide +kernel
theorem dX10_back_15 : decode cX10_back 15 = .ok (.iconst 1, 1) := by decide +kernel
theorem dX10_back_16 : decode cX10_back 16 = .ok (.isub, 1) := by decide +kernel
theorem dX10_back_17 : decode cX10_back 17 = .ok (.putfield 112, 3) := by decide +kernel
theorem dX10_back_20 : decode cX10_back 20 = .ok (.aload_n 0, 1) := by decide +kernel
theorem dX10_back_21 : decode cX10_back 21 = .ok (.iconst 1, 1) := by decide +kernel
theorem dX10_back_22 : decode cX10_back 22 = .ok (.aload_n 0, 1) := by decide +kernel
theorem dX10_back_23 : decode cX10_back 23 = .ok (.getfield 112, 3) := by decide +kernel
theorem dX10_back_26 : decode cX10_back 26 = .ok (.iadd, 1) := by decide +kernel
theorem dX10_back_27 : decode cX10_back 27 = .ok (.iconst 0, 1) := by decide +kernel
theorem dX10_back_28 : decode cX10_back 28 = .ok (.invokevirtual 257, 3) := by decide +kernel
theorem dX10_back_31 : decode cX10_back 31 = .ok (.aload_n 0, 1) := by decide +kernel
theorem dX10_back_32 : decode cX10_back 32 = .ok (.getfield 112, 3) := by decide +kernel
theorem dX10_back_35 : decode cX10_back 35 = .ok (.ireturn, 1) := by decide +kernel
theorem dX10_count_0 : decode cX10_count 0 = .ok (.iload_n 1, 1) := by decide +kernel
theorem dX10_count_1 : decode cX10_count 1 = .ok (.tableswitch 87 0 4 #[35, 42, 47, 75, 82], 35) := by decide +kernel
theorem dX10_count_36 : decode cX10_count 36 = .ok (.aload_n 0, 1) := by decide +kernel
theorem dX10_count_37 : decode cX10_count 37 = .ok (.getfield 13, 3) := by decide +kernel
theorem dX10_count_40 : decode cX10_count 40 = .ok (.iconst 0, 1) := by decide +kernel
theorem dX10_count_41 : decode cX10_count 41 = .ok (.iaload, 1) := by decide +kernel
theorem dX10_count_42 : decode cX10_count 42 = .ok (.ireturn, 1) := by decide +kernel
theorem dX10_count_43 : decode cX10_count 43 = .ok (.aload_n 0, 1) := by decide +kernel
theorem dX10_count_44 : decode cX10_count 44 = .ok (.getfield 69, 3) := by decide +kernel
theorem dX10_count_47 : decode cX10_count 47 = .ok (.ireturn, 1) := by decide +kernel
theorem dX10_count_48 : decode cX10_count 48 = .ok (.aload_n 0, 1) := by decide +kernel
theorem dX10_count_49 : decode cX10_count 49 = .ok (.getfield 34, 3) := by decide +kernel
theorem dX10_count_52 : decode cX10_count 52 = .ok (.iconst 0, 1) := by decide +kernel
theorem dX10_count_53 : decode cX10_count 53 = .ok (.iaload, 1) := by decide +kernel
theorem dX10_count_54 : decode cX10_count 54 = .ok (.aload_n 0, 1) := by decide +kernel
theorem dX10_count_55 : decode cX10_count 55 = .ok (.getfield 34, 3) := by decide +kernel
theorem dX10_count_58 : decode cX10_count 58 = .ok (.iconst 1, 1) := by decide +kernel
theorem dX10_count_59 : decode cX10_count 59 = .ok (.iaload, 1) := by decide +kernel
theorem dX10_count_60 : decode cX10_count 60 = .ok (.iadd, 1) := by decide +kernel
theorem dX10_count_61 : decode cX10_count 61 = .ok (.aload_n 0, 1) := by decide +kernel
theorem dX10_count_62 : decode cX10_count 62 = .ok (.getfield 34, 3) := by decide +kernel
theorem dX10_count_65 : decode cX10_count 65 = .ok (.iconst 2, 1) := by decide +kernel
theorem dX10_count_66 : decode cX10_count 66 = .ok (.iaload, 1) := by decide +kernel
theorem dX10_count_67 : decode cX10_count 67 = .ok (.iadd, 1) := by decide +kernel
theorem dX10_count_68 : decode cX10_count 68 = .ok (.aload_n 0, 1) := by decide +kernel
theorem dX10_count_69 : decode cX10_count 69 = .ok (.getfield 34, 3) := by decide +kernel
theorem dX10_count_72 : decode cX10_count 72 = .ok (.iconst 3, 1) := by decide +kernel
theorem dX10_count_73 : decode cX10_count 73 = .ok (.iaload, 1) := by decide +kernel
theorem dX10_count_74 : decode cX10_count 74 = .ok (.iadd, 1) := by decide +kernel
theorem dX10_count_75 : decode cX10_count 75 = .ok (.ireturn, 1) := by decide +kernel
theorem dX10_count_76 : decode cX10_count 76 = .ok (.aload_n 0, 1) := by decide +kernel
theorem dX10_count_77 : decode cX10_count 77 = .ok (.getfield 40, 3) := by decide +kernel
theorem dX10_count_80 : decode cX10_count 80 = .ok (.iconst 0, 1) := by decide +kernel
theorem dX10_count_81 : decode cX10_count 81 = .ok (.iaload, 1) := by decide +kernel
theorem dX10_count_82 : decode cX10_count 82 = .ok (.ireturn, 1) := by decide +kernel
theorem dX10_count_83 : decode cX10_count 83 = .ok (.aload_n 0, 1) := by decide +kernel
theorem dX10_count_84 : decode cX10_count 84 = .ok (.getfield 112, 3) := by decide +kernel
theorem dX10_count_87 : decode cX10_count 87 = .ok (.ireturn, 1) := by decide +kernel
theorem dX10_count_88 : decode cX10_count 88 = .ok (.iconst (-1), 1) := by decide +kernel
theorem dX10_count_89 : decode cX10_count 89 = .ok (.ireturn, 1) := by decide +kernel
theorem dJ9_floorMod_7cf53_0 : decode cJ9_floorMod_7cf53 0 = .ok (.iload_n 0, 1) := by decide +kernel
theorem dJ9_floorMod_7cf53_1 : decode cJ9_floorMod_7cf53 1 = .ok (.iload_n 1, 1) := by decide +kernel
theorem dJ9_floorMod_7cf53_2 : decode cJ9_floorMod_7cf53 2 = .ok (.irem, 1) := by decide +kernel
theorem dJ9_floorMod_7cf53_3 : decode cJ9_floorMod_7cf53 3 = .ok (.istore_n 2, 1) := by decide +kernel
theorem dJ9_floorMod_7cf53_4 : decode cJ9_floorMod_7cf53 4 = .ok (.iload_n 0, 1) := by decide +kernel
theorem dJ9_floorMod_7cf53_5 : decode cJ9_floorMod_7cf53 5 = .ok (.iload_n 1, 1) := by decide +kernel
theorem dJ9_floorMod_7cf53_6 : decode cJ9_floorMod_7cf53 6 = .ok (.ixor, 1) := by decide +kernel
theorem dJ9_floorMod_7cf53_7 : decode cJ9_floorMod_7cf53 7 = .ok (.ifCond .ge 11, 3) := by decide +kernel
theorem dJ9_floorMod_7cf53_10 : decode cJ9_floorMod_7cf53 10 = .ok (.iload_n 2, 1) := by decide +kernel
theorem dJ9_floorMod_7cf53_11 : decode cJ9_floorMod_7cf53 11 = .ok (.ifCond .eq 7, 3) := by decide +kernel
theorem dJ9_floorMod_7cf53_14 : decode cJ9_floorMod_7cf53 14 = .ok (.iload_n 2, 1) := by decide +kernel
theorem dJ9_floorMod_7cf53_15 : decode cJ9_floorMod_7cf53 15 = .ok (.iload_n 1, 1) := by decide +kernel
theorem dJ9_floorMod_7cf53_16 : decode cJ9_floorMod_7cf53 16 = .ok (.iadd, 1) := by decide +kernel
theorem dJ9_floorMod_7cf53_17 : decode cJ9_floorMod_7cf53 17 = .ok (.ireturn, 1) := by decide +kernel
theorem dJ9_floorMod_7cf53_18 : decode cJ9_floorMod_7cf53 18 = .ok (.iload_n 2, 1) := by decide +kernel
theorem dJ9_floorMod_7cf53_19 : decode cJ9_floorMod_7cf53 19 = .ok (.ireturn, 1) := by decide +kernel
theorem dJ9_abs_0f7a4_0 : decode cJ9_abs_0f7a4 0 = .ok (.iload_n 0, 1) := by decide +kernel
theorem dJ9_abs_0f7a4_1 : decode cJ9_abs_0f7a4 1 = .ok (.ifCond .ge 8, 3) := by decide +kernel
theorem dJ9_abs_0f7a4_4 : decode cJ9_abs_0f7a4 4 = .ok (.iload_n 0, 1) := by decide +kernel
theorem dJ9_abs_0f7a4_5 : decode cJ9_abs_0f7a4 5 = .ok (.ineg, 1) := by decide +kernel
theorem dJ9_abs_0f7a4_6 : decode cJ9_abs_0f7a4 6 = .ok (.goto 4, 3) := by decide +kernel
theorem dJ9_abs_0f7a4_9 : decode cJ9_abs_0f7a4 9 = .ok (.iload_n 0, 1) := by decide +kernel
theorem dJ9_abs_0f7a4_10 : decode cJ9_abs_0f7a4 10 = .ok (.ireturn, 1) := by decide +kernel
theorem dJ9_max_7cf53_0 : decode cJ9_max_7cf53 0 = .ok (.iload_n 0, 1) := by decide +kernel
theorem dJ9_max_7cf53_1 : decode cJ9_max_7cf53 1 = .ok (.iload_n 1, 1) := by decide +kernel
theorem dJ9_max_7cf53_2 : decode cJ9_max_7cf53 2 = .ok (.if_icmp .lt 7, 3) := by decide +kernel
theorem dJ9_max_7cf53_5 : decode cJ9_max_7cf53 5 = .ok (.iload_n 0, 1) := by decide +kernel
theorem dJ9_max_7cf53_6 : decode cJ9_max_7cf53 6 = .ok (.goto 4, 3) := by decide +kernel
theorem dJ9_max_7cf53_9 : decode cJ9_max_7cf53 9 = .ok (.iload_n 1, 1) := by decide +kernel
theorem dJ9_max_7cf53_10 : decode cJ9_max_7cf53 10 = .ok (.ireturn, 1) := by decide +kernel
theorem dJ9_min_7cf53_0 : decode cJ9_min_7cf53 0 = .ok (.iload_n 0, 1) := by decide +kernel
theorem dJ9_min_7cf53_1 : decode cJ9_min_7cf53 1 = .ok (.iload_n 1, 1) := by decide +kernel
theorem dJ9_min_7cf53_2 : decode cJ9_min_7cf53 2 = .ok (.if_icmp .gt 7, 3) := by decide +kernel
theorem dJ9_min_7cf53_5 : decode cJ9_min_7cf53 5 = .ok (.iload_n 0, 1) := by decide +kernel
theorem dJ9_min_7cf53_6 : decode cJ9_min_7cf53 6 = .ok (.goto 4, 3) := by decide +kernel
theorem dJ9_min_7cf53_9 : decode cJ9_min_7cf53 9 = .ok (.iload_n 1, 1) := by decide +kernel
theorem dJ9_min_7cf53_10 : decode cJ9_min_7cf53 10 = .ok (.ireturn, 1) := by decide +kernel
theorem dJ7_fill_53178_0 : decode cJ7_fill_53178 0 = .ok (.iconst 0, 1) := by decide +kernel
theorem dJ7_fill_53178_1 : decode cJ7_fill_53178 1 = .ok (.istore_n 2, 1) := by decide +kernel
theorem dJ7_fill_53178_2 : decode cJ7_fill_53178 2 = .ok (.aload_n 0, 1) := by decide +kernel
theorem dJ7_fill_53178_3 : decode cJ7_fill_53178 3 = .ok (.arraylength, 1) := by decide +kernel
theorem dJ7_fill_53178_4 : decode cJ7_fill_53178 4 = .ok (.istore_n 3, 1) := by decide +kernel
theorem dJ7_fill_53178_5 : decode cJ7_fill_53178 5 = .ok (.iload_n 2, 1) := by decide +kernel
theorem dJ7_fill_53178_6 : decode cJ7_fill_53178 6 = .ok (.iload_n 3, 1) := by decide +kernel
theorem dJ7_fill_53178_7 : decode cJ7_fill_53178 7 = .ok (.if_icmp .ge 13, 3) := by decide +kernel
theorem dJ7_fill_53178_10 : decode cJ7_fill_53178 10 = .ok (.aload_n 0, 1) := by decide +kernel
theorem dJ7_fill_53178_11 : decode cJ7_fill_53178 11 = .ok (.iload_n 2, 1) := by decide +kernel
theorem dJ7_fill_53178_12 : decode cJ7_fill_53178 12 = .ok (.iload_n 1, 1) := by decide +kernel
theorem dJ7_fill_53178_13 : decode cJ7_fill_53178 13 = .ok (.iastore, 1) := by decide +kernel
theorem dJ7_fill_53178_14 : decode cJ7_fill_53178 14 = .ok (.iinc 2 1, 3) := by decide +kernel
theorem dJ7_fill_53178_17 : decode cJ7_fill_53178 17 = .ok (.goto (-12), 3) := by decide +kernel
theorem dJ7_fill_53178_20 : decode cJ7_fill_53178 20 = .ok (.return_, 1) := by decide +kernel
theorem dL_law_0 : decode code 0 = .ok (.new 7, 3) := by decide +kernel
theorem dL_law_3 : decode code 3 = .ok (.dup, 1) := by decide +kernel
theorem dL_law_4 : decode code 4 = .ok (.invokespecial 9, 3) := by decide +kernel
theorem dL_law_7 : decode code 7 = .ok (.astore_n 1, 1) := by decide +kernel
theorem dL_law_8 : decode code 8 = .ok (.new 10, 3) := by decide +kernel
theorem dL_law_11 : decode code 11 = .ok (.dup, 1) := by decide +kernel
theorem dL_law_12 : decode code 12 = .ok (.invokespecial 12, 3) := by decide +kernel
theorem dL_law_15 : decode code 15 = .ok (.astore_n 2, 1) := by decide +kernel
theorem dL_law_16 : decode code 16 = .ok (.iconst 0, 1) := by decide +kernel
theorem dL_law_17 : decode code 17 = .ok (.istore_n 3, 1) := by decide +kernel
theorem dL_law_18 : decode code 18 = .ok (.iload_n 3, 1) := by decide +kernel
theorem dL_law_19 : decode code 19 = .ok (.aload_n 0, 1) := by decide +kernel
theorem dL_law_20 : decode code 20 = .ok (.arraylength, 1) := by decide +kernel
theorem dL_law_21 : decode code 21 = .ok (.iconst 5, 1) := by decide +kernel
theorem dL_law_22 : decode code 22 = .ok (.isub, 1) := by decide +kernel
theorem dL_law_23 : decode code 23 = .ok (.if_icmp .gt 974, 3) := by decide +kernel
theorem dL_law_26 : decode code 26 = .ok (.aload_n 0, 1) := by decide +kernel
theorem dL_law_27 : decode code 27 = .ok (.iload_n 3, 1) := by decide +kernel
theorem dL_law_28 : decode code 28 = .ok (.iaload, 1) := by decide +kernel
theorem dL_law_29 : decode code 29 = .ok (.bipush 31, 2) := by decide +kernel
theorem dL_law_31 : decode code 31 = .ok (.iand, 1) := by decide +kernel
theorem dL_law_32 : decode code 32 = .ok (.tableswitch 959 0 28 #[132, 195, 208, 221, 234, 267, 300, 323, 356, 379, 432, 465, 488, 521, 554, 577, 600, 623, 636, 669, 722, 735, 768, 801, 854, 887, 910, 923, 936], 132) := by decide +kernel
theorem dL_law_164 : decode code 164 = .ok (.aload_n 1, 1) := by decide +kernel
theorem dL_law_165 : decode code 165 = .ok (.aload_n 0, 1) := by decide +kernel
theorem dL_law_166 : decode code 166 = .ok (.iload_n 3, 1) := by decide +kernel
theorem dL_law_167 : decode code 167 = .ok (.iconst 1, 1) := by decide +kernel
theorem dL_law_168 : decode code 168 = .ok (.iadd, 1) := by decide +kernel
theorem dL_law_169 : decode code 169 = .ok (.iaload, 1) := by decide +kernel
theorem dL_law_170 : decode code 170 = .ok (.aload_n 0, 1) := by decide +kernel
theorem dL_law_171 : decode code 171 = .ok (.iload_n 3, 1) := by decide +kernel
theorem dL_law_172 : decode code 172 = .ok (.iconst 2, 1) := by decide +kernel
theorem dL_law_173 : decode code 173 = .ok (.iadd, 1) := by decide +kernel
theorem dL_law_174 : decode code 174 = .ok (.iaload, 1) := by decide +kernel
theorem dL_law_175 : decode code 175 = .ok (.i2l, 1) := by decide +kernel
theorem dL_law_176 : decode code 176 = .ok (.bipush 32, 2) := by decide +kernel
theorem dL_law_178 : decode code 178 = .ok (.lshl, 1) := by decide +kernel
theorem dL_law_179 : decode code 179 = .ok (.aload_n 0, 1) := by decide +kernel
theorem dL_law_180 : decode code 180 = .ok (.iload_n 3, 1) := by decide +kernel
theorem dL_law_181 : decode code 181 = .ok (.iconst 3, 1) := by decide +kernel
theorem dL_law_182 : decode code 182 = .ok (.iadd, 1) := by decide +kernel
theorem dL_law_183 : decode code 183 = .ok (.iaload, 1) := by decide +kernel
theorem dL_law_184 : decode code 184 = .ok (.i2l, 1) := by decide +kernel
theorem dL_law_185 : decode code 185 = .ok (.ldc2_w 13, 3) := by decide +kernel
theorem dL_law_188 : decode code 188 = .ok (.land, 1) := by decide +kernel
theorem dL_law_189 : decode code 189 = .ok (.lor, 1) := by decide +kernel
theorem dL_law_190 : decode code 190 = .ok (.invokevirtual 15, 3) := by decide +kernel
theorem dL_law_193 : decode code 193 = .ok (.aload_n 2, 1) := by decide +kernel
theorem dL_law_194 : decode code 194 = .ok (.aload_n 0, 1) := by decide +kernel
theorem dL_law_195 : decode code 195 = .ok (.iload_n 3, 1) := by decide +kernel
theorem dL_law_196 : decode code 196 = .ok (.iconst 1, 1) := by decide +kernel
theorem dL_law_197 : decode code 197 = .ok (.iadd, 1) := by decide +kernel
theorem dL_law_198 : decode code 198 = .ok (.iaload, 1) := by decide +kernel
theorem dL_law_199 : decode code 199 = .ok (.aload_n 0, 1) := by decide +kernel
theorem dL_law_200 : decode code 200 = .ok (.iload_n 3, 1) := by decide +kernel
theorem dL_law_201 : decode code 201 = .ok (.iconst 2, 1) := by decide +kernel
theorem dL_law_202 : decode code 202 = .ok (.iadd, 1) := by decide +kernel
theorem dL_law_203 : decode code 203 = .ok (.iaload, 1) := by decide +kernel
theorem dL_law_204 : decode code 204 = .ok (.i2l, 1) := by decide +kernel
theorem dL_law_205 : decode code 205 = .ok (.bipush 32, 2) := by decide +kernel
theorem dL_law_207 : decode code 207 = .ok (.lshl, 1) := by decide +kernel
theorem dL_law_208 : decode code 208 = .ok (.aload_n 0, 1) := by decide +kernel
theorem dL_law_209 : decode code 209 = .ok (.iload_n 3, 1) := by decide +kernel
theorem dL_law_210 : decode code 210 = .ok (.iconst 3, 1) := by decide +kernel
theorem dL_law_211 : decode code 211 = .ok (.iadd, 1) := by decide +kernel
theorem dL_law_212 : decode code 212 = .ok (.iaload, 1) := by decide +kernel
theorem dL_law_213 : decode code 213 = .ok (.i2l, 1) := by decide +kernel
theorem dL_law_214 : decode code 214 = .ok (.ldc2_w 13, 3) := by decide +kernel
theorem dL_law_217 : decode code 217 = .ok (.land, 1) := by decide +kernel
theorem dL_law_218 : decode code 218 = .ok (.lor, 1) := by decide +kernel
theorem dL_law_219 : decode code 219 = .ok (.invokevirtual 19, 3) := by decide +kernel
theorem dL_law_222 : decode code 222 = .ok (.if_icmp .eq 769, 3) := by decide +kernel
theorem dL_law_225 : decode code 225 = .ok (.iconst 0, 1) := by decide +kernel
theorem dL_law_226 : decode code 226 = .ok (.ireturn, 1) := by decide +kernel
theorem dL_law_227 : decode code 227 = .ok (.aload_n 1, 1) := by decide +kernel
theorem dL_law_228 : decode code 228 = .ok (.invokevirtual 20, 3) := by decide +kernel
theorem dL_law_231 : decode code 231 = .ok (.aload_n 2, 1) := by decide +kernel
theorem dL_law_232 : decode code 232 = .ok (.invokevirtual 24, 3) := by decide +kernel
theorem dL_law_235 : decode code 235 = .ok (.if_icmp .eq 756, 3) := by decide +kernel
theorem dL_law_238 : decode code 238 = .ok (.iconst 0, 1) := by decide +kernel
theorem dL_law_239 : decode code 239 = .ok (.ireturn, 1) := by decide +kernel
theorem dL_law_240 : decode code 240 = .ok (.aload_n 1, 1) := by decide +kernel
theorem dL_law_241 : decode code 241 = .ok (.invokevirtual 25, 3) := by decide +kernel
theorem dL_law_244 : decode code 244 = .ok (.aload_n 2, 1) := by decide +kernel
theorem dL_law_245 : decode code 245 = .ok (.invokevirtual 28, 3) := by decide +kernel
theorem dL_law_248 : decode code 248 = .ok (.if_icmp .eq 743, 3) := by decide +kernel
theorem dL_law_251 : decode code 251 = .ok (.iconst 0, 1) := by decide +kernel
theorem dL_law_252 : decode code 252 = .ok (.ireturn, 1) := by decide +kernel
theorem dL_law_253 : decode code 253 = .ok (.aload_n 1, 1) := by decide +kernel
theorem dL_law_254 : decode code 254 = .ok (.invokevirtual 29, 3) := by decide +kernel
theorem dL_law_257 : decode code 257 = .ok (.aload_n 2, 1) := by decide +kernel
theorem dL_law_258 : decode code 258 = .ok (.invokevirtual 32, 3) := by decide +kernel
theorem dL_law_261 : decode code 261 = .ok (.if_icmp .eq 730, 3) := by decide +kernel
theorem dL_law_264 : decode code 264 = .ok (.iconst 0, 1) := by decide +kernel
theorem dL_law_265 : decode code 265 = .ok (.ireturn, 1) := by decide +kernel
theorem dL_law_266 : decode code 266 = .ok (.aload_n 1, 1) := by decide +kernel
theorem dL_law_267 : decode code 267 = .ok (.aload_n 0, 1) := by decide +kernel
theorem dL_law_268 : decode code 268 = .ok (.iload_n 3, 1) := by decide +kernel
theorem dL_law_269 : decode code 269 = .ok (.iconst 1, 1) := by decide +kernel
theorem dL_law_270 : decode code 270 = .ok (.iadd, 1) := by decide +kernel
theorem dL_law_271 : decode code 271 = .ok (.iaload, 1) := by decide +kernel
theorem dL_law_272 : decode code 272 = .ok (.aload_n 0, 1) := by decide +kernel
theorem dL_law_273 : decode code 273 = .ok (.iload_n 3, 1) := by decide +kernel
theorem dL_law_274 : decode code 274 = .ok (.iconst 2, 1) := by decide +kernel
theorem dL_law_275 : decode code 275 = .ok (.iadd, 1) := by decide +kernel
theorem dL_law_276 : decode code 276 = .ok (.iaload, 1) := by decide +kernel
theorem dL_law_277 : decode code 277 = .ok (.invokevirtual 33, 3) := by decide +kernel
theorem dL_law_280 : decode code 280 = .ok (.aload_n 2, 1) := by decide +kernel
theorem dL_law_281 : decode code 281 = .ok (.aload_n 0, 1) := by decide +kernel
theorem dL_law_282 : decode code 282 = .ok (.iload_n 3, 1) := by decide +kernel
theorem dL_law_283 : decode code 283 = .ok (.iconst 1, 1) := by decide +kernel
theorem dL_law_284 : decode code 284 = .ok (.iadd, 1) := by decide +kernel
theorem dL_law_285 : decode code 285 = .ok (.iaload, 1) := by decide +kernel
theorem dL_law_286 : decode code 286 = .ok (.aload_n 0, 1) := by decide +kernel
theorem dL_law_287 : decode code 287 = .ok (.iload_n 3, 1) := by decide +kernel
theorem dL_law_288 : decode code 288 = .ok (.iconst 2, 1) := by decide +kernel
theorem dL_law_289 : decode code 289 = .ok (.iadd, 1) := by decide +kernel
theorem dL_law_290 : decode code 290 = .ok (.iaload, 1) := by decide +kernel
theorem dL_law_291 : decode code 291 = .ok (.invokevirtual 37, 3) := by decide +kernel
theorem dL_law_294 : decode code 294 = .ok (.if_icmp .eq 697, 3) := by decide +kernel
theorem dL_law_297 : decode code 297 = .ok (.iconst 0, 1) := by decide +kernel
theorem dL_law_298 : decode code 298 = .ok (.ireturn, 1) := by decide +kernel
theorem dL_law_299 : decode code 299 = .ok (.aload_n 1, 1) := by decide +kernel
theorem dL_law_300 : decode code 300 = .ok (.aload_n 0, 1) := by decide +kernel
theorem dL_law_301 : decode code 301 = .ok (.iload_n 3, 1) := by decide +kernel
theorem dL_law_302 : decode code 302 = .ok (.iconst 1, 1) := by decide +kernel
theorem dL_law_303 : decode code 303 = .ok (.iadd, 1) := by decide +kernel
theorem dL_law_304 : decode code 304 = .ok (.iaload, 1) := by decide +kernel
theorem dL_law_305 : decode code 305 = .ok (.aload_n 0, 1) := by decide +kernel
theorem dL_law_306 : decode code 306 = .ok (.iload_n 3, 1) := by decide +kernel
theorem dL_law_307 : decode code 307 = .ok (.iconst 2, 1) := by decide +kernel
theorem dL_law_308 : decode code 308 = .ok (.iadd, 1) := by decide +kernel
theorem dL_law_309 : decode code 309 = .ok (.iaload, 1) := by decide +kernel
theorem dL_law_310 : decode code 310 = .ok (.invokevirtual 38, 3) := by decide +kernel
theorem dL_law_313 : decode code 313 = .ok (.aload_n 2, 1) := by decide +kernel
theorem dL_law_314 : decode code 314 = .ok (.aload_n 0, 1) := by decide +kernel
theorem dL_law_315 : decode code 315 = .ok (.iload_n 3, 1) := by decide +kernel
theorem dL_law_316 : decode code 316 = .ok (.iconst 1, 1) := by decide +kernel
theorem dL_law_317 : decode code 317 = .ok (.iadd, 1) := by decide +kernel
theorem dL_law_318 : decode code 318 = .ok (.iaload, 1) := by decide +kernel
theorem dL_law_319 : decode code 319 = .ok (.aload_n 0, 1) := by decide +kernel
theorem dL_law_320 : decode code 320 = .ok (.iload_n 3, 1) := by decide +kernel
theorem dL_law_321 : decode code 321 = .ok (.iconst 2, 1) := by decide +kernel
theorem dL_law_322 : decode code 322 = .ok (.iadd, 1) := by decide +kernel
theorem dL_law_323 : decode code 323 = .ok (.iaload, 1) := by decide +kernel
theorem dL_law_324 : decode code 324 = .ok (.invokevirtual 41, 3) := by decide +kernel
theorem dL_law_327 : decode code 327 = .ok (.if_icmp .eq 664, 3) := by decide +kernel
theorem dL_law_330 : decode code 330 = .ok (.iconst 0, 1) := by decide +kernel
theorem dL_law_331 : decode code 331 = .ok (.ireturn, 1) := by decide +kernel
theorem dL_law_332 : decode code 332 = .ok (.aload_n 1, 1) := by decide +kernel
theorem dL_law_333 : decode code 333 = .ok (.aload_n 0, 1) := by decide +kernel
theorem dL_law_334 : decode code 334 = .ok (.iload_n 3, 1) := by decide +kernel
theorem dL_law_335 : decode code 335 = .ok (.iconst 1, 1) := by decide +kernel
theorem dL_law_336 : decode code 336 = .ok (.iadd, 1) := by decide +kernel
theorem dL_law_337 : decode code 337 = .ok (.iaload, 1) := by decide +kernel
theorem dL_law_338 : decode code 338 = .ok (.invokevirtual 42, 3) := by decide +kernel
theorem dL_law_341 : decode code 341 = .ok (.aload_n 2, 1) := by decide +kernel
theorem dL_law_342 : decode code 342 = .ok (.aload_n 0, 1) := by decide +kernel
theorem dL_law_343 : decode code 343 = .ok (.iload_n 3, 1) := by decide +kernel
theorem dL_law_344 : decode code 344 = .ok (.iconst 1, 1) := by decide +kernel
theorem dL_law_345 : decode code 345 = .ok (.iadd, 1) := by decide +kernel
theorem dL_law_346 : decode code 346 = .ok (.iaload, 1) := by decide +kernel
theorem dL_law_347 : decode code 347 = .ok (.invokevirtual 46, 3) := by decide +kernel
theorem dL_law_350 : decode code 350 = .ok (.if_icmp .eq 641, 3) := by decide +kernel
theorem dL_law_353 : decode code 353 = .ok (.iconst 0, 1) := by decide +kernel
theorem dL_law_354 : decode code 354 = .ok (.ireturn, 1) := by decide +kernel
theorem dL_law_355 : decode code 355 = .ok (.aload_n 1, 1) := by decide +kernel
theorem dL_law_356 : decode code 356 = .ok (.aload_n 0, 1) := by decide +kernel
theorem dL_law_357 : decode code 357 = .ok (.iload_n 3, 1) := by decide +kernel
theorem dL_law_358 : decode code 358 = .ok (.iconst 1, 1) := by decide +kernel
theorem dL_law_359 : decode code 359 = .ok (.iadd, 1) := by decide +kernel
theorem dL_law_360 : decode code 360 = .ok (.iaload, 1) := by decide +kernel
theorem dL_law_361 : decode code 361 = .ok (.aload_n 0, 1) := by decide +kernel
theorem dL_law_362 : decode code 362 = .ok (.iload_n 3, 1) := by decide +kernel
theorem dL_law_363 : decode code 363 = .ok (.iconst 2, 1) := by decide +kernel
theorem dL_law_364 : decode code 364 = .ok (.iadd, 1) := by decide +kernel
theorem dL_law_365 : decode code 365 = .ok (.iaload, 1) := by decide +kernel
theorem dL_law_366 : decode code 366 = .ok (.invokevirtual 47, 3) := by decide +kernel
theorem dL_law_369 : decode code 369 = .ok (.aload_n 2, 1) := by decide +kernel
theorem dL_law_370 : decode code 370 = .ok (.aload_n 0, 1) := by decide +kernel
theorem dL_law_371 : decode code 371 = .ok (.iload_n 3, 1) := by decide +kernel
theorem dL_law_372 : decode code 372 = .ok (.iconst 1, 1) := by decide +kernel
theorem dL_law_373 : decode code 373 = .ok (.iadd, 1) := by decide +kernel
theorem dL_law_374 : decode code 374 = .ok (.iaload, 1) := by decide +kernel
theorem dL_law_375 : decode code 375 = .ok (.aload_n 0, 1) := by decide +kernel
theorem dL_law_376 : decode code 376 = .ok (.iload_n 3, 1) := by decide +kernel
theorem dL_law_377 : decode code 377 = .ok (.iconst 2, 1) := by decide +kernel
theorem dL_law_378 : decode code 378 = .ok (.iadd, 1) := by decide +kernel
theorem dL_law_379 : decode code 379 = .ok (.iaload, 1) := by decide +kernel
theorem dL_law_380 : decode code 380 = .ok (.invokevirtual 50, 3) := by decide +kernel
theorem dL_law_383 : decode code 383 = .ok (.if_icmp .eq 608, 3) := by decide +kernel
theorem dL_law_386 : decode code 386 = .ok (.iconst 0, 1) := by decide +kernel
theorem dL_law_387 : decode code 387 = .ok (.ireturn, 1) := by decide +kernel
theorem dL_law_388 : decode code 388 = .ok (.aload_n 1, 1) := by decide +kernel
theorem dL_law_389 : decode code 389 = .ok (.aload_n 0, 1) := by decide +kernel
theorem dL_law_390 : decode code 390 = .ok (.iload_n 3, 1) := by decide +kernel
theorem dL_law_391 : decode code 391 = .ok (.iconst 1, 1) := by decide +kernel
theorem dL_law_392 : decode code 392 = .ok (.iadd, 1) := by decide +kernel
theorem dL_law_393 : decode code 393 = .ok (.iaload, 1) := by decide +kernel
theorem dL_law_394 : decode code 394 = .ok (.invokevirtual 51, 3) := by decide +kernel
theorem dL_law_397 : decode code 397 = .ok (.aload_n 2, 1) := by decide +kernel
theorem dL_law_398 : decode code 398 = .ok (.aload_n 0, 1) := by decide +kernel
theorem dL_law_399 : decode code 399 = .ok (.iload_n 3, 1) := by decide +kernel
theorem dL_law_400 : decode code 400 = .ok (.iconst 1, 1) := by decide +kernel
theorem dL_law_401 : decode code 401 = .ok (.iadd, 1) := by decide +kernel
theorem dL_law_402 : decode code 402 = .ok (.iaload, 1) := by decide +kernel
theorem dL_law_403 : decode code 403 = .ok (.invokevirtual 54, 3) := by decide +kernel
theorem dL_law_406 : decode code 406 = .ok (.if_icmp .eq 585, 3) := by decide +kernel
theorem dL_law_409 : decode code 409 = .ok (.iconst 0, 1) := by decide +kernel
theorem dL_law_410 : decode code 410 = .ok (.ireturn, 1) := by decide +kernel
theorem dL_law_411 : decode code 411 = .ok (.aload_n 1, 1) := by decide +kernel
theorem dL_law_412 : decode code 412 = .ok (.aload_n 0, 1) := by decide +kernel
theorem dL_law_413 : decode code 413 = .ok (.iload_n 3, 1) := by decide +kernel
theorem dL_law_414 : decode code 414 = .ok (.iconst 1, 1) := by decide +kernel
theorem dL_law_415 : decode code 415 = .ok (.iadd, 1) := by decide +kernel
theorem dL_law_416 : decode code 416 = .ok (.iaload, 1) := by decide +kernel
theorem dL_law_417 : decode code 417 = .ok (.aload_n 0, 1) := by decide +kernel
theorem dL_law_418 : decode code 418 = .ok (.iload_n 3, 1) := by decide +kernel
theorem dL_law_419 : decode code 419 = .ok (.iconst 2, 1) := by decide +kernel
theorem dL_law_420 : decode code 420 = .ok (.iadd, 1) := by decide +kernel
theorem dL_law_421 : decode code 421 = .ok (.iaload, 1) := by decide +kernel
theorem dL_law_422 : decode code 422 = .ok (.aload_n 0, 1) := by decide +kernel
theorem dL_law_423 : decode code 423 = .ok (.iload_n 3, 1) := by decide +kernel
theorem dL_law_424 : decode code 424 = .ok (.iconst 3, 1) := by decide +kernel
theorem dL_law_425 : decode code 425 = .ok (.iadd, 1) := by decide +kernel
theorem dL_law_426 : decode code 426 = .ok (.iaload, 1) := by decide +kernel
theorem dL_law_427 : decode code 427 = .ok (.aload_n 0, 1) := by decide +kernel
theorem dL_law_428 : decode code 428 = .ok (.iload_n 3, 1) := by decide +kernel
theorem dL_law_429 : decode code 429 = .ok (.iconst 4, 1) := by decide +kernel
theorem dL_law_430 : decode code 430 = .ok (.iadd, 1) := by decide +kernel
theorem dL_law_431 : decode code 431 = .ok (.iaload, 1) := by decide +kernel
theorem dL_law_432 : decode code 432 = .ok (.invokevirtual 55, 3) := by decide +kernel
theorem dL_law_435 : decode code 435 = .ok (.aload_n 2, 1) := by decide +kernel
theorem dL_law_436 : decode code 436 = .ok (.aload_n 0, 1) := by decide +kernel
theorem dL_law_437 : decode code 437 = .ok (.iload_n 3, 1) := by decide +kernel
theorem dL_law_438 : decode code 438 = .ok (.iconst 1, 1) := by decide +kernel
theorem dL_law_439 : decode code 439 = .ok (.iadd, 1) := by decide +kernel
theorem dL_law_440 : decode code 440 = .ok (.iaload, 1) := by decide +kernel
theorem dL_law_441 : decode code 441 = .ok (.aload_n 0, 1) := by decide +kernel
theorem dL_law_442 : decode code 442 = .ok (.iload_n 3, 1) := by decide +kernel
theorem dL_law_443 : decode code 443 = .ok (.iconst 2, 1) := by decide +kernel
theorem dL_law_444 : decode code 444 = .ok (.iadd, 1) := by decide +kernel
theorem dL_law_445 : decode code 445 = .ok (.iaload, 1) := by decide +kernel
theorem dL_law_446 : decode code 446 = .ok (.aload_n 0, 1) := by decide +kernel
theorem dL_law_447 : decode code 447 = .ok (.iload_n 3, 1) := by decide +kernel
theorem dL_law_448 : decode code 448 = .ok (.iconst 3, 1) := by decide +kernel
theorem dL_law_449 : decode code 449 = .ok (.iadd, 1) := by decide +kernel
theorem dL_law_450 : decode code 450 = .ok (.iaload, 1) := by decide +kernel
theorem dL_law_451 : decode code 451 = .ok (.aload_n 0, 1) := by decide +kernel
theorem dL_law_452 : decode code 452 = .ok (.iload_n 3, 1) := by decide +kernel
theorem dL_law_453 : decode code 453 = .ok (.iconst 4, 1) := by decide +kernel
theorem dL_law_454 : decode code 454 = .ok (.iadd, 1) := by decide +kernel
theorem dL_law_455 : decode code 455 = .ok (.iaload, 1) := by decide +kernel
theorem dL_law_456 : decode code 456 = .ok (.invokevirtual 59, 3) := by decide +kernel
theorem dL_law_459 : decode code 459 = .ok (.if_icmp .eq 532, 3) := by decide +kernel
theorem dL_law_462 : decode code 462 = .ok (.iconst 0, 1) := by decide +kernel
theorem dL_law_463 : decode code 463 = .ok (.ireturn, 1) := by decide +kernel
theorem dL_law_464 : decode code 464 = .ok (.aload_n 1, 1) := by decide +kernel
theorem dL_law_465 : decode code 465 = .ok (.aload_n 0, 1) := by decide +kernel
theorem dL_law_466 : decode code 466 = .ok (.iload_n 3, 1) := by decide +kernel
theorem dL_law_467 : decode code 467 = .ok (.iconst 1, 1) := by decide +kernel
theorem dL_law_468 : decode code 468 = .ok (.iadd, 1) := by decide +kernel
theorem dL_law_469 : decode code 469 = .ok (.iaload, 1) := by decide +kernel
theorem dL_law_470 : decode code 470 = .ok (.aload_n 0, 1) := by decide +kernel
theorem dL_law_471 : decode code 471 = .ok (.iload_n 3, 1) := by decide +kernel
theorem dL_law_472 : decode code 472 = .ok (.iconst 2, 1) := by decide +kernel
theorem dL_law_473 : decode code 473 = .ok (.iadd, 1) := by decide +kernel
theorem dL_law_474 : decode code 474 = .ok (.iaload, 1) := by decide +kernel
theorem dL_law_475 : decode code 475 = .ok (.invokevirtual 60, 3) := by decide +kernel
theorem dL_law_478 : decode code 478 = .ok (.aload_n 2, 1) := by decide +kernel
theorem dL_law_479 : decode code 479 = .ok (.aload_n 0, 1) := by decide +kernel
theorem dL_law_480 : decode code 480 = .ok (.iload_n 3, 1) := by decide +kernel
theorem dL_law_481 : decode code 481 = .ok (.iconst 1, 1) := by decide +kernel
theorem dL_law_482 : decode code 482 = .ok (.iadd, 1) := by decide +kernel
theorem dL_law_483 : decode code 483 = .ok (.iaload, 1) := by decide +kernel
theorem dL_law_484 : decode code 484 = .ok (.aload_n 0, 1) := by decide +kernel
theorem dL_law_485 : decode code 485 = .ok (.iload_n 3, 1) := by decide +kernel
theorem dL_law_486 : decode code 486 = .ok (.iconst 2, 1) := by decide +kernel
theorem dL_law_487 : decode code 487 = .ok (.iadd, 1) := by decide +kernel
theorem dL_law_488 : decode code 488 = .ok (.iaload, 1) := by decide +kernel
theorem dL_law_489 : decode code 489 = .ok (.invokevirtual 63, 3) := by decide +kernel
theorem dL_law_492 : decode code 492 = .ok (.if_icmp .eq 499, 3) := by decide +kernel
theorem dL_law_495 : decode code 495 = .ok (.iconst 0, 1) := by decide +kernel
theorem dL_law_496 : decode code 496 = .ok (.ireturn, 1) := by decide +kernel
theorem dL_law_497 : decode code 497 = .ok (.aload_n 1, 1) := by decide +kernel
theorem dL_law_498 : decode code 498 = .ok (.aload_n 0, 1) := by decide +kernel
theorem dL_law_499 : decode code 499 = .ok (.iload_n 3, 1) := by decide +kernel
theorem dL_law_500 : decode code 500 = .ok (.iconst 1, 1) := by decide +kernel
theorem dL_law_501 : decode code 501 = .ok (.iadd, 1) := by decide +kernel
theorem dL_law_502 : decode code 502 = .ok (.iaload, 1) := by decide +kernel
theorem dL_law_503 : decode code 503 = .ok (.invokevirtual 64, 3) := by decide +kernel
theorem dL_law_506 : decode code 506 = .ok (.aload_n 2, 1) := by decide +kernel
theorem dL_law_507 : decode code 507 = .ok (.aload_n 0, 1) := by decide +kernel
theorem dL_law_508 : decode code 508 = .ok (.iload_n 3, 1) := by decide +kernel
theorem dL_law_509 : decode code 509 = .ok (.iconst 1, 1) := by decide +kernel
theorem dL_law_510 : decode code 510 = .ok (.iadd, 1) := by decide +kernel
theorem dL_law_511 : decode code 511 = .ok (.iaload, 1) := by decide +kernel
theorem dL_law_512 : decode code 512 = .ok (.invokevirtual 67, 3) := by decide +kernel
theorem dL_law_515 : decode code 515 = .ok (.if_icmp .eq 476, 3) := by decide +kernel
theorem dL_law_518 : decode code 518 = .ok (.iconst 0, 1) := by decide +kernel
theorem dL_law_519 : decode code 519 = .ok (.ireturn, 1) := by decide +kernel
theorem dL_law_520 : decode code 520 = .ok (.aload_n 1, 1) := by decide +kernel
theorem dL_law_521 : decode code 521 = .ok (.aload_n 0, 1) := by decide +kernel
theorem dL_law_522 : decode code 522 = .ok (.iload_n 3, 1) := by decide +kernel
theorem dL_law_523 : decode code 523 = .ok (.iconst 1, 1) := by decide +kernel
theorem dL_law_524 : decode code 524 = .ok (.iadd, 1) := by decide +kernel
theorem dL_law_525 : decode code 525 = .ok (.iaload, 1) := by decide +kernel
theorem dL_law_526 : decode code 526 = .ok (.aload_n 0, 1) := by decide +kernel
theorem dL_law_527 : decode code 527 = .ok (.iload_n 3, 1) := by decide +kernel
theorem dL_law_528 : decode code 528 = .ok (.iconst 2, 1) := by decide +kernel
theorem dL_law_529 : decode code 529 = .ok (.iadd, 1) := by decide +kernel
theorem dL_law_530 : decode code 530 = .ok (.iaload, 1) := by decide +kernel
theorem dL_law_531 : decode code 531 = .ok (.invokevirtual 68, 3) := by decide +kernel
theorem dL_law_534 : decode code 534 = .ok (.aload_n 2, 1) := by decide +kernel
theorem dL_law_535 : decode code 535 = .ok (.aload_n 0, 1) := by decide +kernel
theorem dL_law_536 : decode code 536 = .ok (.iload_n 3, 1) := by decide +kernel
theorem dL_law_537 : decode code 537 = .ok (.iconst 1, 1) := by decide +kernel
theorem dL_law_538 : decode code 538 = .ok (.iadd, 1) := by decide +kernel
theorem dL_law_539 : decode code 539 = .ok (.iaload, 1) := by decide +kernel
theorem dL_law_540 : decode code 540 = .ok (.aload_n 0, 1) := by decide +kernel
theorem dL_law_541 : decode code 541 = .ok (.iload_n 3, 1) := by decide +kernel
theorem dL_law_542 : decode code 542 = .ok (.iconst 2, 1) := by decide +kernel
theorem dL_law_543 : decode code 543 = .ok (.iadd, 1) := by decide +kernel
theorem dL_law_544 : decode code 544 = .ok (.iaload, 1) := by decide +kernel
theorem dL_law_545 : decode code 545 = .ok (.invokevirtual 71, 3) := by decide +kernel
theorem dL_law_548 : decode code 548 = .ok (.if_icmp .eq 443, 3) := by decide +kernel
theorem dL_law_551 : decode code 551 = .ok (.iconst 0, 1) := by decide +kernel
theorem dL_law_552 : decode code 552 = .ok (.ireturn, 1) := by decide +kernel
theorem dL_law_553 : decode code 553 = .ok (.aload_n 1, 1) := by decide +kernel
theorem dL_law_554 : decode code 554 = .ok (.aload_n 0, 1) := by decide +kernel
theorem dL_law_555 : decode code 555 = .ok (.iload_n 3, 1) := by decide +kernel
theorem dL_law_556 : decode code 556 = .ok (.iconst 1, 1) := by decide +kernel
theorem dL_law_557 : decode code 557 = .ok (.iadd, 1) := by decide +kernel
theorem dL_law_558 : decode code 558 = .ok (.iaload, 1) := by decide +kernel
theorem dL_law_559 : decode code 559 = .ok (.aload_n 0, 1) := by decide +kernel
theorem dL_law_560 : decode code 560 = .ok (.iload_n 3, 1) := by decide +kernel
theorem dL_law_561 : decode code 561 = .ok (.iconst 2, 1) := by decide +kernel
theorem dL_law_562 : decode code 562 = .ok (.iadd, 1) := by decide +kernel
theorem dL_law_563 : decode code 563 = .ok (.iaload, 1) := by decide +kernel
theorem dL_law_564 : decode code 564 = .ok (.invokevirtual 72, 3) := by decide +kernel
theorem dL_law_567 : decode code 567 = .ok (.aload_n 2, 1) := by decide +kernel
theorem dL_law_568 : decode code 568 = .ok (.aload_n 0, 1) := by decide +kernel
theorem dL_law_569 : decode code 569 = .ok (.iload_n 3, 1) := by decide +kernel
theorem dL_law_570 : decode code 570 = .ok (.iconst 1, 1) := by decide +kernel
theorem dL_law_571 : decode code 571 = .ok (.iadd, 1) := by decide +kernel
theorem dL_law_572 : decode code 572 = .ok (.iaload, 1) := by decide +kernel
theorem dL_law_573 : decode code 573 = .ok (.aload_n 0, 1) := by decide +kernel
theorem dL_law_574 : decode code 574 = .ok (.iload_n 3, 1) := by decide +kernel
theorem dL_law_575 : decode code 575 = .ok (.iconst 2, 1) := by decide +kernel
theorem dL_law_576 : decode code 576 = .ok (.iadd, 1) := by decide +kernel
theorem dL_law_577 : decode code 577 = .ok (.iaload, 1) := by decide +kernel
theorem dL_law_578 : decode code 578 = .ok (.invokevirtual 75, 3) := by decide +kernel
theorem dL_law_581 : decode code 581 = .ok (.if_icmp .eq 410, 3) := by decide +kernel
theorem dL_law_584 : decode code 584 = .ok (.iconst 0, 1) := by decide +kernel
theorem dL_law_585 : decode code 585 = .ok (.ireturn, 1) := by decide +kernel
theorem dL_law_586 : decode code 586 = .ok (.aload_n 1, 1) := by decide +kernel
theorem dL_law_587 : decode code 587 = .ok (.aload_n 0, 1) := by decide +kernel
theorem dL_law_588 : decode code 588 = .ok (.iload_n 3, 1) := by decide +kernel
theorem dL_law_589 : decode code 589 = .ok (.iconst 1, 1) := by decide +kernel
theorem dL_law_590 : decode code 590 = .ok (.iadd, 1) := by decide +kernel
theorem dL_law_591 : decode code 591 = .ok (.iaload, 1) := by decide +kernel
theorem dL_law_592 : decode code 592 = .ok (.invokevirtual 76, 3) := by decide +kernel
theorem dL_law_595 : decode code 595 = .ok (.aload_n 2, 1) := by decide +kernel
theorem dL_law_596 : decode code 596 = .ok (.aload_n 0, 1) := by decide +kernel
theorem dL_law_597 : decode code 597 = .ok (.iload_n 3, 1) := by decide +kernel
theorem dL_law_598 : decode code 598 = .ok (.iconst 1, 1) := by decide +kernel
theorem dL_law_599 : decode code 599 = .ok (.iadd, 1) := by decide +kernel
theorem dL_law_600 : decode code 600 = .ok (.iaload, 1) := by decide +kernel
theorem dL_law_601 : decode code 601 = .ok (.invokevirtual 79, 3) := by decide +kernel
theorem dL_law_604 : decode code 604 = .ok (.if_icmp .eq 387, 3) := by decide +kernel
theorem dL_law_607 : decode code 607 = .ok (.iconst 0, 1) := by decide +kernel
theorem dL_law_608 : decode code 608 = .ok (.ireturn, 1) := by decide +kernel
theorem dL_law_609 : decode code 609 = .ok (.aload_n 1, 1) := by decide +kernel
theorem dL_law_610 : decode code 610 = .ok (.aload_n 0, 1) := by decide +kernel
theorem dL_law_611 : decode code 611 = .ok (.iload_n 3, 1) := by decide +kernel
theorem dL_law_612 : decode code 612 = .ok (.iconst 1, 1) := by decide +kernel
theorem dL_law_613 : decode code 613 = .ok (.iadd, 1) := by decide +kernel
theorem dL_law_614 : decode code 614 = .ok (.iaload, 1) := by decide +kernel
theorem dL_law_615 : decode code 615 = .ok (.invokevirtual 80, 3) := by decide +kernel
theorem dL_law_618 : decode code 618 = .ok (.aload_n 2, 1) := by decide +kernel
theorem dL_law_619 : decode code 619 = .ok (.aload_n 0, 1) := by decide +kernel
theorem dL_law_620 : decode code 620 = .ok (.iload_n 3, 1) := by decide +kernel
theorem dL_law_621 : decode code 621 = .ok (.iconst 1, 1) := by decide +kernel
theorem dL_law_622 : decode code 622 = .ok (.iadd, 1) := by decide +kernel
theorem dL_law_623 : decode code 623 = .ok (.iaload, 1) := by decide +kernel
theorem dL_law_624 : decode code 624 = .ok (.invokevirtual 83, 3) := by decide +kernel
theorem dL_law_627 : decode code 627 = .ok (.if_icmp .eq 364, 3) := by decide +kernel
theorem dL_law_630 : decode code 630 = .ok (.iconst 0, 1) := by decide +kernel
theorem dL_law_631 : decode code 631 = .ok (.ireturn, 1) := by decide +kernel
theorem dL_law_632 : decode code 632 = .ok (.aload_n 1, 1) := by decide +kernel
theorem dL_law_633 : decode code 633 = .ok (.aload_n 0, 1) := by decide +kernel
theorem dL_law_634 : decode code 634 = .ok (.iload_n 3, 1) := by decide +kernel
theorem dL_law_635 : decode code 635 = .ok (.iconst 1, 1) := by decide +kernel
theorem dL_law_636 : decode code 636 = .ok (.iadd, 1) := by decide +kernel
theorem dL_law_637 : decode code 637 = .ok (.iaload, 1) := by decide +kernel
theorem dL_law_638 : decode code 638 = .ok (.invokevirtual 84, 3) := by decide +kernel
theorem dL_law_641 : decode code 641 = .ok (.aload_n 2, 1) := by decide +kernel
theorem dL_law_642 : decode code 642 = .ok (.aload_n 0, 1) := by decide +kernel
theorem dL_law_643 : decode code 643 = .ok (.iload_n 3, 1) := by decide +kernel
theorem dL_law_644 : decode code 644 = .ok (.iconst 1, 1) := by decide +kernel
theorem dL_law_645 : decode code 645 = .ok (.iadd, 1) := by decide +kernel
theorem dL_law_646 : decode code 646 = .ok (.iaload, 1) := by decide +kernel
theorem dL_law_647 : decode code 647 = .ok (.invokevirtual 87, 3) := by decide +kernel
theorem dL_law_650 : decode code 650 = .ok (.if_icmp .eq 341, 3) := by decide +kernel
theorem dL_law_653 : decode code 653 = .ok (.iconst 0, 1) := by decide +kernel
theorem dL_law_654 : decode code 654 = .ok (.ireturn, 1) := by decide +kernel
theorem dL_law_655 : decode code 655 = .ok (.aload_n 1, 1) := by decide +kernel
theorem dL_law_656 : decode code 656 = .ok (.invokevirtual 88, 3) := by decide +kernel
theorem dL_law_659 : decode code 659 = .ok (.aload_n 2, 1) := by decide +kernel
theorem dL_law_660 : decode code 660 = .ok (.invokevirtual 91, 3) := by decide +kernel
theorem dL_law_663 : decode code 663 = .ok (.if_icmp .eq 328, 3) := by decide +kernel
theorem dL_law_666 : decode code 666 = .ok (.iconst 0, 1) := by decide +kernel
theorem dL_law_667 : decode code 667 = .ok (.ireturn, 1) := by decide +kernel
theorem dL_law_668 : decode code 668 = .ok (.aload_n 1, 1) := by decide +kernel
theorem dL_law_669 : decode code 669 = .ok (.aload_n 0, 1) := by decide +kernel
theorem dL_law_670 : decode code 670 = .ok (.iload_n 3, 1) := by decide +kernel
theorem dL_law_671 : decode code 671 = .ok (.iconst 1, 1) := by decide +kernel
theorem dL_law_672 : decode code 672 = .ok (.iadd, 1) := by decide +kernel
theorem dL_law_673 : decode code 673 = .ok (.iaload, 1) := by decide +kernel
theorem dL_law_674 : decode code 674 = .ok (.aload_n 0, 1) := by decide +kernel
theorem dL_law_675 : decode code 675 = .ok (.iload_n 3, 1) := by decide +kernel
theorem dL_law_676 : decode code 676 = .ok (.iconst 2, 1) := by decide +kernel
theorem dL_law_677 : decode code 677 = .ok (.iadd, 1) := by decide +kernel
theorem dL_law_678 : decode code 678 = .ok (.iaload, 1) := by decide +kernel
theorem dL_law_679 : decode code 679 = .ok (.invokevirtual 92, 3) := by decide +kernel
theorem dL_law_682 : decode code 682 = .ok (.aload_n 2, 1) := by decide +kernel
theorem dL_law_683 : decode code 683 = .ok (.aload_n 0, 1) := by decide +kernel
theorem dL_law_684 : decode code 684 = .ok (.iload_n 3, 1) := by decide +kernel
theorem dL_law_685 : decode code 685 = .ok (.iconst 1, 1) := by decide +kernel
theorem dL_law_686 : decode code 686 = .ok (.iadd, 1) := by decide +kernel
theorem dL_law_687 : decode code 687 = .ok (.iaload, 1) := by decide +kernel
theorem dL_law_688 : decode code 688 = .ok (.aload_n 0, 1) := by decide +kernel
theorem dL_law_689 : decode code 689 = .ok (.iload_n 3, 1) := by decide +kernel
theorem dL_law_690 : decode code 690 = .ok (.iconst 2, 1) := by decide +kernel
theorem dL_law_691 : decode code 691 = .ok (.iadd, 1) := by decide +kernel
theorem dL_law_692 : decode code 692 = .ok (.iaload, 1) := by decide +kernel
theorem dL_law_693 : decode code 693 = .ok (.invokevirtual 95, 3) := by decide +kernel
theorem dL_law_696 : decode code 696 = .ok (.if_icmp .eq 295, 3) := by decide +kernel
theorem dL_law_699 : decode code 699 = .ok (.iconst 0, 1) := by decide +kernel
theorem dL_law_700 : decode code 700 = .ok (.ireturn, 1) := by decide +kernel
theorem dL_law_701 : decode code 701 = .ok (.aload_n 1, 1) := by decide +kernel
theorem dL_law_702 : decode code 702 = .ok (.aload_n 0, 1) := by decide +kernel
theorem dL_law_703 : decode code 703 = .ok (.iload_n 3, 1) := by decide +kernel
theorem dL_law_704 : decode code 704 = .ok (.iconst 1, 1) := by decide +kernel
theorem dL_law_705 : decode code 705 = .ok (.iadd, 1) := by decide +kernel
theorem dL_law_706 : decode code 706 = .ok (.iaload, 1) := by decide +kernel
theorem dL_law_707 : decode code 707 = .ok (.aload_n 0, 1) := by decide +kernel
theorem dL_law_708 : decode code 708 = .ok (.iload_n 3, 1) := by decide +kernel
theorem dL_law_709 : decode code 709 = .ok (.iconst 2, 1) := by decide +kernel
theorem dL_law_710 : decode code 710 = .ok (.iadd, 1) := by decide +kernel
theorem dL_law_711 : decode code 711 = .ok (.iaload, 1) := by decide +kernel
theorem dL_law_712 : decode code 712 = .ok (.aload_n 0, 1) := by decide +kernel
theorem dL_law_713 : decode code 713 = .ok (.iload_n 3, 1) := by decide +kernel
theorem dL_law_714 : decode code 714 = .ok (.iconst 3, 1) := by decide +kernel
theorem dL_law_715 : decode code 715 = .ok (.iadd, 1) := by decide +kernel
theorem dL_law_716 : decode code 716 = .ok (.iaload, 1) := by decide +kernel
theorem dL_law_717 : decode code 717 = .ok (.aload_n 0, 1) := by decide +kernel
theorem dL_law_718 : decode code 718 = .ok (.iload_n 3, 1) := by decide +kernel
theorem dL_law_719 : decode code 719 = .ok (.iconst 4, 1) := by decide +kernel
theorem dL_law_720 : decode code 720 = .ok (.iadd, 1) := by decide +kernel
theorem dL_law_721 : decode code 721 = .ok (.iaload, 1) := by decide +kernel
theorem dL_law_722 : decode code 722 = .ok (.invokevirtual 96, 3) := by decide +kernel
theorem dL_law_725 : decode code 725 = .ok (.aload_n 2, 1) := by decide +kernel
theorem dL_law_726 : decode code 726 = .ok (.aload_n 0, 1) := by decide +kernel
theorem dL_law_727 : decode code 727 = .ok (.iload_n 3, 1) := by decide +kernel
theorem dL_law_728 : decode code 728 = .ok (.iconst 1, 1) := by decide +kernel
theorem dL_law_729 : decode code 729 = .ok (.iadd, 1) := by decide +kernel
theorem dL_law_730 : decode code 730 = .ok (.iaload, 1) := by decide +kernel
theorem dL_law_731 : decode code 731 = .ok (.aload_n 0, 1) := by decide +kernel
theorem dL_law_732 : decode code 732 = .ok (.iload_n 3, 1) := by decide +kernel
theorem dL_law_733 : decode code 733 = .ok (.iconst 2, 1) := by decide +kernel
theorem dL_law_734 : decode code 734 = .ok (.iadd, 1) := by decide +kernel
theorem dL_law_735 : decode code 735 = .ok (.iaload, 1) := by decide +kernel
theorem dL_law_736 : decode code 736 = .ok (.aload_n 0, 1) := by decide +kernel
theorem dL_law_737 : decode code 737 = .ok (.iload_n 3, 1) := by decide +kernel
theorem dL_law_738 : decode code 738 = .ok (.iconst 3, 1) := by decide +kernel
theorem dL_law_739 : decode code 739 = .ok (.iadd, 1) := by decide +kernel
theorem dL_law_740 : decode code 740 = .ok (.iaload, 1) := by decide +kernel
theorem dL_law_741 : decode code 741 = .ok (.aload_n 0, 1) := by decide +kernel
theorem dL_law_742 : decode code 742 = .ok (.iload_n 3, 1) := by decide +kernel
theorem dL_law_743 : decode code 743 = .ok (.iconst 4, 1) := by decide +kernel
theorem dL_law_744 : decode code 744 = .ok (.iadd, 1) := by decide +kernel
theorem dL_law_745 : decode code 745 = .ok (.iaload, 1) := by decide +kernel
theorem dL_law_746 : decode code 746 = .ok (.invokevirtual 99, 3) := by decide +kernel
theorem dL_law_749 : decode code 749 = .ok (.if_icmp .eq 242, 3) := by decide +kernel
theorem dL_law_752 : decode code 752 = .ok (.iconst 0, 1) := by decide +kernel
theorem dL_law_753 : decode code 753 = .ok (.ireturn, 1) := by decide +kernel
theorem dL_law_754 : decode code 754 = .ok (.aload_n 1, 1) := by decide +kernel
theorem dL_law_755 : decode code 755 = .ok (.invokevirtual 100, 3) := by decide +kernel
theorem dL_law_758 : decode code 758 = .ok (.aload_n 2, 1) := by decide +kernel
theorem dL_law_759 : decode code 759 = .ok (.invokevirtual 103, 3) := by decide +kernel
theorem dL_law_762 : decode code 762 = .ok (.if_icmp .eq 229, 3) := by decide +kernel
theorem dL_law_765 : decode code 765 = .ok (.iconst 0, 1) := by decide +kernel
theorem dL_law_766 : decode code 766 = .ok (.ireturn, 1) := by decide +kernel
theorem dL_law_767 : decode code 767 = .ok (.aload_n 1, 1) := by decide +kernel
theorem dL_law_768 : decode code 768 = .ok (.aload_n 0, 1) := by decide +kernel
theorem dL_law_769 : decode code 769 = .ok (.iload_n 3, 1) := by decide +kernel
theorem dL_law_770 : decode code 770 = .ok (.iconst 1, 1) := by decide +kernel
theorem dL_law_771 : decode code 771 = .ok (.iadd, 1) := by decide +kernel
theorem dL_law_772 : decode code 772 = .ok (.iaload, 1) := by decide +kernel
theorem dL_law_773 : decode code 773 = .ok (.aload_n 0, 1) := by decide +kernel
theorem dL_law_774 : decode code 774 = .ok (.iload_n 3, 1) := by decide +kernel
theorem dL_law_775 : decode code 775 = .ok (.iconst 2, 1) := by decide +kernel
theorem dL_law_776 : decode code 776 = .ok (.iadd, 1) := by decide +kernel
theorem dL_law_777 : decode code 777 = .ok (.iaload, 1) := by decide +kernel
theorem dL_law_778 : decode code 778 = .ok (.invokevirtual 104, 3) := by decide +kernel
theorem dL_law_781 : decode code 781 = .ok (.aload_n 2, 1) := by decide +kernel
theorem dL_law_782 : decode code 782 = .ok (.aload_n 0, 1) := by decide +kernel
theorem dL_law_783 : decode code 783 = .ok (.iload_n 3, 1) := by decide +kernel
theorem dL_law_784 : decode code 784 = .ok (.iconst 1, 1) := by decide +kernel
theorem dL_law_785 : decode code 785 = .ok (.iadd, 1) := by decide +kernel
theorem dL_law_786 : decode code 786 = .ok (.iaload, 1) := by decide +kernel
theorem dL_law_787 : decode code 787 = .ok (.aload_n 0, 1) := by decide +kernel
theorem dL_law_788 : decode code 788 = .ok (.iload_n 3, 1) := by decide +kernel
theorem dL_law_789 : decode code 789 = .ok (.iconst 2, 1) := by decide +kernel
theorem dL_law_790 : decode code 790 = .ok (.iadd, 1) := by decide +kernel
theorem dL_law_791 : decode code 791 = .ok (.iaload, 1) := by decide +kernel
theorem dL_law_792 : decode code 792 = .ok (.invokevirtual 107, 3) := by decide +kernel
theorem dL_law_795 : decode code 795 = .ok (.if_icmp .eq 196, 3) := by decide +kernel
theorem dL_law_798 : decode code 798 = .ok (.iconst 0, 1) := by decide +kernel
theorem dL_law_799 : decode code 799 = .ok (.ireturn, 1) := by decide +kernel
theorem dL_law_800 : decode code 800 = .ok (.aload_n 1, 1) := by decide +kernel
theorem dL_law_801 : decode code 801 = .ok (.aload_n 0, 1) := by decide +kernel
theorem dL_law_802 : decode code 802 = .ok (.iload_n 3, 1) := by decide +kernel
theorem dL_law_803 : decode code 803 = .ok (.iconst 1, 1) := by decide +kernel
theorem dL_law_804 : decode code 804 = .ok (.iadd, 1) := by decide +kernel
theorem dL_law_805 : decode code 805 = .ok (.iaload, 1) := by decide +kernel
theorem dL_law_806 : decode code 806 = .ok (.aload_n 0, 1) := by decide +kernel
theorem dL_law_807 : decode code 807 = .ok (.iload_n 3, 1) := by decide +kernel
theorem dL_law_808 : decode code 808 = .ok (.iconst 2, 1) := by decide +kernel
theorem dL_law_809 : decode code 809 = .ok (.iadd, 1) := by decide +kernel
theorem dL_law_810 : decode code 810 = .ok (.iaload, 1) := by decide +kernel
theorem dL_law_811 : decode code 811 = .ok (.invokevirtual 108, 3) := by decide +kernel
theorem dL_law_814 : decode code 814 = .ok (.aload_n 2, 1) := by decide +kernel
theorem dL_law_815 : decode code 815 = .ok (.aload_n 0, 1) := by decide +kernel
theorem dL_law_816 : decode code 816 = .ok (.iload_n 3, 1) := by decide +kernel
theorem dL_law_817 : decode code 817 = .ok (.iconst 1, 1) := by decide +kernel
theorem dL_law_818 : decode code 818 = .ok (.iadd, 1) := by decide +kernel
theorem dL_law_819 : decode code 819 = .ok (.iaload, 1) := by decide +kernel
theorem dL_law_820 : decode code 820 = .ok (.aload_n 0, 1) := by decide +kernel
theorem dL_law_821 : decode code 821 = .ok (.iload_n 3, 1) := by decide +kernel
theorem dL_law_822 : decode code 822 = .ok (.iconst 2, 1) := by decide +kernel
theorem dL_law_823 : decode code 823 = .ok (.iadd, 1) := by decide +kernel
theorem dL_law_824 : decode code 824 = .ok (.iaload, 1) := by decide +kernel
theorem dL_law_825 : decode code 825 = .ok (.invokevirtual 111, 3) := by decide +kernel
theorem dL_law_828 : decode code 828 = .ok (.if_icmp .eq 163, 3) := by decide +kernel
theorem dL_law_831 : decode code 831 = .ok (.iconst 0, 1) := by decide +kernel
theorem dL_law_832 : decode code 832 = .ok (.ireturn, 1) := by decide +kernel
theorem dL_law_833 : decode code 833 = .ok (.aload_n 1, 1) := by decide +kernel
theorem dL_law_834 : decode code 834 = .ok (.aload_n 0, 1) := by decide +kernel
theorem dL_law_835 : decode code 835 = .ok (.iload_n 3, 1) := by decide +kernel
theorem dL_law_836 : decode code 836 = .ok (.iconst 1, 1) := by decide +kernel
theorem dL_law_837 : decode code 837 = .ok (.iadd, 1) := by decide +kernel
theorem dL_law_838 : decode code 838 = .ok (.iaload, 1) := by decide +kernel
theorem dL_law_839 : decode code 839 = .ok (.aload_n 0, 1) := by decide +kernel
theorem dL_law_840 : decode code 840 = .ok (.iload_n 3, 1) := by decide +kernel
theorem dL_law_841 : decode code 841 = .ok (.iconst 2, 1) := by decide +kernel
theorem dL_law_842 : decode code 842 = .ok (.iadd, 1) := by decide +kernel
theorem dL_law_843 : decode code 843 = .ok (.iaload, 1) := by decide +kernel
theorem dL_law_844 : decode code 844 = .ok (.aload_n 0, 1) := by decide +kernel
theorem dL_law_845 : decode code 845 = .ok (.iload_n 3, 1) := by decide +kernel
theorem dL_law_846 : decode code 846 = .ok (.iconst 3, 1) := by decide +kernel
theorem dL_law_847 : decode code 847 = .ok (.iadd, 1) := by decide +kernel
theorem dL_law_848 : decode code 848 = .ok (.iaload, 1) := by decide +kernel
theorem dL_law_849 : decode code 849 = .ok (.aload_n 0, 1) := by decide +kernel
theorem dL_law_850 : decode code 850 = .ok (.iload_n 3, 1) := by decide +kernel
theorem dL_law_851 : decode code 851 = .ok (.iconst 4, 1) := by decide +kernel
theorem dL_law_852 : decode code 852 = .ok (.iadd, 1) := by decide +kernel
theorem dL_law_853 : decode code 853 = .ok (.iaload, 1) := by decide +kernel
theorem dL_law_854 : decode code 854 = .ok (.invokevirtual 112, 3) := by decide +kernel
theorem dL_law_857 : decode code 857 = .ok (.aload_n 2, 1) := by decide +kernel
theorem dL_law_858 : decode code 858 = .ok (.aload_n 0, 1) := by decide +kernel
theorem dL_law_859 : decode code 859 = .ok (.iload_n 3, 1) := by decide +kernel
theorem dL_law_860 : decode code 860 = .ok (.iconst 1, 1) := by decide +kernel
theorem dL_law_861 : decode code 861 = .ok (.iadd, 1) := by decide +kernel
theorem dL_law_862 : decode code 862 = .ok (.iaload, 1) := by decide +kernel
theorem dL_law_863 : decode code 863 = .ok (.aload_n 0, 1) := by decide +kernel
theorem dL_law_864 : decode code 864 = .ok (.iload_n 3, 1) := by decide +kernel
theorem dL_law_865 : decode code 865 = .ok (.iconst 2, 1) := by decide +kernel
theorem dL_law_866 : decode code 866 = .ok (.iadd, 1) := by decide +kernel
theorem dL_law_867 : decode code 867 = .ok (.iaload, 1) := by decide +kernel
theorem dL_law_868 : decode code 868 = .ok (.aload_n 0, 1) := by decide +kernel
theorem dL_law_869 : decode code 869 = .ok (.iload_n 3, 1) := by decide +kernel
theorem dL_law_870 : decode code 870 = .ok (.iconst 3, 1) := by decide +kernel
theorem dL_law_871 : decode code 871 = .ok (.iadd, 1) := by decide +kernel
theorem dL_law_872 : decode code 872 = .ok (.iaload, 1) := by decide +kernel
theorem dL_law_873 : decode code 873 = .ok (.aload_n 0, 1) := by decide +kernel
theorem dL_law_874 : decode code 874 = .ok (.iload_n 3, 1) := by decide +kernel
theorem dL_law_875 : decode code 875 = .ok (.iconst 4, 1) := by decide +kernel
theorem dL_law_876 : decode code 876 = .ok (.iadd, 1) := by decide +kernel
theorem dL_law_877 : decode code 877 = .ok (.iaload, 1) := by decide +kernel
theorem dL_law_878 : decode code 878 = .ok (.invokevirtual 115, 3) := by decide +kernel
theorem dL_law_881 : decode code 881 = .ok (.if_icmp .eq 110, 3) := by decide +kernel
theorem dL_law_884 : decode code 884 = .ok (.iconst 0, 1) := by decide +kernel
theorem dL_law_885 : decode code 885 = .ok (.ireturn, 1) := by decide +kernel
theorem dL_law_886 : decode code 886 = .ok (.aload_n 1, 1) := by decide +kernel
theorem dL_law_887 : decode code 887 = .ok (.aload_n 0, 1) := by decide +kernel
theorem dL_law_888 : decode code 888 = .ok (.iload_n 3, 1) := by decide +kernel
theorem dL_law_889 : decode code 889 = .ok (.iconst 1, 1) := by decide +kernel
theorem dL_law_890 : decode code 890 = .ok (.iadd, 1) := by decide +kernel
theorem dL_law_891 : decode code 891 = .ok (.iaload, 1) := by decide +kernel
theorem dL_law_892 : decode code 892 = .ok (.aload_n 0, 1) := by decide +kernel
theorem dL_law_893 : decode code 893 = .ok (.iload_n 3, 1) := by decide +kernel
theorem dL_law_894 : decode code 894 = .ok (.iconst 2, 1) := by decide +kernel
theorem dL_law_895 : decode code 895 = .ok (.iadd, 1) := by decide +kernel
theorem dL_law_896 : decode code 896 = .ok (.iaload, 1) := by decide +kernel
theorem dL_law_897 : decode code 897 = .ok (.invokevirtual 116, 3) := by decide +kernel
theorem dL_law_900 : decode code 900 = .ok (.aload_n 2, 1) := by decide +kernel
theorem dL_law_901 : decode code 901 = .ok (.aload_n 0, 1) := by decide +kernel
theorem dL_law_902 : decode code 902 = .ok (.iload_n 3, 1) := by decide +kernel
theorem dL_law_903 : decode code 903 = .ok (.iconst 1, 1) := by decide +kernel
theorem dL_law_904 : decode code 904 = .ok (.iadd, 1) := by decide +kernel
theorem dL_law_905 : decode code 905 = .ok (.iaload, 1) := by decide +kernel
theorem dL_law_906 : decode code 906 = .ok (.aload_n 0, 1) := by decide +kernel
theorem dL_law_907 : decode code 907 = .ok (.iload_n 3, 1) := by decide +kernel
theorem dL_law_908 : decode code 908 = .ok (.iconst 2, 1) := by decide +kernel
theorem dL_law_909 : decode code 909 = .ok (.iadd, 1) := by decide +kernel
theorem dL_law_910 : decode code 910 = .ok (.iaload, 1) := by decide +kernel
theorem dL_law_911 : decode code 911 = .ok (.invokevirtual 119, 3) := by decide +kernel
theorem dL_law_914 : decode code 914 = .ok (.if_icmp .eq 77, 3) := by decide +kernel
theorem dL_law_917 : decode code 917 = .ok (.iconst 0, 1) := by decide +kernel
theorem dL_law_918 : decode code 918 = .ok (.ireturn, 1) := by decide +kernel
theorem dL_law_919 : decode code 919 = .ok (.aload_n 1, 1) := by decide +kernel
theorem dL_law_920 : decode code 920 = .ok (.aload_n 0, 1) := by decide +kernel
theorem dL_law_921 : decode code 921 = .ok (.iload_n 3, 1) := by decide +kernel
theorem dL_law_922 : decode code 922 = .ok (.iconst 1, 1) := by decide +kernel
theorem dL_law_923 : decode code 923 = .ok (.iadd, 1) := by decide +kernel
theorem dL_law_924 : decode code 924 = .ok (.iaload, 1) := by decide +kernel
theorem dL_law_925 : decode code 925 = .ok (.invokevirtual 120, 3) := by decide +kernel
theorem dL_law_928 : decode code 928 = .ok (.aload_n 2, 1) := by decide +kernel
theorem dL_law_929 : decode code 929 = .ok (.aload_n 0, 1) := by decide +kernel
theorem dL_law_930 : decode code 930 = .ok (.iload_n 3, 1) := by decide +kernel
theorem dL_law_931 : decode code 931 = .ok (.iconst 1, 1) := by decide +kernel
theorem dL_law_932 : decode code 932 = .ok (.iadd, 1) := by decide +kernel
theorem dL_law_933 : decode code 933 = .ok (.iaload, 1) := by decide +kernel
theorem dL_law_934 : decode code 934 = .ok (.invokevirtual 123, 3) := by decide +kernel
theorem dL_law_937 : decode code 937 = .ok (.if_icmp .eq 54, 3) := by decide +kernel
theorem dL_law_940 : decode code 940 = .ok (.iconst 0, 1) := by decide +kernel
theorem dL_law_941 : decode code 941 = .ok (.ireturn, 1) := by decide +kernel
theorem dL_law_942 : decode code 942 = .ok (.aload_n 1, 1) := by decide +kernel
theorem dL_law_943 : decode code 943 = .ok (.invokevirtual 124, 3) := by decide +kernel
theorem dL_law_946 : decode code 946 = .ok (.aload_n 2, 1) := by decide +kernel
theorem dL_law_947 : decode code 947 = .ok (.invokevirtual 127, 3) := by decide +kernel
theorem dL_law_950 : decode code 950 = .ok (.if_icmp .eq 41, 3) := by decide +kernel
theorem dL_law_953 : decode code 953 = .ok (.iconst 0, 1) := by decide +kernel
theorem dL_law_954 : decode code 954 = .ok (.ireturn, 1) := by decide +kernel
theorem dL_law_955 : decode code 955 = .ok (.aload_n 1, 1) := by decide +kernel
theorem dL_law_956 : decode code 956 = .ok (.invokevirtual 128, 3) := by decide +kernel
theorem dL_law_959 : decode code 959 = .ok (.aload_n 2, 1) := by decide +kernel
theorem dL_law_960 : decode code 960 = .ok (.invokevirtual 131, 3) := by decide +kernel
theorem dL_law_963 : decode code 963 = .ok (.if_icmp .eq 28, 3) := by decide +kernel
theorem dL_law_966 : decode code 966 = .ok (.iconst 0, 1) := by decide +kernel
theorem dL_law_967 : decode code 967 = .ok (.ireturn, 1) := by decide +kernel
theorem dL_law_968 : decode code 968 = .ok (.aload_n 1, 1) := by decide +kernel
theorem dL_law_969 : decode code 969 = .ok (.aload_n 0, 1) := by decide +kernel
theorem dL_law_970 : decode code 970 = .ok (.iload_n 3, 1) := by decide +kernel
theorem dL_law_971 : decode code 971 = .ok (.iconst 1, 1) := by decide +kernel
theorem dL_law_972 : decode code 972 = .ok (.iadd, 1) := by decide +kernel
theorem dL_law_973 : decode code 973 = .ok (.iaload, 1) := by decide +kernel
theorem dL_law_974 : decode code 974 = .ok (.invokevirtual 132, 3) := by decide +kernel
theorem dL_law_977 : decode code 977 = .ok (.aload_n 2, 1) := by decide +kernel
theorem dL_law_978 : decode code 978 = .ok (.aload_n 0, 1) := by decide +kernel
theorem dL_law_979 : decode code 979 = .ok (.iload_n 3, 1) := by decide +kernel
theorem dL_law_980 : decode code 980 = .ok (.iconst 1, 1) := by decide +kernel
theorem dL_law_981 : decode code 981 = .ok (.iadd, 1) := by decide +kernel
theorem dL_law_982 : decode code 982 = .ok (.iaload, 1) := by decide +kernel
theorem dL_law_983 : decode code 983 = .ok (.invokevirtual 135, 3) := by decide +kernel
theorem dL_law_986 : decode code 986 = .ok (.if_icmp .eq 5, 3) := by decide +kernel
theorem dL_law_989 : decode code 989 = .ok (.iconst 0, 1) := by decide +kernel
theorem dL_law_990 : decode code 990 = .ok (.ireturn, 1) := by decide +kernel
theorem dL_law_991 : decode code 991 = .ok (.iinc 3 5, 3) := by decide +kernel
theorem dL_law_994 : decode code 994 = .ok (.goto (-976), 3) := by decide +kernel
theorem dL_law_997 : decode code 997 = .ok (.iconst 1, 1) := by decide +kernel
theorem dL_law_998 : decode code 998 = .ok (.ireturn, 1) := by decide +kernel
