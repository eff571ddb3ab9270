theorem dX3_init_0 : decode cX3_init 0 = .ok (.aload_n 0, 1) := by decide +kernel
theorem dX3_init_1 : decode cX3_init 1 = .ok (.invokespecial 1, 3) := by decide +kernel
theorem dX3_init_4 : decode cX3_init 4 = .ok (.aload_n 0, 1) := by decide +kernel
theorem dX3_init_5 : decode cX3_init 5 = .ok (.bipush 8, 2) := by decide +kernel
theorem dX3_init_7 : decode cX3_init 7 = .ok (.newarray .int, 2) := by decide +kernel
theorem dX3_init_9 : decode cX3_init 9 = .ok (.putfield 7, 3) := by decide +kernel
theorem dX3_init_12 : decode cX3_init 12 = .ok (.aload_n 0, 1) := by decide +kernel
theorem dX3_init_13 : decode cX3_init 13 = .ok (.bipush 8, 2) := by decide +kernel
theorem dX3_init_15 : decode cX3_init 15 = .ok (.newarray .int, 2) := by decide +kernel
theorem dX3_init_17 : decode cX3_init 17 = .ok (.putfield 13, 3) := by decide +kernel
theorem dX3_init_20 : decode cX3_init 20 = .ok (.aload_n 0, 1) := by decide +kernel
theorem dX3_init_21 : decode cX3_init 21 = .ok (.bipush 8, 2) := by decide +kernel
theorem dX3_init_23 : decode cX3_init 23 = .ok (.newarray .int, 2) := by decide +kernel
theorem dX3_init_25 : decode cX3_init 25 = .ok (.putfield 16, 3) := by decide +kernel
theorem dX3_init_28 : decode cX3_init 28 = .ok (.aload_n 0, 1) := by decide +kernel
theorem dX3_init_29 : decode cX3_init 29 = .ok (.bipush 8, 2) := by decide +kernel
theorem dX3_init_31 : decode cX3_init 31 = .ok (.newarray .int, 2) := by decide +kernel
theorem dX3_init_33 : decode cX3_init 33 = .ok (.putfield 19, 3) := by decide +kernel
theorem dX3_init_36 : decode cX3_init 36 = .ok (.aload_n 0, 1) := by decide +kernel
theorem dX3_init_37 : decode cX3_init 37 = .ok (.bipush (-9), 2) := by decide +kernel
theorem dX3_init_39 : decode cX3_init 39 = .ok (.putfield 22, 3) := by decide +kernel
theorem dX3_init_42 : decode cX3_init 42 = .ok (.aload_n 0, 1) := by decide +kernel
theorem dX3_init_43 : decode cX3_init 43 = .ok (.bipush 8, 2) := by decide +kernel
theorem dX3_init_45 : decode cX3_init 45 = .ok (.newarray .int, 2) := by decide +kernel
theorem dX3_init_47 : decode cX3_init 47 = .ok (.putfield 26, 3) := by decide +kernel
theorem dX3_init_50 : decode cX3_init 50 = .ok (.aload_n 0, 1) := by decide +kernel
theorem dX3_init_51 : decode cX3_init 51 = .ok (.bipush 8, 2) := by decide +kernel
theorem dX3_init_53 : decode cX3_init 53 = .ok (.newarray .int, 2) := by decide +kernel
theorem dX3_init_55 : decode cX3_init 55 = .ok (.putfield 29, 3) := by decide +kernel
theorem dX3_init_58 : decode cX3_init 58 = .ok (.aload_n 0, 1) := by decide +kernel
theorem dX3_init_59 : decode cX3_init 59 = .ok (.bipush 8, 2) := by decide +kernel
theorem dX3_init_61 : decode cX3_init 61 = .ok (.newarray .int, 2) := by decide +kernel
theorem dX3_init_63 : decode cX3_init 63 = .ok (.putfield 32, 3) := by decide +kernel
theorem dX3_init_66 : decode cX3_init 66 = .ok (.aload_n 0, 1) := by decide +kernel
theorem dX3_init_67 : decode cX3_init 67 = .ok (.bipush 8, 2) := by decide +kernel
theorem dX3_init_69 : decode cX3_init 69 = .ok (.newarray .int, 2) := by decide +kernel
theorem dX3_init_71 : decode cX3_init 71 = .ok (.putfield 35, 3) := by decide +kernel
theorem dX3_init_74 : decode cX3_init 74 = .ok (.aload_n 0, 1) := by decide +kernel
theorem dX3_init_75 : decode cX3_init 75 = .ok (.bipush 64, 2) := by decide +kernel
theorem dX3_init_77 : decode cX3_init 77 = .ok (.newarray .int, 2) := by decide +kernel
theorem dX3_init_79 : decode cX3_init 79 = .ok (.putfield 38, 3) := by decide +kernel
theorem dX3_init_82 : decode cX3_init 82 = .ok (.aload_n 0, 1) := by decide +kernel
theorem dX3_init_83 : decode cX3_init 83 = .ok (.bipush 64, 2) := by decide +kernel
theorem dX3_init_85 : decode cX3_init 85 = .ok (.newarray .int, 2) := by decide +kernel
theorem dX3_init_87 : decode cX3_init 87 = .ok (.putfield 41, 3) := by decide +kernel
theorem dX3_init_90 : decode cX3_init 90 = .ok (.aload_n 0, 1) := by decide +kernel
theorem dX3_init_91 : decode cX3_init 91 = .ok (.bipush 8, 2) := by decide +kernel
theorem dX3_init_93 : decode cX3_init 93 = .ok (.newarray .int, 2) := by decide +kernel
theorem dX3_init_95 : decode cX3_init 95 = .ok (.putfield 44, 3) := by decide +kernel
theorem dX3_init_98 : decode cX3_init 98 = .ok (.aload_n 0, 1) := by decide +kernel
theorem dX3_init_99 : decode cX3_init 99 = .ok (.bipush 8, 2) := by decide +kernel
theorem dX3_init_101 : decode cX3_init 101 = .ok (.newarray .int, 2) := by decide +kernel
theorem dX3_init_103 : decode cX3_init 103 = .ok (.putfield 47, 3) := by decide +kernel
theorem dX3_init_106 : decode cX3_init 106 = .ok (.aload_n 0, 1) := by decide +kernel
theorem dX3_init_107 : decode cX3_init 107 = .ok (.bipush 8, 2) := by decide +kernel
theorem dX3_init_109 : decode cX3_init 109 = .ok (.newarray .int, 2) := by decide +kernel
theorem dX3_init_111 : decode cX3_init 111 = .ok (.putfield 50, 3) := by decide +kernel
theorem dX3_init_114 : decode cX3_init 114 = .ok (.aload_n 0, 1) := by decide +kernel
theorem dX3_init_115 : decode cX3_init 115 = .ok (.iconst 4, 1) := by decide +kernel
theorem dX3_init_116 : decode cX3_init 116 = .ok (.newarray .int, 2) := by decide +kernel
theorem dX3_init_118 : decode cX3_init 118 = .ok (.putfield 53, 3) := by decide +kernel
theorem dX3_init_121 : decode cX3_init 121 = .ok (.aload_n 0, 1) := by decide +kernel
theorem dX3_init_122 : decode cX3_init 122 = .ok (.iconst 4, 1) := by decide +kernel
theorem dX3_init_123 : decode cX3_init 123 = .ok (.newarray .int, 2) := by decide +kernel
theorem dX3_init_125 : decode cX3_init 125 = .ok (.putfield 56, 3) := by decide +kernel
theorem dX3_init_128 : decode cX3_init 128 = .ok (.aload_n 0, 1) := by decide +kernel
theorem dX3_init_129 : decode cX3_init 129 = .ok (.sipush 240, 3) := by decide +kernel
theorem dX3_init_132 : decode cX3_init 132 = .ok (.newarray .int, 2) := by decide +kernel
theorem dX3_init_134 : decode cX3_init 134 = .ok (.putfield 59, 3) := by decide +kernel
theorem dX3_init_137 : decode cX3_init 137 = .ok (.aload_n 0, 1) := by decide +kernel
theorem dX3_init_138 : decode cX3_init 138 = .ok (.bipush 60, 2) := by decide +kernel
theorem dX3_init_140 : decode cX3_init 140 = .ok (.newarray .int, 2) := by decide +kernel
theorem dX3_init_142 : decode cX3_init 142 = .ok (.putfield 62, 3) := by decide +kernel
theorem dX3_init_145 : decode cX3_init 145 = .ok (.iconst 0, 1) := by decide +kernel
theorem dX3_init_146 : decode cX3_init 146 = .ok (.istore_n 1, 1) := by decide +kernel
theorem dX3_init_147 : decode cX3_init 147 = .ok (.iload_n 1, 1) := by decide +kernel
theorem dX3_init_148 : decode cX3_init 148 = .ok (.iconst 4, 1) := by decide +kernel
theorem dX3_init_149 : decode cX3_init 149 = .ok (.if_icmp .ge 16, 3) := by decide +kernel
theorem dX3_init_152 : decode cX3_init 152 = .ok (.aload_n 0, 1) := by decide +kernel
theorem dX3_init_153 : decode cX3_init 153 = .ok (.getfield 53, 3) := by decide +kernel
theorem dX3_init_156 : decode cX3_init 156 = .ok (.iload_n 1, 1) := by decide +kernel
theorem dX3_init_157 : decode cX3_init 157 = .ok (.iconst (-1), 1) := by decide +kernel
theorem dX3_init_158 : decode cX3_init 158 = .ok (.iastore, 1) := by decide +kernel
theorem dX3_init_159 : decode cX3_init 159 = .ok (.iinc 1 1, 3) := by decide +kernel
theorem dX3_init_162 : decode cX3_init 162 = .ok (.goto (-15), 3) := by decide +kernel
theorem dX3_init_165 : decode cX3_init 165 = .ok (.return_, 1) := by decide +kernel
theorem dX3_in_0 : decode cX3_in 0 = .ok (.lload_n 0, 1) := by decide +kernel
theorem dX3_in_1 : decode cX3_in 1 = .ok (.lload_n 2, 1) := by decide +kernel
theorem dX3_in_2 : decode cX3_in 2 = .ok (.lcmp, 1) := by decide +kernel
theorem dX3_in_3 : decode cX3_in 3 = .ok (.ifCond .lt 14, 3) := by decide +kernel
theorem dX3_in_6 : decode cX3_in 6 = .ok (.lload_n 0, 1) := by decide +kernel
theorem dX3_in_7 : decode cX3_in 7 = .ok (.lload 4, 2) := by decide +kernel
theorem dX3_in_9 : decode cX3_in 9 = .ok (.lcmp, 1) := by decide +kernel
theorem dX3_in_10 : decode cX3_in 10 = .ok (.ifCond .gt 7, 3) := by decide +kernel
theorem dX3_in_13 : decode cX3_in 13 = .ok (.iconst 1, 1) := by decide +kernel
theorem dX3_in_14 : decode cX3_in 14 = .ok (.goto 4, 3) := by decide +kernel
theorem dX3_in_17 : decode cX3_in 17 = .ok (.iconst 0, 1) := by decide +kernel
theorem dX3_in_18 : decode cX3_in 18 = .ok (.ireturn, 1) := by decide +kernel
theorem dX3_lost_0 : decode cX3_lost 0 = .ok (.ldc2_w 65, 3) := by decide +kernel
theorem dX3_lost_3 : decode cX3_lost 3 = .ok (.lreturn, 1) := by decide +kernel
theorem dX3_isIn_0 : decode cX3_isIn 0 = .ok (.iload_n 0, 1) := by decide +kernel
theorem dX3_isIn_1 : decode cX3_isIn 1 = .ok (.iload_n 1, 1) := by decide +kernel
theorem dX3_isIn_2 : decode cX3_isIn 2 = .ok (.ishr, 1) := by decide +kernel
theorem dX3_isIn_3 : decode cX3_isIn 3 = .ok (.iconst 1, 1) := by decide +kernel
theorem dX3_isIn_4 : decode cX3_isIn 4 = .ok (.iand, 1) := by decide +kernel
theorem dX3_isIn_5 : decode cX3_isIn 5 = .ok (.iconst 1, 1) := by decide +kernel
theorem dX3_isIn_6 : decode cX3_isIn 6 = .ok (.if_icmp .ne 7, 3) := by decide +kernel
theorem dX3_isIn_9 : decode cX3_isIn 9 = .ok (.iconst 1, 1) := by decide +kernel
theorem dX3_isIn_10 : decode cX3_isIn 10 = .ok (.goto 4, 3) := by decide +kernel
theorem dX3_isIn_13 : decode cX3_isIn 13 = .ok (.iconst 0, 1) := by decide +kernel
theorem dX3_isIn_14 : decode cX3_isIn 14 = .ok (.ireturn, 1) := by decide +kernel
theorem dX3_share_0 : decode cX3_share 0 = .ok (.lload_n 0, 1) := by decide +kernel
theorem dX3_share_1 : decode cX3_share 1 = .ok (.lstore 5, 2) := by decide +kernel
theorem dX3_share_3 : decode cX3_share 3 = .ok (.lload_n 2, 1) := by decide +kernel
theorem dX3_share_4 : decode cX3_share 4 = .ok (.lstore 7, 2) := by decide +kernel
theorem dX3_share_6 : decode cX3_share 6 = .ok (.lload 7, 2) := by decide +kernel
theorem dX3_share_8 : decode cX3_share 8 = .ok (.lconst 0, 1) := by decide +kernel
theorem dX3_share_9 : decode cX3_share 9 = .ok (.lcmp, 1) := by decide +kernel
theorem dX3_share_10 : decode cX3_share 10 = .ok (.ifCond .eq 21, 3) := by decide +kernel
theorem dX3_share_13 : decode cX3_share 13 = .ok (.lload 5, 2) := by decide +kernel
theorem dX3_share_15 : decode cX3_share 15 = .ok (.lload 7, 2) := by decide +kernel
theorem dX3_share_17 : decode cX3_share 17 = .ok (.lrem, 1) := by decide +kernel
theorem dX3_share_18 : decode cX3_share 18 = .ok (.lstore 9, 2) := by decide +kernel
theorem dX3_share_20 : decode cX3_share 20 = .ok (.lload 7, 2) := by decide +kernel
theorem dX3_share_22 : decode cX3_share 22 = .ok (.lstore 5, 2) := by decide +kernel
theorem dX3_share_24 : decode cX3_share 24 = .ok (.lload 9, 2) := by decide +kernel
theorem dX3_share_26 : decode cX3_share 26 = .ok (.lstore 7, 2) := by decide +kernel
theorem dX3_share_28 : decode cX3_share 28 = .ok (.goto (-22), 3) := by decide +kernel
theorem dX3_share_31 : decode cX3_share 31 = .ok (.iload 4, 2) := by decide +kernel
theorem dX3_share_33 : decode cX3_share 33 = .ok (.ifCond .ne 7, 3) := by decide +kernel
theorem dX3_share_36 : decode cX3_share 36 = .ok (.lload_n 0, 1) := by decide +kernel
theorem dX3_share_37 : decode cX3_share 37 = .ok (.goto 4, 3) := by decide +kernel
theorem dX3_share_40 : decode cX3_share 40 = .ok (.lload_n 2, 1) := by decide +kernel
theorem dX3_share_41 : decode cX3_share 41 = .ok (.lload 5, 2) := by decide +kernel
theorem dX3_share_43 : decode cX3_share 43 = .ok (.ldiv, 1) := by decide +kernel
theorem dX3_share_44 : decode cX3_share 44 = .ok (.lreturn, 1) := by decide +kernel
theorem dX3_refused_0 : decode cX3_refused 0 = .ok (.aload_n 0, 1) := by decide +kernel
theorem dX3_refused_1 : decode cX3_refused 1 = .ok (.iconst 0, 1) := by decide +kernel
theorem dX3_refused_2 : decode cX3_refused 2 = .ok (.putfield 67, 3) := by decide +kernel
theorem dX3_refused_5 : decode cX3_refused 5 = .ok (.iload_n 1, 1) := by decide +kernel
theorem dX3_refused_6 : decode cX3_refused 6 = .ok (.ireturn, 1) := by decide +kernel
theorem dX3_failed_0 : decode cX3_failed 0 = .ok (.aload_n 0, 1) := by decide +kernel
theorem dX3_failed_1 : decode cX3_failed 1 = .ok (.iload_n 1, 1) := by decide +kernel
theorem dX3_failed_2 : decode cX3_failed 2 = .ok (.putfield 67, 3) := by decide +kernel
theorem dX3_failed_5 : decode cX3_failed 5 = .ok (.bipush (-10), 2) := by decide +kernel
theorem dX3_failed_7 : decode cX3_failed 7 = .ok (.iload_n 1, 1) := by decide +kernel
theorem dX3_failed_8 : decode cX3_failed 8 = .ok (.isub, 1) := by decide +kernel
theorem dX3_failed_9 : decode cX3_failed 9 = .ok (.ireturn, 1) := by decide +kernel
theorem dX3_failedLong_0 : decode cX3_failedLong 0 = .ok (.aload_n 0, 1) := by decide +kernel
theorem dX3_failedLong_1 : decode cX3_failedLong 1 = .ok (.iload_n 1, 1) := by decide +kernel
theorem dX3_failedLong_2 : decode cX3_failedLong 2 = .ok (.putfield 67, 3) := by decide +kernel
theorem dX3_failedLong_5 : decode cX3_failedLong 5 = .ok (.invokestatic 70, 3) := by decide +kernel
theorem dX3_failedLong_8 : decode cX3_failedLong 8 = .ok (.lreturn, 1) := by decide +kernel
theorem dX3_noRoom_0 : decode cX3_noRoom 0 = .ok (.iload_n 1, 1) := by decide +kernel
theorem dX3_noRoom_1 : decode cX3_noRoom 1 = .ok (.i2l, 1) := by decide +kernel
theorem dX3_noRoom_2 : decode cX3_noRoom 2 = .ok (.lconst 0, 1) := by decide +kernel
theorem dX3_noRoom_3 : decode cX3_noRoom 3 = .ok (.aload_n 0, 1) := by decide +kernel
theorem dX3_noRoom_4 : decode cX3_noRoom 4 = .ok (.getfield 74, 3) := by decide +kernel
theorem dX3_noRoom_7 : decode cX3_noRoom 7 = .ok (.i2l, 1) := by decide +kernel
theorem dX3_noRoom_8 : decode cX3_noRoom 8 = .ok (.lconst 1, 1) := by decide +kernel
theorem dX3_noRoom_9 : decode cX3_noRoom 9 = .ok (.lsub, 1) := by decide +kernel
theorem dX3_noRoom_10 : decode cX3_noRoom 10 = .ok (.invokestatic 77, 3) := by decide +kernel
theorem dX3_noRoom_13 : decode cX3_noRoom 13 = .ok (.ifCond .ne 7, 3) := by decide +kernel
theorem dX3_noRoom_16 : decode cX3_noRoom 16 = .ok (.iconst 1, 1) := by decide +kernel
theorem dX3_noRoom_17 : decode cX3_noRoom 17 = .ok (.goto 4, 3) := by decide +kernel
theorem dX3_noRoom_20 : decode cX3_noRoom 20 = .ok (.iconst 0, 1) := by decide +kernel
theorem dX3_noRoom_21 : decode cX3_noRoom 21 = .ok (.ireturn, 1) := by decide +kernel
theorem dX3_noDoor_0 : decode cX3_noDoor 0 = .ok (.iload_n 1, 1) := by decide +kernel
theorem dX3_noDoor_1 : decode cX3_noDoor 1 = .ok (.i2l, 1) := by decide +kernel
theorem dX3_noDoor_2 : decode cX3_noDoor 2 = .ok (.lconst 0, 1) := by decide +kernel
theorem dX3_noDoor_3 : decode cX3_noDoor 3 = .ok (.aload_n 0, 1) := by decide +kernel
theorem dX3_noDoor_4 : decode cX3_noDoor 4 = .ok (.getfield 81, 3) := by decide +kernel
theorem dX3_noDoor_7 : decode cX3_noDoor 7 = .ok (.i2l, 1) := by decide +kernel
theorem dX3_noDoor_8 : decode cX3_noDoor 8 = .ok (.lconst 1, 1) := by decide +kernel
theorem dX3_noDoor_9 : decode cX3_noDoor 9 = .ok (.lsub, 1) := by decide +kernel
theorem dX3_noDoor_10 : decode cX3_noDoor 10 = .ok (.invokestatic 77, 3) := by decide +kernel
theorem dX3_noDoor_13 : decode cX3_noDoor 13 = .ok (.ifCond .ne 7, 3) := by decide +kernel
theorem dX3_noDoor_16 : decode cX3_noDoor 16 = .ok (.iconst 1, 1) := by decide +kernel
theorem dX3_noDoor_17 : decode cX3_noDoor 17 = .ok (.goto 4, 3) := by decide +kernel
theorem dX3_noDoor_20 : decode cX3_noDoor 20 = .ok (.iconst 0, 1) := by decide +kernel
theorem dX3_noDoor_21 : decode cX3_noDoor 21 = .ok (.ireturn, 1) := by decide +kernel
theorem dX3_noHour_0 : decode cX3_noHour 0 = .ok (.iload_n 0, 1) := by decide +kernel
theorem dX3_noHour_1 : decode cX3_noHour 1 = .ok (.i2l, 1) := by decide +kernel
theorem dX3_noHour_2 : decode cX3_noHour 2 = .ok (.lconst 0, 1) := by decide +kernel
theorem dX3_noHour_3 : decode cX3_noHour 3 = .ok (.ldc2_w 84, 3) := by decide +kernel
theorem dX3_noHour_6 : decode cX3_noHour 6 = .ok (.invokestatic 77, 3) := by decide +kernel
theorem dX3_noHour_9 : decode cX3_noHour 9 = .ok (.ifCond .ne 7, 3) := by decide +kernel
theorem dX3_noHour_12 : decode cX3_noHour 12 = .ok (.iconst 1, 1) := by decide +kernel
theorem dX3_noHour_13 : decode cX3_noHour 13 = .ok (.goto 4, 3) := by decide +kernel
theorem dX3_noHour_16 : decode cX3_noHour 16 = .ok (.iconst 0, 1) := by decide +kernel
theorem dX3_noHour_17 : decode cX3_noHour 17 = .ok (.ireturn, 1) := by decide +kernel
theorem dX3_codeAt_0 : decode cX3_codeAt 0 = .ok (.aload_n 0, 1) := by decide +kernel
theorem dX3_codeAt_1 : decode cX3_codeAt 1 = .ok (.getfield 86, 3) := by decide +kernel
theorem dX3_codeAt_4 : decode cX3_codeAt 4 = .ok (.iload_n 2, 1) := by decide +kernel
theorem dX3_codeAt_5 : decode cX3_codeAt 5 = .ok (.if_icmp .ge 17, 3) := by decide +kernel
theorem dX3_codeAt_8 : decode cX3_codeAt 8 = .ok (.aload_n 0, 1) := by decide +kernel
theorem dX3_codeAt_9 : decode cX3_codeAt 9 = .ok (.getfield 59, 3) := by decide +kernel
theorem dX3_codeAt_12 : decode cX3_codeAt 12 = .ok (.iload_n 1, 1) := by decide +kernel
theorem dX3_codeAt_13 : decode cX3_codeAt 13 = .ok (.aload_n 0, 1) := by decide +kernel
theorem dX3_codeAt_14 : decode cX3_codeAt 14 = .ok (.getfield 86, 3) := by decide +kernel
theorem dX3_codeAt_17 : decode cX3_codeAt 17 = .ok (.iadd, 1) := by decide +kernel
theorem dX3_codeAt_18 : decode cX3_codeAt 18 = .ok (.iaload, 1) := by decide +kernel
theorem dX3_codeAt_19 : decode cX3_codeAt 19 = .ok (.goto 5, 3) := by decide +kernel
theorem dX3_codeAt_22 : decode cX3_codeAt 22 = .ok (.bipush (-9), 2) := by decide +kernel
theorem dX3_codeAt_24 : decode cX3_codeAt 24 = .ok (.ireturn, 1) := by decide +kernel
theorem dX3_figure_0 : decode cX3_figure 0 = .ok (.aload_n 0, 1) := by decide +kernel
theorem dX3_figure_1 : decode cX3_figure 1 = .ok (.iload_n 1, 1) := by decide +kernel
theorem dX3_figure_2 : decode cX3_figure 2 = .ok (.iload_n 2, 1) := by decide +kernel
theorem dX3_figure_3 : decode cX3_figure 3 = .ok (.invokevirtual 89, 3) := by decide +kernel
theorem dX3_figure_6 : decode cX3_figure 6 = .ok (.bipush 48, 2) := by decide +kernel
theorem dX3_figure_8 : decode cX3_figure 8 = .ok (.isub, 1) := by decide +kernel
theorem dX3_figure_9 : decode cX3_figure 9 = .ok (.istore 5, 2) := by decide +kernel
theorem dX3_figure_11 : decode cX3_figure 11 = .ok (.iload 5, 2) := by decide +kernel
theorem dX3_figure_13 : decode cX3_figure 13 = .ok (.i2l, 1) := by decide +kernel
theorem dX3_figure_14 : decode cX3_figure 14 = .ok (.iload_n 3, 1) := by decide +kernel
theorem dX3_figure_15 : decode cX3_figure 15 = .ok (.i2l, 1) := by decide +kernel
theorem dX3_figure_16 : decode cX3_figure 16 = .ok (.iload 4, 2) := by decide +kernel
theorem dX3_figure_18 : decode cX3_figure 18 = .ok (.i2l, 1) := by decide +kernel
theorem dX3_figure_19 : decode cX3_figure 19 = .ok (.invokestatic 77, 3) := by decide +kernel
theorem dX3_figure_22 : decode cX3_figure 22 = .ok (.istore 6, 2) := by decide +kernel
theorem dX3_figure_24 : decode cX3_figure 24 = .ok (.aload_n 0, 1) := by decide +kernel
theorem dX3_figure_25 : decode cX3_figure 25 = .ok (.dup, 1) := by decide +kernel
theorem dX3_figure_26 : decode cX3_figure 26 = .ok (.getfield 86, 3) := by decide +kernel
theorem dX3_figure_29 : decode cX3_figure 29 = .ok (.iload 6, 2) := by decide +kernel
theorem dX3_figure_31 : decode cX3_figure 31 = .ok (.ifCond .eq 7, 3) := by decide +kernel
theorem dX3_figure_34 : decode cX3_figure 34 = .ok (.iconst 1, 1) := by decide +kernel
theorem dX3_figure_35 : decode cX3_figure 35 = .ok (.goto 4, 3) := by decide +kernel
theorem dX3_figure_38 : decode cX3_figure 38 = .ok (.iconst 0, 1) := by decide +kernel
theorem dX3_figure_39 : decode cX3_figure 39 = .ok (.iadd, 1) := by decide +kernel
theorem dX3_figure_40 : decode cX3_figure 40 = .ok (.putfield 86, 3) := by decide +kernel
theorem dX3_figure_43 : decode cX3_figure 43 = .ok (.iload 6, 2) := by decide +kernel
theorem dX3_figure_45 : decode cX3_figure 45 = .ok (.ifCond .eq 8, 3) := by decide +kernel
theorem dX3_figure_48 : decode cX3_figure 48 = .ok (.iload 5, 2) := by decide +kernel
theorem dX3_figure_50 : decode cX3_figure 50 = .ok (.goto 5, 3) := by decide +kernel
theorem dX3_figure_53 : decode cX3_figure 53 = .ok (.bipush (-9), 2) := by decide +kernel
theorem dX3_figure_55 : decode cX3_figure 55 = .ok (.ireturn, 1) := by decide +kernel
theorem dX3_readsDoor_0 : decode cX3_readsDoor 0 = .ok (.aload_n 0, 1) := by decide +kernel
theorem dX3_readsDoor_1 : decode cX3_readsDoor 1 = .ok (.getfield 93, 3) := by decide +kernel
theorem dX3_readsDoor_4 : decode cX3_readsDoor 4 = .ok (.bipush 8, 2) := by decide +kernel
theorem dX3_readsDoor_6 : decode cX3_readsDoor 6 = .ok (.if_icmp .eq 14, 3) := by decide +kernel
theorem dX3_readsDoor_9 : decode cX3_readsDoor 9 = .ok (.aload_n 0, 1) := by decide +kernel
theorem dX3_readsDoor_10 : decode cX3_readsDoor 10 = .ok (.iload_n 1, 1) := by decide +kernel
theorem dX3_readsDoor_11 : decode cX3_readsDoor 11 = .ok (.iload_n 2, 1) := by decide +kernel
theorem dX3_readsDoor_12 : decode cX3_readsDoor 12 = .ok (.invokevirtual 89, 3) := by decide +kernel
theorem dX3_readsDoor_15 : decode cX3_readsDoor 15 = .ok (.bipush 59, 2) := by decide +kernel
theorem dX3_readsDoor_17 : decode cX3_readsDoor 17 = .ok (.if_icmp .eq 5, 3) := by decide +kernel
theorem dX3_readsDoor_20 : decode cX3_readsDoor 20 = .ok (.iconst 0, 1) := by decide +kernel
theorem dX3_readsDoor_21 : decode cX3_readsDoor 21 = .ok (.ireturn, 1) := by decide +kernel
theorem dX3_readsDoor_22 : decode cX3_readsDoor 22 = .ok (.aload_n 0, 1) := by decide +kernel
theorem dX3_readsDoor_23 : decode cX3_readsDoor 23 = .ok (.dup, 1) := by decide +kernel
theorem dX3_readsDoor_24 : decode cX3_readsDoor 24 = .ok (.getfield 86, 3) := by decide +kernel
theorem dX3_readsDoor_27 : decode cX3_readsDoor 27 = .ok (.iconst 1, 1) := by decide +kernel
theorem dX3_readsDoor_28 : decode cX3_readsDoor 28 = .ok (.iadd, 1) := by decide +kernel
theorem dX3_readsDoor_29 : decode cX3_readsDoor 29 = .ok (.putfield 86, 3) := by decide +kernel
theorem dX3_readsDoor_32 : decode cX3_readsDoor 32 = .ok (.aload_n 0, 1) := by decide +kernel
theorem dX3_readsDoor_33 : decode cX3_readsDoor 33 = .ok (.iload_n 1, 1) := by decide +kernel
theorem dX3_readsDoor_34 : decode cX3_readsDoor 34 = .ok (.iload_n 2, 1) := by decide +kernel
theorem dX3_readsDoor_35 : decode cX3_readsDoor 35 = .ok (.invokevirtual 89, 3) := by decide +kernel
theorem dX3_readsDoor_38 : decode cX3_readsDoor 38 = .ok (.istore_n 3, 1) := by decide +kernel
theorem dX3_readsDoor_39 : decode cX3_readsDoor 39 = .ok (.iload_n 3, 1) := by decide +kernel
theorem dX3_readsDoor_40 : decode cX3_readsDoor 40 = .ok (.bipush 112, 2) := by decide +kernel
theorem dX3_readsDoor_42 : decode cX3_readsDoor 42 = .ok (.if_icmp .eq 17, 3) := by decide +kernel
theorem dX3_readsDoor_45 : decode cX3_readsDoor 45 = .ok (.iload_n 3, 1) := by decide +kernel
theorem dX3_readsDoor_46 : decode cX3_readsDoor 46 = .ok (.bipush 108, 2) := by decide +kernel
theorem dX3_readsDoor_48 : decode cX3_readsDoor 48 = .ok (.if_icmp .eq 11, 3) := by decide +kernel
theorem dX3_readsDoor_51 : decode cX3_readsDoor 51 = .ok (.iload_n 3, 1) := by decide +kernel
theorem dX3_readsDoor_52 : decode cX3_readsDoor 52 = .ok (.bipush 99, 2) := by decide +kernel
theorem dX3_readsDoor_54 : decode cX3_readsDoor 54 = .ok (.if_icmp .eq 5, 3) := by decide +kernel
theorem dX3_readsDoor_57 : decode cX3_readsDoor 57 = .ok (.iconst 0, 1) := by decide +kernel
theorem dX3_readsDoor_58 : decode cX3_readsDoor 58 = .ok (.ireturn, 1) := by decide +kernel
theorem dX3_readsDoor_59 : decode cX3_readsDoor 59 = .ok (.aload_n 0, 1) := by decide +kernel
theorem dX3_readsDoor_60 : decode cX3_readsDoor 60 = .ok (.dup, 1) := by decide +kernel
theorem dX3_readsDoor_61 : decode cX3_readsDoor 61 = .ok (.getfield 86, 3) := by decide +kernel
theorem dX3_readsDoor_64 : decode cX3_readsDoor 64 = .ok (.iconst 1, 1) := by decide +kernel
theorem dX3_readsDoor_65 : decode cX3_readsDoor 65 = .ok (.iadd, 1) := by decide +kernel
theorem dX3_readsDoor_66 : decode cX3_readsDoor 66 = .ok (.putfield 86, 3) := by decide +kernel
theorem dX3_readsDoor_69 : decode cX3_readsDoor 69 = .ok (.aload_n 0, 1) := by decide +kernel
theorem dX3_readsDoor_70 : decode cX3_readsDoor 70 = .ok (.iload_n 1, 1) := by decide +kernel
theorem dX3_readsDoor_71 : decode cX3_readsDoor 71 = .ok (.iload_n 2, 1) := by decide +kernel
theorem dX3_readsDoor_72 : decode cX3_readsDoor 72 = .ok (.iconst 0, 1) := by decide +kernel
theorem dX3_readsDoor_73 : decode cX3_readsDoor 73 = .ok (.aload_n 0, 1) := by decide +kernel
theorem dX3_readsDoor_74 : decode cX3_readsDoor 74 = .ok (.getfield 96, 3) := by decide +kernel
theorem dX3_readsDoor_77 : decode cX3_readsDoor 77 = .ok (.iconst 1, 1) := by decide +kernel
theorem dX3_readsDoor_78 : decode cX3_readsDoor 78 = .ok (.isub, 1) := by decide +kernel
theorem dX3_readsDoor_79 : decode cX3_readsDoor 79 = .ok (.invokevirtual 99, 3) := by decide +kernel
theorem dX3_readsDoor_82 : decode cX3_readsDoor 82 = .ok (.istore 4, 2) := by decide +kernel
theorem dX3_readsDoor_84 : decode cX3_readsDoor 84 = .ok (.iload 4, 2) := by decide +kernel
theorem dX3_readsDoor_86 : decode cX3_readsDoor 86 = .ok (.ifCond .ge 8, 3) := by decide +kernel
theorem dX3_readsDoor_89 : decode cX3_readsDoor 89 = .ok (.bipush (-9), 2) := by decide +kernel
theorem dX3_readsDoor_91 : decode cX3_readsDoor 91 = .ok (.goto 16, 3) := by decide +kernel
theorem dX3_readsDoor_94 : decode cX3_readsDoor 94 = .ok (.aload_n 0, 1) := by decide +kernel
theorem dX3_readsDoor_95 : decode cX3_readsDoor 95 = .ok (.iload_n 1, 1) := by decide +kernel
theorem dX3_readsDoor_96 : decode cX3_readsDoor 96 = .ok (.iload_n 2, 1) := by decide +kernel
theorem dX3_readsDoor_97 : decode cX3_readsDoor 97 = .ok (.iconst 0, 1) := by decide +kernel
theorem dX3_readsDoor_98 : decode cX3_readsDoor 98 = .ok (.aload_n 0, 1) := by decide +kernel
theorem dX3_readsDoor_99 : decode cX3_readsDoor 99 = .ok (.getfield 96, 3) := by decide +kernel
theorem dX3_readsDoor_102 : decode cX3_readsDoor 102 = .ok (.iconst 1, 1) := by decide +kernel
theorem dX3_readsDoor_103 : decode cX3_readsDoor 103 = .ok (.isub, 1) := by decide +kernel
theorem dX3_readsDoor_104 : decode cX3_readsDoor 104 = .ok (.invokevirtual 99, 3) := by decide +kernel
theorem dX3_readsDoor_107 : decode cX3_readsDoor 107 = .ok (.istore 5, 2) := by decide +kernel
theorem dX3_readsDoor_109 : decode cX3_readsDoor 109 = .ok (.iload 5, 2) := by decide +kernel
theorem dX3_readsDoor_111 : decode cX3_readsDoor 111 = .ok (.ifCond .ge 8, 3) := by decide +kernel
theorem dX3_readsDoor_114 : decode cX3_readsDoor 114 = .ok (.bipush (-9), 2) := by decide +kernel
theorem dX3_readsDoor_116 : decode cX3_readsDoor 116 = .ok (.goto 11, 3) := by decide +kernel
theorem dX3_readsDoor_119 : decode cX3_readsDoor 119 = .ok (.aload_n 0, 1) := by decide +kernel
theorem dX3_readsDoor_120 : decode cX3_readsDoor 120 = .ok (.iload_n 1, 1) := by decide +kernel
theorem dX3_readsDoor_121 : decode cX3_readsDoor 121 = .ok (.iload_n 2, 1) := by decide +kernel
theorem dX3_readsDoor_122 : decode cX3_readsDoor 122 = .ok (.iconst 0, 1) := by decide +kernel
theorem dX3_readsDoor_123 : decode cX3_readsDoor 123 = .ok (.iconst 5, 1) := by decide +kernel
theorem dX3_readsDoor_124 : decode cX3_readsDoor 124 = .ok (.invokevirtual 99, 3) := by decide +kernel
theorem dX3_readsDoor_127 : decode cX3_readsDoor 127 = .ok (.istore 6, 2) := by decide +kernel
theorem dX3_readsDoor_129 : decode cX3_readsDoor 129 = .ok (.iload 6, 2) := by decide +kernel
theorem dX3_readsDoor_131 : decode cX3_readsDoor 131 = .ok (.ifCond .ge 5, 3) := by decide +kernel
theorem dX3_readsDoor_134 : decode cX3_readsDoor 134 = .ok (.iconst 0, 1) := by decide +kernel
theorem dX3_readsDoor_135 : decode cX3_readsDoor 135 = .ok (.ireturn, 1) := by decide +kernel
theorem dX3_readsDoor_136 : decode cX3_readsDoor 136 = .ok (.aload_n 0, 1) := by decide +kernel
theorem dX3_readsDoor_137 : decode cX3_readsDoor 137 = .ok (.getfield 26, 3) := by decide +kernel
theorem dX3_readsDoor_140 : decode cX3_readsDoor 140 = .ok (.aload_n 0, 1) := by decide +kernel
theorem dX3_readsDoor_141 : decode cX3_readsDoor 141 = .ok (.getfield 93, 3) := by decide +kernel
theorem dX3_readsDoor_144 : decode cX3_readsDoor 144 = .ok (.iload_n 3, 1) := by decide +kernel
theorem dX3_readsDoor_145 : decode cX3_readsDoor 145 = .ok (.bipush 112, 2) := by decide +kernel
theorem dX3_readsDoor_147 : decode cX3_readsDoor 147 = .ok (.if_icmp .ne 7, 3) := by decide +kernel
theorem dX3_readsDoor_150 : decode cX3_readsDoor 150 = .ok (.iconst 0, 1) := by decide +kernel
theorem dX3_readsDoor_151 : decode cX3_readsDoor 151 = .ok (.goto 14, 3) := by decide +kernel
theorem dX3_readsDoor_154 : decode cX3_readsDoor 154 = .ok (.iload_n 3, 1) := by decide +kernel
theorem dX3_readsDoor_155 : decode cX3_readsDoor 155 = .ok (.bipush 108, 2) := by decide +kernel
theorem dX3_readsDoor_157 : decode cX3_readsDoor 157 = .ok (.if_icmp .ne 7, 3) := by decide +kernel
theorem dX3_readsDoor_160 : decode cX3_readsDoor 160 = .ok (.iconst 1, 1) := by decide +kernel
theorem dX3_readsDoor_161 : decode cX3_readsDoor 161 = .ok (.goto 4, 3) := by decide +kernel
theorem dX3_readsDoor_164 : decode cX3_readsDoor 164 = .ok (.iconst 2, 1) := by decide +kernel
theorem dX3_readsDoor_165 : decode cX3_readsDoor 165 = .ok (.iastore, 1) := by decide +kernel
theorem dX3_readsDoor_166 : decode cX3_readsDoor 166 = .ok (.aload_n 0, 1) := by decide +kernel
theorem dX3_readsDoor_167 : decode cX3_readsDoor 167 = .ok (.getfield 29, 3) := by decide +kernel
theorem dX3_readsDoor_170 : decode cX3_readsDoor 170 = .ok (.aload_n 0, 1) := by decide +kernel
theorem dX3_readsDoor_171 : decode cX3_readsDoor 171 = .ok (.getfield 93, 3) := by decide +kernel
theorem dX3_readsDoor_174 : decode cX3_readsDoor 174 = .ok (.iload 4, 2) := by decide +kernel
theorem dX3_readsDoor_176 : decode cX3_readsDoor 176 = .ok (.iastore, 1) := by decide +kernel
theorem dX3_readsDoor_177 : decode cX3_readsDoor 177 = .ok (.aload_n 0, 1) := by decide +kernel
theorem dX3_readsDoor_178 : decode cX3_readsDoor 178 = .ok (.getfield 32, 3) := by decide +kernel
theorem dX3_readsDoor_181 : decode cX3_readsDoor 181 = .ok (.aload_n 0, 1) := by decide +kernel
theorem dX3_readsDoor_182 : decode cX3_readsDoor 182 = .ok (.getfield 93, 3) := by decide +kernel
theorem dX3_readsDoor_185 : decode cX3_readsDoor 185 = .ok (.iload 5, 2) := by decide +kernel
theorem dX3_readsDoor_187 : decode cX3_readsDoor 187 = .ok (.iastore, 1) := by decide +kernel
theorem dX3_readsDoor_188 : decode cX3_readsDoor 188 = .ok (.aload_n 0, 1) := by decide +kernel
theorem dX3_readsDoor_189 : decode cX3_readsDoor 189 = .ok (.getfield 35, 3) := by decide +kernel
theorem dX3_readsDoor_192 : decode cX3_readsDoor 192 = .ok (.aload_n 0, 1) := by decide +kernel
theorem dX3_readsDoor_193 : decode cX3_readsDoor 193 = .ok (.getfield 93, 3) := by decide +kernel
theorem dX3_readsDoor_196 : decode cX3_readsDoor 196 = .ok (.iload 6, 2) := by decide +kernel
theorem dX3_readsDoor_198 : decode cX3_readsDoor 198 = .ok (.iastore, 1) := by decide +kernel
theorem dX3_readsDoor_199 : decode cX3_readsDoor 199 = .ok (.aload_n 0, 1) := by decide +kernel
theorem dX3_readsDoor_200 : decode cX3_readsDoor 200 = .ok (.dup, 1) := by decide +kernel
theorem dX3_readsDoor_201 : decode cX3_readsDoor 201 = .ok (.getfield 93, 3) := by decide +kernel
theorem dX3_readsDoor_204 : decode cX3_readsDoor 204 = .ok (.iconst 1, 1) := by decide +kernel
theorem dX3_readsDoor_205 : decode cX3_readsDoor 205 = .ok (.iadd, 1) := by decide +kernel
theorem dX3_readsDoor_206 : decode cX3_readsDoor 206 = .ok (.putfield 93, 3) := by decide +kernel
theorem dX3_readsDoor_209 : decode cX3_readsDoor 209 = .ok (.iconst 1, 1) := by decide +kernel
theorem dX3_readsDoor_210 : decode cX3_readsDoor 210 = .ok (.ireturn, 1) := by decide +kernel
theorem dX3_readsHouse_0 : decode cX3_readsHouse 0 = .ok (.aload_n 0, 1) := by decide +kernel
theorem dX3_readsHouse_1 : decode cX3_readsHouse 1 = .ok (.iconst 0, 1) := by decide +kernel
theorem dX3_readsHouse_2 : decode cX3_readsHouse 2 = .ok (.putfield 86, 3) := by decide +kernel
theorem dX3_readsHouse_5 : decode cX3_readsHouse 5 = .ok (.aload_n 0, 1) := by decide +kernel
theorem dX3_readsHouse_6 : decode cX3_readsHouse 6 = .ok (.iconst 0, 1) := by decide +kernel
theorem dX3_readsHouse_7 : decode cX3_readsHouse 7 = .ok (.putfield 93, 3) := by decide +kernel
theorem dX3_readsHouse_10 : decode cX3_readsHouse 10 = .ok (.aload_n 0, 1) := by decide +kernel
theorem dX3_readsHouse_11 : decode cX3_readsHouse 11 = .ok (.iload_n 1, 1) := by decide +kernel
theorem dX3_readsHouse_12 : decode cX3_readsHouse 12 = .ok (.iload_n 2, 1) := by decide +kernel
theorem dX3_readsHouse_13 : decode cX3_readsHouse 13 = .ok (.invokevirtual 89, 3) := by decide +kernel
theorem dX3_readsHouse_16 : decode cX3_readsHouse 16 = .ok (.bipush 100, 2) := by decide +kernel
theorem dX3_readsHouse_18 : decode cX3_readsHouse 18 = .ok (.if_icmp .ne 7, 3) := by decide +kernel
theorem dX3_readsHouse_21 : decode cX3_readsHouse 21 = .ok (.iconst 1, 1) := by decide +kernel
theorem dX3_readsHouse_22 : decode cX3_readsHouse 22 = .ok (.goto 4, 3) := by decide +kernel
theorem dX3_readsHouse_25 : decode cX3_readsHouse 25 = .ok (.iconst 0, 1) := by decide +kernel
theorem dX3_readsHouse_26 : decode cX3_readsHouse 26 = .ok (.istore_n 3, 1) := by decide +kernel
theorem dX3_readsHouse_27 : decode cX3_readsHouse 27 = .ok (.aload_n 0, 1) := by decide +kernel
theorem dX3_readsHouse_28 : decode cX3_readsHouse 28 = .ok (.dup, 1) := by decide +kernel
theorem dX3_readsHouse_29 : decode cX3_readsHouse 29 = .ok (.getfield 86, 3) := by decide +kernel
theorem dX3_readsHouse_32 : decode cX3_readsHouse 32 = .ok (.iload_n 3, 1) := by decide +kernel
theorem dX3_readsHouse_33 : decode cX3_readsHouse 33 = .ok (.ifCond .eq 7, 3) := by decide +kernel
theorem dX3_readsHouse_36 : decode cX3_readsHouse 36 = .ok (.iconst 1, 1) := by decide +kernel
theorem dX3_readsHouse_37 : decode cX3_readsHouse 37 = .ok (.goto 4, 3) := by decide +kernel
theorem dX3_readsHouse_40 : decode cX3_readsHouse 40 = .ok (.iconst 0, 1) := by decide +kernel
theorem dX3_readsHouse_41 : decode cX3_readsHouse 41 = .ok (.iadd, 1) := by decide +kernel
theorem dX3_readsHouse_42 : decode cX3_readsHouse 42 = .ok (.putfield 86, 3) := by decide +kernel
theorem dX3_readsHouse_45 : decode cX3_readsHouse 45 = .ok (.aload_n 0, 1) := by decide +kernel
theorem dX3_readsHouse_46 : decode cX3_readsHouse 46 = .ok (.iload_n 3, 1) := by decide +kernel
theorem dX3_readsHouse_47 : decode cX3_readsHouse 47 = .ok (.ifCond .eq 15, 3) := by decide +kernel
theorem dX3_readsHouse_50 : decode cX3_readsHouse 50 = .ok (.aload_n 0, 1) := by decide +kernel
theorem dX3_readsHouse_51 : decode cX3_readsHouse 51 = .ok (.iload_n 1, 1) := by decide +kernel
theorem dX3_readsHouse_52 : decode cX3_readsHouse 52 = .ok (.iload_n 2, 1) := by decide +kernel
theorem dX3_readsHouse_53 : decode cX3_readsHouse 53 = .ok (.iconst 2, 1) := by decide +kernel
theorem dX3_readsHouse_54 : decode cX3_readsHouse 54 = .ok (.bipush 6, 2) := by decide +kernel
theorem dX3_readsHouse_56 : decode cX3_readsHouse 56 = .ok (.invokevirtual 99, 3) := by decide +kernel
theorem dX3_readsHouse_59 : decode cX3_readsHouse 59 = .ok (.goto 5, 3) := by decide +kernel
theorem dX3_readsHouse_62 : decode cX3_readsHouse 62 = .ok (.bipush (-9), 2) := by decide +kernel
theorem dX3_readsHouse_64 : decode cX3_readsHouse 64 = .ok (.putfield 96, 3) := by decide +kernel
theorem dX3_readsHouse_67 : decode cX3_readsHouse 67 = .ok (.aload_n 0, 1) := by decide +kernel
theorem dX3_readsHouse_68 : decode cX3_readsHouse 68 = .ok (.getfield 96, 3) := by decide +kernel
theorem dX3_readsHouse_71 : decode cX3_readsHouse 71 = .ok (.ifCond .le 7, 3) := by decide +kernel
theorem dX3_readsHouse_74 : decode cX3_readsHouse 74 = .ok (.iconst 1, 1) := by decide +kernel
theorem dX3_readsHouse_75 : decode cX3_readsHouse 75 = .ok (.goto 4, 3) := by decide +kernel
theorem dX3_readsHouse_78 : decode cX3_readsHouse 78 = .ok (.iconst 0, 1) := by decide +kernel
theorem dX3_readsHouse_79 : decode cX3_readsHouse 79 = .ok (.istore_n 3, 1) := by decide +kernel
theorem dX3_readsHouse_80 : decode cX3_readsHouse 80 = .ok (.iload_n 3, 1) := by decide +kernel
theorem dX3_readsHouse_81 : decode cX3_readsHouse 81 = .ok (.ifCond .eq 28, 3) := by decide +kernel
theorem dX3_readsHouse_84 : decode cX3_readsHouse 84 = .ok (.aload_n 0, 1) := by decide +kernel
theorem dX3_readsHouse_85 : decode cX3_readsHouse 85 = .ok (.getfield 93, 3) := by decide +kernel
theorem dX3_readsHouse_88 : decode cX3_readsHouse 88 = .ok (.ifCond .eq 11, 3) := by decide +kernel
theorem dX3_readsHouse_91 : decode cX3_readsHouse 91 = .ok (.aload_n 0, 1) := by decide +kernel
theorem dX3_readsHouse_92 : decode cX3_readsHouse 92 = .ok (.getfield 86, 3) := by decide +kernel
theorem dX3_readsHouse_95 : decode cX3_readsHouse 95 = .ok (.iload_n 2, 1) := by decide +kernel
theorem dX3_readsHouse_96 : decode cX3_readsHouse 96 = .ok (.if_icmp .ge 13, 3) := by decide +kernel
theorem dX3_readsHouse_99 : decode cX3_readsHouse 99 = .ok (.aload_n 0, 1) := by decide +kernel
theorem dX3_readsHouse_100 : decode cX3_readsHouse 100 = .ok (.iload_n 1, 1) := by decide +kernel
theorem dX3_readsHouse_101 : decode cX3_readsHouse 101 = .ok (.iload_n 2, 1) := by decide +kernel
theorem dX3_readsHouse_102 : decode cX3_readsHouse 102 = .ok (.invokevirtual 103, 3) := by decide +kernel
theorem dX3_readsHouse_105 : decode cX3_readsHouse 105 = .ok (.istore_n 3, 1) := by decide +kernel
theorem dX3_readsHouse_106 : decode cX3_readsHouse 106 = .ok (.goto (-26), 3) := by decide +kernel
theorem dX3_readsHouse_109 : decode cX3_readsHouse 109 = .ok (.iload_n 3, 1) := by decide +kernel
theorem dX3_readsHouse_110 : decode cX3_readsHouse 110 = .ok (.ireturn, 1) := by decide +kernel
theorem dX3_cellsBarred_0 : decode cX3_cellsBarred 0 = .ok (.aload_n 0, 1) := by decide +kernel
theorem dX3_cellsBarred_1 : decode cX3_cellsBarred 1 = .ok (.getfield 53, 3) := by decide +kernel
theorem dX3_cellsBarred_4 : decode cX3_cellsBarred 4 = .ok (.iload_n 1, 1) := by decide +kernel
theorem dX3_cellsBarred_5 : decode cX3_cellsBarred 5 = .ok (.iaload, 1) := by decide +kernel
theorem dX3_cellsBarred_6 : decode cX3_cellsBarred 6 = .ok (.ifCond .lt 19, 3) := by decide +kernel
theorem dX3_cellsBarred_9 : decode cX3_cellsBarred 9 = .ok (.aload_n 0, 1) := by decide +kernel
theorem dX3_cellsBarred_10 : decode cX3_cellsBarred 10 = .ok (.getfield 56, 3) := by decide +kernel
theorem dX3_cellsBarred_13 : decode cX3_cellsBarred 13 = .ok (.iload_n 1, 1) := by decide +kernel
theorem dX3_cellsBarred_14 : decode cX3_cellsBarred 14 = .ok (.iaload, 1) := by decide +kernel
theorem dX3_cellsBarred_15 : decode cX3_cellsBarred 15 = .ok (.iload_n 2, 1) := by decide +kernel
theorem dX3_cellsBarred_16 : decode cX3_cellsBarred 16 = .ok (.if_icmp .eq 9, 3) := by decide +kernel
theorem dX3_cellsBarred_19 : decode cX3_cellsBarred 19 = .ok (.aload_n 0, 1) := by decide +kernel
theorem dX3_cellsBarred_20 : decode cX3_cellsBarred 20 = .ok (.iconst 2, 1) := by decide +kernel
theorem dX3_cellsBarred_21 : decode cX3_cellsBarred 21 = .ok (.invokevirtual 107, 3) := by decide +kernel
theorem dX3_cellsBarred_24 : decode cX3_cellsBarred 24 = .ok (.ireturn, 1) := by decide +kernel
theorem dX3_cellsBarred_25 : decode cX3_cellsBarred 25 = .ok (.aload_n 0, 1) := by decide +kernel
theorem dX3_cellsBarred_26 : decode cX3_cellsBarred 26 = .ok (.getfield 53, 3) := by decide +kernel
theorem dX3_cellsBarred_29 : decode cX3_cellsBarred 29 = .ok (.iload_n 1, 1) := by decide +kernel
theorem dX3_cellsBarred_30 : decode cX3_cellsBarred 30 = .ok (.iaload, 1) := by decide +kernel
theorem dX3_cellsBarred_31 : decode cX3_cellsBarred 31 = .ok (.ifCond .ge 9, 3) := by decide +kernel
theorem dX3_cellsBarred_34 : decode cX3_cellsBarred 34 = .ok (.aload_n 0, 1) := by decide +kernel
theorem dX3_cellsBarred_35 : decode cX3_cellsBarred 35 = .ok (.iconst 1, 1) := by decide +kernel
theorem dX3_cellsBarred_36 : decode cX3_cellsBarred 36 = .ok (.invokevirtual 107, 3) := by decide +kernel
theorem dX3_cellsBarred_39 : decode cX3_cellsBarred 39 = .ok (.ireturn, 1) := by decide +kernel
theorem dX3_cellsBarred_40 : decode cX3_cellsBarred 40 = .ok (.lload 4, 2) := by decide +kernel
theorem dX3_cellsBarred_42 : decode cX3_cellsBarred 42 = .ok (.lconst 0, 1) := by decide +kernel
theorem dX3_cellsBarred_43 : decode cX3_cellsBarred 43 = .ok (.lcmp, 1) := by decide +kernel
theorem dX3_cellsBarred_44 : decode cX3_cellsBarred 44 = .ok (.ifCond .ge 9, 3) := by decide +kernel
theorem dX3_cellsBarred_47 : decode cX3_cellsBarred 47 = .ok (.aload_n 0, 1) := by decide +kernel
theorem dX3_cellsBarred_48 : decode cX3_cellsBarred 48 = .ok (.iconst 4, 1) := by decide +kernel
theorem dX3_cellsBarred_49 : decode cX3_cellsBarred 49 = .ok (.invokevirtual 107, 3) := by decide +kernel
theorem dX3_cellsBarred_52 : decode cX3_cellsBarred 52 = .ok (.ireturn, 1) := by decide +kernel
theorem dX3_cellsBarred_53 : decode cX3_cellsBarred 53 = .ok (.iload_n 3, 1) := by decide +kernel
theorem dX3_cellsBarred_54 : decode cX3_cellsBarred 54 = .ok (.lload 4, 2) := by decide +kernel
theorem dX3_cellsBarred_56 : decode cX3_cellsBarred 56 = .ok (.aload_n 0, 1) := by decide +kernel
theorem dX3_cellsBarred_57 : decode cX3_cellsBarred 57 = .ok (.getfield 53, 3) := by decide +kernel
theorem dX3_cellsBarred_60 : decode cX3_cellsBarred 60 = .ok (.iload_n 1, 1) := by decide +kernel
theorem dX3_cellsBarred_61 : decode cX3_cellsBarred 61 = .ok (.iaload, 1) := by decide +kernel
theorem dX3_cellsBarred_62 : decode cX3_cellsBarred 62 = .ok (.invokestatic 111, 3) := by decide +kernel
theorem dX3_cellsBarred_65 : decode cX3_cellsBarred 65 = .ok (.ifCond .eq 11, 3) := by decide +kernel
theorem dX3_cellsBarred_68 : decode cX3_cellsBarred 68 = .ok (.aload_n 0, 1) := by decide +kernel
theorem dX3_cellsBarred_69 : decode cX3_cellsBarred 69 = .ok (.iconst 3, 1) := by decide +kernel
theorem dX3_cellsBarred_70 : decode cX3_cellsBarred 70 = .ok (.invokevirtual 107, 3) := by decide +kernel
theorem dX3_cellsBarred_73 : decode cX3_cellsBarred 73 = .ok (.goto 4, 3) := by decide +kernel
theorem dX3_cellsBarred_76 : decode cX3_cellsBarred 76 = .ok (.iconst 0, 1) := by decide +kernel
theorem dX3_cellsBarred_77 : decode cX3_cellsBarred 77 = .ok (.ireturn, 1) := by decide +kernel
theorem dX3_house_0 : decode cX3_house 0 = .ok (.iload_n 1, 1) := by decide +kernel
theorem dX3_house_1 : decode cX3_house 1 = .ok (.invokestatic 115, 3) := by decide +kernel
theorem dX3_house_4 : decode cX3_house 4 = .ok (.ifCond .eq 9, 3) := by decide +kernel
theorem dX3_house_7 : decode cX3_house 7 = .ok (.aload_n 0, 1) := by decide +kernel
theorem dX3_house_8 : decode cX3_house 8 = .ok (.iconst (-1), 1) := by decide +kernel
theorem dX3_house_9 : decode cX3_house 9 = .ok (.invokevirtual 119, 3) := by decide +kernel
theorem dX3_house_12 : decode cX3_house 12 = .ok (.ireturn, 1) := by decide +kernel
theorem dX3_house_13 : decode cX3_house 13 = .ok (.iload_n 2, 1) := by decide +kernel
theorem dX3_house_14 : decode cX3_house 14 = .ok (.i2l, 1) := by decide +kernel
theorem dX3_house_15 : decode cX3_house 15 = .ok (.lconst 0, 1) := by decide +kernel
theorem dX3_house_16 : decode cX3_house 16 = .ok (.ldc2_w 122, 3) := by decide +kernel
theorem dX3_house_19 : decode cX3_house 19 = .ok (.invokestatic 77, 3) := by decide +kernel
theorem dX3_house_22 : decode cX3_house 22 = .ok (.ifCond .ne 10, 3) := by decide +kernel
theorem dX3_house_25 : decode cX3_house 25 = .ok (.aload_n 0, 1) := by decide +kernel
theorem dX3_house_26 : decode cX3_house 26 = .ok (.bipush (-2), 2) := by decide +kernel
theorem dX3_house_28 : decode cX3_house 28 = .ok (.invokevirtual 119, 3) := by decide +kernel
theorem dX3_house_31 : decode cX3_house 31 = .ok (.ireturn, 1) := by decide +kernel
theorem dX3_house_32 : decode cX3_house 32 = .ok (.aload_n 0, 1) := by decide +kernel
theorem dX3_house_33 : decode cX3_house 33 = .ok (.iload_n 1, 1) := by decide +kernel
theorem dX3_house_34 : decode cX3_house 34 = .ok (.iload_n 2, 1) := by decide +kernel
theorem dX3_house_35 : decode cX3_house 35 = .ok (.iload_n 3, 1) := by decide +kernel
theorem dX3_house_36 : decode cX3_house 36 = .ok (.iload 4, 2) := by decide +kernel
theorem dX3_house_38 : decode cX3_house 38 = .ok (.i2l, 1) := by decide +kernel
theorem dX3_house_39 : decode cX3_house 39 = .ok (.invokevirtual 124, 3) := by decide +kernel
theorem dX3_house_42 : decode cX3_house 42 = .ok (.istore 5, 2) := by decide +kernel
theorem dX3_house_44 : decode cX3_house 44 = .ok (.iload 5, 2) := by decide +kernel
theorem dX3_house_46 : decode cX3_house 46 = .ok (.ifCond .ge 6, 3) := by decide +kernel
theorem dX3_house_49 : decode cX3_house 49 = .ok (.iload 5, 2) := by decide +kernel
theorem dX3_house_51 : decode cX3_house 51 = .ok (.ireturn, 1) := by decide +kernel
theorem dX3_house_52 : decode cX3_house 52 = .ok (.aload_n 0, 1) := by decide +kernel
theorem dX3_house_53 : decode cX3_house 53 = .ok (.bipush 60, 2) := by decide +kernel
theorem dX3_house_55 : decode cX3_house 55 = .ok (.iload_n 1, 1) := by decide +kernel
theorem dX3_house_56 : decode cX3_house 56 = .ok (.imul, 1) := by decide +kernel
theorem dX3_house_57 : decode cX3_house 57 = .ok (.iload_n 3, 1) := by decide +kernel
theorem dX3_house_58 : decode cX3_house 58 = .ok (.iadd, 1) := by decide +kernel
theorem dX3_house_59 : decode cX3_house 59 = .ok (.iload 4, 2) := by decide +kernel
theorem dX3_house_61 : decode cX3_house 61 = .ok (.invokevirtual 128, 3) := by decide +kernel
theorem dX3_house_64 : decode cX3_house 64 = .ok (.ifCond .ne 15, 3) := by decide +kernel
theorem dX3_house_67 : decode cX3_house 67 = .ok (.aload_n 0, 1) := by decide +kernel
theorem dX3_house_68 : decode cX3_house 68 = .ok (.bipush (-100), 2) := by decide +kernel
theorem dX3_house_70 : decode cX3_house 70 = .ok (.aload_n 0, 1) := by decide +kernel
theorem dX3_house_71 : decode cX3_house 71 = .ok (.getfield 86, 3) := by decide +kernel
theorem dX3_house_74 : decode cX3_house 74 = .ok (.isub, 1) := by decide +kernel
theorem dX3_house_75 : decode cX3_house 75 = .ok (.invokevirtual 119, 3) := by decide +kernel
theorem dX3_house_78 : decode cX3_house 78 = .ok (.ireturn, 1) := by decide +kernel
theorem dX3_house_79 : decode cX3_house 79 = .ok (.aload_n 0, 1) := by decide +kernel
theorem dX3_house_80 : decode cX3_house 80 = .ok (.aload_n 0, 1) := by decide +kernel
theorem dX3_house_81 : decode cX3_house 81 = .ok (.getfield 96, 3) := by decide +kernel
theorem dX3_house_84 : decode cX3_house 84 = .ok (.putfield 74, 3) := by decide +kernel
theorem dX3_house_87 : decode cX3_house 87 = .ok (.aload_n 0, 1) := by decide +kernel
theorem dX3_house_88 : decode cX3_house 88 = .ok (.aload_n 0, 1) := by decide +kernel
theorem dX3_house_89 : decode cX3_house 89 = .ok (.getfield 93, 3) := by decide +kernel
theorem dX3_house_92 : decode cX3_house 92 = .ok (.putfield 81, 3) := by decide +kernel
theorem dX3_house_95 : decode cX3_house 95 = .ok (.iconst 0, 1) := by decide +kernel
theorem dX3_house_96 : decode cX3_house 96 = .ok (.istore 6, 2) := by decide +kernel
theorem dX3_house_98 : decode cX3_house 98 = .ok (.iload 6, 2) := by decide +kernel
theorem dX3_house_100 : decode cX3_house 100 = .ok (.aload_n 0, 1) := by decide +kernel
theorem dX3_house_101 : decode cX3_house 101 = .ok (.getfield 81, 3) := by decide +kernel
theorem dX3_house_104 : decode cX3_house 104 = .ok (.if_icmp .ge 65, 3) := by decide +kernel
theorem dX3_house_107 : decode cX3_house 107 = .ok (.aload_n 0, 1) := by decide +kernel
theorem dX3_house_108 : decode cX3_house 108 = .ok (.getfield 7, 3) := by decide +kernel
theorem dX3_house_111 : decode cX3_house 111 = .ok (.iload 6, 2) := by decide +kernel
theorem dX3_house_113 : decode cX3_house 113 = .ok (.aload_n 0, 1) := by decide +kernel
theorem dX3_house_114 : decode cX3_house 114 = .ok (.getfield 26, 3) := by decide +kernel
theorem dX3_house_117 : decode cX3_house 117 = .ok (.iload 6, 2) := by decide +kernel
theorem dX3_house_119 : decode cX3_house 119 = .ok (.iaload, 1) := by decide +kernel
theorem dX3_house_120 : decode cX3_house 120 = .ok (.iastore, 1) := by decide +kernel
theorem dX3_house_121 : decode cX3_house 121 = .ok (.aload_n 0, 1) := by decide +kernel
theorem dX3_house_122 : decode cX3_house 122 = .ok (.getfield 13, 3) := by decide +kernel
theorem dX3_house_125 : decode cX3_house 125 = .ok (.iload 6, 2) := by decide +kernel
theorem dX3_house_127 : decode cX3_house 127 = .ok (.aload_n 0, 1) := by decide +kernel
theorem dX3_house_128 : decode cX3_house 128 = .ok (.getfield 29, 3) := by decide +kernel
theorem dX3_house_131 : decode cX3_house 131 = .ok (.iload 6, 2) := by decide +kernel
theorem dX3_house_133 : decode cX3_house 133 = .ok (.iaload, 1) := by decide +kernel
theorem dX3_house_134 : decode cX3_house 134 = .ok (.iastore, 1) := by decide +kernel
theorem dX3_house_135 : decode cX3_house 135 = .ok (.aload_n 0, 1) := by decide +kernel
theorem dX3_house_136 : decode cX3_house 136 = .ok (.getfield 16, 3) := by decide +kernel
theorem dX3_house_139 : decode cX3_house 139 = .ok (.iload 6, 2) := by decide +kernel
theorem dX3_house_141 : decode cX3_house 141 = .ok (.aload_n 0, 1) := by decide +kernel
theorem dX3_house_142 : decode cX3_house 142 = .ok (.getfield 32, 3) := by decide +kernel
theorem dX3_house_145 : decode cX3_house 145 = .ok (.iload 6, 2) := by decide +kernel
theorem dX3_house_147 : decode cX3_house 147 = .ok (.iaload, 1) := by decide +kernel
theorem dX3_house_148 : decode cX3_house 148 = .ok (.iastore, 1) := by decide +kernel
theorem dX3_house_149 : decode cX3_house 149 = .ok (.aload_n 0, 1) := by decide +kernel
theorem dX3_house_150 : decode cX3_house 150 = .ok (.getfield 19, 3) := by decide +kernel
theorem dX3_house_153 : decode cX3_house 153 = .ok (.iload 6, 2) := by decide +kernel
theorem dX3_house_155 : decode cX3_house 155 = .ok (.aload_n 0, 1) := by decide +kernel
theorem dX3_house_156 : decode cX3_house 156 = .ok (.getfield 35, 3) := by decide +kernel
theorem dX3_house_159 : decode cX3_house 159 = .ok (.iload 6, 2) := by decide +kernel
theorem dX3_house_161 : decode cX3_house 161 = .ok (.iaload, 1) := by decide +kernel
theorem dX3_house_162 : decode cX3_house 162 = .ok (.iastore, 1) := by decide +kernel
theorem dX3_house_163 : decode cX3_house 163 = .ok (.iinc 6 1, 3) := by decide +kernel
theorem dX3_house_166 : decode cX3_house 166 = .ok (.goto (-68), 3) := by decide +kernel
theorem dX3_house_169 : decode cX3_house 169 = .ok (.aload_n 0, 1) := by decide +kernel
theorem dX3_house_170 : decode cX3_house 170 = .ok (.iconst 0, 1) := by decide +kernel
theorem dX3_house_171 : decode cX3_house 171 = .ok (.putfield 131, 3) := by decide +kernel
theorem dX3_house_174 : decode cX3_house 174 = .ok (.aload_n 0, 1) := by decide +kernel
theorem dX3_house_175 : decode cX3_house 175 = .ok (.aload_n 0, 1) := by decide +kernel
theorem dX3_house_176 : decode cX3_house 176 = .ok (.getfield 81, 3) := by decide +kernel
theorem dX3_house_179 : decode cX3_house 179 = .ok (.invokevirtual 119, 3) := by decide +kernel
theorem dX3_house_182 : decode cX3_house 182 = .ok (.ireturn, 1) := by decide +kernel
theorem dX3_ofDoor_0 : decode cX3_ofDoor 0 = .ok (.aload_n 0, 1) := by decide +kernel
theorem dX3_ofDoor_1 : decode cX3_ofDoor 1 = .ok (.iload_n 1, 1) := by decide +kernel
theorem dX3_ofDoor_2 : decode cX3_ofDoor 2 = .ok (.invokevirtual 134, 3) := by decide +kernel
theorem dX3_ofDoor_5 : decode cX3_ofDoor 5 = .ok (.ifCond .eq 5, 3) := by decide +kernel
theorem dX3_ofDoor_8 : decode cX3_ofDoor 8 = .ok (.iconst (-1), 1) := by decide +kernel
theorem dX3_ofDoor_9 : decode cX3_ofDoor 9 = .ok (.ireturn, 1) := by decide +kernel
theorem dX3_ofDoor_10 : decode cX3_ofDoor 10 = .ok (.iload_n 2, 1) := by decide +kernel
theorem dX3_ofDoor_11 : decode cX3_ofDoor 11 = .ok (.tableswitch 57 0 3 #[29, 36, 43, 50], 29) := by decide +kernel
theorem dX3_ofDoor_40 : decode cX3_ofDoor 40 = .ok (.aload_n 0, 1) := by decide +kernel
theorem dX3_ofDoor_41 : decode cX3_ofDoor 41 = .ok (.getfield 7, 3) := by decide +kernel
theorem dX3_ofDoor_44 : decode cX3_ofDoor 44 = .ok (.iload_n 1, 1) := by decide +kernel
theorem dX3_ofDoor_45 : decode cX3_ofDoor 45 = .ok (.iaload, 1) := by decide +kernel
theorem dX3_ofDoor_46 : decode cX3_ofDoor 46 = .ok (.ireturn, 1) := by decide +kernel
theorem dX3_ofDoor_47 : decode cX3_ofDoor 47 = .ok (.aload_n 0, 1) := by decide +kernel
theorem dX3_ofDoor_48 : decode cX3_ofDoor 48 = .ok (.getfield 13, 3) := by decide +kernel
theorem dX3_ofDoor_51 : decode cX3_ofDoor 51 = .ok (.iload_n 1, 1) := by decide +kernel
theorem dX3_ofDoor_52 : decode cX3_ofDoor 52 = .ok (.iaload, 1) := by decide +kernel
theorem dX3_ofDoor_53 : decode cX3_ofDoor 53 = .ok (.ireturn, 1) := by decide +kernel
theorem dX3_ofDoor_54 : decode cX3_ofDoor 54 = .ok (.aload_n 0, 1) := by decide +kernel
theorem dX3_ofDoor_55 : decode cX3_ofDoor 55 = .ok (.getfield 16, 3) := by decide +kernel
theorem dX3_ofDoor_58 : decode cX3_ofDoor 58 = .ok (.iload_n 1, 1) := by decide +kernel
theorem dX3_ofDoor_59 : decode cX3_ofDoor 59 = .ok (.iaload, 1) := by decide +kernel
theorem dX3_ofDoor_60 : decode cX3_ofDoor 60 = .ok (.ireturn, 1) := by decide +kernel
theorem dX3_ofDoor_61 : decode cX3_ofDoor 61 = .ok (.aload_n 0, 1) := by decide +kernel
theorem dX3_ofDoor_62 : decode cX3_ofDoor 62 = .ok (.getfield 19, 3) := by decide +kernel
theorem dX3_ofDoor_65 : decode cX3_ofDoor 65 = .ok (.iload_n 1, 1) := by decide +kernel
theorem dX3_ofDoor_66 : decode cX3_ofDoor 66 = .ok (.iaload, 1) := by decide +kernel
theorem dX3_ofDoor_67 : decode cX3_ofDoor 67 = .ok (.ireturn, 1) := by decide +kernel
theorem dX3_ofDoor_68 : decode cX3_ofDoor 68 = .ok (.bipush (-2), 2) := by decide +kernel
theorem dX3_ofDoor_70 : decode cX3_ofDoor 70 = .ok (.ireturn, 1) := by decide +kernel
theorem dX3_leadsAt_0 : decode cX3_leadsAt 0 = .ok (.aload_n 0, 1) := by decide +kernel
theorem dX3_leadsAt_1 : decode cX3_leadsAt 1 = .ok (.getfield 7, 3) := by decide +kernel
theorem dX3_leadsAt_4 : decode cX3_leadsAt 4 = .ok (.iload_n 1, 1) := by decide +kernel
theorem dX3_leadsAt_5 : decode cX3_leadsAt 5 = .ok (.iaload, 1) := by decide +kernel
theorem dX3_leadsAt_6 : decode cX3_leadsAt 6 = .ok (.iconst 2, 1) := by decide +kernel
theorem dX3_leadsAt_7 : decode cX3_leadsAt 7 = .ok (.if_icmp .ne 12, 3) := by decide +kernel
theorem dX3_leadsAt_10 : decode cX3_leadsAt 10 = .ok (.iload_n 2, 1) := by decide +kernel
theorem dX3_leadsAt_11 : decode cX3_leadsAt 11 = .ok (.iconst 3, 1) := by decide +kernel
theorem dX3_leadsAt_12 : decode cX3_leadsAt 12 = .ok (.irem, 1) := by decide +kernel
theorem dX3_leadsAt_13 : decode cX3_leadsAt 13 = .ok (.ifCond .eq 6, 3) := by decide +kernel
theorem dX3_leadsAt_16 : decode cX3_leadsAt 16 = .ok (.bipush (-9), 2) := by decide +kernel
theorem dX3_leadsAt_18 : decode cX3_leadsAt 18 = .ok (.ireturn, 1) := by decide +kernel
theorem dX3_leadsAt_19 : decode cX3_leadsAt 19 = .ok (.aload_n 0, 1) := by decide +kernel
theorem dX3_leadsAt_20 : decode cX3_leadsAt 20 = .ok (.getfield 7, 3) := by decide +kernel
theorem dX3_leadsAt_23 : decode cX3_leadsAt 23 = .ok (.iload_n 1, 1) := by decide +kernel
theorem dX3_leadsAt_24 : decode cX3_leadsAt 24 = .ok (.iaload, 1) := by decide +kernel
theorem dX3_leadsAt_25 : decode cX3_leadsAt 25 = .ok (.ifCond .ne 7, 3) := by decide +kernel
theorem dX3_leadsAt_28 : decode cX3_leadsAt 28 = .ok (.iload_n 2, 1) := by decide +kernel
theorem dX3_leadsAt_29 : decode cX3_leadsAt 29 = .ok (.goto 12, 3) := by decide +kernel
theorem dX3_leadsAt_32 : decode cX3_leadsAt 32 = .ok (.iload_n 2, 1) := by decide +kernel
theorem dX3_leadsAt_33 : decode cX3_leadsAt 33 = .ok (.bipush 12, 2) := by decide +kernel
theorem dX3_leadsAt_35 : decode cX3_leadsAt 35 = .ok (.iadd, 1) := by decide +kernel
theorem dX3_leadsAt_36 : decode cX3_leadsAt 36 = .ok (.iconst 1, 1) := by decide +kernel
theorem dX3_leadsAt_37 : decode cX3_leadsAt 37 = .ok (.isub, 1) := by decide +kernel
theorem dX3_leadsAt_38 : decode cX3_leadsAt 38 = .ok (.bipush 12, 2) := by decide +kernel
theorem dX3_leadsAt_40 : decode cX3_leadsAt 40 = .ok (.irem, 1) := by decide +kernel
theorem dX3_leadsAt_41 : decode cX3_leadsAt 41 = .ok (.istore_n 3, 1) := by decide +kernel
theorem dX3_leadsAt_42 : decode cX3_leadsAt 42 = .ok (.aload_n 0, 1) := by decide +kernel
theorem dX3_leadsAt_43 : decode cX3_leadsAt 43 = .ok (.getfield 16, 3) := by decide +kernel
theorem dX3_leadsAt_46 : decode cX3_leadsAt 46 = .ok (.iload_n 1, 1) := by decide +kernel
theorem dX3_leadsAt_47 : decode cX3_leadsAt 47 = .ok (.iaload, 1) := by decide +kernel
theorem dX3_leadsAt_48 : decode cX3_leadsAt 48 = .ok (.aload_n 0, 1) := by decide +kernel
theorem dX3_leadsAt_49 : decode cX3_leadsAt 49 = .ok (.getfield 19, 3) := by decide +kernel
theorem dX3_leadsAt_52 : decode cX3_leadsAt 52 = .ok (.iload_n 1, 1) := by decide +kernel
theorem dX3_leadsAt_53 : decode cX3_leadsAt 53 = .ok (.iaload, 1) := by decide +kernel
theorem dX3_leadsAt_54 : decode cX3_leadsAt 54 = .ok (.iload_n 3, 1) := by decide +kernel
theorem dX3_leadsAt_55 : decode cX3_leadsAt 55 = .ok (.imul, 1) := by decide +kernel
theorem dX3_leadsAt_56 : decode cX3_leadsAt 56 = .ok (.iadd, 1) := by decide +kernel
theorem dX3_leadsAt_57 : decode cX3_leadsAt 57 = .ok (.aload_n 0, 1) := by decide +kernel
theorem dX3_leadsAt_58 : decode cX3_leadsAt 58 = .ok (.getfield 74, 3) := by decide +kernel
theorem dX3_leadsAt_61 : decode cX3_leadsAt 61 = .ok (.irem, 1) := by decide +kernel
theorem dX3_leadsAt_62 : decode cX3_leadsAt 62 = .ok (.ireturn, 1) := by decide +kernel
theorem dX3_leads_0 : decode cX3_leads 0 = .ok (.aload_n 0, 1) := by decide +kernel
theorem dX3_leads_1 : decode cX3_leads 1 = .ok (.iload_n 1, 1) := by decide +kernel
theorem dX3_leads_2 : decode cX3_leads 2 = .ok (.invokevirtual 134, 3) := by decide +kernel
theorem dX3_leads_5 : decode cX3_leads 5 = .ok (.ifCond .eq 5, 3) := by decide +kernel
theorem dX3_leads_8 : decode cX3_leads 8 = .ok (.iconst (-1), 1) := by decide +kernel
theorem dX3_leads_9 : decode cX3_leads 9 = .ok (.ireturn, 1) := by decide +kernel
theorem dX3_leads_10 : decode cX3_leads 10 = .ok (.iload_n 2, 1) := by decide +kernel
theorem dX3_leads_11 : decode cX3_leads 11 = .ok (.invokestatic 137, 3) := by decide +kernel
theorem dX3_leads_14 : decode cX3_leads 14 = .ok (.ifCond .eq 8, 3) := by decide +kernel
theorem dX3_leads_17 : decode cX3_leads 17 = .ok (.bipush (-2), 2) := by decide +kernel
theorem dX3_leads_19 : decode cX3_leads 19 = .ok (.goto 9, 3) := by decide +kernel
theorem dX3_leads_22 : decode cX3_leads 22 = .ok (.aload_n 0, 1) := by decide +kernel
theorem dX3_leads_23 : decode cX3_leads 23 = .ok (.iload_n 1, 1) := by decide +kernel
theorem dX3_leads_24 : decode cX3_leads 24 = .ok (.iload_n 2, 1) := by decide +kernel
theorem dX3_leads_25 : decode cX3_leads 25 = .ok (.invokevirtual 140, 3) := by decide +kernel
theorem dX3_leads_28 : decode cX3_leads 28 = .ok (.ireturn, 1) := by decide +kernel
theorem dX3_step_0 : decode cX3_step 0 = .ok (.aload_n 0, 1) := by decide +kernel
theorem dX3_step_1 : decode cX3_step 1 = .ok (.iload_n 1, 1) := by decide +kernel
theorem dX3_step_2 : decode cX3_step 2 = .ok (.invokevirtual 134, 3) := by decide +kernel
theorem dX3_step_5 : decode cX3_step 5 = .ok (.ifCond .eq 5, 3) := by decide +kernel
theorem dX3_step_8 : decode cX3_step 8 = .ok (.iconst (-1), 1) := by decide +kernel
theorem dX3_step_9 : decode cX3_step 9 = .ok (.ireturn, 1) := by decide +kernel
theorem dX3_step_10 : decode cX3_step 10 = .ok (.iload_n 2, 1) := by decide +kernel
theorem dX3_step_11 : decode cX3_step 11 = .ok (.i2l, 1) := by decide +kernel
theorem dX3_step_12 : decode cX3_step 12 = .ok (.lconst 0, 1) := by decide +kernel
theorem dX3_step_13 : decode cX3_step 13 = .ok (.ldc2_w 143, 3) := by decide +kernel
theorem dX3_step_16 : decode cX3_step 16 = .ok (.invokestatic 77, 3) := by decide +kernel
theorem dX3_step_19 : decode cX3_step 19 = .ok (.ifCond .ne 6, 3) := by decide +kernel
theorem dX3_step_22 : decode cX3_step 22 = .ok (.bipush (-2), 2) := by decide +kernel
theorem dX3_step_24 : decode cX3_step 24 = .ok (.ireturn, 1) := by decide +kernel
theorem dX3_step_25 : decode cX3_step 25 = .ok (.aload_n 0, 1) := by decide +kernel
theorem dX3_step_26 : decode cX3_step 26 = .ok (.getfield 19, 3) := by decide +kernel
theorem dX3_step_29 : decode cX3_step 29 = .ok (.iload_n 1, 1) := by decide +kernel
theorem dX3_step_30 : decode cX3_step 30 = .ok (.iaload, 1) := by decide +kernel
theorem dX3_step_31 : decode cX3_step 31 = .ok (.istore_n 3, 1) := by decide +kernel
theorem dX3_step_32 : decode cX3_step 32 = .ok (.aload_n 0, 1) := by decide +kernel
theorem dX3_step_33 : decode cX3_step 33 = .ok (.getfield 19, 3) := by decide +kernel
theorem dX3_step_36 : decode cX3_step 36 = .ok (.iload_n 1, 1) := by decide +kernel
theorem dX3_step_37 : decode cX3_step 37 = .ok (.iload_n 2, 1) := by decide +kernel
theorem dX3_step_38 : decode cX3_step 38 = .ok (.iastore, 1) := by decide +kernel
theorem dX3_step_39 : decode cX3_step 39 = .ok (.iload_n 3, 1) := by decide +kernel
theorem dX3_step_40 : decode cX3_step 40 = .ok (.ireturn, 1) := by decide +kernel
theorem dX3_turn_0 : decode cX3_turn 0 = .ok (.aload_n 0, 1) := by decide +kernel
theorem dX3_turn_1 : decode cX3_turn 1 = .ok (.iload_n 1, 1) := by decide +kernel
theorem dX3_turn_2 : decode cX3_turn 2 = .ok (.invokevirtual 134, 3) := by decide +kernel
theorem dX3_turn_5 : decode cX3_turn 5 = .ok (.ifCond .ne 11, 3) := by decide +kernel
theorem dX3_turn_8 : decode cX3_turn 8 = .ok (.aload_n 0, 1) := by decide +kernel
theorem dX3_turn_9 : decode cX3_turn 9 = .ok (.iload_n 2, 1) := by decide +kernel
theorem dX3_turn_10 : decode cX3_turn 10 = .ok (.invokevirtual 145, 3) := by decide +kernel
theorem dX3_turn_13 : decode cX3_turn 13 = .ok (.ifCond .eq 5, 3) := by decide +kernel
theorem dX3_turn_16 : decode cX3_turn 16 = .ok (.iconst (-1), 1) := by decide +kernel
theorem dX3_turn_17 : decode cX3_turn 17 = .ok (.ireturn, 1) := by decide +kernel
theorem dX3_turn_18 : decode cX3_turn 18 = .ok (.aload_n 0, 1) := by decide +kernel
theorem dX3_turn_19 : decode cX3_turn 19 = .ok (.getfield 16, 3) := by decide +kernel
theorem dX3_turn_22 : decode cX3_turn 22 = .ok (.iload_n 1, 1) := by decide +kernel
theorem dX3_turn_23 : decode cX3_turn 23 = .ok (.iaload, 1) := by decide +kernel
theorem dX3_turn_24 : decode cX3_turn 24 = .ok (.istore_n 3, 1) := by decide +kernel
theorem dX3_turn_25 : decode cX3_turn 25 = .ok (.aload_n 0, 1) := by decide +kernel
theorem dX3_turn_26 : decode cX3_turn 26 = .ok (.getfield 16, 3) := by decide +kernel
theorem dX3_turn_29 : decode cX3_turn 29 = .ok (.iload_n 1, 1) := by decide +kernel
theorem dX3_turn_30 : decode cX3_turn 30 = .ok (.iload_n 2, 1) := by decide +kernel
theorem dX3_turn_31 : decode cX3_turn 31 = .ok (.iastore, 1) := by decide +kernel
theorem dX3_turn_32 : decode cX3_turn 32 = .ok (.iload_n 3, 1) := by decide +kernel
theorem dX3_turn_33 : decode cX3_turn 33 = .ok (.ireturn, 1) := by decide +kernel
theorem dX3_behind_0 : decode cX3_behind 0 = .ok (.iload_n 3, 1) := by decide +kernel
theorem dX3_behind_1 : decode cX3_behind 1 = .ok (.aload_n 0, 1) := by decide +kernel
theorem dX3_behind_2 : decode cX3_behind 2 = .ok (.getfield 81, 3) := by decide +kernel
theorem dX3_behind_5 : decode cX3_behind 5 = .ok (.if_icmp .ne 5, 3) := by decide +kernel
theorem dX3_behind_8 : decode cX3_behind 8 = .ok (.iload_n 1, 1) := by decide +kernel
theorem dX3_behind_9 : decode cX3_behind 9 = .ok (.ireturn, 1) := by decide +kernel
theorem dX3_behind_10 : decode cX3_behind 10 = .ok (.iload_n 3, 1) := by decide +kernel
theorem dX3_behind_11 : decode cX3_behind 11 = .ok (.aload_n 0, 1) := by decide +kernel
theorem dX3_behind_12 : decode cX3_behind 12 = .ok (.getfield 22, 3) := by decide +kernel
theorem dX3_behind_15 : decode cX3_behind 15 = .ok (.if_icmp .eq 13, 3) := by decide +kernel
theorem dX3_behind_18 : decode cX3_behind 18 = .ok (.aload_n 0, 1) := by decide +kernel
theorem dX3_behind_19 : decode cX3_behind 19 = .ok (.getfield 13, 3) := by decide +kernel
theorem dX3_behind_22 : decode cX3_behind 22 = .ok (.iload_n 3, 1) := by decide +kernel
theorem dX3_behind_23 : decode cX3_behind 23 = .ok (.iaload, 1) := by decide +kernel
theorem dX3_behind_24 : decode cX3_behind 24 = .ok (.iload_n 1, 1) := by decide +kernel
theorem dX3_behind_25 : decode cX3_behind 25 = .ok (.if_icmp .eq 8, 3) := by decide +kernel
theorem dX3_behind_28 : decode cX3_behind 28 = .ok (.bipush (-9), 2) := by decide +kernel
theorem dX3_behind_30 : decode cX3_behind 30 = .ok (.goto 9, 3) := by decide +kernel
theorem dX3_behind_33 : decode cX3_behind 33 = .ok (.aload_n 0, 1) := by decide +kernel
theorem dX3_behind_34 : decode cX3_behind 34 = .ok (.iload_n 3, 1) := by decide +kernel
theorem dX3_behind_35 : decode cX3_behind 35 = .ok (.iload_n 2, 1) := by decide +kernel
theorem dX3_behind_36 : decode cX3_behind 36 = .ok (.invokevirtual 140, 3) := by decide +kernel
theorem dX3_behind_39 : decode cX3_behind 39 = .ok (.ireturn, 1) := by decide +kernel
theorem dX3_goWalk_0 : decode cX3_goWalk 0 = .ok (.aload_n 0, 1) := by decide +kernel
theorem dX3_goWalk_1 : decode cX3_goWalk 1 = .ok (.bipush (-9), 2) := by decide +kernel
theorem dX3_goWalk_3 : decode cX3_goWalk 3 = .ok (.putfield 148, 3) := by decide +kernel
theorem dX3_goWalk_6 : decode cX3_goWalk 6 = .ok (.aload_n 0, 1) := by decide +kernel
theorem dX3_goWalk_7 : decode cX3_goWalk 7 = .ok (.iload_n 1, 1) := by decide +kernel
theorem dX3_goWalk_8 : decode cX3_goWalk 8 = .ok (.putfield 151, 3) := by decide +kernel
theorem dX3_goWalk_11 : decode cX3_goWalk 11 = .ok (.aload_n 0, 1) := by decide +kernel
theorem dX3_goWalk_12 : decode cX3_goWalk 12 = .ok (.iconst 1, 1) := by decide +kernel
theorem dX3_goWalk_13 : decode cX3_goWalk 13 = .ok (.iload_n 1, 1) := by decide +kernel
theorem dX3_goWalk_14 : decode cX3_goWalk 14 = .ok (.ishl, 1) := by decide +kernel
theorem dX3_goWalk_15 : decode cX3_goWalk 15 = .ok (.putfield 154, 3) := by decide +kernel
theorem dX3_goWalk_18 : decode cX3_goWalk 18 = .ok (.aload_n 0, 1) := by decide +kernel
theorem dX3_goWalk_19 : decode cX3_goWalk 19 = .ok (.iconst 0, 1) := by decide +kernel
theorem dX3_goWalk_20 : decode cX3_goWalk 20 = .ok (.putfield 157, 3) := by decide +kernel
theorem dX3_goWalk_23 : decode cX3_goWalk 23 = .ok (.iconst 0, 1) := by decide +kernel
theorem dX3_goWalk_24 : decode cX3_goWalk 24 = .ok (.istore 5, 2) := by decide +kernel
theorem dX3_goWalk_26 : decode cX3_goWalk 26 = .ok (.iload 5, 2) := by decide +kernel
theorem dX3_goWalk_28 : decode cX3_goWalk 28 = .ok (.iload 4, 2) := by decide +kernel
theorem dX3_goWalk_30 : decode cX3_goWalk 30 = .ok (.if_icmp .ge 102, 3) := by decide +kernel
theorem dX3_goWalk_33 : decode cX3_goWalk 33 = .ok (.aload_n 0, 1) := by decide +kernel
theorem dX3_goWalk_34 : decode cX3_goWalk 34 = .ok (.getfield 148, 3) := by decide +kernel
theorem dX3_goWalk_37 : decode cX3_goWalk 37 = .ok (.ifCond .ge 95, 3) := by decide +kernel
theorem dX3_goWalk_40 : decode cX3_goWalk 40 = .ok (.aload_n 0, 1) := by decide +kernel
theorem dX3_goWalk_41 : decode cX3_goWalk 41 = .ok (.getfield 59, 3) := by decide +kernel
theorem dX3_goWalk_44 : decode cX3_goWalk 44 = .ok (.iload_n 3, 1) := by decide +kernel
theorem dX3_goWalk_45 : decode cX3_goWalk 45 = .ok (.iload 5, 2) := by decide +kernel
theorem dX3_goWalk_47 : decode cX3_goWalk 47 = .ok (.iadd, 1) := by decide +kernel
theorem dX3_goWalk_48 : decode cX3_goWalk 48 = .ok (.iaload, 1) := by decide +kernel
theorem dX3_goWalk_49 : decode cX3_goWalk 49 = .ok (.istore 6, 2) := by decide +kernel
theorem dX3_goWalk_51 : decode cX3_goWalk 51 = .ok (.aload_n 0, 1) := by decide +kernel
theorem dX3_goWalk_52 : decode cX3_goWalk 52 = .ok (.aload_n 0, 1) := by decide +kernel
theorem dX3_goWalk_53 : decode cX3_goWalk 53 = .ok (.getfield 151, 3) := by decide +kernel
theorem dX3_goWalk_56 : decode cX3_goWalk 56 = .ok (.iload_n 2, 1) := by decide +kernel
theorem dX3_goWalk_57 : decode cX3_goWalk 57 = .ok (.iload 5, 2) := by decide +kernel
theorem dX3_goWalk_59 : decode cX3_goWalk 59 = .ok (.iadd, 1) := by decide +kernel
theorem dX3_goWalk_60 : decode cX3_goWalk 60 = .ok (.bipush 12, 2) := by decide +kernel
theorem dX3_goWalk_62 : decode cX3_goWalk 62 = .ok (.irem, 1) := by decide +kernel
theorem dX3_goWalk_63 : decode cX3_goWalk 63 = .ok (.iload 6, 2) := by decide +kernel
theorem dX3_goWalk_65 : decode cX3_goWalk 65 = .ok (.invokevirtual 160, 3) := by decide +kernel
theorem dX3_goWalk_68 : decode cX3_goWalk 68 = .ok (.istore 7, 2) := by decide +kernel
theorem dX3_goWalk_70 : decode cX3_goWalk 70 = .ok (.iload 7, 2) := by decide +kernel
theorem dX3_goWalk_72 : decode cX3_goWalk 72 = .ok (.ifCond .ge 12, 3) := by decide +kernel
theorem dX3_goWalk_75 : decode cX3_goWalk 75 = .ok (.aload_n 0, 1) := by decide +kernel
theorem dX3_goWalk_76 : decode cX3_goWalk 76 = .ok (.iload 5, 2) := by decide +kernel
theorem dX3_goWalk_78 : decode cX3_goWalk 78 = .ok (.putfield 148, 3) := by decide +kernel
theorem dX3_goWalk_81 : decode cX3_goWalk 81 = .ok (.goto 45, 3) := by decide +kernel
theorem dX3_goWalk_84 : decode cX3_goWalk 84 = .ok (.aload_n 0, 1) := by decide +kernel
theorem dX3_goWalk_85 : decode cX3_goWalk 85 = .ok (.iload 7, 2) := by decide +kernel
theorem dX3_goWalk_87 : decode cX3_goWalk 87 = .ok (.putfield 151, 3) := by decide +kernel
theorem dX3_goWalk_90 : decode cX3_goWalk 90 = .ok (.aload_n 0, 1) := by decide +kernel
theorem dX3_goWalk_91 : decode cX3_goWalk 91 = .ok (.dup, 1) := by decide +kernel
theorem dX3_goWalk_92 : decode cX3_goWalk 92 = .ok (.getfield 154, 3) := by decide +kernel
theorem dX3_goWalk_95 : decode cX3_goWalk 95 = .ok (.iconst 1, 1) := by decide +kernel
theorem dX3_goWalk_96 : decode cX3_goWalk 96 = .ok (.iload 7, 2) := by decide +kernel
theorem dX3_goWalk_98 : decode cX3_goWalk 98 = .ok (.ishl, 1) := by decide +kernel
theorem dX3_goWalk_99 : decode cX3_goWalk 99 = .ok (.ior, 1) := by decide +kernel
theorem dX3_goWalk_100 : decode cX3_goWalk 100 = .ok (.putfield 154, 3) := by decide +kernel
theorem dX3_goWalk_103 : decode cX3_goWalk 103 = .ok (.aload_n 0, 1) := by decide +kernel
theorem dX3_goWalk_104 : decode cX3_goWalk 104 = .ok (.dup, 1) := by decide +kernel
theorem dX3_goWalk_105 : decode cX3_goWalk 105 = .ok (.getfield 157, 3) := by decide +kernel
theorem dX3_goWalk_108 : decode cX3_goWalk 108 = .ok (.iload 6, 2) := by decide +kernel
theorem dX3_goWalk_110 : decode cX3_goWalk 110 = .ok (.aload_n 0, 1) := by decide +kernel
theorem dX3_goWalk_111 : decode cX3_goWalk 111 = .ok (.getfield 81, 3) := by decide +kernel
theorem dX3_goWalk_114 : decode cX3_goWalk 114 = .ok (.if_icmp .ge 7, 3) := by decide +kernel
theorem dX3_goWalk_117 : decode cX3_goWalk 117 = .ok (.iconst 1, 1) := by decide +kernel
theorem dX3_goWalk_118 : decode cX3_goWalk 118 = .ok (.goto 4, 3) := by decide +kernel
theorem dX3_goWalk_121 : decode cX3_goWalk 121 = .ok (.iconst 0, 1) := by decide +kernel
theorem dX3_goWalk_122 : decode cX3_goWalk 122 = .ok (.iadd, 1) := by decide +kernel
theorem dX3_goWalk_123 : decode cX3_goWalk 123 = .ok (.putfield 157, 3) := by decide +kernel
theorem dX3_goWalk_126 : decode cX3_goWalk 126 = .ok (.iinc 5 1, 3) := by decide +kernel
theorem dX3_goWalk_129 : decode cX3_goWalk 129 = .ok (.goto (-103), 3) := by decide +kernel
theorem dX3_goWalk_132 : decode cX3_goWalk 132 = .ok (.return_, 1) := by decide +kernel
theorem dX3_walk_0 : decode cX3_walk 0 = .ok (.aload_n 0, 1) := by decide +kernel
theorem dX3_walk_1 : decode cX3_walk 1 = .ok (.iload_n 1, 1) := by decide +kernel
theorem dX3_walk_2 : decode cX3_walk 2 = .ok (.invokevirtual 145, 3) := by decide +kernel
theorem dX3_walk_5 : decode cX3_walk 5 = .ok (.ifCond .ne 10, 3) := by decide +kernel
theorem dX3_walk_8 : decode cX3_walk 8 = .ok (.iload_n 3, 1) := by decide +kernel
theorem dX3_walk_9 : decode cX3_walk 9 = .ok (.invokestatic 115, 3) := by decide +kernel
theorem dX3_walk_12 : decode cX3_walk 12 = .ok (.ifCond .eq 9, 3) := by decide +kernel
theorem dX3_walk_15 : decode cX3_walk 15 = .ok (.aload_n 0, 1) := by decide +kernel
theorem dX3_walk_16 : decode cX3_walk 16 = .ok (.iconst (-1), 1) := by decide +kernel
theorem dX3_walk_17 : decode cX3_walk 17 = .ok (.invokevirtual 119, 3) := by decide +kernel
theorem dX3_walk_20 : decode cX3_walk 20 = .ok (.ireturn, 1) := by decide +kernel
theorem dX3_walk_21 : decode cX3_walk 21 = .ok (.iload_n 2, 1) := by decide +kernel
theorem dX3_walk_22 : decode cX3_walk 22 = .ok (.invokestatic 137, 3) := by decide +kernel
theorem dX3_walk_25 : decode cX3_walk 25 = .ok (.ifCond .ne 42, 3) := by decide +kernel
theorem dX3_walk_28 : decode cX3_walk 28 = .ok (.iload 4, 2) := by decide +kernel
theorem dX3_walk_30 : decode cX3_walk 30 = .ok (.i2l, 1) := by decide +kernel
theorem dX3_walk_31 : decode cX3_walk 31 = .ok (.lconst 0, 1) := by decide +kernel
theorem dX3_walk_32 : decode cX3_walk 32 = .ok (.ldc2_w 122, 3) := by decide +kernel
theorem dX3_walk_35 : decode cX3_walk 35 = .ok (.invokestatic 77, 3) := by decide +kernel
theorem dX3_walk_38 : decode cX3_walk 38 = .ok (.ifCond .eq 29, 3) := by decide +kernel
theorem dX3_walk_41 : decode cX3_walk 41 = .ok (.iload 6, 2) := by decide +kernel
theorem dX3_walk_43 : decode cX3_walk 43 = .ok (.i2l, 1) := by decide +kernel
theorem dX3_walk_44 : decode cX3_walk 44 = .ok (.lconst 0, 1) := by decide +kernel
theorem dX3_walk_45 : decode cX3_walk 45 = .ok (.ldc2_w 164, 3) := by decide +kernel
theorem dX3_walk_48 : decode cX3_walk 48 = .ok (.invokestatic 77, 3) := by decide +kernel
theorem dX3_walk_51 : decode cX3_walk 51 = .ok (.ifCond .eq 16, 3) := by decide +kernel
theorem dX3_walk_54 : decode cX3_walk 54 = .ok (.iload 7, 2) := by decide +kernel
theorem dX3_walk_56 : decode cX3_walk 56 = .ok (.i2l, 1) := by decide +kernel
theorem dX3_walk_57 : decode cX3_walk 57 = .ok (.lconst 0, 1) := by decide +kernel
theorem dX3_walk_58 : decode cX3_walk 58 = .ok (.ldc2_w 166, 3) := by decide +kernel
theorem dX3_walk_61 : decode cX3_walk 61 = .ok (.invokestatic 77, 3) := by decide +kernel
theorem dX3_walk_64 : decode cX3_walk 64 = .ok (.ifCond .ne 10, 3) := by decide +kernel
theorem dX3_walk_67 : decode cX3_walk 67 = .ok (.aload_n 0, 1) := by decide +kernel
theorem dX3_walk_68 : decode cX3_walk 68 = .ok (.bipush (-2), 2) := by decide +kernel
theorem dX3_walk_70 : decode cX3_walk 70 = .ok (.invokevirtual 119, 3) := by decide +kernel
theorem dX3_walk_73 : decode cX3_walk 73 = .ok (.ireturn, 1) := by decide +kernel
theorem dX3_walk_74 : decode cX3_walk 74 = .ok (.aload_n 0, 1) := by decide +kernel
theorem dX3_walk_75 : decode cX3_walk 75 = .ok (.iload_n 3, 1) := by decide +kernel
theorem dX3_walk_76 : decode cX3_walk 76 = .ok (.iload 4, 2) := by decide +kernel
theorem dX3_walk_78 : decode cX3_walk 78 = .ok (.iload 5, 2) := by decide +kernel
theorem dX3_walk_80 : decode cX3_walk 80 = .ok (.iload 6, 2) := by decide +kernel
theorem dX3_walk_82 : decode cX3_walk 82 = .ok (.i2l, 1) := by decide +kernel
theorem dX3_walk_83 : decode cX3_walk 83 = .ok (.invokevirtual 124, 3) := by decide +kernel
theorem dX3_walk_86 : decode cX3_walk 86 = .ok (.istore 8, 2) := by decide +kernel
theorem dX3_walk_88 : decode cX3_walk 88 = .ok (.iload 8, 2) := by decide +kernel
theorem dX3_walk_90 : decode cX3_walk 90 = .ok (.ifCond .ge 6, 3) := by decide +kernel
theorem dX3_walk_93 : decode cX3_walk 93 = .ok (.iload 8, 2) := by decide +kernel
theorem dX3_walk_95 : decode cX3_walk 95 = .ok (.ireturn, 1) := by decide +kernel
theorem dX3_walk_96 : decode cX3_walk 96 = .ok (.iconst 0, 1) := by decide +kernel
theorem dX3_walk_97 : decode cX3_walk 97 = .ok (.istore 9, 2) := by decide +kernel
theorem dX3_walk_99 : decode cX3_walk 99 = .ok (.iload 9, 2) := by decide +kernel
theorem dX3_walk_101 : decode cX3_walk 101 = .ok (.iload 6, 2) := by decide +kernel
theorem dX3_walk_103 : decode cX3_walk 103 = .ok (.if_icmp .ge 44, 3) := by decide +kernel
theorem dX3_walk_106 : decode cX3_walk 106 = .ok (.aload_n 0, 1) := by decide +kernel
theorem dX3_walk_107 : decode cX3_walk 107 = .ok (.getfield 59, 3) := by decide +kernel
theorem dX3_walk_110 : decode cX3_walk 110 = .ok (.bipush 60, 2) := by decide +kernel
theorem dX3_walk_112 : decode cX3_walk 112 = .ok (.iload_n 3, 1) := by decide +kernel
theorem dX3_walk_113 : decode cX3_walk 113 = .ok (.imul, 1) := by decide +kernel
theorem dX3_walk_114 : decode cX3_walk 114 = .ok (.iload 5, 2) := by decide +kernel
theorem dX3_walk_116 : decode cX3_walk 116 = .ok (.iadd, 1) := by decide +kernel
theorem dX3_walk_117 : decode cX3_walk 117 = .ok (.iload 9, 2) := by decide +kernel
theorem dX3_walk_119 : decode cX3_walk 119 = .ok (.iadd, 1) := by decide +kernel
theorem dX3_walk_120 : decode cX3_walk 120 = .ok (.iaload, 1) := by decide +kernel
theorem dX3_walk_121 : decode cX3_walk 121 = .ok (.i2l, 1) := by decide +kernel
theorem dX3_walk_122 : decode cX3_walk 122 = .ok (.lconst 0, 1) := by decide +kernel
theorem dX3_walk_123 : decode cX3_walk 123 = .ok (.aload_n 0, 1) := by decide +kernel
theorem dX3_walk_124 : decode cX3_walk 124 = .ok (.getfield 81, 3) := by decide +kernel
theorem dX3_walk_127 : decode cX3_walk 127 = .ok (.i2l, 1) := by decide +kernel
theorem dX3_walk_128 : decode cX3_walk 128 = .ok (.invokestatic 77, 3) := by decide +kernel
theorem dX3_walk_131 : decode cX3_walk 131 = .ok (.ifCond .ne 10, 3) := by decide +kernel
theorem dX3_walk_134 : decode cX3_walk 134 = .ok (.aload_n 0, 1) := by decide +kernel
theorem dX3_walk_135 : decode cX3_walk 135 = .ok (.bipush (-2), 2) := by decide +kernel
theorem dX3_walk_137 : decode cX3_walk 137 = .ok (.invokevirtual 119, 3) := by decide +kernel
theorem dX3_walk_140 : decode cX3_walk 140 = .ok (.ireturn, 1) := by decide +kernel
theorem dX3_walk_141 : decode cX3_walk 141 = .ok (.iinc 9 1, 3) := by decide +kernel
theorem dX3_walk_144 : decode cX3_walk 144 = .ok (.goto (-45), 3) := by decide +kernel
theorem dX3_walk_147 : decode cX3_walk 147 = .ok (.aload_n 0, 1) := by decide +kernel
theorem dX3_walk_148 : decode cX3_walk 148 = .ok (.iload_n 1, 1) := by decide +kernel
theorem dX3_walk_149 : decode cX3_walk 149 = .ok (.iload_n 2, 1) := by decide +kernel
theorem dX3_walk_150 : decode cX3_walk 150 = .ok (.bipush 60, 2) := by decide +kernel
theorem dX3_walk_152 : decode cX3_walk 152 = .ok (.iload_n 3, 1) := by decide +kernel
theorem dX3_walk_153 : decode cX3_walk 153 = .ok (.imul, 1) := by decide +kernel
theorem dX3_walk_154 : decode cX3_walk 154 = .ok (.iload 5, 2) := by decide +kernel
theorem dX3_walk_156 : decode cX3_walk 156 = .ok (.iadd, 1) := by decide +kernel
theorem dX3_walk_157 : decode cX3_walk 157 = .ok (.iload 6, 2) := by decide +kernel
theorem dX3_walk_159 : decode cX3_walk 159 = .ok (.invokevirtual 168, 3) := by decide +kernel
theorem dX3_walk_162 : decode cX3_walk 162 = .ok (.iload 7, 2) := by decide +kernel
theorem dX3_walk_164 : decode cX3_walk 164 = .ok (.iconst 1, 1) := by decide +kernel
theorem dX3_walk_165 : decode cX3_walk 165 = .ok (.if_icmp .ne 12, 3) := by decide +kernel
theorem dX3_walk_168 : decode cX3_walk 168 = .ok (.aload_n 0, 1) := by decide +kernel
theorem dX3_walk_169 : decode cX3_walk 169 = .ok (.aload_n 0, 1) := by decide +kernel
theorem dX3_walk_170 : decode cX3_walk 170 = .ok (.getfield 148, 3) := by decide +kernel
theorem dX3_walk_173 : decode cX3_walk 173 = .ok (.invokevirtual 119, 3) := by decide +kernel
theorem dX3_walk_176 : decode cX3_walk 176 = .ok (.ireturn, 1) := by decide +kernel
theorem dX3_walk_177 : decode cX3_walk 177 = .ok (.aload_n 0, 1) := by decide +kernel
theorem dX3_walk_178 : decode cX3_walk 178 = .ok (.getfield 148, 3) := by decide +kernel
theorem dX3_walk_181 : decode cX3_walk 181 = .ok (.ifCond .lt 15, 3) := by decide +kernel
theorem dX3_walk_184 : decode cX3_walk 184 = .ok (.aload_n 0, 1) := by decide +kernel
theorem dX3_walk_185 : decode cX3_walk 185 = .ok (.bipush (-100), 2) := by decide +kernel
theorem dX3_walk_187 : decode cX3_walk 187 = .ok (.aload_n 0, 1) := by decide +kernel
theorem dX3_walk_188 : decode cX3_walk 188 = .ok (.getfield 148, 3) := by decide +kernel
theorem dX3_walk_191 : decode cX3_walk 191 = .ok (.isub, 1) := by decide +kernel
theorem dX3_walk_192 : decode cX3_walk 192 = .ok (.invokevirtual 119, 3) := by decide +kernel
theorem dX3_walk_195 : decode cX3_walk 195 = .ok (.ireturn, 1) := by decide +kernel
theorem dX3_walk_196 : decode cX3_walk 196 = .ok (.iload 7, 2) := by decide +kernel
theorem dX3_walk_198 : decode cX3_walk 198 = .ok (.tableswitch 60 0 3 #[30, 60, 39, 48], 30) := by decide +kernel
theorem dX3_walk_228 : decode cX3_walk 228 = .ok (.aload_n 0, 1) := by decide +kernel
theorem dX3_walk_229 : decode cX3_walk 229 = .ok (.aload_n 0, 1) := by decide +kernel
theorem dX3_walk_230 : decode cX3_walk 230 = .ok (.getfield 151, 3) := by decide +kernel
theorem dX3_walk_233 : decode cX3_walk 233 = .ok (.invokevirtual 119, 3) := by decide +kernel
theorem dX3_walk_236 : decode cX3_walk 236 = .ok (.ireturn, 1) := by decide +kernel
theorem dX3_walk_237 : decode cX3_walk 237 = .ok (.aload_n 0, 1) := by decide +kernel
theorem dX3_walk_238 : decode cX3_walk 238 = .ok (.aload_n 0, 1) := by decide +kernel
theorem dX3_walk_239 : decode cX3_walk 239 = .ok (.getfield 154, 3) := by decide +kernel
theorem dX3_walk_242 : decode cX3_walk 242 = .ok (.invokevirtual 119, 3) := by decide +kernel
theorem dX3_walk_245 : decode cX3_walk 245 = .ok (.ireturn, 1) := by decide +kernel
theorem dX3_walk_246 : decode cX3_walk 246 = .ok (.aload_n 0, 1) := by decide +kernel
theorem dX3_walk_247 : decode cX3_walk 247 = .ok (.iload_n 2, 1) := by decide +kernel
theorem dX3_walk_248 : decode cX3_walk 248 = .ok (.iload 6, 2) := by decide +kernel
theorem dX3_walk_250 : decode cX3_walk 250 = .ok (.iadd, 1) := by decide +kernel
theorem dX3_walk_251 : decode cX3_walk 251 = .ok (.bipush 12, 2) := by decide +kernel
theorem dX3_walk_253 : decode cX3_walk 253 = .ok (.irem, 1) := by decide +kernel
theorem dX3_walk_254 : decode cX3_walk 254 = .ok (.invokevirtual 119, 3) := by decide +kernel
theorem dX3_walk_257 : decode cX3_walk 257 = .ok (.ireturn, 1) := by decide +kernel
theorem dX3_walk_258 : decode cX3_walk 258 = .ok (.aload_n 0, 1) := by decide +kernel
theorem dX3_walk_259 : decode cX3_walk 259 = .ok (.aload_n 0, 1) := by decide +kernel
theorem dX3_walk_260 : decode cX3_walk 260 = .ok (.getfield 157, 3) := by decide +kernel
theorem dX3_walk_263 : decode cX3_walk 263 = .ok (.invokevirtual 119, 3) := by decide +kernel
theorem dX3_walk_266 : decode cX3_walk 266 = .ok (.ireturn, 1) := by decide +kernel
theorem dX3_setBehind_0 : decode cX3_setBehind 0 = .ok (.iload_n 1, 1) := by decide +kernel
theorem dX3_setBehind_1 : decode cX3_setBehind 1 = .ok (.istore_n 3, 1) := by decide +kernel
theorem dX3_setBehind_2 : decode cX3_setBehind 2 = .ok (.iconst 0, 1) := by decide +kernel
theorem dX3_setBehind_3 : decode cX3_setBehind 3 = .ok (.istore 4, 2) := by decide +kernel
theorem dX3_setBehind_5 : decode cX3_setBehind 5 = .ok (.iload 4, 2) := by decide +kernel
theorem dX3_setBehind_7 : decode cX3_setBehind 7 = .ok (.aload_n 0, 1) := by decide +kernel
theorem dX3_setBehind_8 : decode cX3_setBehind 8 = .ok (.getfield 81, 3) := by decide +kernel
theorem dX3_setBehind_11 : decode cX3_setBehind 11 = .ok (.if_icmp .ge 60, 3) := by decide +kernel
theorem dX3_setBehind_14 : decode cX3_setBehind 14 = .ok (.iload_n 1, 1) := by decide +kernel
theorem dX3_setBehind_15 : decode cX3_setBehind 15 = .ok (.aload_n 0, 1) := by decide +kernel
theorem dX3_setBehind_16 : decode cX3_setBehind 16 = .ok (.getfield 13, 3) := by decide +kernel
theorem dX3_setBehind_19 : decode cX3_setBehind 19 = .ok (.iload 4, 2) := by decide +kernel
theorem dX3_setBehind_21 : decode cX3_setBehind 21 = .ok (.iaload, 1) := by decide +kernel
theorem dX3_setBehind_22 : decode cX3_setBehind 22 = .ok (.invokestatic 172, 3) := by decide +kernel
theorem dX3_setBehind_25 : decode cX3_setBehind 25 = .ok (.ifCond .eq 20, 3) := by decide +kernel
theorem dX3_setBehind_28 : decode cX3_setBehind 28 = .ok (.aload_n 0, 1) := by decide +kernel
theorem dX3_setBehind_29 : decode cX3_setBehind 29 = .ok (.aload_n 0, 1) := by decide +kernel
theorem dX3_setBehind_30 : decode cX3_setBehind 30 = .ok (.getfield 13, 3) := by decide +kernel
theorem dX3_setBehind_33 : decode cX3_setBehind 33 = .ok (.iload 4, 2) := by decide +kernel
theorem dX3_setBehind_35 : decode cX3_setBehind 35 = .ok (.iaload, 1) := by decide +kernel
theorem dX3_setBehind_36 : decode cX3_setBehind 36 = .ok (.iload_n 2, 1) := by decide +kernel
theorem dX3_setBehind_37 : decode cX3_setBehind 37 = .ok (.iload 4, 2) := by decide +kernel
theorem dX3_setBehind_39 : decode cX3_setBehind 39 = .ok (.invokevirtual 160, 3) := by decide +kernel
theorem dX3_setBehind_42 : decode cX3_setBehind 42 = .ok (.goto 5, 3) := by decide +kernel
theorem dX3_setBehind_45 : decode cX3_setBehind 45 = .ok (.bipush (-9), 2) := by decide +kernel
theorem dX3_setBehind_47 : decode cX3_setBehind 47 = .ok (.istore 5, 2) := by decide +kernel
theorem dX3_setBehind_49 : decode cX3_setBehind 49 = .ok (.iload_n 3, 1) := by decide +kernel
theorem dX3_setBehind_50 : decode cX3_setBehind 50 = .ok (.iload 5, 2) := by decide +kernel
theorem dX3_setBehind_52 : decode cX3_setBehind 52 = .ok (.ifCond .lt 10, 3) := by decide +kernel
theorem dX3_setBehind_55 : decode cX3_setBehind 55 = .ok (.iconst 1, 1) := by decide +kernel
theorem dX3_setBehind_56 : decode cX3_setBehind 56 = .ok (.iload 5, 2) := by decide +kernel
theorem dX3_setBehind_58 : decode cX3_setBehind 58 = .ok (.ishl, 1) := by decide +kernel
theorem dX3_setBehind_59 : decode cX3_setBehind 59 = .ok (.goto 4, 3) := by decide +kernel
theorem dX3_setBehind_62 : decode cX3_setBehind 62 = .ok (.iconst 0, 1) := by decide +kernel
theorem dX3_setBehind_63 : decode cX3_setBehind 63 = .ok (.ior, 1) := by decide +kernel
theorem dX3_setBehind_64 : decode cX3_setBehind 64 = .ok (.istore_n 3, 1) := by decide +kernel
theorem dX3_setBehind_65 : decode cX3_setBehind 65 = .ok (.iinc 4 1, 3) := by decide +kernel
theorem dX3_setBehind_68 : decode cX3_setBehind 68 = .ok (.goto (-63), 3) := by decide +kernel
theorem dX3_setBehind_71 : decode cX3_setBehind 71 = .ok (.iload_n 3, 1) := by decide +kernel
theorem dX3_setBehind_72 : decode cX3_setBehind 72 = .ok (.ireturn, 1) := by decide +kernel
theorem dX3_soonestOf_0 : decode cX3_soonestOf 0 = .ok (.iconst 1, 1) := by decide +kernel
theorem dX3_soonestOf_1 : decode cX3_soonestOf 1 = .ok (.iload_n 1, 1) := by decide +kernel
theorem dX3_soonestOf_2 : decode cX3_soonestOf 2 = .ok (.ishl, 1) := by decide +kernel
theorem dX3_soonestOf_3 : decode cX3_soonestOf 3 = .ok (.istore 5, 2) := by decide +kernel
theorem dX3_soonestOf_5 : decode cX3_soonestOf 5 = .ok (.iconst 0, 1) := by decide +kernel
theorem dX3_soonestOf_6 : decode cX3_soonestOf 6 = .ok (.istore 6, 2) := by decide +kernel
theorem dX3_soonestOf_8 : decode cX3_soonestOf 8 = .ok (.iload 6, 2) := by decide +kernel
theorem dX3_soonestOf_10 : decode cX3_soonestOf 10 = .ok (.iload 4, 2) := by decide +kernel
theorem dX3_soonestOf_12 : decode cX3_soonestOf 12 = .ok (.if_icmp .gt 36, 3) := by decide +kernel
theorem dX3_soonestOf_15 : decode cX3_soonestOf 15 = .ok (.iload 5, 2) := by decide +kernel
theorem dX3_soonestOf_17 : decode cX3_soonestOf 17 = .ok (.iload_n 2, 1) := by decide +kernel
theorem dX3_soonestOf_18 : decode cX3_soonestOf 18 = .ok (.invokestatic 172, 3) := by decide +kernel
theorem dX3_soonestOf_21 : decode cX3_soonestOf 21 = .ok (.ifCond .eq 6, 3) := by decide +kernel
theorem dX3_soonestOf_24 : decode cX3_soonestOf 24 = .ok (.iload 6, 2) := by decide +kernel
theorem dX3_soonestOf_26 : decode cX3_soonestOf 26 = .ok (.ireturn, 1) := by decide +kernel
theorem dX3_soonestOf_27 : decode cX3_soonestOf 27 = .ok (.aload_n 0, 1) := by decide +kernel
theorem dX3_soonestOf_28 : decode cX3_soonestOf 28 = .ok (.iload 5, 2) := by decide +kernel
theorem dX3_soonestOf_30 : decode cX3_soonestOf 30 = .ok (.iload_n 3, 1) := by decide +kernel
theorem dX3_soonestOf_31 : decode cX3_soonestOf 31 = .ok (.iload 6, 2) := by decide +kernel
theorem dX3_soonestOf_33 : decode cX3_soonestOf 33 = .ok (.iadd, 1) := by decide +kernel
theorem dX3_soonestOf_34 : decode cX3_soonestOf 34 = .ok (.bipush 12, 2) := by decide +kernel
theorem dX3_soonestOf_36 : decode cX3_soonestOf 36 = .ok (.irem, 1) := by decide +kernel
theorem dX3_soonestOf_37 : decode cX3_soonestOf 37 = .ok (.invokevirtual 175, 3) := by decide +kernel
theorem dX3_soonestOf_40 : decode cX3_soonestOf 40 = .ok (.istore 5, 2) := by decide +kernel
theorem dX3_soonestOf_42 : decode cX3_soonestOf 42 = .ok (.iinc 6 1, 3) := by decide +kernel
theorem dX3_soonestOf_45 : decode cX3_soonestOf 45 = .ok (.goto (-37), 3) := by decide +kernel
theorem dX3_soonestOf_48 : decode cX3_soonestOf 48 = .ok (.bipush (-9), 2) := by decide +kernel
theorem dX3_soonestOf_50 : decode cX3_soonestOf 50 = .ok (.ireturn, 1) := by decide +kernel
theorem dX3_soonest_0 : decode cX3_soonest 0 = .ok (.aload_n 0, 1) := by decide +kernel
theorem dX3_soonest_1 : decode cX3_soonest 1 = .ok (.iload_n 1, 1) := by decide +kernel
theorem dX3_soonest_2 : decode cX3_soonest 2 = .ok (.invokevirtual 145, 3) := by decide +kernel
theorem dX3_soonest_5 : decode cX3_soonest 5 = .ok (.ifCond .ne 11, 3) := by decide +kernel
theorem dX3_soonest_8 : decode cX3_soonest 8 = .ok (.aload_n 0, 1) := by decide +kernel
theorem dX3_soonest_9 : decode cX3_soonest 9 = .ok (.iload_n 2, 1) := by decide +kernel
theorem dX3_soonest_10 : decode cX3_soonest 10 = .ok (.invokevirtual 145, 3) := by decide +kernel
theorem dX3_soonest_13 : decode cX3_soonest 13 = .ok (.ifCond .eq 5, 3) := by decide +kernel
theorem dX3_soonest_16 : decode cX3_soonest 16 = .ok (.iconst (-1), 1) := by decide +kernel
theorem dX3_soonest_17 : decode cX3_soonest 17 = .ok (.ireturn, 1) := by decide +kernel
theorem dX3_soonest_18 : decode cX3_soonest 18 = .ok (.iload_n 3, 1) := by decide +kernel
theorem dX3_soonest_19 : decode cX3_soonest 19 = .ok (.invokestatic 137, 3) := by decide +kernel
theorem dX3_soonest_22 : decode cX3_soonest 22 = .ok (.ifCond .ne 18, 3) := by decide +kernel
theorem dX3_soonest_25 : decode cX3_soonest 25 = .ok (.iload 4, 2) := by decide +kernel
theorem dX3_soonest_27 : decode cX3_soonest 27 = .ok (.i2l, 1) := by decide +kernel
theorem dX3_soonest_28 : decode cX3_soonest 28 = .ok (.ldc2_w 178, 3) := by decide +kernel
theorem dX3_soonest_31 : decode cX3_soonest 31 = .ok (.ldc2_w 180, 3) := by decide +kernel
theorem dX3_soonest_34 : decode cX3_soonest 34 = .ok (.invokestatic 77, 3) := by decide +kernel
theorem dX3_soonest_37 : decode cX3_soonest 37 = .ok (.ifCond .ne 6, 3) := by decide +kernel
theorem dX3_soonest_40 : decode cX3_soonest 40 = .ok (.bipush (-2), 2) := by decide +kernel
theorem dX3_soonest_42 : decode cX3_soonest 42 = .ok (.ireturn, 1) := by decide +kernel
theorem dX3_soonest_43 : decode cX3_soonest 43 = .ok (.aload_n 0, 1) := by decide +kernel
theorem dX3_soonest_44 : decode cX3_soonest 44 = .ok (.iload_n 1, 1) := by decide +kernel
theorem dX3_soonest_45 : decode cX3_soonest 45 = .ok (.iload_n 2, 1) := by decide +kernel
theorem dX3_soonest_46 : decode cX3_soonest 46 = .ok (.iload_n 3, 1) := by decide +kernel
theorem dX3_soonest_47 : decode cX3_soonest 47 = .ok (.bipush 24, 2) := by decide +kernel
theorem dX3_soonest_49 : decode cX3_soonest 49 = .ok (.invokevirtual 182, 3) := by decide +kernel
theorem dX3_soonest_52 : decode cX3_soonest 52 = .ok (.istore 5, 2) := by decide +kernel
theorem dX3_soonest_54 : decode cX3_soonest 54 = .ok (.iload 4, 2) := by decide +kernel
theorem dX3_soonest_56 : decode cX3_soonest 56 = .ok (.ifCond .lt 10, 3) := by decide +kernel
theorem dX3_soonest_59 : decode cX3_soonest 59 = .ok (.iload 4, 2) := by decide +kernel
theorem dX3_soonest_61 : decode cX3_soonest 61 = .ok (.iload 5, 2) := by decide +kernel
theorem dX3_soonest_63 : decode cX3_soonest 63 = .ok (.if_icmp .lt 16, 3) := by decide +kernel
theorem dX3_soonest_66 : decode cX3_soonest 66 = .ok (.iload 4, 2) := by decide +kernel
theorem dX3_soonest_68 : decode cX3_soonest 68 = .ok (.ifCond .ge 8, 3) := by decide +kernel
theorem dX3_soonest_71 : decode cX3_soonest 71 = .ok (.iload 5, 2) := by decide +kernel
theorem dX3_soonest_73 : decode cX3_soonest 73 = .ok (.goto 5, 3) := by decide +kernel
theorem dX3_soonest_76 : decode cX3_soonest 76 = .ok (.bipush (-9), 2) := by decide +kernel
theorem dX3_soonest_78 : decode cX3_soonest 78 = .ok (.ireturn, 1) := by decide +kernel
theorem dX3_soonest_79 : decode cX3_soonest 79 = .ok (.iload_n 1, 1) := by decide +kernel
theorem dX3_soonest_80 : decode cX3_soonest 80 = .ok (.istore 6, 2) := by decide +kernel
theorem dX3_soonest_82 : decode cX3_soonest 82 = .ok (.bipush (-9), 2) := by decide +kernel
theorem dX3_soonest_84 : decode cX3_soonest 84 = .ok (.istore 7, 2) := by decide +kernel
theorem dX3_soonest_86 : decode cX3_soonest 86 = .ok (.iconst 0, 1) := by decide +kernel
theorem dX3_soonest_87 : decode cX3_soonest 87 = .ok (.istore 8, 2) := by decide +kernel
theorem dX3_soonest_89 : decode cX3_soonest 89 = .ok (.iload 8, 2) := by decide +kernel
theorem dX3_soonest_91 : decode cX3_soonest 91 = .ok (.iload 4, 2) := by decide +kernel
theorem dX3_soonest_93 : decode cX3_soonest 93 = .ok (.if_icmp .gt 121, 3) := by decide +kernel
theorem dX3_soonest_96 : decode cX3_soonest 96 = .ok (.iload_n 3, 1) := by decide +kernel
theorem dX3_soonest_97 : decode cX3_soonest 97 = .ok (.iload 8, 2) := by decide +kernel
theorem dX3_soonest_99 : decode cX3_soonest 99 = .ok (.iadd, 1) := by decide +kernel
theorem dX3_soonest_100 : decode cX3_soonest 100 = .ok (.bipush 12, 2) := by decide +kernel
theorem dX3_soonest_102 : decode cX3_soonest 102 = .ok (.irem, 1) := by decide +kernel
theorem dX3_soonest_103 : decode cX3_soonest 103 = .ok (.istore 9, 2) := by decide +kernel
theorem dX3_soonest_105 : decode cX3_soonest 105 = .ok (.bipush (-9), 2) := by decide +kernel
theorem dX3_soonest_107 : decode cX3_soonest 107 = .ok (.istore 10, 2) := by decide +kernel
theorem dX3_soonest_109 : decode cX3_soonest 109 = .ok (.aload_n 0, 1) := by decide +kernel
theorem dX3_soonest_110 : decode cX3_soonest 110 = .ok (.getfield 81, 3) := by decide +kernel
theorem dX3_soonest_113 : decode cX3_soonest 113 = .ok (.istore 11, 2) := by decide +kernel
theorem dX3_soonest_115 : decode cX3_soonest 115 = .ok (.iload 11, 2) := by decide +kernel
theorem dX3_soonest_117 : decode cX3_soonest 117 = .ok (.ifCond .lt 87, 3) := by decide +kernel
theorem dX3_soonest_120 : decode cX3_soonest 120 = .ok (.aload_n 0, 1) := by decide +kernel
theorem dX3_soonest_121 : decode cX3_soonest 121 = .ok (.iload 6, 2) := by decide +kernel
theorem dX3_soonest_123 : decode cX3_soonest 123 = .ok (.iload 9, 2) := by decide +kernel
theorem dX3_soonest_125 : decode cX3_soonest 125 = .ok (.iload 11, 2) := by decide +kernel
theorem dX3_soonest_127 : decode cX3_soonest 127 = .ok (.invokevirtual 160, 3) := by decide +kernel
theorem dX3_soonest_130 : decode cX3_soonest 130 = .ok (.istore 12, 2) := by decide +kernel
theorem dX3_soonest_132 : decode cX3_soonest 132 = .ok (.iload 12, 2) := by decide +kernel
theorem dX3_soonest_134 : decode cX3_soonest 134 = .ok (.ifCond .lt 33, 3) := by decide +kernel
theorem dX3_soonest_137 : decode cX3_soonest 137 = .ok (.aload_n 0, 1) := by decide +kernel
theorem dX3_soonest_138 : decode cX3_soonest 138 = .ok (.iload 12, 2) := by decide +kernel
theorem dX3_soonest_140 : decode cX3_soonest 140 = .ok (.iload_n 2, 1) := by decide +kernel
theorem dX3_soonest_141 : decode cX3_soonest 141 = .ok (.iload 9, 2) := by decide +kernel
theorem dX3_soonest_143 : decode cX3_soonest 143 = .ok (.iconst 1, 1) := by decide +kernel
theorem dX3_soonest_144 : decode cX3_soonest 144 = .ok (.iadd, 1) := by decide +kernel
theorem dX3_soonest_145 : decode cX3_soonest 145 = .ok (.bipush 12, 2) := by decide +kernel
theorem dX3_soonest_147 : decode cX3_soonest 147 = .ok (.irem, 1) := by decide +kernel
theorem dX3_soonest_148 : decode cX3_soonest 148 = .ok (.bipush 24, 2) := by decide +kernel
theorem dX3_soonest_150 : decode cX3_soonest 150 = .ok (.invokevirtual 182, 3) := by decide +kernel
theorem dX3_soonest_153 : decode cX3_soonest 153 = .ok (.iload 5, 2) := by decide +kernel
theorem dX3_soonest_155 : decode cX3_soonest 155 = .ok (.iload 8, 2) := by decide +kernel
theorem dX3_soonest_157 : decode cX3_soonest 157 = .ok (.isub, 1) := by decide +kernel
theorem dX3_soonest_158 : decode cX3_soonest 158 = .ok (.iconst 1, 1) := by decide +kernel
theorem dX3_soonest_159 : decode cX3_soonest 159 = .ok (.isub, 1) := by decide +kernel
theorem dX3_soonest_160 : decode cX3_soonest 160 = .ok (.if_icmp .ne 7, 3) := by decide +kernel
theorem dX3_soonest_163 : decode cX3_soonest 163 = .ok (.iconst 1, 1) := by decide +kernel
theorem dX3_soonest_164 : decode cX3_soonest 164 = .ok (.goto 4, 3) := by decide +kernel
theorem dX3_soonest_167 : decode cX3_soonest 167 = .ok (.iconst 0, 1) := by decide +kernel
theorem dX3_soonest_168 : decode cX3_soonest 168 = .ok (.istore 13, 2) := by decide +kernel
theorem dX3_soonest_170 : decode cX3_soonest 170 = .ok (.iload 13, 2) := by decide +kernel
theorem dX3_soonest_172 : decode cX3_soonest 172 = .ok (.ifCond .eq 8, 3) := by decide +kernel
theorem dX3_soonest_175 : decode cX3_soonest 175 = .ok (.iload 11, 2) := by decide +kernel
theorem dX3_soonest_177 : decode cX3_soonest 177 = .ok (.goto 5, 3) := by decide +kernel
theorem dX3_soonest_180 : decode cX3_soonest 180 = .ok (.iload 7, 2) := by decide +kernel
theorem dX3_soonest_182 : decode cX3_soonest 182 = .ok (.istore 7, 2) := by decide +kernel
theorem dX3_soonest_184 : decode cX3_soonest 184 = .ok (.iload 13, 2) := by decide +kernel
theorem dX3_soonest_186 : decode cX3_soonest 186 = .ok (.ifCond .eq 8, 3) := by decide +kernel
theorem dX3_soonest_189 : decode cX3_soonest 189 = .ok (.iload 12, 2) := by decide +kernel
theorem dX3_soonest_191 : decode cX3_soonest 191 = .ok (.goto 5, 3) := by decide +kernel
theorem dX3_soonest_194 : decode cX3_soonest 194 = .ok (.iload 10, 2) := by decide +kernel
theorem dX3_soonest_196 : decode cX3_soonest 196 = .ok (.istore 10, 2) := by decide +kernel
theorem dX3_soonest_198 : decode cX3_soonest 198 = .ok (.iinc 11 (-1), 3) := by decide +kernel
theorem dX3_soonest_201 : decode cX3_soonest 201 = .ok (.goto (-86), 3) := by decide +kernel
theorem dX3_soonest_204 : decode cX3_soonest 204 = .ok (.iload 10, 2) := by decide +kernel
theorem dX3_soonest_206 : decode cX3_soonest 206 = .ok (.istore 6, 2) := by decide +kernel
theorem dX3_soonest_208 : decode cX3_soonest 208 = .ok (.iinc 8 1, 3) := by decide +kernel
theorem dX3_soonest_211 : decode cX3_soonest 211 = .ok (.goto (-122), 3) := by decide +kernel
theorem dX3_soonest_214 : decode cX3_soonest 214 = .ok (.iload 7, 2) := by decide +kernel
theorem dX3_soonest_216 : decode cX3_soonest 216 = .ok (.ireturn, 1) := by decide +kernel
theorem dX3_goHour_0 : decode cX3_goHour 0 = .ok (.iconst 0, 1) := by decide +kernel
theorem dX3_goHour_1 : decode cX3_goHour 1 = .ok (.istore_n 2, 1) := by decide +kernel
theorem dX3_goHour_2 : decode cX3_goHour 2 = .ok (.iload_n 2, 1) := by decide +kernel
theorem dX3_goHour_3 : decode cX3_goHour 3 = .ok (.bipush 64, 2) := by decide +kernel
theorem dX3_goHour_5 : decode cX3_goHour 5 = .ok (.if_icmp .ge 16, 3) := by decide +kernel
theorem dX3_goHour_8 : decode cX3_goHour 8 = .ok (.aload_n 0, 1) := by decide +kernel
theorem dX3_goHour_9 : decode cX3_goHour 9 = .ok (.getfield 41, 3) := by decide +kernel
theorem dX3_goHour_12 : decode cX3_goHour 12 = .ok (.iload_n 2, 1) := by decide +kernel
theorem dX3_goHour_13 : decode cX3_goHour 13 = .ok (.iconst 0, 1) := by decide +kernel
theorem dX3_goHour_14 : decode cX3_goHour 14 = .ok (.iastore, 1) := by decide +kernel
theorem dX3_goHour_15 : decode cX3_goHour 15 = .ok (.iinc 2 1, 3) := by decide +kernel
theorem dX3_goHour_18 : decode cX3_goHour 18 = .ok (.goto (-16), 3) := by decide +kernel
theorem dX3_goHour_21 : decode cX3_goHour 21 = .ok (.iconst 0, 1) := by decide +kernel
theorem dX3_goHour_22 : decode cX3_goHour 22 = .ok (.istore_n 2, 1) := by decide +kernel
theorem dX3_goHour_23 : decode cX3_goHour 23 = .ok (.iload_n 2, 1) := by decide +kernel
theorem dX3_goHour_24 : decode cX3_goHour 24 = .ok (.bipush 64, 2) := by decide +kernel
theorem dX3_goHour_26 : decode cX3_goHour 26 = .ok (.aload_n 0, 1) := by decide +kernel
theorem dX3_goHour_27 : decode cX3_goHour 27 = .ok (.getfield 74, 3) := by decide +kernel
theorem dX3_goHour_30 : decode cX3_goHour 30 = .ok (.imul, 1) := by decide +kernel
theorem dX3_goHour_31 : decode cX3_goHour 31 = .ok (.if_icmp .ge 59, 3) := by decide +kernel
theorem dX3_goHour_34 : decode cX3_goHour 34 = .ok (.iload_n 2, 1) := by decide +kernel
theorem dX3_goHour_35 : decode cX3_goHour 35 = .ok (.aload_n 0, 1) := by decide +kernel
theorem dX3_goHour_36 : decode cX3_goHour 36 = .ok (.getfield 74, 3) := by decide +kernel
theorem dX3_goHour_39 : decode cX3_goHour 39 = .ok (.idiv, 1) := by decide +kernel
theorem dX3_goHour_40 : decode cX3_goHour 40 = .ok (.istore_n 3, 1) := by decide +kernel
theorem dX3_goHour_41 : decode cX3_goHour 41 = .ok (.iload_n 2, 1) := by decide +kernel
theorem dX3_goHour_42 : decode cX3_goHour 42 = .ok (.aload_n 0, 1) := by decide +kernel
theorem dX3_goHour_43 : decode cX3_goHour 43 = .ok (.getfield 74, 3) := by decide +kernel
theorem dX3_goHour_46 : decode cX3_goHour 46 = .ok (.irem, 1) := by decide +kernel
theorem dX3_goHour_47 : decode cX3_goHour 47 = .ok (.istore 4, 2) := by decide +kernel
theorem dX3_goHour_49 : decode cX3_goHour 49 = .ok (.aload_n 0, 1) := by decide +kernel
theorem dX3_goHour_50 : decode cX3_goHour 50 = .ok (.getfield 38, 3) := by decide +kernel
theorem dX3_goHour_53 : decode cX3_goHour 53 = .ok (.iload_n 3, 1) := by decide +kernel
theorem dX3_goHour_54 : decode cX3_goHour 54 = .ok (.iaload, 1) := by decide +kernel
theorem dX3_goHour_55 : decode cX3_goHour 55 = .ok (.iload 4, 2) := by decide +kernel
theorem dX3_goHour_57 : decode cX3_goHour 57 = .ok (.invokestatic 172, 3) := by decide +kernel
theorem dX3_goHour_60 : decode cX3_goHour 60 = .ok (.ifCond .eq 24, 3) := by decide +kernel
theorem dX3_goHour_63 : decode cX3_goHour 63 = .ok (.aload_n 0, 1) := by decide +kernel
theorem dX3_goHour_64 : decode cX3_goHour 64 = .ok (.getfield 41, 3) := by decide +kernel
theorem dX3_goHour_67 : decode cX3_goHour 67 = .ok (.iload_n 3, 1) := by decide +kernel
theorem dX3_goHour_68 : decode cX3_goHour 68 = .ok (.dup2, 1) := by decide +kernel
theorem dX3_goHour_69 : decode cX3_goHour 69 = .ok (.iaload, 1) := by decide +kernel
theorem dX3_goHour_70 : decode cX3_goHour 70 = .ok (.iconst 1, 1) := by decide +kernel
theorem dX3_goHour_71 : decode cX3_goHour 71 = .ok (.iload 4, 2) := by decide +kernel
theorem dX3_goHour_73 : decode cX3_goHour 73 = .ok (.ishl, 1) := by decide +kernel
theorem dX3_goHour_74 : decode cX3_goHour 74 = .ok (.ior, 1) := by decide +kernel
theorem dX3_goHour_75 : decode cX3_goHour 75 = .ok (.iastore, 1) := by decide +kernel
theorem dX3_goHour_76 : decode cX3_goHour 76 = .ok (.aload_n 0, 1) := by decide +kernel
theorem dX3_goHour_77 : decode cX3_goHour 77 = .ok (.iload_n 3, 1) := by decide +kernel
theorem dX3_goHour_78 : decode cX3_goHour 78 = .ok (.iload 4, 2) := by decide +kernel
theorem dX3_goHour_80 : decode cX3_goHour 80 = .ok (.iload_n 1, 1) := by decide +kernel
theorem dX3_goHour_81 : decode cX3_goHour 81 = .ok (.invokevirtual 185, 3) := by decide +kernel
theorem dX3_goHour_84 : decode cX3_goHour 84 = .ok (.iinc 2 1, 3) := by decide +kernel
theorem dX3_goHour_87 : decode cX3_goHour 87 = .ok (.goto (-64), 3) := by decide +kernel
theorem dX3_goHour_90 : decode cX3_goHour 90 = .ok (.iconst 0, 1) := by decide +kernel
theorem dX3_goHour_91 : decode cX3_goHour 91 = .ok (.istore_n 2, 1) := by decide +kernel
theorem dX3_goHour_92 : decode cX3_goHour 92 = .ok (.iload_n 2, 1) := by decide +kernel
theorem dX3_goHour_93 : decode cX3_goHour 93 = .ok (.bipush 64, 2) := by decide +kernel
theorem dX3_goHour_95 : decode cX3_goHour 95 = .ok (.if_icmp .ge 21, 3) := by decide +kernel
theorem dX3_goHour_98 : decode cX3_goHour 98 = .ok (.aload_n 0, 1) := by decide +kernel
theorem dX3_goHour_99 : decode cX3_goHour 99 = .ok (.getfield 38, 3) := by decide +kernel
theorem dX3_goHour_102 : decode cX3_goHour 102 = .ok (.iload_n 2, 1) := by decide +kernel
theorem dX3_goHour_103 : decode cX3_goHour 103 = .ok (.aload_n 0, 1) := by decide +kernel
theorem dX3_goHour_104 : decode cX3_goHour 104 = .ok (.getfield 41, 3) := by decide +kernel
theorem dX3_goHour_107 : decode cX3_goHour 107 = .ok (.iload_n 2, 1) := by decide +kernel
theorem dX3_goHour_108 : decode cX3_goHour 108 = .ok (.iaload, 1) := by decide +kernel
theorem dX3_goHour_109 : decode cX3_goHour 109 = .ok (.iastore, 1) := by decide +kernel
theorem dX3_goHour_110 : decode cX3_goHour 110 = .ok (.iinc 2 1, 3) := by decide +kernel
theorem dX3_goHour_113 : decode cX3_goHour 113 = .ok (.goto (-21), 3) := by decide +kernel
theorem dX3_goHour_116 : decode cX3_goHour 116 = .ok (.return_, 1) := by decide +kernel
theorem dX3_goOn_0 : decode cX3_goOn 0 = .ok (.iconst 0, 1) := by decide +kernel
theorem dX3_goOn_1 : decode cX3_goOn 1 = .ok (.istore 4, 2) := by decide +kernel
theorem dX3_goOn_3 : decode cX3_goOn 3 = .ok (.iload 4, 2) := by decide +kernel
theorem dX3_goOn_5 : decode cX3_goOn 5 = .ok (.aload_n 0, 1) := by decide +kernel
theorem dX3_goOn_6 : decode cX3_goOn 6 = .ok (.getfield 81, 3) := by decide +kernel
theorem dX3_goOn_9 : decode cX3_goOn 9 = .ok (.if_icmp .ge 42, 3) := by decide +kernel
theorem dX3_goOn_12 : decode cX3_goOn 12 = .ok (.aload_n 0, 1) := by decide +kernel
theorem dX3_goOn_13 : decode cX3_goOn 13 = .ok (.iload_n 2, 1) := by decide +kernel
theorem dX3_goOn_14 : decode cX3_goOn 14 = .ok (.iload_n 3, 1) := by decide +kernel
theorem dX3_goOn_15 : decode cX3_goOn 15 = .ok (.iload 4, 2) := by decide +kernel
theorem dX3_goOn_17 : decode cX3_goOn 17 = .ok (.invokevirtual 160, 3) := by decide +kernel
theorem dX3_goOn_20 : decode cX3_goOn 20 = .ok (.istore 5, 2) := by decide +kernel
theorem dX3_goOn_22 : decode cX3_goOn 22 = .ok (.iload 5, 2) := by decide +kernel
theorem dX3_goOn_24 : decode cX3_goOn 24 = .ok (.ifCond .lt 21, 3) := by decide +kernel
theorem dX3_goOn_27 : decode cX3_goOn 27 = .ok (.aload_n 0, 1) := by decide +kernel
theorem dX3_goOn_28 : decode cX3_goOn 28 = .ok (.getfield 41, 3) := by decide +kernel
theorem dX3_goOn_31 : decode cX3_goOn 31 = .ok (.iload_n 1, 1) := by decide +kernel
theorem dX3_goOn_32 : decode cX3_goOn 32 = .ok (.iconst 1, 1) := by decide +kernel
theorem dX3_goOn_33 : decode cX3_goOn 33 = .ok (.iload 5, 2) := by decide +kernel
theorem dX3_goOn_35 : decode cX3_goOn 35 = .ok (.ishl, 1) := by decide +kernel
theorem dX3_goOn_36 : decode cX3_goOn 36 = .ok (.ior, 1) := by decide +kernel
theorem dX3_goOn_37 : decode cX3_goOn 37 = .ok (.dup2, 1) := by decide +kernel
theorem dX3_goOn_38 : decode cX3_goOn 38 = .ok (.iaload, 1) := by decide +kernel
theorem dX3_goOn_39 : decode cX3_goOn 39 = .ok (.iconst 1, 1) := by decide +kernel
theorem dX3_goOn_40 : decode cX3_goOn 40 = .ok (.iload 5, 2) := by decide +kernel
theorem dX3_goOn_42 : decode cX3_goOn 42 = .ok (.ishl, 1) := by decide +kernel
theorem dX3_goOn_43 : decode cX3_goOn 43 = .ok (.ior, 1) := by decide +kernel
theorem dX3_goOn_44 : decode cX3_goOn 44 = .ok (.iastore, 1) := by decide +kernel
theorem dX3_goOn_45 : decode cX3_goOn 45 = .ok (.iinc 4 1, 3) := by decide +kernel
theorem dX3_goOn_48 : decode cX3_goOn 48 = .ok (.goto (-45), 3) := by decide +kernel
theorem dX3_goOn_51 : decode cX3_goOn 51 = .ok (.return_, 1) := by decide +kernel
theorem dX3_haveBeen_0 : decode cX3_haveBeen 0 = .ok (.iconst 0, 1) := by decide +kernel
theorem dX3_haveBeen_1 : decode cX3_haveBeen 1 = .ok (.istore_n 2, 1) := by decide +kernel
theorem dX3_haveBeen_2 : decode cX3_haveBeen 2 = .ok (.iconst 0, 1) := by decide +kernel
theorem dX3_haveBeen_3 : decode cX3_haveBeen 3 = .ok (.istore_n 3, 1) := by decide +kernel
theorem dX3_haveBeen_4 : decode cX3_haveBeen 4 = .ok (.iload_n 3, 1) := by decide +kernel
theorem dX3_haveBeen_5 : decode cX3_haveBeen 5 = .ok (.bipush 64, 2) := by decide +kernel
theorem dX3_haveBeen_7 : decode cX3_haveBeen 7 = .ok (.if_icmp .ge 36, 3) := by decide +kernel
theorem dX3_haveBeen_10 : decode cX3_haveBeen 10 = .ok (.iload_n 2, 1) := by decide +kernel
theorem dX3_haveBeen_11 : decode cX3_haveBeen 11 = .ok (.ifCond .ne 20, 3) := by decide +kernel
theorem dX3_haveBeen_14 : decode cX3_haveBeen 14 = .ok (.aload_n 0, 1) := by decide +kernel
theorem dX3_haveBeen_15 : decode cX3_haveBeen 15 = .ok (.getfield 38, 3) := by decide +kernel
theorem dX3_haveBeen_18 : decode cX3_haveBeen 18 = .ok (.iload_n 3, 1) := by decide +kernel
theorem dX3_haveBeen_19 : decode cX3_haveBeen 19 = .ok (.iaload, 1) := by decide +kernel
theorem dX3_haveBeen_20 : decode cX3_haveBeen 20 = .ok (.ifCond .eq 15, 3) := by decide +kernel
theorem dX3_haveBeen_23 : decode cX3_haveBeen 23 = .ok (.iload_n 1, 1) := by decide +kernel
theorem dX3_haveBeen_24 : decode cX3_haveBeen 24 = .ok (.iload_n 3, 1) := by decide +kernel
theorem dX3_haveBeen_25 : decode cX3_haveBeen 25 = .ok (.iconst (-1), 1) := by decide +kernel
theorem dX3_haveBeen_26 : decode cX3_haveBeen 26 = .ok (.ixor, 1) := by decide +kernel
theorem dX3_haveBeen_27 : decode cX3_haveBeen 27 = .ok (.iand, 1) := by decide +kernel
theorem dX3_haveBeen_28 : decode cX3_haveBeen 28 = .ok (.ifCond .ne 7, 3) := by decide +kernel
theorem dX3_haveBeen_31 : decode cX3_haveBeen 31 = .ok (.iconst 1, 1) := by decide +kernel
theorem dX3_haveBeen_32 : decode cX3_haveBeen 32 = .ok (.goto 4, 3) := by decide +kernel
theorem dX3_haveBeen_35 : decode cX3_haveBeen 35 = .ok (.iconst 0, 1) := by decide +kernel
theorem dX3_haveBeen_36 : decode cX3_haveBeen 36 = .ok (.istore_n 2, 1) := by decide +kernel
theorem dX3_haveBeen_37 : decode cX3_haveBeen 37 = .ok (.iinc 3 1, 3) := by decide +kernel
theorem dX3_haveBeen_40 : decode cX3_haveBeen 40 = .ok (.goto (-36), 3) := by decide +kernel
theorem dX3_haveBeen_43 : decode cX3_haveBeen 43 = .ok (.iload_n 2, 1) := by decide +kernel
theorem dX3_haveBeen_44 : decode cX3_haveBeen 44 = .ok (.ireturn, 1) := by decide +kernel
theorem dX3_errands_0 : decode cX3_errands 0 = .ok (.aload_n 0, 1) := by decide +kernel
theorem dX3_errands_1 : decode cX3_errands 1 = .ok (.iload_n 1, 1) := by decide +kernel
theorem dX3_errands_2 : decode cX3_errands 2 = .ok (.invokevirtual 145, 3) := by decide +kernel
theorem dX3_errands_5 : decode cX3_errands 5 = .ok (.ifCond .eq 5, 3) := by decide +kernel
theorem dX3_errands_8 : decode cX3_errands 8 = .ok (.iconst (-1), 1) := by decide +kernel
theorem dX3_errands_9 : decode cX3_errands 9 = .ok (.ireturn, 1) := by decide +kernel
theorem dX3_errands_10 : decode cX3_errands 10 = .ok (.iload_n 2, 1) := by decide +kernel
theorem dX3_errands_11 : decode cX3_errands 11 = .ok (.i2l, 1) := by decide +kernel
theorem dX3_errands_12 : decode cX3_errands 12 = .ok (.lconst 0, 1) := by decide +kernel
theorem dX3_errands_13 : decode cX3_errands 13 = .ok (.iconst 1, 1) := by decide +kernel
theorem dX3_errands_14 : decode cX3_errands 14 = .ok (.aload_n 0, 1) := by decide +kernel
theorem dX3_errands_15 : decode cX3_errands 15 = .ok (.getfield 74, 3) := by decide +kernel
theorem dX3_errands_18 : decode cX3_errands 18 = .ok (.ishl, 1) := by decide +kernel
theorem dX3_errands_19 : decode cX3_errands 19 = .ok (.i2l, 1) := by decide +kernel
theorem dX3_errands_20 : decode cX3_errands 20 = .ok (.lconst 1, 1) := by decide +kernel
theorem dX3_errands_21 : decode cX3_errands 21 = .ok (.lsub, 1) := by decide +kernel
theorem dX3_errands_22 : decode cX3_errands 22 = .ok (.invokestatic 77, 3) := by decide +kernel
theorem dX3_errands_25 : decode cX3_errands 25 = .ok (.ifCond .eq 10, 3) := by decide +kernel
theorem dX3_errands_28 : decode cX3_errands 28 = .ok (.iload_n 3, 1) := by decide +kernel
theorem dX3_errands_29 : decode cX3_errands 29 = .ok (.invokestatic 137, 3) := by decide +kernel
theorem dX3_errands_32 : decode cX3_errands 32 = .ok (.ifCond .eq 6, 3) := by decide +kernel
theorem dX3_errands_35 : decode cX3_errands 35 = .ok (.bipush (-2), 2) := by decide +kernel
theorem dX3_errands_37 : decode cX3_errands 37 = .ok (.ireturn, 1) := by decide +kernel
theorem dX3_errands_38 : decode cX3_errands 38 = .ok (.iconst 0, 1) := by decide +kernel
theorem dX3_errands_39 : decode cX3_errands 39 = .ok (.istore 4, 2) := by decide +kernel
theorem dX3_errands_41 : decode cX3_errands 41 = .ok (.iload 4, 2) := by decide +kernel
theorem dX3_errands_43 : decode cX3_errands 43 = .ok (.bipush 64, 2) := by decide +kernel
theorem dX3_errands_45 : decode cX3_errands 45 = .ok (.if_icmp .ge 31, 3) := by decide +kernel
theorem dX3_errands_48 : decode cX3_errands 48 = .ok (.aload_n 0, 1) := by decide +kernel
theorem dX3_errands_49 : decode cX3_errands 49 = .ok (.getfield 38, 3) := by decide +kernel
theorem dX3_errands_52 : decode cX3_errands 52 = .ok (.iload 4, 2) := by decide +kernel
theorem dX3_errands_54 : decode cX3_errands 54 = .ok (.iload 4, 2) := by decide +kernel
theorem dX3_errands_56 : decode cX3_errands 56 = .ok (.iconst 1, 1) := by decide +kernel
theorem dX3_errands_57 : decode cX3_errands 57 = .ok (.iload_n 1, 1) := by decide +kernel
theorem dX3_errands_58 : decode cX3_errands 58 = .ok (.ishl, 1) := by decide +kernel
theorem dX3_errands_59 : decode cX3_errands 59 = .ok (.if_icmp .ne 9, 3) := by decide +kernel
theorem dX3_errands_62 : decode cX3_errands 62 = .ok (.iconst 1, 1) := by decide +kernel
theorem dX3_errands_63 : decode cX3_errands 63 = .ok (.iload_n 1, 1) := by decide +kernel
theorem dX3_errands_64 : decode cX3_errands 64 = .ok (.ishl, 1) := by decide +kernel
theorem dX3_errands_65 : decode cX3_errands 65 = .ok (.goto 4, 3) := by decide +kernel
theorem dX3_errands_68 : decode cX3_errands 68 = .ok (.iconst 0, 1) := by decide +kernel
theorem dX3_errands_69 : decode cX3_errands 69 = .ok (.iastore, 1) := by decide +kernel
theorem dX3_errands_70 : decode cX3_errands 70 = .ok (.iinc 4 1, 3) := by decide +kernel
theorem dX3_errands_73 : decode cX3_errands 73 = .ok (.goto (-32), 3) := by decide +kernel
theorem dX3_errands_76 : decode cX3_errands 76 = .ok (.iconst 0, 1) := by decide +kernel
theorem dX3_errands_77 : decode cX3_errands 77 = .ok (.istore 4, 2) := by decide +kernel
theorem dX3_errands_79 : decode cX3_errands 79 = .ok (.iload 4, 2) := by decide +kernel
theorem dX3_errands_81 : decode cX3_errands 81 = .ok (.bipush 24, 2) := by decide +kernel
theorem dX3_errands_83 : decode cX3_errands 83 = .ok (.if_icmp .gt 31, 3) := by decide +kernel
theorem dX3_errands_86 : decode cX3_errands 86 = .ok (.aload_n 0, 1) := by decide +kernel
theorem dX3_errands_87 : decode cX3_errands 87 = .ok (.iload_n 2, 1) := by decide +kernel
theorem dX3_errands_88 : decode cX3_errands 88 = .ok (.invokevirtual 189, 3) := by decide +kernel
theorem dX3_errands_91 : decode cX3_errands 91 = .ok (.ifCond .eq 6, 3) := by decide +kernel
theorem dX3_errands_94 : decode cX3_errands 94 = .ok (.iload 4, 2) := by decide +kernel
theorem dX3_errands_96 : decode cX3_errands 96 = .ok (.ireturn, 1) := by decide +kernel
theorem dX3_errands_97 : decode cX3_errands 97 = .ok (.aload_n 0, 1) := by decide +kernel
theorem dX3_errands_98 : decode cX3_errands 98 = .ok (.iload_n 3, 1) := by decide +kernel
theorem dX3_errands_99 : decode cX3_errands 99 = .ok (.iload 4, 2) := by decide +kernel
theorem dX3_errands_101 : decode cX3_errands 101 = .ok (.iadd, 1) := by decide +kernel
theorem dX3_errands_102 : decode cX3_errands 102 = .ok (.bipush 12, 2) := by decide +kernel
theorem dX3_errands_104 : decode cX3_errands 104 = .ok (.irem, 1) := by decide +kernel
theorem dX3_errands_105 : decode cX3_errands 105 = .ok (.invokevirtual 192, 3) := by decide +kernel
theorem dX3_errands_108 : decode cX3_errands 108 = .ok (.iinc 4 1, 3) := by decide +kernel
theorem dX3_errands_111 : decode cX3_errands 111 = .ok (.goto (-32), 3) := by decide +kernel
theorem dX3_errands_114 : decode cX3_errands 114 = .ok (.bipush (-9), 2) := by decide +kernel
theorem dX3_errands_116 : decode cX3_errands 116 = .ok (.ireturn, 1) := by decide +kernel
theorem dX3_meet_0 : decode cX3_meet 0 = .ok (.aload_n 0, 1) := by decide +kernel
theorem dX3_meet_1 : decode cX3_meet 1 = .ok (.iload_n 1, 1) := by decide +kernel
theorem dX3_meet_2 : decode cX3_meet 2 = .ok (.invokevirtual 145, 3) := by decide +kernel
theorem dX3_meet_5 : decode cX3_meet 5 = .ok (.ifCond .ne 11, 3) := by decide +kernel
theorem dX3_meet_8 : decode cX3_meet 8 = .ok (.aload_n 0, 1) := by decide +kernel
theorem dX3_meet_9 : decode cX3_meet 9 = .ok (.iload_n 2, 1) := by decide +kernel
theorem dX3_meet_10 : decode cX3_meet 10 = .ok (.invokevirtual 145, 3) := by decide +kernel
theorem dX3_meet_13 : decode cX3_meet 13 = .ok (.ifCond .eq 5, 3) := by decide +kernel
theorem dX3_meet_16 : decode cX3_meet 16 = .ok (.iconst (-1), 1) := by decide +kernel
theorem dX3_meet_17 : decode cX3_meet 17 = .ok (.ireturn, 1) := by decide +kernel
theorem dX3_meet_18 : decode cX3_meet 18 = .ok (.iload_n 3, 1) := by decide +kernel
theorem dX3_meet_19 : decode cX3_meet 19 = .ok (.invokestatic 137, 3) := by decide +kernel
theorem dX3_meet_22 : decode cX3_meet 22 = .ok (.ifCond .eq 6, 3) := by decide +kernel
theorem dX3_meet_25 : decode cX3_meet 25 = .ok (.bipush (-2), 2) := by decide +kernel
theorem dX3_meet_27 : decode cX3_meet 27 = .ok (.ireturn, 1) := by decide +kernel
theorem dX3_meet_28 : decode cX3_meet 28 = .ok (.iconst 1, 1) := by decide +kernel
theorem dX3_meet_29 : decode cX3_meet 29 = .ok (.iload_n 1, 1) := by decide +kernel
theorem dX3_meet_30 : decode cX3_meet 30 = .ok (.ishl, 1) := by decide +kernel
theorem dX3_meet_31 : decode cX3_meet 31 = .ok (.istore 4, 2) := by decide +kernel
theorem dX3_meet_33 : decode cX3_meet 33 = .ok (.iconst 1, 1) := by decide +kernel
theorem dX3_meet_34 : decode cX3_meet 34 = .ok (.iload_n 2, 1) := by decide +kernel
theorem dX3_meet_35 : decode cX3_meet 35 = .ok (.ishl, 1) := by decide +kernel
theorem dX3_meet_36 : decode cX3_meet 36 = .ok (.istore 5, 2) := by decide +kernel
theorem dX3_meet_38 : decode cX3_meet 38 = .ok (.iconst 0, 1) := by decide +kernel
theorem dX3_meet_39 : decode cX3_meet 39 = .ok (.istore 6, 2) := by decide +kernel
theorem dX3_meet_41 : decode cX3_meet 41 = .ok (.iload 6, 2) := by decide +kernel
theorem dX3_meet_43 : decode cX3_meet 43 = .ok (.bipush 24, 2) := by decide +kernel
theorem dX3_meet_45 : decode cX3_meet 45 = .ok (.if_icmp .gt 50, 3) := by decide +kernel
theorem dX3_meet_48 : decode cX3_meet 48 = .ok (.iload 4, 2) := by decide +kernel
theorem dX3_meet_50 : decode cX3_meet 50 = .ok (.iload 5, 2) := by decide +kernel
theorem dX3_meet_52 : decode cX3_meet 52 = .ok (.iand, 1) := by decide +kernel
theorem dX3_meet_53 : decode cX3_meet 53 = .ok (.ifCond .eq 6, 3) := by decide +kernel
theorem dX3_meet_56 : decode cX3_meet 56 = .ok (.iload 6, 2) := by decide +kernel
theorem dX3_meet_58 : decode cX3_meet 58 = .ok (.ireturn, 1) := by decide +kernel
theorem dX3_meet_59 : decode cX3_meet 59 = .ok (.aload_n 0, 1) := by decide +kernel
theorem dX3_meet_60 : decode cX3_meet 60 = .ok (.iload 4, 2) := by decide +kernel
theorem dX3_meet_62 : decode cX3_meet 62 = .ok (.iload_n 3, 1) := by decide +kernel
theorem dX3_meet_63 : decode cX3_meet 63 = .ok (.iload 6, 2) := by decide +kernel
theorem dX3_meet_65 : decode cX3_meet 65 = .ok (.iadd, 1) := by decide +kernel
theorem dX3_meet_66 : decode cX3_meet 66 = .ok (.bipush 12, 2) := by decide +kernel
theorem dX3_meet_68 : decode cX3_meet 68 = .ok (.irem, 1) := by decide +kernel
theorem dX3_meet_69 : decode cX3_meet 69 = .ok (.invokevirtual 175, 3) := by decide +kernel
theorem dX3_meet_72 : decode cX3_meet 72 = .ok (.istore 4, 2) := by decide +kernel
theorem dX3_meet_74 : decode cX3_meet 74 = .ok (.aload_n 0, 1) := by decide +kernel
theorem dX3_meet_75 : decode cX3_meet 75 = .ok (.iload 5, 2) := by decide +kernel
theorem dX3_meet_77 : decode cX3_meet 77 = .ok (.iload_n 3, 1) := by decide +kernel
theorem dX3_meet_78 : decode cX3_meet 78 = .ok (.iload 6, 2) := by decide +kernel
theorem dX3_meet_80 : decode cX3_meet 80 = .ok (.iadd, 1) := by decide +kernel
theorem dX3_meet_81 : decode cX3_meet 81 = .ok (.bipush 12, 2) := by decide +kernel
theorem dX3_meet_83 : decode cX3_meet 83 = .ok (.irem, 1) := by decide +kernel
theorem dX3_meet_84 : decode cX3_meet 84 = .ok (.invokevirtual 175, 3) := by decide +kernel
theorem dX3_meet_87 : decode cX3_meet 87 = .ok (.istore 5, 2) := by decide +kernel
theorem dX3_meet_89 : decode cX3_meet 89 = .ok (.iinc 6 1, 3) := by decide +kernel
theorem dX3_meet_92 : decode cX3_meet 92 = .ok (.goto (-51), 3) := by decide +kernel
theorem dX3_meet_95 : decode cX3_meet 95 = .ok (.bipush (-9), 2) := by decide +kernel
theorem dX3_meet_97 : decode cX3_meet 97 = .ok (.ireturn, 1) := by decide +kernel
theorem dX3_cut_0 : decode cX3_cut 0 = .ok (.aload_n 0, 1) := by decide +kernel
theorem dX3_cut_1 : decode cX3_cut 1 = .ok (.iload_n 1, 1) := by decide +kernel
theorem dX3_cut_2 : decode cX3_cut 2 = .ok (.invokevirtual 145, 3) := by decide +kernel
theorem dX3_cut_5 : decode cX3_cut 5 = .ok (.ifCond .ne 11, 3) := by decide +kernel
theorem dX3_cut_8 : decode cX3_cut 8 = .ok (.aload_n 0, 1) := by decide +kernel
theorem dX3_cut_9 : decode cX3_cut 9 = .ok (.iload_n 2, 1) := by decide +kernel
theorem dX3_cut_10 : decode cX3_cut 10 = .ok (.invokevirtual 145, 3) := by decide +kernel
theorem dX3_cut_13 : decode cX3_cut 13 = .ok (.ifCond .eq 5, 3) := by decide +kernel
theorem dX3_cut_16 : decode cX3_cut 16 = .ok (.iconst (-1), 1) := by decide +kernel
theorem dX3_cut_17 : decode cX3_cut 17 = .ok (.ireturn, 1) := by decide +kernel
theorem dX3_cut_18 : decode cX3_cut 18 = .ok (.iload_n 3, 1) := by decide +kernel
theorem dX3_cut_19 : decode cX3_cut 19 = .ok (.invokestatic 137, 3) := by decide +kernel
theorem dX3_cut_22 : decode cX3_cut 22 = .ok (.ifCond .eq 6, 3) := by decide +kernel
theorem dX3_cut_25 : decode cX3_cut 25 = .ok (.bipush (-2), 2) := by decide +kernel
theorem dX3_cut_27 : decode cX3_cut 27 = .ok (.ireturn, 1) := by decide +kernel
theorem dX3_cut_28 : decode cX3_cut 28 = .ok (.bipush (-9), 2) := by decide +kernel
theorem dX3_cut_30 : decode cX3_cut 30 = .ok (.istore 4, 2) := by decide +kernel
theorem dX3_cut_32 : decode cX3_cut 32 = .ok (.aload_n 0, 1) := by decide +kernel
theorem dX3_cut_33 : decode cX3_cut 33 = .ok (.iload_n 1, 1) := by decide +kernel
theorem dX3_cut_34 : decode cX3_cut 34 = .ok (.iload_n 2, 1) := by decide +kernel
theorem dX3_cut_35 : decode cX3_cut 35 = .ok (.iload_n 3, 1) := by decide +kernel
theorem dX3_cut_36 : decode cX3_cut 36 = .ok (.bipush 24, 2) := by decide +kernel
theorem dX3_cut_38 : decode cX3_cut 38 = .ok (.invokevirtual 182, 3) := by decide +kernel
theorem dX3_cut_41 : decode cX3_cut 41 = .ok (.ifCond .lt 49, 3) := by decide +kernel
theorem dX3_cut_44 : decode cX3_cut 44 = .ok (.aload_n 0, 1) := by decide +kernel
theorem dX3_cut_45 : decode cX3_cut 45 = .ok (.getfield 81, 3) := by decide +kernel
theorem dX3_cut_48 : decode cX3_cut 48 = .ok (.iconst 1, 1) := by decide +kernel
theorem dX3_cut_49 : decode cX3_cut 49 = .ok (.isub, 1) := by decide +kernel
theorem dX3_cut_50 : decode cX3_cut 50 = .ok (.istore 5, 2) := by decide +kernel
theorem dX3_cut_52 : decode cX3_cut 52 = .ok (.iload 5, 2) := by decide +kernel
theorem dX3_cut_54 : decode cX3_cut 54 = .ok (.ifCond .lt 36, 3) := by decide +kernel
theorem dX3_cut_57 : decode cX3_cut 57 = .ok (.aload_n 0, 1) := by decide +kernel
theorem dX3_cut_58 : decode cX3_cut 58 = .ok (.iload 5, 2) := by decide +kernel
theorem dX3_cut_60 : decode cX3_cut 60 = .ok (.putfield 22, 3) := by decide +kernel
theorem dX3_cut_63 : decode cX3_cut 63 = .ok (.aload_n 0, 1) := by decide +kernel
theorem dX3_cut_64 : decode cX3_cut 64 = .ok (.iload_n 1, 1) := by decide +kernel
theorem dX3_cut_65 : decode cX3_cut 65 = .ok (.iload_n 2, 1) := by decide +kernel
theorem dX3_cut_66 : decode cX3_cut 66 = .ok (.iload_n 3, 1) := by decide +kernel
theorem dX3_cut_67 : decode cX3_cut 67 = .ok (.bipush 24, 2) := by decide +kernel
theorem dX3_cut_69 : decode cX3_cut 69 = .ok (.invokevirtual 182, 3) := by decide +kernel
theorem dX3_cut_72 : decode cX3_cut 72 = .ok (.ifCond .ge 8, 3) := by decide +kernel
theorem dX3_cut_75 : decode cX3_cut 75 = .ok (.iload 5, 2) := by decide +kernel
theorem dX3_cut_77 : decode cX3_cut 77 = .ok (.goto 5, 3) := by decide +kernel
theorem dX3_cut_80 : decode cX3_cut 80 = .ok (.iload 4, 2) := by decide +kernel
theorem dX3_cut_82 : decode cX3_cut 82 = .ok (.istore 4, 2) := by decide +kernel
theorem dX3_cut_84 : decode cX3_cut 84 = .ok (.iinc 5 (-1), 3) := by decide +kernel
theorem dX3_cut_87 : decode cX3_cut 87 = .ok (.goto (-35), 3) := by decide +kernel
theorem dX3_cut_90 : decode cX3_cut 90 = .ok (.aload_n 0, 1) := by decide +kernel
theorem dX3_cut_91 : decode cX3_cut 91 = .ok (.bipush (-9), 2) := by decide +kernel
theorem dX3_cut_93 : decode cX3_cut 93 = .ok (.putfield 22, 3) := by decide +kernel
theorem dX3_cut_96 : decode cX3_cut 96 = .ok (.iload 4, 2) := by decide +kernel
theorem dX3_cut_98 : decode cX3_cut 98 = .ok (.ireturn, 1) := by decide +kernel
theorem dX3_reach_0 : decode cX3_reach 0 = .ok (.aload_n 0, 1) := by decide +kernel
theorem dX3_reach_1 : decode cX3_reach 1 = .ok (.getfield 74, 3) := by decide +kernel
theorem dX3_reach_4 : decode cX3_reach 4 = .ok (.ifCond .ne 6, 3) := by decide +kernel
theorem dX3_reach_7 : decode cX3_reach 7 = .ok (.bipush (-3), 2) := by decide +kernel
theorem dX3_reach_9 : decode cX3_reach 9 = .ok (.ireturn, 1) := by decide +kernel
theorem dX3_reach_10 : decode cX3_reach 10 = .ok (.iload_n 1, 1) := by decide +kernel
theorem dX3_reach_11 : decode cX3_reach 11 = .ok (.invokestatic 137, 3) := by decide +kernel
theorem dX3_reach_14 : decode cX3_reach 14 = .ok (.ifCond .eq 6, 3) := by decide +kernel
theorem dX3_reach_17 : decode cX3_reach 17 = .ok (.bipush (-2), 2) := by decide +kernel
theorem dX3_reach_19 : decode cX3_reach 19 = .ok (.ireturn, 1) := by decide +kernel
theorem dX3_reach_20 : decode cX3_reach 20 = .ok (.iconst 0, 1) := by decide +kernel
theorem dX3_reach_21 : decode cX3_reach 21 = .ok (.istore_n 2, 1) := by decide +kernel
theorem dX3_reach_22 : decode cX3_reach 22 = .ok (.iconst 0, 1) := by decide +kernel
theorem dX3_reach_23 : decode cX3_reach 23 = .ok (.istore_n 3, 1) := by decide +kernel
theorem dX3_reach_24 : decode cX3_reach 24 = .ok (.iload_n 3, 1) := by decide +kernel
theorem dX3_reach_25 : decode cX3_reach 25 = .ok (.aload_n 0, 1) := by decide +kernel
theorem dX3_reach_26 : decode cX3_reach 26 = .ok (.getfield 74, 3) := by decide +kernel
theorem dX3_reach_29 : decode cX3_reach 29 = .ok (.if_icmp .ge 70, 3) := by decide +kernel
theorem dX3_reach_32 : decode cX3_reach 32 = .ok (.iconst 1, 1) := by decide +kernel
theorem dX3_reach_33 : decode cX3_reach 33 = .ok (.istore 4, 2) := by decide +kernel
theorem dX3_reach_35 : decode cX3_reach 35 = .ok (.iconst 0, 1) := by decide +kernel
theorem dX3_reach_36 : decode cX3_reach 36 = .ok (.istore 5, 2) := by decide +kernel
theorem dX3_reach_38 : decode cX3_reach 38 = .ok (.iload 5, 2) := by decide +kernel
theorem dX3_reach_40 : decode cX3_reach 40 = .ok (.aload_n 0, 1) := by decide +kernel
theorem dX3_reach_41 : decode cX3_reach 41 = .ok (.getfield 74, 3) := by decide +kernel
theorem dX3_reach_44 : decode cX3_reach 44 = .ok (.if_icmp .ge 34, 3) := by decide +kernel
theorem dX3_reach_47 : decode cX3_reach 47 = .ok (.iload 4, 2) := by decide +kernel
theorem dX3_reach_49 : decode cX3_reach 49 = .ok (.ifCond .eq 20, 3) := by decide +kernel
theorem dX3_reach_52 : decode cX3_reach 52 = .ok (.aload_n 0, 1) := by decide +kernel
theorem dX3_reach_53 : decode cX3_reach 53 = .ok (.iload_n 3, 1) := by decide +kernel
theorem dX3_reach_54 : decode cX3_reach 54 = .ok (.iload 5, 2) := by decide +kernel
theorem dX3_reach_56 : decode cX3_reach 56 = .ok (.iload_n 1, 1) := by decide +kernel
theorem dX3_reach_57 : decode cX3_reach 57 = .ok (.bipush 24, 2) := by decide +kernel
theorem dX3_reach_59 : decode cX3_reach 59 = .ok (.invokevirtual 182, 3) := by decide +kernel
theorem dX3_reach_62 : decode cX3_reach 62 = .ok (.ifCond .lt 7, 3) := by decide +kernel
theorem dX3_reach_65 : decode cX3_reach 65 = .ok (.iconst 1, 1) := by decide +kernel
theorem dX3_reach_66 : decode cX3_reach 66 = .ok (.goto 4, 3) := by decide +kernel
theorem dX3_reach_69 : decode cX3_reach 69 = .ok (.iconst 0, 1) := by decide +kernel
theorem dX3_reach_70 : decode cX3_reach 70 = .ok (.istore 4, 2) := by decide +kernel
theorem dX3_reach_72 : decode cX3_reach 72 = .ok (.iinc 5 1, 3) := by decide +kernel
theorem dX3_reach_75 : decode cX3_reach 75 = .ok (.goto (-37), 3) := by decide +kernel
theorem dX3_reach_78 : decode cX3_reach 78 = .ok (.iload_n 2, 1) := by decide +kernel
theorem dX3_reach_79 : decode cX3_reach 79 = .ok (.iload 4, 2) := by decide +kernel
theorem dX3_reach_81 : decode cX3_reach 81 = .ok (.ifCond .eq 9, 3) := by decide +kernel
theorem dX3_reach_84 : decode cX3_reach 84 = .ok (.iconst 1, 1) := by decide +kernel
theorem dX3_reach_85 : decode cX3_reach 85 = .ok (.iload_n 3, 1) := by decide +kernel
theorem dX3_reach_86 : decode cX3_reach 86 = .ok (.ishl, 1) := by decide +kernel
theorem dX3_reach_87 : decode cX3_reach 87 = .ok (.goto 4, 3) := by decide +kernel
theorem dX3_reach_90 : decode cX3_reach 90 = .ok (.iconst 0, 1) := by decide +kernel
theorem dX3_reach_91 : decode cX3_reach 91 = .ok (.ior, 1) := by decide +kernel
theorem dX3_reach_92 : decode cX3_reach 92 = .ok (.istore_n 2, 1) := by decide +kernel
theorem dX3_reach_93 : decode cX3_reach 93 = .ok (.iinc 3 1, 3) := by decide +kernel
theorem dX3_reach_96 : decode cX3_reach 96 = .ok (.goto (-72), 3) := by decide +kernel
theorem dX3_reach_99 : decode cX3_reach 99 = .ok (.iload_n 2, 1) := by decide +kernel
theorem dX3_reach_100 : decode cX3_reach 100 = .ok (.ireturn, 1) := by decide +kernel
theorem dX3_reading_0 : decode cX3_reading 0 = .ok (.aload_n 0, 1) := by decide +kernel
theorem dX3_reading_1 : decode cX3_reading 1 = .ok (.iload_n 1, 1) := by decide +kernel
theorem dX3_reading_2 : decode cX3_reading 2 = .ok (.invokevirtual 134, 3) := by decide +kernel
theorem dX3_reading_5 : decode cX3_reading 5 = .ok (.ifCond .ne 17, 3) := by decide +kernel
theorem dX3_reading_8 : decode cX3_reading 8 = .ok (.iload_n 3, 1) := by decide +kernel
theorem dX3_reading_9 : decode cX3_reading 9 = .ok (.bipush (-9), 2) := by decide +kernel
theorem dX3_reading_11 : decode cX3_reading 11 = .ok (.if_icmp .eq 13, 3) := by decide +kernel
theorem dX3_reading_14 : decode cX3_reading 14 = .ok (.aload_n 0, 1) := by decide +kernel
theorem dX3_reading_15 : decode cX3_reading 15 = .ok (.iload_n 3, 1) := by decide +kernel
theorem dX3_reading_16 : decode cX3_reading 16 = .ok (.invokevirtual 145, 3) := by decide +kernel
theorem dX3_reading_19 : decode cX3_reading 19 = .ok (.ifCond .eq 5, 3) := by decide +kernel
theorem dX3_reading_22 : decode cX3_reading 22 = .ok (.iconst (-1), 1) := by decide +kernel
theorem dX3_reading_23 : decode cX3_reading 23 = .ok (.ireturn, 1) := by decide +kernel
theorem dX3_reading_24 : decode cX3_reading 24 = .ok (.iload_n 2, 1) := by decide +kernel
theorem dX3_reading_25 : decode cX3_reading 25 = .ok (.invokestatic 137, 3) := by decide +kernel
theorem dX3_reading_28 : decode cX3_reading 28 = .ok (.ifCond .eq 6, 3) := by decide +kernel
theorem dX3_reading_31 : decode cX3_reading 31 = .ok (.bipush (-2), 2) := by decide +kernel
theorem dX3_reading_33 : decode cX3_reading 33 = .ok (.ireturn, 1) := by decide +kernel
theorem dX3_reading_34 : decode cX3_reading 34 = .ok (.aload_n 0, 1) := by decide +kernel
theorem dX3_reading_35 : decode cX3_reading 35 = .ok (.getfield 131, 3) := by decide +kernel
theorem dX3_reading_38 : decode cX3_reading 38 = .ok (.bipush 8, 2) := by decide +kernel
theorem dX3_reading_40 : decode cX3_reading 40 = .ok (.if_icmp .ne 6, 3) := by decide +kernel
theorem dX3_reading_43 : decode cX3_reading 43 = .ok (.bipush (-4), 2) := by decide +kernel
theorem dX3_reading_45 : decode cX3_reading 45 = .ok (.ireturn, 1) := by decide +kernel
theorem dX3_reading_46 : decode cX3_reading 46 = .ok (.aload_n 0, 1) := by decide +kernel
theorem dX3_reading_47 : decode cX3_reading 47 = .ok (.getfield 44, 3) := by decide +kernel
theorem dX3_reading_50 : decode cX3_reading 50 = .ok (.aload_n 0, 1) := by decide +kernel
theorem dX3_reading_51 : decode cX3_reading 51 = .ok (.getfield 131, 3) := by decide +kernel
theorem dX3_reading_54 : decode cX3_reading 54 = .ok (.iload_n 1, 1) := by decide +kernel
theorem dX3_reading_55 : decode cX3_reading 55 = .ok (.iastore, 1) := by decide +kernel
theorem dX3_reading_56 : decode cX3_reading 56 = .ok (.aload_n 0, 1) := by decide +kernel
theorem dX3_reading_57 : decode cX3_reading 57 = .ok (.getfield 47, 3) := by decide +kernel
theorem dX3_reading_60 : decode cX3_reading 60 = .ok (.aload_n 0, 1) := by decide +kernel
theorem dX3_reading_61 : decode cX3_reading 61 = .ok (.getfield 131, 3) := by decide +kernel
theorem dX3_reading_64 : decode cX3_reading 64 = .ok (.iload_n 2, 1) := by decide +kernel
theorem dX3_reading_65 : decode cX3_reading 65 = .ok (.iastore, 1) := by decide +kernel
theorem dX3_reading_66 : decode cX3_reading 66 = .ok (.aload_n 0, 1) := by decide +kernel
theorem dX3_reading_67 : decode cX3_reading 67 = .ok (.getfield 50, 3) := by decide +kernel
theorem dX3_reading_70 : decode cX3_reading 70 = .ok (.aload_n 0, 1) := by decide +kernel
theorem dX3_reading_71 : decode cX3_reading 71 = .ok (.getfield 131, 3) := by decide +kernel
theorem dX3_reading_74 : decode cX3_reading 74 = .ok (.iload_n 3, 1) := by decide +kernel
theorem dX3_reading_75 : decode cX3_reading 75 = .ok (.iastore, 1) := by decide +kernel
theorem dX3_reading_76 : decode cX3_reading 76 = .ok (.aload_n 0, 1) := by decide +kernel
theorem dX3_reading_77 : decode cX3_reading 77 = .ok (.dup, 1) := by decide +kernel
theorem dX3_reading_78 : decode cX3_reading 78 = .ok (.getfield 131, 3) := by decide +kernel
theorem dX3_reading_81 : decode cX3_reading 81 = .ok (.iconst 1, 1) := by decide +kernel
theorem dX3_reading_82 : decode cX3_reading 82 = .ok (.iadd, 1) := by decide +kernel
theorem dX3_reading_83 : decode cX3_reading 83 = .ok (.putfield 131, 3) := by decide +kernel
theorem dX3_reading_86 : decode cX3_reading 86 = .ok (.aload_n 0, 1) := by decide +kernel
theorem dX3_reading_87 : decode cX3_reading 87 = .ok (.getfield 131, 3) := by decide +kernel
theorem dX3_reading_90 : decode cX3_reading 90 = .ok (.iconst 1, 1) := by decide +kernel
theorem dX3_reading_91 : decode cX3_reading 91 = .ok (.isub, 1) := by decide +kernel
theorem dX3_reading_92 : decode cX3_reading 92 = .ok (.ireturn, 1) := by decide +kernel
theorem dX3_back_0 : decode cX3_back 0 = .ok (.iload_n 1, 1) := by decide +kernel
theorem dX3_back_1 : decode cX3_back 1 = .ok (.i2l, 1) := by decide +kernel
theorem dX3_back_2 : decode cX3_back 2 = .ok (.lconst 0, 1) := by decide +kernel
theorem dX3_back_3 : decode cX3_back 3 = .ok (.aload_n 0, 1) := by decide +kernel
theorem dX3_back_4 : decode cX3_back 4 = .ok (.getfield 131, 3) := by decide +kernel
theorem dX3_back_7 : decode cX3_back 7 = .ok (.i2l, 1) := by decide +kernel
theorem dX3_back_8 : decode cX3_back 8 = .ok (.invokestatic 77, 3) := by decide +kernel
theorem dX3_back_11 : decode cX3_back 11 = .ok (.ifCond .ne 6, 3) := by decide +kernel
theorem dX3_back_14 : decode cX3_back 14 = .ok (.bipush (-2), 2) := by decide +kernel
theorem dX3_back_16 : decode cX3_back 16 = .ok (.ireturn, 1) := by decide +kernel
theorem dX3_back_17 : decode cX3_back 17 = .ok (.aload_n 0, 1) := by decide +kernel
theorem dX3_back_18 : decode cX3_back 18 = .ok (.dup, 1) := by decide +kernel
theorem dX3_back_19 : decode cX3_back 19 = .ok (.getfield 131, 3) := by decide +kernel
theorem dX3_back_22 : decode cX3_back 22 = .ok (.iload_n 1, 1) := by decide +kernel
theorem dX3_back_23 : decode cX3_back 23 = .ok (.isub, 1) := by decide +kernel
theorem dX3_back_24 : decode cX3_back 24 = .ok (.putfield 131, 3) := by decide +kernel
theorem dX3_back_27 : decode cX3_back 27 = .ok (.aload_n 0, 1) := by decide +kernel
theorem dX3_back_28 : decode cX3_back 28 = .ok (.getfield 131, 3) := by decide +kernel
theorem dX3_back_31 : decode cX3_back 31 = .ok (.ireturn, 1) := by decide +kernel
theorem dX3_areSo_0 : decode cX3_areSo 0 = .ok (.iconst 1, 1) := by decide +kernel
theorem dX3_areSo_1 : decode cX3_areSo 1 = .ok (.istore_n 1, 1) := by decide +kernel
theorem dX3_areSo_2 : decode cX3_areSo 2 = .ok (.iconst 0, 1) := by decide +kernel
theorem dX3_areSo_3 : decode cX3_areSo 3 = .ok (.istore_n 2, 1) := by decide +kernel
theorem dX3_areSo_4 : decode cX3_areSo 4 = .ok (.iload_n 2, 1) := by decide +kernel
theorem dX3_areSo_5 : decode cX3_areSo 5 = .ok (.aload_n 0, 1) := by decide +kernel
theorem dX3_areSo_6 : decode cX3_areSo 6 = .ok (.getfield 131, 3) := by decide +kernel
theorem dX3_areSo_9 : decode cX3_areSo 9 = .ok (.if_icmp .ge 44, 3) := by decide +kernel
theorem dX3_areSo_12 : decode cX3_areSo 12 = .ok (.iload_n 1, 1) := by decide +kernel
theorem dX3_areSo_13 : decode cX3_areSo 13 = .ok (.ifCond .eq 32, 3) := by decide +kernel
theorem dX3_areSo_16 : decode cX3_areSo 16 = .ok (.aload_n 0, 1) := by decide +kernel
theorem dX3_areSo_17 : decode cX3_areSo 17 = .ok (.aload_n 0, 1) := by decide +kernel
theorem dX3_areSo_18 : decode cX3_areSo 18 = .ok (.getfield 44, 3) := by decide +kernel
theorem dX3_areSo_21 : decode cX3_areSo 21 = .ok (.iload_n 2, 1) := by decide +kernel
theorem dX3_areSo_22 : decode cX3_areSo 22 = .ok (.iaload, 1) := by decide +kernel
theorem dX3_areSo_23 : decode cX3_areSo 23 = .ok (.aload_n 0, 1) := by decide +kernel
theorem dX3_areSo_24 : decode cX3_areSo 24 = .ok (.getfield 47, 3) := by decide +kernel
theorem dX3_areSo_27 : decode cX3_areSo 27 = .ok (.iload_n 2, 1) := by decide +kernel
theorem dX3_areSo_28 : decode cX3_areSo 28 = .ok (.iaload, 1) := by decide +kernel
theorem dX3_areSo_29 : decode cX3_areSo 29 = .ok (.invokevirtual 140, 3) := by decide +kernel
theorem dX3_areSo_32 : decode cX3_areSo 32 = .ok (.aload_n 0, 1) := by decide +kernel
theorem dX3_areSo_33 : decode cX3_areSo 33 = .ok (.getfield 50, 3) := by decide +kernel
theorem dX3_areSo_36 : decode cX3_areSo 36 = .ok (.iload_n 2, 1) := by decide +kernel
theorem dX3_areSo_37 : decode cX3_areSo 37 = .ok (.iaload, 1) := by decide +kernel
theorem dX3_areSo_38 : decode cX3_areSo 38 = .ok (.if_icmp .ne 7, 3) := by decide +kernel
theorem dX3_areSo_41 : decode cX3_areSo 41 = .ok (.iconst 1, 1) := by decide +kernel
theorem dX3_areSo_42 : decode cX3_areSo 42 = .ok (.goto 4, 3) := by decide +kernel
theorem dX3_areSo_45 : decode cX3_areSo 45 = .ok (.iconst 0, 1) := by decide +kernel
theorem dX3_areSo_46 : decode cX3_areSo 46 = .ok (.istore_n 1, 1) := by decide +kernel
theorem dX3_areSo_47 : decode cX3_areSo 47 = .ok (.iinc 2 1, 3) := by decide +kernel
theorem dX3_areSo_50 : decode cX3_areSo 50 = .ok (.goto (-46), 3) := by decide +kernel
theorem dX3_areSo_53 : decode cX3_areSo 53 = .ok (.iload_n 1, 1) := by decide +kernel
theorem dX3_areSo_54 : decode cX3_areSo 54 = .ok (.ireturn, 1) := by decide +kernel
theorem dX3_steps_0 : decode cX3_steps 0 = .ok (.aload_n 0, 1) := by decide +kernel
theorem dX3_steps_1 : decode cX3_steps 1 = .ok (.iload_n 1, 1) := by decide +kernel
theorem dX3_steps_2 : decode cX3_steps 2 = .ok (.invokevirtual 134, 3) := by decide +kernel
theorem dX3_steps_5 : decode cX3_steps 5 = .ok (.ifCond .eq 5, 3) := by decide +kernel
theorem dX3_steps_8 : decode cX3_steps 8 = .ok (.iconst (-1), 1) := by decide +kernel
theorem dX3_steps_9 : decode cX3_steps 9 = .ok (.ireturn, 1) := by decide +kernel
theorem dX3_steps_10 : decode cX3_steps 10 = .ok (.aload_n 0, 1) := by decide +kernel
theorem dX3_steps_11 : decode cX3_steps 11 = .ok (.getfield 19, 3) := by decide +kernel
theorem dX3_steps_14 : decode cX3_steps 14 = .ok (.iload_n 1, 1) := by decide +kernel
theorem dX3_steps_15 : decode cX3_steps 15 = .ok (.iaload, 1) := by decide +kernel
theorem dX3_steps_16 : decode cX3_steps 16 = .ok (.istore_n 2, 1) := by decide +kernel
theorem dX3_steps_17 : decode cX3_steps 17 = .ok (.iconst 0, 1) := by decide +kernel
theorem dX3_steps_18 : decode cX3_steps 18 = .ok (.istore_n 3, 1) := by decide +kernel
theorem dX3_steps_19 : decode cX3_steps 19 = .ok (.iconst 0, 1) := by decide +kernel
theorem dX3_steps_20 : decode cX3_steps 20 = .ok (.istore 4, 2) := by decide +kernel
theorem dX3_steps_22 : decode cX3_steps 22 = .ok (.iload 4, 2) := by decide +kernel
theorem dX3_steps_24 : decode cX3_steps 24 = .ok (.bipush 6, 2) := by decide +kernel
theorem dX3_steps_26 : decode cX3_steps 26 = .ok (.if_icmp .ge 35, 3) := by decide +kernel
theorem dX3_steps_29 : decode cX3_steps 29 = .ok (.aload_n 0, 1) := by decide +kernel
theorem dX3_steps_30 : decode cX3_steps 30 = .ok (.getfield 19, 3) := by decide +kernel
theorem dX3_steps_33 : decode cX3_steps 33 = .ok (.iload_n 1, 1) := by decide +kernel
theorem dX3_steps_34 : decode cX3_steps 34 = .ok (.iload 4, 2) := by decide +kernel
theorem dX3_steps_36 : decode cX3_steps 36 = .ok (.iastore, 1) := by decide +kernel
theorem dX3_steps_37 : decode cX3_steps 37 = .ok (.iload_n 3, 1) := by decide +kernel
theorem dX3_steps_38 : decode cX3_steps 38 = .ok (.aload_n 0, 1) := by decide +kernel
theorem dX3_steps_39 : decode cX3_steps 39 = .ok (.invokevirtual 196, 3) := by decide +kernel
theorem dX3_steps_42 : decode cX3_steps 42 = .ok (.ifCond .eq 10, 3) := by decide +kernel
theorem dX3_steps_45 : decode cX3_steps 45 = .ok (.iconst 1, 1) := by decide +kernel
theorem dX3_steps_46 : decode cX3_steps 46 = .ok (.iload 4, 2) := by decide +kernel
theorem dX3_steps_48 : decode cX3_steps 48 = .ok (.ishl, 1) := by decide +kernel
theorem dX3_steps_49 : decode cX3_steps 49 = .ok (.goto 4, 3) := by decide +kernel
theorem dX3_steps_52 : decode cX3_steps 52 = .ok (.iconst 0, 1) := by decide +kernel
theorem dX3_steps_53 : decode cX3_steps 53 = .ok (.ior, 1) := by decide +kernel
theorem dX3_steps_54 : decode cX3_steps 54 = .ok (.istore_n 3, 1) := by decide +kernel
theorem dX3_steps_55 : decode cX3_steps 55 = .ok (.iinc 4 1, 3) := by decide +kernel
theorem dX3_steps_58 : decode cX3_steps 58 = .ok (.goto (-36), 3) := by decide +kernel
theorem dX3_steps_61 : decode cX3_steps 61 = .ok (.aload_n 0, 1) := by decide +kernel
theorem dX3_steps_62 : decode cX3_steps 62 = .ok (.getfield 19, 3) := by decide +kernel
theorem dX3_steps_65 : decode cX3_steps 65 = .ok (.iload_n 1, 1) := by decide +kernel
theorem dX3_steps_66 : decode cX3_steps 66 = .ok (.iload_n 2, 1) := by decide +kernel
theorem dX3_steps_67 : decode cX3_steps 67 = .ok (.iastore, 1) := by decide +kernel
theorem dX3_steps_68 : decode cX3_steps 68 = .ok (.iload_n 3, 1) := by decide +kernel
theorem dX3_steps_69 : decode cX3_steps 69 = .ok (.ireturn, 1) := by decide +kernel
theorem dX3_targets_0 : decode cX3_targets 0 = .ok (.aload_n 0, 1) := by decide +kernel
theorem dX3_targets_1 : decode cX3_targets 1 = .ok (.iload_n 1, 1) := by decide +kernel
theorem dX3_targets_2 : decode cX3_targets 2 = .ok (.invokevirtual 134, 3) := by decide +kernel
theorem dX3_targets_5 : decode cX3_targets 5 = .ok (.ifCond .eq 5, 3) := by decide +kernel
theorem dX3_targets_8 : decode cX3_targets 8 = .ok (.iconst (-1), 1) := by decide +kernel
theorem dX3_targets_9 : decode cX3_targets 9 = .ok (.ireturn, 1) := by decide +kernel
theorem dX3_targets_10 : decode cX3_targets 10 = .ok (.aload_n 0, 1) := by decide +kernel
theorem dX3_targets_11 : decode cX3_targets 11 = .ok (.getfield 16, 3) := by decide +kernel
theorem dX3_targets_14 : decode cX3_targets 14 = .ok (.iload_n 1, 1) := by decide +kernel
theorem dX3_targets_15 : decode cX3_targets 15 = .ok (.iaload, 1) := by decide +kernel
theorem dX3_targets_16 : decode cX3_targets 16 = .ok (.istore_n 2, 1) := by decide +kernel
theorem dX3_targets_17 : decode cX3_targets 17 = .ok (.iconst 0, 1) := by decide +kernel
theorem dX3_targets_18 : decode cX3_targets 18 = .ok (.istore_n 3, 1) := by decide +kernel
theorem dX3_targets_19 : decode cX3_targets 19 = .ok (.iconst 0, 1) := by decide +kernel
theorem dX3_targets_20 : decode cX3_targets 20 = .ok (.istore 4, 2) := by decide +kernel
theorem dX3_targets_22 : decode cX3_targets 22 = .ok (.iload 4, 2) := by decide +kernel
theorem dX3_targets_24 : decode cX3_targets 24 = .ok (.aload_n 0, 1) := by decide +kernel
theorem dX3_targets_25 : decode cX3_targets 25 = .ok (.getfield 74, 3) := by decide +kernel
theorem dX3_targets_28 : decode cX3_targets 28 = .ok (.if_icmp .ge 35, 3) := by decide +kernel
theorem dX3_targets_31 : decode cX3_targets 31 = .ok (.aload_n 0, 1) := by decide +kernel
theorem dX3_targets_32 : decode cX3_targets 32 = .ok (.getfield 16, 3) := by decide +kernel
theorem dX3_targets_35 : decode cX3_targets 35 = .ok (.iload_n 1, 1) := by decide +kernel
theorem dX3_targets_36 : decode cX3_targets 36 = .ok (.iload 4, 2) := by decide +kernel
theorem dX3_targets_38 : decode cX3_targets 38 = .ok (.iastore, 1) := by decide +kernel
theorem dX3_targets_39 : decode cX3_targets 39 = .ok (.iload_n 3, 1) := by decide +kernel
theorem dX3_targets_40 : decode cX3_targets 40 = .ok (.aload_n 0, 1) := by decide +kernel
theorem dX3_targets_41 : decode cX3_targets 41 = .ok (.invokevirtual 196, 3) := by decide +kernel
theorem dX3_targets_44 : decode cX3_targets 44 = .ok (.ifCond .eq 10, 3) := by decide +kernel
theorem dX3_targets_47 : decode cX3_targets 47 = .ok (.iconst 1, 1) := by decide +kernel
theorem dX3_targets_48 : decode cX3_targets 48 = .ok (.iload 4, 2) := by decide +kernel
theorem dX3_targets_50 : decode cX3_targets 50 = .ok (.ishl, 1) := by decide +kernel
theorem dX3_targets_51 : decode cX3_targets 51 = .ok (.goto 4, 3) := by decide +kernel
theorem dX3_targets_54 : decode cX3_targets 54 = .ok (.iconst 0, 1) := by decide +kernel
theorem dX3_targets_55 : decode cX3_targets 55 = .ok (.ior, 1) := by decide +kernel
theorem dX3_targets_56 : decode cX3_targets 56 = .ok (.istore_n 3, 1) := by decide +kernel
theorem dX3_targets_57 : decode cX3_targets 57 = .ok (.iinc 4 1, 3) := by decide +kernel
theorem dX3_targets_60 : decode cX3_targets 60 = .ok (.goto (-38), 3) := by decide +kernel
theorem dX3_targets_63 : decode cX3_targets 63 = .ok (.aload_n 0, 1) := by decide +kernel
theorem dX3_targets_64 : decode cX3_targets 64 = .ok (.getfield 16, 3) := by decide +kernel
theorem dX3_targets_67 : decode cX3_targets 67 = .ok (.iload_n 1, 1) := by decide +kernel
theorem dX3_targets_68 : decode cX3_targets 68 = .ok (.iload_n 2, 1) := by decide +kernel
theorem dX3_targets_69 : decode cX3_targets 69 = .ok (.iastore, 1) := by decide +kernel
theorem dX3_targets_70 : decode cX3_targets 70 = .ok (.iload_n 3, 1) := by decide +kernel
theorem dX3_targets_71 : decode cX3_targets 71 = .ok (.ireturn, 1) := by decide +kernel
theorem dX3_kinds_0 : decode cX3_kinds 0 = .ok (.aload_n 0, 1) := by decide +kernel
theorem dX3_kinds_1 : decode cX3_kinds 1 = .ok (.iload_n 1, 1) := by decide +kernel
theorem dX3_kinds_2 : decode cX3_kinds 2 = .ok (.invokevirtual 134, 3) := by decide +kernel
theorem dX3_kinds_5 : decode cX3_kinds 5 = .ok (.ifCond .eq 5, 3) := by decide +kernel
theorem dX3_kinds_8 : decode cX3_kinds 8 = .ok (.iconst (-1), 1) := by decide +kernel
theorem dX3_kinds_9 : decode cX3_kinds 9 = .ok (.ireturn, 1) := by decide +kernel
theorem dX3_kinds_10 : decode cX3_kinds 10 = .ok (.aload_n 0, 1) := by decide +kernel
theorem dX3_kinds_11 : decode cX3_kinds 11 = .ok (.getfield 7, 3) := by decide +kernel
theorem dX3_kinds_14 : decode cX3_kinds 14 = .ok (.iload_n 1, 1) := by decide +kernel
theorem dX3_kinds_15 : decode cX3_kinds 15 = .ok (.iaload, 1) := by decide +kernel
theorem dX3_kinds_16 : decode cX3_kinds 16 = .ok (.istore_n 2, 1) := by decide +kernel
theorem dX3_kinds_17 : decode cX3_kinds 17 = .ok (.iconst 0, 1) := by decide +kernel
theorem dX3_kinds_18 : decode cX3_kinds 18 = .ok (.istore_n 3, 1) := by decide +kernel
theorem dX3_kinds_19 : decode cX3_kinds 19 = .ok (.iconst 0, 1) := by decide +kernel
theorem dX3_kinds_20 : decode cX3_kinds 20 = .ok (.istore 4, 2) := by decide +kernel
theorem dX3_kinds_22 : decode cX3_kinds 22 = .ok (.iload 4, 2) := by decide +kernel
theorem dX3_kinds_24 : decode cX3_kinds 24 = .ok (.iconst 3, 1) := by decide +kernel
theorem dX3_kinds_25 : decode cX3_kinds 25 = .ok (.if_icmp .ge 35, 3) := by decide +kernel
theorem dX3_kinds_28 : decode cX3_kinds 28 = .ok (.aload_n 0, 1) := by decide +kernel
theorem dX3_kinds_29 : decode cX3_kinds 29 = .ok (.getfield 7, 3) := by decide +kernel
theorem dX3_kinds_32 : decode cX3_kinds 32 = .ok (.iload_n 1, 1) := by decide +kernel
theorem dX3_kinds_33 : decode cX3_kinds 33 = .ok (.iload 4, 2) := by decide +kernel
theorem dX3_kinds_35 : decode cX3_kinds 35 = .ok (.iastore, 1) := by decide +kernel
theorem dX3_kinds_36 : decode cX3_kinds 36 = .ok (.iload_n 3, 1) := by decide +kernel
theorem dX3_kinds_37 : decode cX3_kinds 37 = .ok (.aload_n 0, 1) := by decide +kernel
theorem dX3_kinds_38 : decode cX3_kinds 38 = .ok (.invokevirtual 196, 3) := by decide +kernel
theorem dX3_kinds_41 : decode cX3_kinds 41 = .ok (.ifCond .eq 10, 3) := by decide +kernel
theorem dX3_kinds_44 : decode cX3_kinds 44 = .ok (.iconst 1, 1) := by decide +kernel
theorem dX3_kinds_45 : decode cX3_kinds 45 = .ok (.iload 4, 2) := by decide +kernel
theorem dX3_kinds_47 : decode cX3_kinds 47 = .ok (.ishl, 1) := by decide +kernel
theorem dX3_kinds_48 : decode cX3_kinds 48 = .ok (.goto 4, 3) := by decide +kernel
theorem dX3_kinds_51 : decode cX3_kinds 51 = .ok (.iconst 0, 1) := by decide +kernel
theorem dX3_kinds_52 : decode cX3_kinds 52 = .ok (.ior, 1) := by decide +kernel
theorem dX3_kinds_53 : decode cX3_kinds 53 = .ok (.istore_n 3, 1) := by decide +kernel
theorem dX3_kinds_54 : decode cX3_kinds 54 = .ok (.iinc 4 1, 3) := by decide +kernel
theorem dX3_kinds_57 : decode cX3_kinds 57 = .ok (.goto (-35), 3) := by decide +kernel
theorem dX3_kinds_60 : decode cX3_kinds 60 = .ok (.aload_n 0, 1) := by decide +kernel
theorem dX3_kinds_61 : decode cX3_kinds 61 = .ok (.getfield 7, 3) := by decide +kernel
theorem dX3_kinds_64 : decode cX3_kinds 64 = .ok (.iload_n 1, 1) := by decide +kernel
theorem dX3_kinds_65 : decode cX3_kinds 65 = .ok (.iload_n 2, 1) := by decide +kernel
theorem dX3_kinds_66 : decode cX3_kinds 66 = .ok (.iastore, 1) := by decide +kernel
theorem dX3_kinds_67 : decode cX3_kinds 67 = .ok (.iload_n 3, 1) := by decide +kernel
theorem dX3_kinds_68 : decode cX3_kinds 68 = .ok (.ireturn, 1) := by decide +kernel
theorem dX3_odds_0 : decode cX3_odds 0 = .ok (.aload_n 0, 1) := by decide +kernel
theorem dX3_odds_1 : decode cX3_odds 1 = .ok (.iload_n 1, 1) := by decide +kernel
theorem dX3_odds_2 : decode cX3_odds 2 = .ok (.invokevirtual 145, 3) := by decide +kernel
theorem dX3_odds_5 : decode cX3_odds 5 = .ok (.ifCond .ne 34, 3) := by decide +kernel
theorem dX3_odds_8 : decode cX3_odds 8 = .ok (.aload_n 0, 1) := by decide +kernel
theorem dX3_odds_9 : decode cX3_odds 9 = .ok (.iload_n 2, 1) := by decide +kernel
theorem dX3_odds_10 : decode cX3_odds 10 = .ok (.invokevirtual 145, 3) := by decide +kernel
theorem dX3_odds_13 : decode cX3_odds 13 = .ok (.ifCond .ne 26, 3) := by decide +kernel
theorem dX3_odds_16 : decode cX3_odds 16 = .ok (.iload_n 3, 1) := by decide +kernel
theorem dX3_odds_17 : decode cX3_odds 17 = .ok (.i2l, 1) := by decide +kernel
theorem dX3_odds_18 : decode cX3_odds 18 = .ok (.lconst 0, 1) := by decide +kernel
theorem dX3_odds_19 : decode cX3_odds 19 = .ok (.ldc2_w 200, 3) := by decide +kernel
theorem dX3_odds_22 : decode cX3_odds 22 = .ok (.invokestatic 77, 3) := by decide +kernel
theorem dX3_odds_25 : decode cX3_odds 25 = .ok (.ifCond .eq 14, 3) := by decide +kernel
theorem dX3_odds_28 : decode cX3_odds 28 = .ok (.iload 4, 2) := by decide +kernel
theorem dX3_odds_30 : decode cX3_odds 30 = .ok (.i2l, 1) := by decide +kernel
theorem dX3_odds_31 : decode cX3_odds 31 = .ok (.lconst 0, 1) := by decide +kernel
theorem dX3_odds_32 : decode cX3_odds 32 = .ok (.lconst 1, 1) := by decide +kernel
theorem dX3_odds_33 : decode cX3_odds 33 = .ok (.invokestatic 77, 3) := by decide +kernel
theorem dX3_odds_36 : decode cX3_odds 36 = .ok (.ifCond .ne 7, 3) := by decide +kernel
theorem dX3_odds_39 : decode cX3_odds 39 = .ok (.invokestatic 70, 3) := by decide +kernel
theorem dX3_odds_42 : decode cX3_odds 42 = .ok (.lreturn, 1) := by decide +kernel
theorem dX3_odds_43 : decode cX3_odds 43 = .ok (.lconst 0, 1) := by decide +kernel
theorem dX3_odds_44 : decode cX3_odds 44 = .ok (.lstore 5, 2) := by decide +kernel
theorem dX3_odds_46 : decode cX3_odds 46 = .ok (.iconst 0, 1) := by decide +kernel
theorem dX3_odds_47 : decode cX3_odds 47 = .ok (.istore 7, 2) := by decide +kernel
theorem dX3_odds_49 : decode cX3_odds 49 = .ok (.iload 7, 2) := by decide +kernel
theorem dX3_odds_51 : decode cX3_odds 51 = .ok (.bipush 12, 2) := by decide +kernel
theorem dX3_odds_53 : decode cX3_odds 53 = .ok (.if_icmp .ge 31, 3) := by decide +kernel
theorem dX3_odds_56 : decode cX3_odds 56 = .ok (.lload 5, 2) := by decide +kernel
theorem dX3_odds_58 : decode cX3_odds 58 = .ok (.aload_n 0, 1) := by decide +kernel
theorem dX3_odds_59 : decode cX3_odds 59 = .ok (.iload_n 1, 1) := by decide +kernel
theorem dX3_odds_60 : decode cX3_odds 60 = .ok (.iload_n 2, 1) := by decide +kernel
theorem dX3_odds_61 : decode cX3_odds 61 = .ok (.iload 7, 2) := by decide +kernel
theorem dX3_odds_63 : decode cX3_odds 63 = .ok (.iload_n 3, 1) := by decide +kernel
theorem dX3_odds_64 : decode cX3_odds 64 = .ok (.invokevirtual 182, 3) := by decide +kernel
theorem dX3_odds_67 : decode cX3_odds 67 = .ok (.ifCond .lt 7, 3) := by decide +kernel
theorem dX3_odds_70 : decode cX3_odds 70 = .ok (.lconst 1, 1) := by decide +kernel
theorem dX3_odds_71 : decode cX3_odds 71 = .ok (.goto 4, 3) := by decide +kernel
theorem dX3_odds_74 : decode cX3_odds 74 = .ok (.lconst 0, 1) := by decide +kernel
theorem dX3_odds_75 : decode cX3_odds 75 = .ok (.ladd, 1) := by decide +kernel
theorem dX3_odds_76 : decode cX3_odds 76 = .ok (.lstore 5, 2) := by decide +kernel
theorem dX3_odds_78 : decode cX3_odds 78 = .ok (.iinc 7 1, 3) := by decide +kernel
theorem dX3_odds_81 : decode cX3_odds 81 = .ok (.goto (-32), 3) := by decide +kernel
theorem dX3_odds_84 : decode cX3_odds 84 = .ok (.lload 5, 2) := by decide +kernel
theorem dX3_odds_86 : decode cX3_odds 86 = .ok (.ldc2_w 202, 3) := by decide +kernel
theorem dX3_odds_89 : decode cX3_odds 89 = .ok (.iload 4, 2) := by decide +kernel
theorem dX3_odds_91 : decode cX3_odds 91 = .ok (.invokestatic 204, 3) := by decide +kernel
theorem dX3_odds_94 : decode cX3_odds 94 = .ok (.lreturn, 1) := by decide +kernel
theorem dX3_noSheet_0 : decode cX3_noSheet 0 = .ok (.iload_n 0, 1) := by decide +kernel
theorem dX3_noSheet_1 : decode cX3_noSheet 1 = .ok (.i2l, 1) := by decide +kernel
theorem dX3_noSheet_2 : decode cX3_noSheet 2 = .ok (.lconst 0, 1) := by decide +kernel
theorem dX3_noSheet_3 : decode cX3_noSheet 3 = .ok (.ldc2_w 208, 3) := by decide +kernel
theorem dX3_noSheet_6 : decode cX3_noSheet 6 = .ok (.invokestatic 77, 3) := by decide +kernel
theorem dX3_noSheet_9 : decode cX3_noSheet 9 = .ok (.ifCond .ne 7, 3) := by decide +kernel
theorem dX3_noSheet_12 : decode cX3_noSheet 12 = .ok (.iconst 1, 1) := by decide +kernel
theorem dX3_noSheet_13 : decode cX3_noSheet 13 = .ok (.goto 4, 3) := by decide +kernel
theorem dX3_noSheet_16 : decode cX3_noSheet 16 = .ok (.iconst 0, 1) := by decide +kernel
theorem dX3_noSheet_17 : decode cX3_noSheet 17 = .ok (.ireturn, 1) := by decide +kernel
theorem dX3_sheet_0 : decode cX3_sheet 0 = .ok (.iload_n 1, 1) := by decide +kernel
theorem dX3_sheet_1 : decode cX3_sheet 1 = .ok (.invokestatic 115, 3) := by decide +kernel
theorem dX3_sheet_4 : decode cX3_sheet 4 = .ok (.ifCond .eq 9, 3) := by decide +kernel
theorem dX3_sheet_7 : decode cX3_sheet 7 = .ok (.aload_n 0, 1) := by decide +kernel
theorem dX3_sheet_8 : decode cX3_sheet 8 = .ok (.iconst (-1), 1) := by decide +kernel
theorem dX3_sheet_9 : decode cX3_sheet 9 = .ok (.invokevirtual 119, 3) := by decide +kernel
theorem dX3_sheet_12 : decode cX3_sheet 12 = .ok (.ireturn, 1) := by decide +kernel
theorem dX3_sheet_13 : decode cX3_sheet 13 = .ok (.iload_n 2, 1) := by decide +kernel
theorem dX3_sheet_14 : decode cX3_sheet 14 = .ok (.i2l, 1) := by decide +kernel
theorem dX3_sheet_15 : decode cX3_sheet 15 = .ok (.lconst 0, 1) := by decide +kernel
theorem dX3_sheet_16 : decode cX3_sheet 16 = .ok (.ldc2_w 122, 3) := by decide +kernel
theorem dX3_sheet_19 : decode cX3_sheet 19 = .ok (.invokestatic 77, 3) := by decide +kernel
theorem dX3_sheet_22 : decode cX3_sheet 22 = .ok (.ifCond .eq 9, 3) := by decide +kernel
theorem dX3_sheet_25 : decode cX3_sheet 25 = .ok (.iload_n 3, 1) := by decide +kernel
theorem dX3_sheet_26 : decode cX3_sheet 26 = .ok (.bipush 60, 2) := by decide +kernel
theorem dX3_sheet_28 : decode cX3_sheet 28 = .ok (.if_icmp .le 10, 3) := by decide +kernel
theorem dX3_sheet_31 : decode cX3_sheet 31 = .ok (.aload_n 0, 1) := by decide +kernel
theorem dX3_sheet_32 : decode cX3_sheet 32 = .ok (.bipush (-2), 2) := by decide +kernel
theorem dX3_sheet_34 : decode cX3_sheet 34 = .ok (.invokevirtual 119, 3) := by decide +kernel
theorem dX3_sheet_37 : decode cX3_sheet 37 = .ok (.ireturn, 1) := by decide +kernel
theorem dX3_sheet_38 : decode cX3_sheet 38 = .ok (.iload_n 3, 1) := by decide +kernel
theorem dX3_sheet_39 : decode cX3_sheet 39 = .ok (.ifCond .ge 9, 3) := by decide +kernel
theorem dX3_sheet_42 : decode cX3_sheet 42 = .ok (.aload_n 0, 1) := by decide +kernel
theorem dX3_sheet_43 : decode cX3_sheet 43 = .ok (.iconst 4, 1) := by decide +kernel
theorem dX3_sheet_44 : decode cX3_sheet 44 = .ok (.invokevirtual 107, 3) := by decide +kernel
theorem dX3_sheet_47 : decode cX3_sheet 47 = .ok (.ireturn, 1) := by decide +kernel
theorem dX3_sheet_48 : decode cX3_sheet 48 = .ok (.aload_n 0, 1) := by decide +kernel
theorem dX3_sheet_49 : decode cX3_sheet 49 = .ok (.getfield 53, 3) := by decide +kernel
theorem dX3_sheet_52 : decode cX3_sheet 52 = .ok (.iload_n 1, 1) := by decide +kernel
theorem dX3_sheet_53 : decode cX3_sheet 53 = .ok (.iload_n 3, 1) := by decide +kernel
theorem dX3_sheet_54 : decode cX3_sheet 54 = .ok (.iastore, 1) := by decide +kernel
theorem dX3_sheet_55 : decode cX3_sheet 55 = .ok (.aload_n 0, 1) := by decide +kernel
theorem dX3_sheet_56 : decode cX3_sheet 56 = .ok (.getfield 56, 3) := by decide +kernel
theorem dX3_sheet_59 : decode cX3_sheet 59 = .ok (.iload_n 1, 1) := by decide +kernel
theorem dX3_sheet_60 : decode cX3_sheet 60 = .ok (.iload_n 2, 1) := by decide +kernel
theorem dX3_sheet_61 : decode cX3_sheet 61 = .ok (.iastore, 1) := by decide +kernel
theorem dX3_sheet_62 : decode cX3_sheet 62 = .ok (.iconst 0, 1) := by decide +kernel
theorem dX3_sheet_63 : decode cX3_sheet 63 = .ok (.istore 4, 2) := by decide +kernel
theorem dX3_sheet_65 : decode cX3_sheet 65 = .ok (.iload 4, 2) := by decide +kernel
theorem dX3_sheet_67 : decode cX3_sheet 67 = .ok (.iload_n 3, 1) := by decide +kernel
theorem dX3_sheet_68 : decode cX3_sheet 68 = .ok (.if_icmp .ge 22, 3) := by decide +kernel
theorem dX3_sheet_71 : decode cX3_sheet 71 = .ok (.aload_n 0, 1) := by decide +kernel
theorem dX3_sheet_72 : decode cX3_sheet 72 = .ok (.getfield 59, 3) := by decide +kernel
theorem dX3_sheet_75 : decode cX3_sheet 75 = .ok (.bipush 60, 2) := by decide +kernel
theorem dX3_sheet_77 : decode cX3_sheet 77 = .ok (.iload_n 1, 1) := by decide +kernel
theorem dX3_sheet_78 : decode cX3_sheet 78 = .ok (.imul, 1) := by decide +kernel
theorem dX3_sheet_79 : decode cX3_sheet 79 = .ok (.iload 4, 2) := by decide +kernel
theorem dX3_sheet_81 : decode cX3_sheet 81 = .ok (.iadd, 1) := by decide +kernel
theorem dX3_sheet_82 : decode cX3_sheet 82 = .ok (.iconst 0, 1) := by decide +kernel
theorem dX3_sheet_83 : decode cX3_sheet 83 = .ok (.iastore, 1) := by decide +kernel
theorem dX3_sheet_84 : decode cX3_sheet 84 = .ok (.iinc 4 1, 3) := by decide +kernel
theorem dX3_sheet_87 : decode cX3_sheet 87 = .ok (.goto (-22), 3) := by decide +kernel
theorem dX3_sheet_90 : decode cX3_sheet 90 = .ok (.aload_n 0, 1) := by decide +kernel
theorem dX3_sheet_91 : decode cX3_sheet 91 = .ok (.iconst 1, 1) := by decide +kernel
theorem dX3_sheet_92 : decode cX3_sheet 92 = .ok (.invokevirtual 119, 3) := by decide +kernel
theorem dX3_sheet_95 : decode cX3_sheet 95 = .ok (.ireturn, 1) := by decide +kernel
theorem dX3_lose_0 : decode cX3_lose 0 = .ok (.iload_n 1, 1) := by decide +kernel
theorem dX3_lose_1 : decode cX3_lose 1 = .ok (.invokestatic 115, 3) := by decide +kernel
theorem dX3_lose_4 : decode cX3_lose 4 = .ok (.ifCond .eq 5, 3) := by decide +kernel
theorem dX3_lose_7 : decode cX3_lose 7 = .ok (.iconst (-1), 1) := by decide +kernel
theorem dX3_lose_8 : decode cX3_lose 8 = .ok (.ireturn, 1) := by decide +kernel
theorem dX3_lose_9 : decode cX3_lose 9 = .ok (.aload_n 0, 1) := by decide +kernel
theorem dX3_lose_10 : decode cX3_lose 10 = .ok (.getfield 53, 3) := by decide +kernel
theorem dX3_lose_13 : decode cX3_lose 13 = .ok (.iload_n 1, 1) := by decide +kernel
theorem dX3_lose_14 : decode cX3_lose 14 = .ok (.iaload, 1) := by decide +kernel
theorem dX3_lose_15 : decode cX3_lose 15 = .ok (.ifCond .ge 7, 3) := by decide +kernel
theorem dX3_lose_18 : decode cX3_lose 18 = .ok (.iconst 0, 1) := by decide +kernel
theorem dX3_lose_19 : decode cX3_lose 19 = .ok (.goto 4, 3) := by decide +kernel
theorem dX3_lose_22 : decode cX3_lose 22 = .ok (.iconst 1, 1) := by decide +kernel
theorem dX3_lose_23 : decode cX3_lose 23 = .ok (.istore_n 2, 1) := by decide +kernel
theorem dX3_lose_24 : decode cX3_lose 24 = .ok (.aload_n 0, 1) := by decide +kernel
theorem dX3_lose_25 : decode cX3_lose 25 = .ok (.getfield 53, 3) := by decide +kernel
theorem dX3_lose_28 : decode cX3_lose 28 = .ok (.iload_n 1, 1) := by decide +kernel
theorem dX3_lose_29 : decode cX3_lose 29 = .ok (.iconst (-1), 1) := by decide +kernel
theorem dX3_lose_30 : decode cX3_lose 30 = .ok (.iastore, 1) := by decide +kernel
theorem dX3_lose_31 : decode cX3_lose 31 = .ok (.iload_n 2, 1) := by decide +kernel
theorem dX3_lose_32 : decode cX3_lose 32 = .ok (.ireturn, 1) := by decide +kernel
theorem dX3_noCell_0 : decode cX3_noCell 0 = .ok (.aload_n 0, 1) := by decide +kernel
theorem dX3_noCell_1 : decode cX3_noCell 1 = .ok (.getfield 53, 3) := by decide +kernel
theorem dX3_noCell_4 : decode cX3_noCell 4 = .ok (.iload_n 1, 1) := by decide +kernel
theorem dX3_noCell_5 : decode cX3_noCell 5 = .ok (.iaload, 1) := by decide +kernel
theorem dX3_noCell_6 : decode cX3_noCell 6 = .ok (.ifCond .ge 7, 3) := by decide +kernel
theorem dX3_noCell_9 : decode cX3_noCell 9 = .ok (.iconst 1, 1) := by decide +kernel
theorem dX3_noCell_10 : decode cX3_noCell 10 = .ok (.goto 26, 3) := by decide +kernel
theorem dX3_noCell_13 : decode cX3_noCell 13 = .ok (.iload_n 2, 1) := by decide +kernel
theorem dX3_noCell_14 : decode cX3_noCell 14 = .ok (.i2l, 1) := by decide +kernel
theorem dX3_noCell_15 : decode cX3_noCell 15 = .ok (.lconst 0, 1) := by decide +kernel
theorem dX3_noCell_16 : decode cX3_noCell 16 = .ok (.aload_n 0, 1) := by decide +kernel
theorem dX3_noCell_17 : decode cX3_noCell 17 = .ok (.getfield 53, 3) := by decide +kernel
theorem dX3_noCell_20 : decode cX3_noCell 20 = .ok (.iload_n 1, 1) := by decide +kernel
theorem dX3_noCell_21 : decode cX3_noCell 21 = .ok (.iaload, 1) := by decide +kernel
theorem dX3_noCell_22 : decode cX3_noCell 22 = .ok (.i2l, 1) := by decide +kernel
theorem dX3_noCell_23 : decode cX3_noCell 23 = .ok (.lconst 1, 1) := by decide +kernel
theorem dX3_noCell_24 : decode cX3_noCell 24 = .ok (.lsub, 1) := by decide +kernel
theorem dX3_noCell_25 : decode cX3_noCell 25 = .ok (.invokestatic 77, 3) := by decide +kernel
theorem dX3_noCell_28 : decode cX3_noCell 28 = .ok (.ifCond .eq 7, 3) := by decide +kernel
theorem dX3_noCell_31 : decode cX3_noCell 31 = .ok (.iconst 0, 1) := by decide +kernel
theorem dX3_noCell_32 : decode cX3_noCell 32 = .ok (.goto 4, 3) := by decide +kernel
theorem dX3_noCell_35 : decode cX3_noCell 35 = .ok (.iconst 3, 1) := by decide +kernel
theorem dX3_noCell_36 : decode cX3_noCell 36 = .ok (.ireturn, 1) := by decide +kernel
theorem dX3_put_0 : decode cX3_put 0 = .ok (.iload_n 1, 1) := by decide +kernel
theorem dX3_put_1 : decode cX3_put 1 = .ok (.invokestatic 115, 3) := by decide +kernel
theorem dX3_put_4 : decode cX3_put 4 = .ok (.ifCond .eq 9, 3) := by decide +kernel
theorem dX3_put_7 : decode cX3_put 7 = .ok (.aload_n 0, 1) := by decide +kernel
theorem dX3_put_8 : decode cX3_put 8 = .ok (.iconst (-1), 1) := by decide +kernel
theorem dX3_put_9 : decode cX3_put 9 = .ok (.invokevirtual 119, 3) := by decide +kernel
theorem dX3_put_12 : decode cX3_put 12 = .ok (.ireturn, 1) := by decide +kernel
theorem dX3_put_13 : decode cX3_put 13 = .ok (.aload_n 0, 1) := by decide +kernel
theorem dX3_put_14 : decode cX3_put 14 = .ok (.iload_n 1, 1) := by decide +kernel
theorem dX3_put_15 : decode cX3_put 15 = .ok (.iload_n 2, 1) := by decide +kernel
theorem dX3_put_16 : decode cX3_put 16 = .ok (.invokevirtual 210, 3) := by decide +kernel
theorem dX3_put_19 : decode cX3_put 19 = .ok (.ifCond .le 14, 3) := by decide +kernel
theorem dX3_put_22 : decode cX3_put 22 = .ok (.aload_n 0, 1) := by decide +kernel
theorem dX3_put_23 : decode cX3_put 23 = .ok (.aload_n 0, 1) := by decide +kernel
theorem dX3_put_24 : decode cX3_put 24 = .ok (.iload_n 1, 1) := by decide +kernel
theorem dX3_put_25 : decode cX3_put 25 = .ok (.iload_n 2, 1) := by decide +kernel
theorem dX3_put_26 : decode cX3_put 26 = .ok (.invokevirtual 210, 3) := by decide +kernel
theorem dX3_put_29 : decode cX3_put 29 = .ok (.invokevirtual 107, 3) := by decide +kernel
theorem dX3_put_32 : decode cX3_put 32 = .ok (.ireturn, 1) := by decide +kernel
theorem dX3_put_33 : decode cX3_put 33 = .ok (.aload_n 0, 1) := by decide +kernel
theorem dX3_put_34 : decode cX3_put 34 = .ok (.getfield 59, 3) := by decide +kernel
theorem dX3_put_37 : decode cX3_put 37 = .ok (.bipush 60, 2) := by decide +kernel
theorem dX3_put_39 : decode cX3_put 39 = .ok (.iload_n 1, 1) := by decide +kernel
theorem dX3_put_40 : decode cX3_put 40 = .ok (.imul, 1) := by decide +kernel
theorem dX3_put_41 : decode cX3_put 41 = .ok (.iload_n 2, 1) := by decide +kernel
theorem dX3_put_42 : decode cX3_put 42 = .ok (.iadd, 1) := by decide +kernel
theorem dX3_put_43 : decode cX3_put 43 = .ok (.aload_n 0, 1) := by decide +kernel
theorem dX3_put_44 : decode cX3_put 44 = .ok (.getfield 56, 3) := by decide +kernel
theorem dX3_put_47 : decode cX3_put 47 = .ok (.iload_n 1, 1) := by decide +kernel
theorem dX3_put_48 : decode cX3_put 48 = .ok (.iaload, 1) := by decide +kernel
theorem dX3_put_49 : decode cX3_put 49 = .ok (.ifCond .ne 8, 3) := by decide +kernel
theorem dX3_put_52 : decode cX3_put 52 = .ok (.iload_n 3, 1) := by decide +kernel
theorem dX3_put_53 : decode cX3_put 53 = .ok (.i2b, 1) := by decide +kernel
theorem dX3_put_54 : decode cX3_put 54 = .ok (.goto 19, 3) := by decide +kernel
theorem dX3_put_57 : decode cX3_put 57 = .ok (.aload_n 0, 1) := by decide +kernel
theorem dX3_put_58 : decode cX3_put 58 = .ok (.getfield 56, 3) := by decide +kernel
theorem dX3_put_61 : decode cX3_put 61 = .ok (.iload_n 1, 1) := by decide +kernel
theorem dX3_put_62 : decode cX3_put 62 = .ok (.iaload, 1) := by decide +kernel
theorem dX3_put_63 : decode cX3_put 63 = .ok (.iconst 1, 1) := by decide +kernel
theorem dX3_put_64 : decode cX3_put 64 = .ok (.if_icmp .ne 8, 3) := by decide +kernel
theorem dX3_put_67 : decode cX3_put 67 = .ok (.iload_n 3, 1) := by decide +kernel
theorem dX3_put_68 : decode cX3_put 68 = .ok (.i2s, 1) := by decide +kernel
theorem dX3_put_69 : decode cX3_put 69 = .ok (.goto 4, 3) := by decide +kernel
theorem dX3_put_72 : decode cX3_put 72 = .ok (.iload_n 3, 1) := by decide +kernel
theorem dX3_put_73 : decode cX3_put 73 = .ok (.iastore, 1) := by decide +kernel
theorem dX3_put_74 : decode cX3_put 74 = .ok (.aload_n 0, 1) := by decide +kernel
theorem dX3_put_75 : decode cX3_put 75 = .ok (.iconst 1, 1) := by decide +kernel
theorem dX3_put_76 : decode cX3_put 76 = .ok (.invokevirtual 119, 3) := by decide +kernel
theorem dX3_put_79 : decode cX3_put 79 = .ok (.ireturn, 1) := by decide +kernel
theorem dX3_cell_0 : decode cX3_cell 0 = .ok (.aload_n 0, 1) := by decide +kernel
theorem dX3_cell_1 : decode cX3_cell 1 = .ok (.iconst 0, 1) := by decide +kernel
theorem dX3_cell_2 : decode cX3_cell 2 = .ok (.putfield 67, 3) := by decide +kernel
theorem dX3_cell_5 : decode cX3_cell 5 = .ok (.iload_n 1, 1) := by decide +kernel
theorem dX3_cell_6 : decode cX3_cell 6 = .ok (.invokestatic 115, 3) := by decide +kernel
theorem dX3_cell_9 : decode cX3_cell 9 = .ok (.ifCond .ne 15, 3) := by decide +kernel
theorem dX3_cell_12 : decode cX3_cell 12 = .ok (.iload_n 3, 1) := by decide +kernel
theorem dX3_cell_13 : decode cX3_cell 13 = .ok (.i2l, 1) := by decide +kernel
theorem dX3_cell_14 : decode cX3_cell 14 = .ok (.lconst 0, 1) := by decide +kernel
theorem dX3_cell_15 : decode cX3_cell 15 = .ok (.ldc2_w 122, 3) := by decide +kernel
theorem dX3_cell_18 : decode cX3_cell 18 = .ok (.invokestatic 77, 3) := by decide +kernel
theorem dX3_cell_21 : decode cX3_cell 21 = .ok (.ifCond .ne 7, 3) := by decide +kernel
theorem dX3_cell_24 : decode cX3_cell 24 = .ok (.invokestatic 70, 3) := by decide +kernel
theorem dX3_cell_27 : decode cX3_cell 27 = .ok (.lreturn, 1) := by decide +kernel
theorem dX3_cell_28 : decode cX3_cell 28 = .ok (.aload_n 0, 1) := by decide +kernel
theorem dX3_cell_29 : decode cX3_cell 29 = .ok (.getfield 53, 3) := by decide +kernel
theorem dX3_cell_32 : decode cX3_cell 32 = .ok (.iload_n 1, 1) := by decide +kernel
theorem dX3_cell_33 : decode cX3_cell 33 = .ok (.iaload, 1) := by decide +kernel
theorem dX3_cell_34 : decode cX3_cell 34 = .ok (.ifCond .lt 19, 3) := by decide +kernel
theorem dX3_cell_37 : decode cX3_cell 37 = .ok (.aload_n 0, 1) := by decide +kernel
theorem dX3_cell_38 : decode cX3_cell 38 = .ok (.getfield 56, 3) := by decide +kernel
theorem dX3_cell_41 : decode cX3_cell 41 = .ok (.iload_n 1, 1) := by decide +kernel
theorem dX3_cell_42 : decode cX3_cell 42 = .ok (.iaload, 1) := by decide +kernel
theorem dX3_cell_43 : decode cX3_cell 43 = .ok (.iload_n 3, 1) := by decide +kernel
theorem dX3_cell_44 : decode cX3_cell 44 = .ok (.if_icmp .eq 9, 3) := by decide +kernel
theorem dX3_cell_47 : decode cX3_cell 47 = .ok (.aload_n 0, 1) := by decide +kernel
theorem dX3_cell_48 : decode cX3_cell 48 = .ok (.iconst 2, 1) := by decide +kernel
theorem dX3_cell_49 : decode cX3_cell 49 = .ok (.invokevirtual 213, 3) := by decide +kernel
theorem dX3_cell_52 : decode cX3_cell 52 = .ok (.lreturn, 1) := by decide +kernel
theorem dX3_cell_53 : decode cX3_cell 53 = .ok (.aload_n 0, 1) := by decide +kernel
theorem dX3_cell_54 : decode cX3_cell 54 = .ok (.iload_n 1, 1) := by decide +kernel
theorem dX3_cell_55 : decode cX3_cell 55 = .ok (.iload_n 2, 1) := by decide +kernel
theorem dX3_cell_56 : decode cX3_cell 56 = .ok (.invokevirtual 210, 3) := by decide +kernel
theorem dX3_cell_59 : decode cX3_cell 59 = .ok (.ifCond .le 16, 3) := by decide +kernel
theorem dX3_cell_62 : decode cX3_cell 62 = .ok (.aload_n 0, 1) := by decide +kernel
theorem dX3_cell_63 : decode cX3_cell 63 = .ok (.aload_n 0, 1) := by decide +kernel
theorem dX3_cell_64 : decode cX3_cell 64 = .ok (.iload_n 1, 1) := by decide +kernel
theorem dX3_cell_65 : decode cX3_cell 65 = .ok (.iload_n 2, 1) := by decide +kernel
theorem dX3_cell_66 : decode cX3_cell 66 = .ok (.invokevirtual 210, 3) := by decide +kernel
theorem dX3_cell_69 : decode cX3_cell 69 = .ok (.invokevirtual 213, 3) := by decide +kernel
theorem dX3_cell_72 : decode cX3_cell 72 = .ok (.goto 15, 3) := by decide +kernel
theorem dX3_cell_75 : decode cX3_cell 75 = .ok (.aload_n 0, 1) := by decide +kernel
theorem dX3_cell_76 : decode cX3_cell 76 = .ok (.getfield 59, 3) := by decide +kernel
theorem dX3_cell_79 : decode cX3_cell 79 = .ok (.bipush 60, 2) := by decide +kernel
theorem dX3_cell_81 : decode cX3_cell 81 = .ok (.iload_n 1, 1) := by decide +kernel
theorem dX3_cell_82 : decode cX3_cell 82 = .ok (.imul, 1) := by decide +kernel
theorem dX3_cell_83 : decode cX3_cell 83 = .ok (.iload_n 2, 1) := by decide +kernel
theorem dX3_cell_84 : decode cX3_cell 84 = .ok (.iadd, 1) := by decide +kernel
theorem dX3_cell_85 : decode cX3_cell 85 = .ok (.iaload, 1) := by decide +kernel
theorem dX3_cell_86 : decode cX3_cell 86 = .ok (.i2l, 1) := by decide +kernel
theorem dX3_cell_87 : decode cX3_cell 87 = .ok (.lreturn, 1) := by decide +kernel
theorem dX3_isBeyond_0 : decode cX3_isBeyond 0 = .ok (.iload_n 0, 1) := by decide +kernel
theorem dX3_isBeyond_1 : decode cX3_isBeyond 1 = .ok (.ifCond .lt 19, 3) := by decide +kernel
theorem dX3_isBeyond_4 : decode cX3_isBeyond 4 = .ok (.lload_n 1, 1) := by decide +kernel
theorem dX3_isBeyond_5 : decode cX3_isBeyond 5 = .ok (.lconst 0, 1) := by decide +kernel
theorem dX3_isBeyond_6 : decode cX3_isBeyond 6 = .ok (.lcmp, 1) := by decide +kernel
theorem dX3_isBeyond_7 : decode cX3_isBeyond 7 = .ok (.ifCond .lt 13, 3) := by decide +kernel
theorem dX3_isBeyond_10 : decode cX3_isBeyond 10 = .ok (.iload_n 0, 1) := by decide +kernel
theorem dX3_isBeyond_11 : decode cX3_isBeyond 11 = .ok (.i2l, 1) := by decide +kernel
theorem dX3_isBeyond_12 : decode cX3_isBeyond 12 = .ok (.lload_n 1, 1) := by decide +kernel
theorem dX3_isBeyond_13 : decode cX3_isBeyond 13 = .ok (.ladd, 1) := by decide +kernel
theorem dX3_isBeyond_14 : decode cX3_isBeyond 14 = .ok (.iload_n 3, 1) := by decide +kernel
theorem dX3_isBeyond_15 : decode cX3_isBeyond 15 = .ok (.i2l, 1) := by decide +kernel
theorem dX3_isBeyond_16 : decode cX3_isBeyond 16 = .ok (.lcmp, 1) := by decide +kernel
theorem dX3_isBeyond_17 : decode cX3_isBeyond 17 = .ok (.ifCond .le 7, 3) := by decide +kernel
theorem dX3_isBeyond_20 : decode cX3_isBeyond 20 = .ok (.iconst 1, 1) := by decide +kernel
theorem dX3_isBeyond_21 : decode cX3_isBeyond 21 = .ok (.goto 4, 3) := by decide +kernel
theorem dX3_isBeyond_24 : decode cX3_isBeyond 24 = .ok (.iconst 0, 1) := by decide +kernel
theorem dX3_isBeyond_25 : decode cX3_isBeyond 25 = .ok (.ireturn, 1) := by decide +kernel
theorem dX3_copy_0 : decode cX3_copy 0 = .ok (.iload_n 1, 1) := by decide +kernel
theorem dX3_copy_1 : decode cX3_copy 1 = .ok (.invokestatic 115, 3) := by decide +kernel
theorem dX3_copy_4 : decode cX3_copy 4 = .ok (.ifCond .ne 10, 3) := by decide +kernel
theorem dX3_copy_7 : decode cX3_copy 7 = .ok (.iload_n 3, 1) := by decide +kernel
theorem dX3_copy_8 : decode cX3_copy 8 = .ok (.invokestatic 115, 3) := by decide +kernel
theorem dX3_copy_11 : decode cX3_copy 11 = .ok (.ifCond .eq 9, 3) := by decide +kernel
theorem dX3_copy_14 : decode cX3_copy 14 = .ok (.aload_n 0, 1) := by decide +kernel
theorem dX3_copy_15 : decode cX3_copy 15 = .ok (.iconst (-1), 1) := by decide +kernel
theorem dX3_copy_16 : decode cX3_copy 16 = .ok (.invokevirtual 119, 3) := by decide +kernel
theorem dX3_copy_19 : decode cX3_copy 19 = .ok (.ireturn, 1) := by decide +kernel
theorem dX3_copy_20 : decode cX3_copy 20 = .ok (.aload_n 0, 1) := by decide +kernel
theorem dX3_copy_21 : decode cX3_copy 21 = .ok (.getfield 53, 3) := by decide +kernel
theorem dX3_copy_24 : decode cX3_copy 24 = .ok (.iload_n 1, 1) := by decide +kernel
theorem dX3_copy_25 : decode cX3_copy 25 = .ok (.iaload, 1) := by decide +kernel
theorem dX3_copy_26 : decode cX3_copy 26 = .ok (.ifCond .lt 12, 3) := by decide +kernel
theorem dX3_copy_29 : decode cX3_copy 29 = .ok (.aload_n 0, 1) := by decide +kernel
theorem dX3_copy_30 : decode cX3_copy 30 = .ok (.getfield 53, 3) := by decide +kernel
theorem dX3_copy_33 : decode cX3_copy 33 = .ok (.iload_n 3, 1) := by decide +kernel
theorem dX3_copy_34 : decode cX3_copy 34 = .ok (.iaload, 1) := by decide +kernel
theorem dX3_copy_35 : decode cX3_copy 35 = .ok (.ifCond .ge 9, 3) := by decide +kernel
theorem dX3_copy_38 : decode cX3_copy 38 = .ok (.aload_n 0, 1) := by decide +kernel
theorem dX3_copy_39 : decode cX3_copy 39 = .ok (.iconst 1, 1) := by decide +kernel
theorem dX3_copy_40 : decode cX3_copy 40 = .ok (.invokevirtual 107, 3) := by decide +kernel
theorem dX3_copy_43 : decode cX3_copy 43 = .ok (.ireturn, 1) := by decide +kernel
theorem dX3_copy_44 : decode cX3_copy 44 = .ok (.aload_n 0, 1) := by decide +kernel
theorem dX3_copy_45 : decode cX3_copy 45 = .ok (.getfield 56, 3) := by decide +kernel
theorem dX3_copy_48 : decode cX3_copy 48 = .ok (.iload_n 1, 1) := by decide +kernel
theorem dX3_copy_49 : decode cX3_copy 49 = .ok (.iaload, 1) := by decide +kernel
theorem dX3_copy_50 : decode cX3_copy 50 = .ok (.aload_n 0, 1) := by decide +kernel
theorem dX3_copy_51 : decode cX3_copy 51 = .ok (.getfield 56, 3) := by decide +kernel
theorem dX3_copy_54 : decode cX3_copy 54 = .ok (.iload_n 3, 1) := by decide +kernel
theorem dX3_copy_55 : decode cX3_copy 55 = .ok (.iaload, 1) := by decide +kernel
theorem dX3_copy_56 : decode cX3_copy 56 = .ok (.if_icmp .eq 9, 3) := by decide +kernel
theorem dX3_copy_59 : decode cX3_copy 59 = .ok (.aload_n 0, 1) := by decide +kernel
theorem dX3_copy_60 : decode cX3_copy 60 = .ok (.iconst 2, 1) := by decide +kernel
theorem dX3_copy_61 : decode cX3_copy 61 = .ok (.invokevirtual 107, 3) := by decide +kernel
theorem dX3_copy_64 : decode cX3_copy 64 = .ok (.ireturn, 1) := by decide +kernel
theorem dX3_copy_65 : decode cX3_copy 65 = .ok (.iload_n 2, 1) := by decide +kernel
theorem dX3_copy_66 : decode cX3_copy 66 = .ok (.iload 5, 2) := by decide +kernel
theorem dX3_copy_68 : decode cX3_copy 68 = .ok (.i2l, 1) := by decide +kernel
theorem dX3_copy_69 : decode cX3_copy 69 = .ok (.aload_n 0, 1) := by decide +kernel
theorem dX3_copy_70 : decode cX3_copy 70 = .ok (.getfield 53, 3) := by decide +kernel
theorem dX3_copy_73 : decode cX3_copy 73 = .ok (.iload_n 1, 1) := by decide +kernel
theorem dX3_copy_74 : decode cX3_copy 74 = .ok (.iaload, 1) := by decide +kernel
theorem dX3_copy_75 : decode cX3_copy 75 = .ok (.invokestatic 111, 3) := by decide +kernel
theorem dX3_copy_78 : decode cX3_copy 78 = .ok (.ifCond .ne 20, 3) := by decide +kernel
theorem dX3_copy_81 : decode cX3_copy 81 = .ok (.iload 4, 2) := by decide +kernel
theorem dX3_copy_83 : decode cX3_copy 83 = .ok (.iload 5, 2) := by decide +kernel
theorem dX3_copy_85 : decode cX3_copy 85 = .ok (.i2l, 1) := by decide +kernel
theorem dX3_copy_86 : decode cX3_copy 86 = .ok (.aload_n 0, 1) := by decide +kernel
theorem dX3_copy_87 : decode cX3_copy 87 = .ok (.getfield 53, 3) := by decide +kernel
theorem dX3_copy_90 : decode cX3_copy 90 = .ok (.iload_n 3, 1) := by decide +kernel
theorem dX3_copy_91 : decode cX3_copy 91 = .ok (.iaload, 1) := by decide +kernel
theorem dX3_copy_92 : decode cX3_copy 92 = .ok (.invokestatic 111, 3) := by decide +kernel
theorem dX3_copy_95 : decode cX3_copy 95 = .ok (.ifCond .eq 9, 3) := by decide +kernel
theorem dX3_copy_98 : decode cX3_copy 98 = .ok (.aload_n 0, 1) := by decide +kernel
theorem dX3_copy_99 : decode cX3_copy 99 = .ok (.iconst 3, 1) := by decide +kernel
theorem dX3_copy_100 : decode cX3_copy 100 = .ok (.invokevirtual 107, 3) := by decide +kernel
theorem dX3_copy_103 : decode cX3_copy 103 = .ok (.ireturn, 1) := by decide +kernel
theorem dX3_copy_104 : decode cX3_copy 104 = .ok (.iconst 0, 1) := by decide +kernel
theorem dX3_copy_105 : decode cX3_copy 105 = .ok (.istore 6, 2) := by decide +kernel
theorem dX3_copy_107 : decode cX3_copy 107 = .ok (.iload 6, 2) := by decide +kernel
theorem dX3_copy_109 : decode cX3_copy 109 = .ok (.iload 5, 2) := by decide +kernel
theorem dX3_copy_111 : decode cX3_copy 111 = .ok (.if_icmp .ge 30, 3) := by decide +kernel
theorem dX3_copy_114 : decode cX3_copy 114 = .ok (.aload_n 0, 1) := by decide +kernel
theorem dX3_copy_115 : decode cX3_copy 115 = .ok (.getfield 62, 3) := by decide +kernel
theorem dX3_copy_118 : decode cX3_copy 118 = .ok (.iload 6, 2) := by decide +kernel
theorem dX3_copy_120 : decode cX3_copy 120 = .ok (.aload_n 0, 1) := by decide +kernel
theorem dX3_copy_121 : decode cX3_copy 121 = .ok (.getfield 59, 3) := by decide +kernel
theorem dX3_copy_124 : decode cX3_copy 124 = .ok (.bipush 60, 2) := by decide +kernel
theorem dX3_copy_126 : decode cX3_copy 126 = .ok (.iload_n 1, 1) := by decide +kernel
theorem dX3_copy_127 : decode cX3_copy 127 = .ok (.imul, 1) := by decide +kernel
theorem dX3_copy_128 : decode cX3_copy 128 = .ok (.iload_n 2, 1) := by decide +kernel
theorem dX3_copy_129 : decode cX3_copy 129 = .ok (.iadd, 1) := by decide +kernel
theorem dX3_copy_130 : decode cX3_copy 130 = .ok (.iload 6, 2) := by decide +kernel
theorem dX3_copy_132 : decode cX3_copy 132 = .ok (.iadd, 1) := by decide +kernel
theorem dX3_copy_133 : decode cX3_copy 133 = .ok (.iaload, 1) := by decide +kernel
theorem dX3_copy_134 : decode cX3_copy 134 = .ok (.iastore, 1) := by decide +kernel
theorem dX3_copy_135 : decode cX3_copy 135 = .ok (.iinc 6 1, 3) := by decide +kernel
theorem dX3_copy_138 : decode cX3_copy 138 = .ok (.goto (-31), 3) := by decide +kernel
theorem dX3_copy_141 : decode cX3_copy 141 = .ok (.iconst 0, 1) := by decide +kernel
theorem dX3_copy_142 : decode cX3_copy 142 = .ok (.istore 6, 2) := by decide +kernel
theorem dX3_copy_144 : decode cX3_copy 144 = .ok (.iload 6, 2) := by decide +kernel
theorem dX3_copy_146 : decode cX3_copy 146 = .ok (.iload 5, 2) := by decide +kernel
theorem dX3_copy_148 : decode cX3_copy 148 = .ok (.if_icmp .ge 31, 3) := by decide +kernel
theorem dX3_copy_151 : decode cX3_copy 151 = .ok (.aload_n 0, 1) := by decide +kernel
theorem dX3_copy_152 : decode cX3_copy 152 = .ok (.getfield 59, 3) := by decide +kernel
theorem dX3_copy_155 : decode cX3_copy 155 = .ok (.bipush 60, 2) := by decide +kernel
theorem dX3_copy_157 : decode cX3_copy 157 = .ok (.iload_n 3, 1) := by decide +kernel
theorem dX3_copy_158 : decode cX3_copy 158 = .ok (.imul, 1) := by decide +kernel
theorem dX3_copy_159 : decode cX3_copy 159 = .ok (.iload 4, 2) := by decide +kernel
theorem dX3_copy_161 : decode cX3_copy 161 = .ok (.iadd, 1) := by decide +kernel
theorem dX3_copy_162 : decode cX3_copy 162 = .ok (.iload 6, 2) := by decide +kernel
theorem dX3_copy_164 : decode cX3_copy 164 = .ok (.iadd, 1) := by decide +kernel
theorem dX3_copy_165 : decode cX3_copy 165 = .ok (.aload_n 0, 1) := by decide +kernel
theorem dX3_copy_166 : decode cX3_copy 166 = .ok (.getfield 62, 3) := by decide +kernel
theorem dX3_copy_169 : decode cX3_copy 169 = .ok (.iload 6, 2) := by decide +kernel
theorem dX3_copy_171 : decode cX3_copy 171 = .ok (.iaload, 1) := by decide +kernel
theorem dX3_copy_172 : decode cX3_copy 172 = .ok (.iastore, 1) := by decide +kernel
theorem dX3_copy_173 : decode cX3_copy 173 = .ok (.iinc 6 1, 3) := by decide +kernel
theorem dX3_copy_176 : decode cX3_copy 176 = .ok (.goto (-32), 3) := by decide +kernel
theorem dX3_copy_179 : decode cX3_copy 179 = .ok (.aload_n 0, 1) := by decide +kernel
theorem dX3_copy_180 : decode cX3_copy 180 = .ok (.iload 5, 2) := by decide +kernel
theorem dX3_copy_182 : decode cX3_copy 182 = .ok (.invokevirtual 119, 3) := by decide +kernel
theorem dX3_copy_185 : decode cX3_copy 185 = .ok (.ireturn, 1) := by decide +kernel
theorem dX3_traced_0 : decode cX3_traced 0 = .ok (.aload_n 0, 1) := by decide +kernel
theorem dX3_traced_1 : decode cX3_traced 1 = .ok (.bipush 31, 2) := by decide +kernel
theorem dX3_traced_3 : decode cX3_traced 3 = .ok (.aload_n 0, 1) := by decide +kernel
theorem dX3_traced_4 : decode cX3_traced 4 = .ok (.getfield 217, 3) := by decide +kernel
theorem dX3_traced_7 : decode cX3_traced 7 = .ok (.imul, 1) := by decide +kernel
theorem dX3_traced_8 : decode cX3_traced 8 = .ok (.iload_n 1, 1) := by decide +kernel
theorem dX3_traced_9 : decode cX3_traced 9 = .ok (.iadd, 1) := by decide +kernel
theorem dX3_traced_10 : decode cX3_traced 10 = .ok (.putfield 217, 3) := by decide +kernel
theorem dX3_traced_13 : decode cX3_traced 13 = .ok (.return_, 1) := by decide +kernel
theorem dX3_tell_0 : decode cX3_tell 0 = .ok (.aload_n 0, 1) := by decide +kernel
theorem dX3_tell_1 : decode cX3_tell 1 = .ok (.iload_n 1, 1) := by decide +kernel
theorem dX3_tell_2 : decode cX3_tell 2 = .ok (.invokevirtual 134, 3) := by decide +kernel
theorem dX3_tell_5 : decode cX3_tell 5 = .ok (.ifCond .eq 5, 3) := by decide +kernel
theorem dX3_tell_8 : decode cX3_tell 8 = .ok (.iconst (-1), 1) := by decide +kernel
theorem dX3_tell_9 : decode cX3_tell 9 = .ok (.ireturn, 1) := by decide +kernel
theorem dX3_tell_10 : decode cX3_tell 10 = .ok (.aload_n 0, 1) := by decide +kernel
theorem dX3_tell_11 : decode cX3_tell 11 = .ok (.getfield 7, 3) := by decide +kernel
theorem dX3_tell_14 : decode cX3_tell 14 = .ok (.iload_n 1, 1) := by decide +kernel
theorem dX3_tell_15 : decode cX3_tell 15 = .ok (.iaload, 1) := by decide +kernel
theorem dX3_tell_16 : decode cX3_tell 16 = .ok (.istore_n 2, 1) := by decide +kernel
theorem dX3_tell_17 : decode cX3_tell 17 = .ok (.iload_n 2, 1) := by decide +kernel
theorem dX3_tell_18 : decode cX3_tell 18 = .ok (.iconst 2, 1) := by decide +kernel
theorem dX3_tell_19 : decode cX3_tell 19 = .ok (.if_icmp .ne 8, 3) := by decide +kernel
theorem dX3_tell_22 : decode cX3_tell 22 = .ok (.aload_n 0, 1) := by decide +kernel
theorem dX3_tell_23 : decode cX3_tell 23 = .ok (.iconst 3, 1) := by decide +kernel
theorem dX3_tell_24 : decode cX3_tell 24 = .ok (.invokevirtual 220, 3) := by decide +kernel
theorem dX3_tell_27 : decode cX3_tell 27 = .ok (.iload_n 2, 1) := by decide +kernel
theorem dX3_tell_28 : decode cX3_tell 28 = .ok (.ifCond .le 8, 3) := by decide +kernel
theorem dX3_tell_31 : decode cX3_tell 31 = .ok (.aload_n 0, 1) := by decide +kernel
theorem dX3_tell_32 : decode cX3_tell 32 = .ok (.iconst 2, 1) := by decide +kernel
theorem dX3_tell_33 : decode cX3_tell 33 = .ok (.invokevirtual 220, 3) := by decide +kernel
theorem dX3_tell_36 : decode cX3_tell 36 = .ok (.aload_n 0, 1) := by decide +kernel
theorem dX3_tell_37 : decode cX3_tell 37 = .ok (.iconst 1, 1) := by decide +kernel
theorem dX3_tell_38 : decode cX3_tell 38 = .ok (.invokevirtual 220, 3) := by decide +kernel
theorem dX3_tell_41 : decode cX3_tell 41 = .ok (.iload_n 2, 1) := by decide +kernel
theorem dX3_tell_42 : decode cX3_tell 42 = .ok (.iconst 2, 1) := by decide +kernel
theorem dX3_tell_43 : decode cX3_tell 43 = .ok (.if_icmp .ne 8, 3) := by decide +kernel
theorem dX3_tell_46 : decode cX3_tell 46 = .ok (.aload_n 0, 1) := by decide +kernel
theorem dX3_tell_47 : decode cX3_tell 47 = .ok (.iconst 1, 1) := by decide +kernel
theorem dX3_tell_48 : decode cX3_tell 48 = .ok (.invokevirtual 220, 3) := by decide +kernel
theorem dX3_tell_51 : decode cX3_tell 51 = .ok (.aload_n 0, 1) := by decide +kernel
theorem dX3_tell_52 : decode cX3_tell 52 = .ok (.getfield 19, 3) := by decide +kernel
theorem dX3_tell_55 : decode cX3_tell 55 = .ok (.iload_n 1, 1) := by decide +kernel
theorem dX3_tell_56 : decode cX3_tell 56 = .ok (.iaload, 1) := by decide +kernel
theorem dX3_tell_57 : decode cX3_tell 57 = .ok (.istore_n 3, 1) := by decide +kernel
theorem dX3_tell_58 : decode cX3_tell 58 = .ok (.iload_n 2, 1) := by decide +kernel
theorem dX3_tell_59 : decode cX3_tell 59 = .ok (.ifCond .ne 7, 3) := by decide +kernel
theorem dX3_tell_62 : decode cX3_tell 62 = .ok (.iload_n 3, 1) := by decide +kernel
theorem dX3_tell_63 : decode cX3_tell 63 = .ok (.goto 21, 3) := by decide +kernel
theorem dX3_tell_66 : decode cX3_tell 66 = .ok (.iload_n 2, 1) := by decide +kernel
theorem dX3_tell_67 : decode cX3_tell 67 = .ok (.iconst 1, 1) := by decide +kernel
theorem dX3_tell_68 : decode cX3_tell 68 = .ok (.if_icmp .ne 10, 3) := by decide +kernel
theorem dX3_tell_71 : decode cX3_tell 71 = .ok (.iload_n 3, 1) := by decide +kernel
theorem dX3_tell_72 : decode cX3_tell 72 = .ok (.bipush 100, 2) := by decide +kernel
theorem dX3_tell_74 : decode cX3_tell 74 = .ok (.iadd, 1) := by decide +kernel
theorem dX3_tell_75 : decode cX3_tell 75 = .ok (.goto 9, 3) := by decide +kernel
theorem dX3_tell_78 : decode cX3_tell 78 = .ok (.iconst 2, 1) := by decide +kernel
theorem dX3_tell_79 : decode cX3_tell 79 = .ok (.iload_n 3, 1) := by decide +kernel
theorem dX3_tell_80 : decode cX3_tell 80 = .ok (.imul, 1) := by decide +kernel
theorem dX3_tell_81 : decode cX3_tell 81 = .ok (.bipush 100, 2) := by decide +kernel
theorem dX3_tell_83 : decode cX3_tell 83 = .ok (.iadd, 1) := by decide +kernel
theorem dX3_tell_84 : decode cX3_tell 84 = .ok (.ireturn, 1) := by decide +kernel
theorem dX3_knock_0 : decode cX3_knock 0 = .ok (.aload_n 0, 1) := by decide +kernel
theorem dX3_knock_1 : decode cX3_knock 1 = .ok (.iload_n 1, 1) := by decide +kernel
theorem dX3_knock_2 : decode cX3_knock 2 = .ok (.invokevirtual 134, 3) := by decide +kernel
theorem dX3_knock_5 : decode cX3_knock 5 = .ok (.ifCond .eq 5, 3) := by decide +kernel
theorem dX3_knock_8 : decode cX3_knock 8 = .ok (.iconst (-1), 1) := by decide +kernel
theorem dX3_knock_9 : decode cX3_knock 9 = .ok (.ireturn, 1) := by decide +kernel
theorem dX3_knock_10 : decode cX3_knock 10 = .ok (.aload_n 0, 1) := by decide +kernel
theorem dX3_knock_11 : decode cX3_knock 11 = .ok (.aload_n 0, 1) := by decide +kernel
theorem dX3_knock_12 : decode cX3_knock 12 = .ok (.getfield 7, 3) := by decide +kernel
theorem dX3_knock_15 : decode cX3_knock 15 = .ok (.iload_n 1, 1) := by decide +kernel
theorem dX3_knock_16 : decode cX3_knock 16 = .ok (.iaload, 1) := by decide +kernel
theorem dX3_knock_17 : decode cX3_knock 17 = .ok (.iconst 2, 1) := by decide +kernel
theorem dX3_knock_18 : decode cX3_knock 18 = .ok (.if_icmp .ne 7, 3) := by decide +kernel
theorem dX3_knock_21 : decode cX3_knock 21 = .ok (.iconst 5, 1) := by decide +kernel
theorem dX3_knock_22 : decode cX3_knock 22 = .ok (.goto 4, 3) := by decide +kernel
theorem dX3_knock_25 : decode cX3_knock 25 = .ok (.iconst 4, 1) := by decide +kernel
theorem dX3_knock_26 : decode cX3_knock 26 = .ok (.invokevirtual 220, 3) := by decide +kernel
theorem dX3_knock_29 : decode cX3_knock 29 = .ok (.aload_n 0, 1) := by decide +kernel
theorem dX3_knock_30 : decode cX3_knock 30 = .ok (.getfield 7, 3) := by decide +kernel
theorem dX3_knock_33 : decode cX3_knock 33 = .ok (.iload_n 1, 1) := by decide +kernel
theorem dX3_knock_34 : decode cX3_knock 34 = .ok (.iaload, 1) := by decide +kernel
theorem dX3_knock_35 : decode cX3_knock 35 = .ok (.iconst 2, 1) := by decide +kernel
theorem dX3_knock_36 : decode cX3_knock 36 = .ok (.if_icmp .ne 8, 3) := by decide +kernel
theorem dX3_knock_39 : decode cX3_knock 39 = .ok (.bipush 60, 2) := by decide +kernel
theorem dX3_knock_41 : decode cX3_knock 41 = .ok (.goto 4, 3) := by decide +kernel
theorem dX3_knock_44 : decode cX3_knock 44 = .ok (.iload_n 1, 1) := by decide +kernel
theorem dX3_knock_45 : decode cX3_knock 45 = .ok (.ireturn, 1) := by decide +kernel
theorem dX3_as_0 : decode cX3_as 0 = .ok (.aload_n 0, 1) := by decide +kernel
theorem dX3_as_1 : decode cX3_as 1 = .ok (.iload_n 1, 1) := by decide +kernel
theorem dX3_as_2 : decode cX3_as 2 = .ok (.invokevirtual 134, 3) := by decide +kernel
theorem dX3_as_5 : decode cX3_as 5 = .ok (.ifCond .eq 9, 3) := by decide +kernel
theorem dX3_as_8 : decode cX3_as 8 = .ok (.aload_n 0, 1) := by decide +kernel
theorem dX3_as_9 : decode cX3_as 9 = .ok (.iconst (-1), 1) := by decide +kernel
theorem dX3_as_10 : decode cX3_as 10 = .ok (.invokevirtual 119, 3) := by decide +kernel
theorem dX3_as_13 : decode cX3_as 13 = .ok (.ireturn, 1) := by decide +kernel
theorem dX3_as_14 : decode cX3_as 14 = .ok (.iload_n 2, 1) := by decide +kernel
theorem dX3_as_15 : decode cX3_as 15 = .ok (.i2l, 1) := by decide +kernel
theorem dX3_as_16 : decode cX3_as 16 = .ok (.lconst 0, 1) := by decide +kernel
theorem dX3_as_17 : decode cX3_as 17 = .ok (.ldc2_w 122, 3) := by decide +kernel
theorem dX3_as_20 : decode cX3_as 20 = .ok (.invokestatic 77, 3) := by decide +kernel
theorem dX3_as_23 : decode cX3_as 23 = .ok (.ifCond .ne 10, 3) := by decide +kernel
theorem dX3_as_26 : decode cX3_as 26 = .ok (.aload_n 0, 1) := by decide +kernel
theorem dX3_as_27 : decode cX3_as 27 = .ok (.bipush (-2), 2) := by decide +kernel
theorem dX3_as_29 : decode cX3_as 29 = .ok (.invokevirtual 119, 3) := by decide +kernel
theorem dX3_as_32 : decode cX3_as 32 = .ok (.ireturn, 1) := by decide +kernel
theorem dX3_as_33 : decode cX3_as 33 = .ok (.aload_n 0, 1) := by decide +kernel
theorem dX3_as_34 : decode cX3_as 34 = .ok (.getfield 7, 3) := by decide +kernel
theorem dX3_as_37 : decode cX3_as 37 = .ok (.iload_n 1, 1) := by decide +kernel
theorem dX3_as_38 : decode cX3_as 38 = .ok (.iaload, 1) := by decide +kernel
theorem dX3_as_39 : decode cX3_as 39 = .ok (.iload_n 2, 1) := by decide +kernel
theorem dX3_as_40 : decode cX3_as 40 = .ok (.if_icmp .lt 11, 3) := by decide +kernel
theorem dX3_as_43 : decode cX3_as 43 = .ok (.aload_n 0, 1) := by decide +kernel
theorem dX3_as_44 : decode cX3_as 44 = .ok (.iconst 1, 1) := by decide +kernel
theorem dX3_as_45 : decode cX3_as 45 = .ok (.invokevirtual 119, 3) := by decide +kernel
theorem dX3_as_48 : decode cX3_as 48 = .ok (.goto 8, 3) := by decide +kernel
theorem dX3_as_51 : decode cX3_as 51 = .ok (.aload_n 0, 1) := by decide +kernel
theorem dX3_as_52 : decode cX3_as 52 = .ok (.iconst 2, 1) := by decide +kernel
theorem dX3_as_53 : decode cX3_as 53 = .ok (.invokevirtual 107, 3) := by decide +kernel
theorem dX3_as_56 : decode cX3_as 56 = .ok (.ireturn, 1) := by decide +kernel
theorem dX3_trace_0 : decode cX3_trace 0 = .ok (.aload_n 0, 1) := by decide +kernel
theorem dX3_trace_1 : decode cX3_trace 1 = .ok (.getfield 217, 3) := by decide +kernel
theorem dX3_trace_4 : decode cX3_trace 4 = .ok (.ireturn, 1) := by decide +kernel
theorem dX3_fault_0 : decode cX3_fault 0 = .ok (.aload_n 0, 1) := by decide +kernel
theorem dX3_fault_1 : decode cX3_fault 1 = .ok (.getfield 67, 3) := by decide +kernel
theorem dX3_fault_4 : decode cX3_fault 4 = .ok (.ireturn, 1) := by decide +kernel
theorem dX3_many_0 : decode cX3_many 0 = .ok (.iload_n 1, 1) := by decide +kernel
theorem dX3_many_1 : decode cX3_many 1 = .ok (.tableswitch 42 0 2 #[27, 32, 37], 27) := by decide +kernel
theorem dX3_many_28 : decode cX3_many 28 = .ok (.aload_n 0, 1) := by decide +kernel
theorem dX3_many_29 : decode cX3_many 29 = .ok (.getfield 81, 3) := by decide +kernel
theorem dX3_many_32 : decode cX3_many 32 = .ok (.ireturn, 1) := by decide +kernel
theorem dX3_many_33 : decode cX3_many 33 = .ok (.aload_n 0, 1) := by decide +kernel
theorem dX3_many_34 : decode cX3_many 34 = .ok (.getfield 74, 3) := by decide +kernel
theorem dX3_many_37 : decode cX3_many 37 = .ok (.ireturn, 1) := by decide +kernel
theorem dX3_many_38 : decode cX3_many 38 = .ok (.aload_n 0, 1) := by decide +kernel
theorem dX3_many_39 : decode cX3_many 39 = .ok (.getfield 131, 3) := by decide +kernel
theorem dX3_many_42 : decode cX3_many 42 = .ok (.ireturn, 1) := by decide +kernel
theorem dX3_many_43 : decode cX3_many 43 = .ok (.bipush (-2), 2) := by decide +kernel
theorem dX3_many_45 : decode cX3_many 45 = .ok (.ireturn, 1) := by decide +kernel
