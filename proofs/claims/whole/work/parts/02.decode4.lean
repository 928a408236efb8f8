theorem dX8_copy_35 : decode cX8_copy 35 = .ok (.aload_n 0, 1) := by decide +kernel
theorem dX8_copy_36 : decode cX8_copy 36 = .ok (.iconst 1, 1) := by decide +kernel
theorem dX8_copy_37 : decode cX8_copy 37 = .ok (.invokevirtual 94, 3) := by decide +kernel
theorem dX8_copy_40 : decode cX8_copy 40 = .ok (.ireturn, 1) := by decide +kernel
theorem dX8_copy_41 : decode cX8_copy 41 = .ok (.aload_n 0, 1) := by decide +kernel
theorem dX8_copy_42 : decode cX8_copy 42 = .ok (.getfield 7, 3) := by decide +kernel
theorem dX8_copy_45 : decode cX8_copy 45 = .ok (.iload_n 1, 1) := by decide +kernel
theorem dX8_copy_46 : decode cX8_copy 46 = .ok (.iaload, 1) := by decide +kernel
theorem dX8_copy_47 : decode cX8_copy 47 = .ok (.aload_n 0, 1) := by decide +kernel
theorem dX8_copy_48 : decode cX8_copy 48 = .ok (.getfield 7, 3) := by decide +kernel
theorem dX8_copy_51 : decode cX8_copy 51 = .ok (.iload_n 3, 1) := by decide +kernel
theorem dX8_copy_52 : decode cX8_copy 52 = .ok (.iaload, 1) := by decide +kernel
theorem dX8_copy_53 : decode cX8_copy 53 = .ok (.if_icmp .eq 9, 3) := by decide +kernel
theorem dX8_copy_56 : decode cX8_copy 56 = .ok (.aload_n 0, 1) := by decide +kernel
theorem dX8_copy_57 : decode cX8_copy 57 = .ok (.iconst 4, 1) := by decide +kernel
theorem dX8_copy_58 : decode cX8_copy 58 = .ok (.invokevirtual 94, 3) := by decide +kernel
theorem dX8_copy_61 : decode cX8_copy 61 = .ok (.ireturn, 1) := by decide +kernel
theorem dX8_copy_62 : decode cX8_copy 62 = .ok (.iload_n 2, 1) := by decide +kernel
theorem dX8_copy_63 : decode cX8_copy 63 = .ok (.ifCond .lt 48, 3) := by decide +kernel
theorem dX8_copy_66 : decode cX8_copy 66 = .ok (.iload 4, 2) := by decide +kernel
theorem dX8_copy_68 : decode cX8_copy 68 = .ok (.ifCond .lt 43, 3) := by decide +kernel
theorem dX8_copy_71 : decode cX8_copy 71 = .ok (.iload 5, 2) := by decide +kernel
theorem dX8_copy_73 : decode cX8_copy 73 = .ok (.ifCond .lt 38, 3) := by decide +kernel
theorem dX8_copy_76 : decode cX8_copy 76 = .ok (.iload_n 2, 1) := by decide +kernel
theorem dX8_copy_77 : decode cX8_copy 77 = .ok (.i2l, 1) := by decide +kernel
theorem dX8_copy_78 : decode cX8_copy 78 = .ok (.iload 5, 2) := by decide +kernel
theorem dX8_copy_80 : decode cX8_copy 80 = .ok (.i2l, 1) := by decide +kernel
theorem dX8_copy_81 : decode cX8_copy 81 = .ok (.ladd, 1) := by decide +kernel
theorem dX8_copy_82 : decode cX8_copy 82 = .ok (.aload_n 0, 1) := by decide +kernel
theorem dX8_copy_83 : decode cX8_copy 83 = .ok (.getfield 13, 3) := by decide +kernel
theorem dX8_copy_86 : decode cX8_copy 86 = .ok (.iload_n 1, 1) := by decide +kernel
theorem dX8_copy_87 : decode cX8_copy 87 = .ok (.iaload, 1) := by decide +kernel
theorem dX8_copy_88 : decode cX8_copy 88 = .ok (.i2l, 1) := by decide +kernel
theorem dX8_copy_89 : decode cX8_copy 89 = .ok (.lcmp, 1) := by decide +kernel
theorem dX8_copy_90 : decode cX8_copy 90 = .ok (.ifCond .gt 21, 3) := by decide +kernel
theorem dX8_copy_93 : decode cX8_copy 93 = .ok (.iload 4, 2) := by decide +kernel
theorem dX8_copy_95 : decode cX8_copy 95 = .ok (.i2l, 1) := by decide +kernel
theorem dX8_copy_96 : decode cX8_copy 96 = .ok (.iload 5, 2) := by decide +kernel
theorem dX8_copy_98 : decode cX8_copy 98 = .ok (.i2l, 1) := by decide +kernel
theorem dX8_copy_99 : decode cX8_copy 99 = .ok (.ladd, 1) := by decide +kernel
theorem dX8_copy_100 : decode cX8_copy 100 = .ok (.aload_n 0, 1) := by decide +kernel
theorem dX8_copy_101 : decode cX8_copy 101 = .ok (.getfield 13, 3) := by decide +kernel
theorem dX8_copy_104 : decode cX8_copy 104 = .ok (.iload_n 3, 1) := by decide +kernel
theorem dX8_copy_105 : decode cX8_copy 105 = .ok (.iaload, 1) := by decide +kernel
theorem dX8_copy_106 : decode cX8_copy 106 = .ok (.i2l, 1) := by decide +kernel
theorem dX8_copy_107 : decode cX8_copy 107 = .ok (.lcmp, 1) := by decide +kernel
theorem dX8_copy_108 : decode cX8_copy 108 = .ok (.ifCond .le 9, 3) := by decide +kernel
theorem dX8_copy_111 : decode cX8_copy 111 = .ok (.aload_n 0, 1) := by decide +kernel
theorem dX8_copy_112 : decode cX8_copy 112 = .ok (.iconst 2, 1) := by decide +kernel
theorem dX8_copy_113 : decode cX8_copy 113 = .ok (.invokevirtual 94, 3) := by decide +kernel
theorem dX8_copy_116 : decode cX8_copy 116 = .ok (.ireturn, 1) := by decide +kernel
theorem dX8_copy_117 : decode cX8_copy 117 = .ok (.iconst 0, 1) := by decide +kernel
theorem dX8_copy_118 : decode cX8_copy 118 = .ok (.istore 6, 2) := by decide +kernel
theorem dX8_copy_120 : decode cX8_copy 120 = .ok (.iload 6, 2) := by decide +kernel
theorem dX8_copy_122 : decode cX8_copy 122 = .ok (.iload 5, 2) := by decide +kernel
theorem dX8_copy_124 : decode cX8_copy 124 = .ok (.if_icmp .ge 30, 3) := by decide +kernel
theorem dX8_copy_127 : decode cX8_copy 127 = .ok (.aload_n 0, 1) := by decide +kernel
theorem dX8_copy_128 : decode cX8_copy 128 = .ok (.getfield 19, 3) := by decide +kernel
theorem dX8_copy_131 : decode cX8_copy 131 = .ok (.iload 6, 2) := by decide +kernel
theorem dX8_copy_133 : decode cX8_copy 133 = .ok (.aload_n 0, 1) := by decide +kernel
theorem dX8_copy_134 : decode cX8_copy 134 = .ok (.getfield 16, 3) := by decide +kernel
theorem dX8_copy_137 : decode cX8_copy 137 = .ok (.bipush 60, 2) := by decide +kernel
theorem dX8_copy_139 : decode cX8_copy 139 = .ok (.iload_n 1, 1) := by decide +kernel
theorem dX8_copy_140 : decode cX8_copy 140 = .ok (.imul, 1) := by decide +kernel
theorem dX8_copy_141 : decode cX8_copy 141 = .ok (.iload_n 2, 1) := by decide +kernel
theorem dX8_copy_142 : decode cX8_copy 142 = .ok (.iadd, 1) := by decide +kernel
theorem dX8_copy_143 : decode cX8_copy 143 = .ok (.iload 6, 2) := by decide +kernel
theorem dX8_copy_145 : decode cX8_copy 145 = .ok (.iadd, 1) := by decide +kernel
theorem dX8_copy_146 : decode cX8_copy 146 = .ok (.iaload, 1) := by decide +kernel
theorem dX8_copy_147 : decode cX8_copy 147 = .ok (.iastore, 1) := by decide +kernel
theorem dX8_copy_148 : decode cX8_copy 148 = .ok (.iinc 6 1, 3) := by decide +kernel
theorem dX8_copy_151 : decode cX8_copy 151 = .ok (.goto (-31), 3) := by decide +kernel
theorem dX8_copy_154 : decode cX8_copy 154 = .ok (.iconst 0, 1) := by decide +kernel
theorem dX8_copy_155 : decode cX8_copy 155 = .ok (.istore 6, 2) := by decide +kernel
theorem dX8_copy_157 : decode cX8_copy 157 = .ok (.iload 6, 2) := by decide +kernel
theorem dX8_copy_159 : decode cX8_copy 159 = .ok (.iload 5, 2) := by decide +kernel
theorem dX8_copy_161 : decode cX8_copy 161 = .ok (.if_icmp .ge 31, 3) := by decide +kernel
theorem dX8_copy_164 : decode cX8_copy 164 = .ok (.aload_n 0, 1) := by decide +kernel
theorem dX8_copy_165 : decode cX8_copy 165 = .ok (.getfield 16, 3) := by decide +kernel
theorem dX8_copy_168 : decode cX8_copy 168 = .ok (.bipush 60, 2) := by decide +kernel
theorem dX8_copy_170 : decode cX8_copy 170 = .ok (.iload_n 3, 1) := by decide +kernel
theorem dX8_copy_171 : decode cX8_copy 171 = .ok (.imul, 1) := by decide +kernel
theorem dX8_copy_172 : decode cX8_copy 172 = .ok (.iload 4, 2) := by decide +kernel
theorem dX8_copy_174 : decode cX8_copy 174 = .ok (.iadd, 1) := by decide +kernel
theorem dX8_copy_175 : decode cX8_copy 175 = .ok (.iload 6, 2) := by decide +kernel
theorem dX8_copy_177 : decode cX8_copy 177 = .ok (.iadd, 1) := by decide +kernel
theorem dX8_copy_178 : decode cX8_copy 178 = .ok (.aload_n 0, 1) := by decide +kernel
theorem dX8_copy_179 : decode cX8_copy 179 = .ok (.getfield 19, 3) := by decide +kernel
theorem dX8_copy_182 : decode cX8_copy 182 = .ok (.iload 6, 2) := by decide +kernel
theorem dX8_copy_184 : decode cX8_copy 184 = .ok (.iaload, 1) := by decide +kernel
theorem dX8_copy_185 : decode cX8_copy 185 = .ok (.iastore, 1) := by decide +kernel
theorem dX8_copy_186 : decode cX8_copy 186 = .ok (.iinc 6 1, 3) := by decide +kernel
theorem dX8_copy_189 : decode cX8_copy 189 = .ok (.goto (-32), 3) := by decide +kernel
theorem dX8_copy_192 : decode cX8_copy 192 = .ok (.iconst 1, 1) := by decide +kernel
theorem dX8_copy_193 : decode cX8_copy 193 = .ok (.ireturn, 1) := by decide +kernel
theorem dX8_isPupil_0 : decode cX8_isPupil 0 = .ok (.iload_n 0, 1) := by decide +kernel
theorem dX8_isPupil_1 : decode cX8_isPupil 1 = .ok (.i2l, 1) := by decide +kernel
theorem dX8_isPupil_2 : decode cX8_isPupil 2 = .ok (.lconst 0, 1) := by decide +kernel
theorem dX8_isPupil_3 : decode cX8_isPupil 3 = .ok (.ldc2_w 107, 3) := by decide +kernel
theorem dX8_isPupil_6 : decode cX8_isPupil 6 = .ok (.invokestatic 78, 3) := by decide +kernel
theorem dX8_isPupil_9 : decode cX8_isPupil 9 = .ok (.ireturn, 1) := by decide +kernel
theorem dX8_isAny_0 : decode cX8_isAny 0 = .ok (.iload_n 0, 1) := by decide +kernel
theorem dX8_isAny_1 : decode cX8_isAny 1 = .ok (.i2l, 1) := by decide +kernel
theorem dX8_isAny_2 : decode cX8_isAny 2 = .ok (.lconst 0, 1) := by decide +kernel
theorem dX8_isAny_3 : decode cX8_isAny 3 = .ok (.ldc2_w 109, 3) := by decide +kernel
theorem dX8_isAny_6 : decode cX8_isAny 6 = .ok (.invokestatic 78, 3) := by decide +kernel
theorem dX8_isAny_9 : decode cX8_isAny 9 = .ok (.ireturn, 1) := by decide +kernel
theorem dX8_n_0 : decode cX8_n 0 = .ok (.aload_n 0, 1) := by decide +kernel
theorem dX8_n_1 : decode cX8_n 1 = .ok (.getfield 22, 3) := by decide +kernel
theorem dX8_n_4 : decode cX8_n 4 = .ok (.iconst 0, 1) := by decide +kernel
theorem dX8_n_5 : decode cX8_n 5 = .ok (.iaload, 1) := by decide +kernel
theorem dX8_n_6 : decode cX8_n 6 = .ok (.ireturn, 1) := by decide +kernel
theorem dX8_isQuestion_0 : decode cX8_isQuestion 0 = .ok (.iload_n 1, 1) := by decide +kernel
theorem dX8_isQuestion_1 : decode cX8_isQuestion 1 = .ok (.i2l, 1) := by decide +kernel
theorem dX8_isQuestion_2 : decode cX8_isQuestion 2 = .ok (.lconst 0, 1) := by decide +kernel
theorem dX8_isQuestion_3 : decode cX8_isQuestion 3 = .ok (.aload_n 0, 1) := by decide +kernel
theorem dX8_isQuestion_4 : decode cX8_isQuestion 4 = .ok (.invokevirtual 111, 3) := by decide +kernel
theorem dX8_isQuestion_7 : decode cX8_isQuestion 7 = .ok (.iconst 1, 1) := by decide +kernel
theorem dX8_isQuestion_8 : decode cX8_isQuestion 8 = .ok (.isub, 1) := by decide +kernel
theorem dX8_isQuestion_9 : decode cX8_isQuestion 9 = .ok (.i2l, 1) := by decide +kernel
theorem dX8_isQuestion_10 : decode cX8_isQuestion 10 = .ok (.invokestatic 78, 3) := by decide +kernel
theorem dX8_isQuestion_13 : decode cX8_isQuestion 13 = .ok (.ireturn, 1) := by decide +kernel
theorem dX8_whole_0 : decode cX8_whole 0 = .ok (.iconst 1, 1) := by decide +kernel
theorem dX8_whole_1 : decode cX8_whole 1 = .ok (.aload_n 0, 1) := by decide +kernel
theorem dX8_whole_2 : decode cX8_whole 2 = .ok (.invokevirtual 111, 3) := by decide +kernel
theorem dX8_whole_5 : decode cX8_whole 5 = .ok (.ishl, 1) := by decide +kernel
theorem dX8_whole_6 : decode cX8_whole 6 = .ok (.iconst 1, 1) := by decide +kernel
theorem dX8_whole_7 : decode cX8_whole 7 = .ok (.isub, 1) := by decide +kernel
theorem dX8_whole_8 : decode cX8_whole 8 = .ok (.ireturn, 1) := by decide +kernel
theorem dX8_high_0 : decode cX8_high 0 = .ok (.iload_n 0, 1) := by decide +kernel
theorem dX8_high_1 : decode cX8_high 1 = .ok (.ifCond .ne 8, 3) := by decide +kernel
theorem dX8_high_4 : decode cX8_high 4 = .ok (.bipush 7, 2) := by decide +kernel
theorem dX8_high_6 : decode cX8_high 6 = .ok (.goto 25, 3) := by decide +kernel
theorem dX8_high_9 : decode cX8_high 9 = .ok (.iload_n 0, 1) := by decide +kernel
theorem dX8_high_10 : decode cX8_high 10 = .ok (.iconst 1, 1) := by decide +kernel
theorem dX8_high_11 : decode cX8_high 11 = .ok (.if_icmp .ne 9, 3) := by decide +kernel
theorem dX8_high_14 : decode cX8_high 14 = .ok (.sipush 999, 3) := by decide +kernel
theorem dX8_high_17 : decode cX8_high 17 = .ok (.goto 14, 3) := by decide +kernel
theorem dX8_high_20 : decode cX8_high 20 = .ok (.iload_n 0, 1) := by decide +kernel
theorem dX8_high_21 : decode cX8_high 21 = .ok (.iconst 2, 1) := by decide +kernel
theorem dX8_high_22 : decode cX8_high 22 = .ok (.if_icmp .ne 8, 3) := by decide +kernel
theorem dX8_high_25 : decode cX8_high 25 = .ok (.bipush 9, 2) := by decide +kernel
theorem dX8_high_27 : decode cX8_high 27 = .ok (.goto 4, 3) := by decide +kernel
theorem dX8_high_30 : decode cX8_high 30 = .ok (.iconst 1, 1) := by decide +kernel
theorem dX8_high_31 : decode cX8_high 31 = .ok (.ireturn, 1) := by decide +kernel
theorem dX8_set_0 : decode cX8_set 0 = .ok (.iload_n 1, 1) := by decide +kernel
theorem dX8_set_1 : decode cX8_set 1 = .ok (.i2l, 1) := by decide +kernel
theorem dX8_set_2 : decode cX8_set 2 = .ok (.lconst 0, 1) := by decide +kernel
theorem dX8_set_3 : decode cX8_set 3 = .ok (.ldc2_w 86, 3) := by decide +kernel
theorem dX8_set_6 : decode cX8_set 6 = .ok (.invokestatic 78, 3) := by decide +kernel
theorem dX8_set_9 : decode cX8_set 9 = .ok (.ifCond .eq 27, 3) := by decide +kernel
theorem dX8_set_12 : decode cX8_set 12 = .ok (.iload_n 2, 1) := by decide +kernel
theorem dX8_set_13 : decode cX8_set 13 = .ok (.i2l, 1) := by decide +kernel
theorem dX8_set_14 : decode cX8_set 14 = .ok (.iload_n 1, 1) := by decide +kernel
theorem dX8_set_15 : decode cX8_set 15 = .ok (.ifCond .ne 9, 3) := by decide +kernel
theorem dX8_set_18 : decode cX8_set 18 = .ok (.ldc2_w 92, 3) := by decide +kernel
theorem dX8_set_21 : decode cX8_set 21 = .ok (.goto 4, 3) := by decide +kernel
theorem dX8_set_24 : decode cX8_set 24 = .ok (.lconst 0, 1) := by decide +kernel
theorem dX8_set_25 : decode cX8_set 25 = .ok (.iload_n 1, 1) := by decide +kernel
theorem dX8_set_26 : decode cX8_set 26 = .ok (.invokestatic 115, 3) := by decide +kernel
theorem dX8_set_29 : decode cX8_set 29 = .ok (.i2l, 1) := by decide +kernel
theorem dX8_set_30 : decode cX8_set 30 = .ok (.invokestatic 78, 3) := by decide +kernel
theorem dX8_set_33 : decode cX8_set 33 = .ok (.ifCond .ne 6, 3) := by decide +kernel
theorem dX8_set_36 : decode cX8_set 36 = .ok (.bipush (-2), 2) := by decide +kernel
theorem dX8_set_38 : decode cX8_set 38 = .ok (.ireturn, 1) := by decide +kernel
theorem dX8_set_39 : decode cX8_set 39 = .ok (.aload_n 0, 1) := by decide +kernel
theorem dX8_set_40 : decode cX8_set 40 = .ok (.getfield 22, 3) := by decide +kernel
theorem dX8_set_43 : decode cX8_set 43 = .ok (.iload_n 1, 1) := by decide +kernel
theorem dX8_set_44 : decode cX8_set 44 = .ok (.iaload, 1) := by decide +kernel
theorem dX8_set_45 : decode cX8_set 45 = .ok (.istore_n 3, 1) := by decide +kernel
theorem dX8_set_46 : decode cX8_set 46 = .ok (.aload_n 0, 1) := by decide +kernel
theorem dX8_set_47 : decode cX8_set 47 = .ok (.getfield 22, 3) := by decide +kernel
theorem dX8_set_50 : decode cX8_set 50 = .ok (.iload_n 1, 1) := by decide +kernel
theorem dX8_set_51 : decode cX8_set 51 = .ok (.iload_n 2, 1) := by decide +kernel
theorem dX8_set_52 : decode cX8_set 52 = .ok (.iastore, 1) := by decide +kernel
theorem dX8_set_53 : decode cX8_set 53 = .ok (.iload_n 3, 1) := by decide +kernel
theorem dX8_set_54 : decode cX8_set 54 = .ok (.ireturn, 1) := by decide +kernel
theorem dX8_isLate_0 : decode cX8_isLate 0 = .ok (.iload_n 1, 1) := by decide +kernel
theorem dX8_isLate_1 : decode cX8_isLate 1 = .ok (.i2l, 1) := by decide +kernel
theorem dX8_isLate_2 : decode cX8_isLate 2 = .ok (.aload_n 0, 1) := by decide +kernel
theorem dX8_isLate_3 : decode cX8_isLate 3 = .ok (.getfield 118, 3) := by decide +kernel
theorem dX8_isLate_6 : decode cX8_isLate 6 = .ok (.ifCond .ne 7, 3) := by decide +kernel
theorem dX8_isLate_9 : decode cX8_isLate 9 = .ok (.lconst 0, 1) := by decide +kernel
theorem dX8_isLate_10 : decode cX8_isLate 10 = .ok (.goto 15, 3) := by decide +kernel
theorem dX8_isLate_13 : decode cX8_isLate 13 = .ok (.aload_n 0, 1) := by decide +kernel
theorem dX8_isLate_14 : decode cX8_isLate 14 = .ok (.getfield 34, 3) := by decide +kernel
theorem dX8_isLate_17 : decode cX8_isLate 17 = .ok (.aload_n 0, 1) := by decide +kernel
theorem dX8_isLate_18 : decode cX8_isLate 18 = .ok (.getfield 118, 3) := by decide +kernel
theorem dX8_isLate_21 : decode cX8_isLate 21 = .ok (.iconst 1, 1) := by decide +kernel
theorem dX8_isLate_22 : decode cX8_isLate 22 = .ok (.isub, 1) := by decide +kernel
theorem dX8_isLate_23 : decode cX8_isLate 23 = .ok (.iaload, 1) := by decide +kernel
theorem dX8_isLate_24 : decode cX8_isLate 24 = .ok (.i2l, 1) := by decide +kernel
theorem dX8_isLate_25 : decode cX8_isLate 25 = .ok (.ldc2_w 121, 3) := by decide +kernel
theorem dX8_isLate_28 : decode cX8_isLate 28 = .ok (.invokestatic 78, 3) := by decide +kernel
theorem dX8_isLate_31 : decode cX8_isLate 31 = .ok (.ireturn, 1) := by decide +kernel
theorem dX8_answer_0 : decode cX8_answer 0 = .ok (.iload_n 1, 1) := by decide +kernel
theorem dX8_answer_1 : decode cX8_answer 1 = .ok (.invokestatic 123, 3) := by decide +kernel
theorem dX8_answer_4 : decode cX8_answer 4 = .ok (.ifCond .eq 31, 3) := by decide +kernel
theorem dX8_answer_7 : decode cX8_answer 7 = .ok (.iload_n 2, 1) := by decide +kernel
theorem dX8_answer_8 : decode cX8_answer 8 = .ok (.invokestatic 126, 3) := by decide +kernel
theorem dX8_answer_11 : decode cX8_answer 11 = .ok (.ifCond .eq 24, 3) := by decide +kernel
theorem dX8_answer_14 : decode cX8_answer 14 = .ok (.iload_n 3, 1) := by decide +kernel
theorem dX8_answer_15 : decode cX8_answer 15 = .ok (.i2l, 1) := by decide +kernel
theorem dX8_answer_16 : decode cX8_answer 16 = .ok (.lconst 0, 1) := by decide +kernel
theorem dX8_answer_17 : decode cX8_answer 17 = .ok (.ldc2_w 92, 3) := by decide +kernel
theorem dX8_answer_20 : decode cX8_answer 20 = .ok (.invokestatic 78, 3) := by decide +kernel
theorem dX8_answer_23 : decode cX8_answer 23 = .ok (.ifCond .eq 12, 3) := by decide +kernel
theorem dX8_answer_26 : decode cX8_answer 26 = .ok (.aload_n 0, 1) := by decide +kernel
theorem dX8_answer_27 : decode cX8_answer 27 = .ok (.iload 4, 2) := by decide +kernel
theorem dX8_answer_29 : decode cX8_answer 29 = .ok (.invokevirtual 129, 3) := by decide +kernel
theorem dX8_answer_32 : decode cX8_answer 32 = .ok (.ifCond .ne 6, 3) := by decide +kernel
theorem dX8_answer_35 : decode cX8_answer 35 = .ok (.bipush (-2), 2) := by decide +kernel
theorem dX8_answer_37 : decode cX8_answer 37 = .ok (.ireturn, 1) := by decide +kernel
theorem dX8_answer_38 : decode cX8_answer 38 = .ok (.aload_n 0, 1) := by decide +kernel
theorem dX8_answer_39 : decode cX8_answer 39 = .ok (.getfield 118, 3) := by decide +kernel
theorem dX8_answer_42 : decode cX8_answer 42 = .ok (.sipush 160, 3) := by decide +kernel
theorem dX8_answer_45 : decode cX8_answer 45 = .ok (.if_icmp .ne 6, 3) := by decide +kernel
theorem dX8_answer_48 : decode cX8_answer 48 = .ok (.bipush (-4), 2) := by decide +kernel
theorem dX8_answer_50 : decode cX8_answer 50 = .ok (.ireturn, 1) := by decide +kernel
theorem dX8_answer_51 : decode cX8_answer 51 = .ok (.aload_n 0, 1) := by decide +kernel
theorem dX8_answer_52 : decode cX8_answer 52 = .ok (.getfield 25, 3) := by decide +kernel
theorem dX8_answer_55 : decode cX8_answer 55 = .ok (.aload_n 0, 1) := by decide +kernel
theorem dX8_answer_56 : decode cX8_answer 56 = .ok (.getfield 118, 3) := by decide +kernel
theorem dX8_answer_59 : decode cX8_answer 59 = .ok (.iload_n 1, 1) := by decide +kernel
theorem dX8_answer_60 : decode cX8_answer 60 = .ok (.iastore, 1) := by decide +kernel
theorem dX8_answer_61 : decode cX8_answer 61 = .ok (.aload_n 0, 1) := by decide +kernel
theorem dX8_answer_62 : decode cX8_answer 62 = .ok (.getfield 28, 3) := by decide +kernel
theorem dX8_answer_65 : decode cX8_answer 65 = .ok (.aload_n 0, 1) := by decide +kernel
theorem dX8_answer_66 : decode cX8_answer 66 = .ok (.getfield 118, 3) := by decide +kernel
theorem dX8_answer_69 : decode cX8_answer 69 = .ok (.iload_n 2, 1) := by decide +kernel
theorem dX8_answer_70 : decode cX8_answer 70 = .ok (.iastore, 1) := by decide +kernel
theorem dX8_answer_71 : decode cX8_answer 71 = .ok (.aload_n 0, 1) := by decide +kernel
theorem dX8_answer_72 : decode cX8_answer 72 = .ok (.getfield 31, 3) := by decide +kernel
theorem dX8_answer_75 : decode cX8_answer 75 = .ok (.aload_n 0, 1) := by decide +kernel
theorem dX8_answer_76 : decode cX8_answer 76 = .ok (.getfield 118, 3) := by decide +kernel
theorem dX8_answer_79 : decode cX8_answer 79 = .ok (.iload_n 3, 1) := by decide +kernel
theorem dX8_answer_80 : decode cX8_answer 80 = .ok (.iastore, 1) := by decide +kernel
theorem dX8_answer_81 : decode cX8_answer 81 = .ok (.aload_n 0, 1) := by decide +kernel
theorem dX8_answer_82 : decode cX8_answer 82 = .ok (.getfield 34, 3) := by decide +kernel
theorem dX8_answer_85 : decode cX8_answer 85 = .ok (.aload_n 0, 1) := by decide +kernel
theorem dX8_answer_86 : decode cX8_answer 86 = .ok (.getfield 118, 3) := by decide +kernel
theorem dX8_answer_89 : decode cX8_answer 89 = .ok (.iload 4, 2) := by decide +kernel
theorem dX8_answer_91 : decode cX8_answer 91 = .ok (.iastore, 1) := by decide +kernel
theorem dX8_answer_92 : decode cX8_answer 92 = .ok (.aload_n 0, 1) := by decide +kernel
theorem dX8_answer_93 : decode cX8_answer 93 = .ok (.dup, 1) := by decide +kernel
theorem dX8_answer_94 : decode cX8_answer 94 = .ok (.getfield 118, 3) := by decide +kernel
theorem dX8_answer_97 : decode cX8_answer 97 = .ok (.iconst 1, 1) := by decide +kernel
theorem dX8_answer_98 : decode cX8_answer 98 = .ok (.iadd, 1) := by decide +kernel
theorem dX8_answer_99 : decode cX8_answer 99 = .ok (.putfield 118, 3) := by decide +kernel
theorem dX8_answer_102 : decode cX8_answer 102 = .ok (.aload_n 0, 1) := by decide +kernel
theorem dX8_answer_103 : decode cX8_answer 103 = .ok (.getfield 118, 3) := by decide +kernel
theorem dX8_answer_106 : decode cX8_answer 106 = .ok (.ireturn, 1) := by decide +kernel
theorem dX8_read_0 : decode cX8_read 0 = .ok (.iload_n 1, 1) := by decide +kernel
theorem dX8_read_1 : decode cX8_read 1 = .ok (.invokestatic 88, 3) := by decide +kernel
theorem dX8_read_4 : decode cX8_read 4 = .ok (.ifCond .eq 18, 3) := by decide +kernel
theorem dX8_read_7 : decode cX8_read 7 = .ok (.iload_n 2, 1) := by decide +kernel
theorem dX8_read_8 : decode cX8_read 8 = .ok (.invokestatic 123, 3) := by decide +kernel
theorem dX8_read_11 : decode cX8_read 11 = .ok (.ifCond .eq 11, 3) := by decide +kernel
theorem dX8_read_14 : decode cX8_read 14 = .ok (.aload_n 0, 1) := by decide +kernel
theorem dX8_read_15 : decode cX8_read 15 = .ok (.iload_n 3, 1) := by decide +kernel
theorem dX8_read_16 : decode cX8_read 16 = .ok (.invokevirtual 129, 3) := by decide +kernel
theorem dX8_read_19 : decode cX8_read 19 = .ok (.ifCond .ne 6, 3) := by decide +kernel
theorem dX8_read_22 : decode cX8_read 22 = .ok (.bipush (-2), 2) := by decide +kernel
theorem dX8_read_24 : decode cX8_read 24 = .ok (.ireturn, 1) := by decide +kernel
theorem dX8_read_25 : decode cX8_read 25 = .ok (.aload_n 0, 1) := by decide +kernel
theorem dX8_read_26 : decode cX8_read 26 = .ok (.getfield 7, 3) := by decide +kernel
theorem dX8_read_29 : decode cX8_read 29 = .ok (.iload_n 1, 1) := by decide +kernel
theorem dX8_read_30 : decode cX8_read 30 = .ok (.iaload, 1) := by decide +kernel
theorem dX8_read_31 : decode cX8_read 31 = .ok (.ifCond .ge 9, 3) := by decide +kernel
theorem dX8_read_34 : decode cX8_read 34 = .ok (.aload_n 0, 1) := by decide +kernel
theorem dX8_read_35 : decode cX8_read 35 = .ok (.iconst 1, 1) := by decide +kernel
theorem dX8_read_36 : decode cX8_read 36 = .ok (.invokevirtual 94, 3) := by decide +kernel
theorem dX8_read_39 : decode cX8_read 39 = .ok (.ireturn, 1) := by decide +kernel
theorem dX8_read_40 : decode cX8_read 40 = .ok (.iconst 0, 1) := by decide +kernel
theorem dX8_read_41 : decode cX8_read 41 = .ok (.istore 4, 2) := by decide +kernel
theorem dX8_read_43 : decode cX8_read 43 = .ok (.iload 4, 2) := by decide +kernel
theorem dX8_read_45 : decode cX8_read 45 = .ok (.aload_n 0, 1) := by decide +kernel
theorem dX8_read_46 : decode cX8_read 46 = .ok (.getfield 13, 3) := by decide +kernel
theorem dX8_read_49 : decode cX8_read 49 = .ok (.iload_n 1, 1) := by decide +kernel
theorem dX8_read_50 : decode cX8_read 50 = .ok (.iaload, 1) := by decide +kernel
theorem dX8_read_51 : decode cX8_read 51 = .ok (.if_icmp .ge 32, 3) := by decide +kernel
theorem dX8_read_54 : decode cX8_read 54 = .ok (.aload_n 0, 1) := by decide +kernel
theorem dX8_read_55 : decode cX8_read 55 = .ok (.iload_n 2, 1) := by decide +kernel
theorem dX8_read_56 : decode cX8_read 56 = .ok (.iload 4, 2) := by decide +kernel
theorem dX8_read_58 : decode cX8_read 58 = .ok (.aload_n 0, 1) := by decide +kernel
theorem dX8_read_59 : decode cX8_read 59 = .ok (.getfield 16, 3) := by decide +kernel
theorem dX8_read_62 : decode cX8_read 62 = .ok (.bipush 60, 2) := by decide +kernel
theorem dX8_read_64 : decode cX8_read 64 = .ok (.iload_n 1, 1) := by decide +kernel
theorem dX8_read_65 : decode cX8_read 65 = .ok (.imul, 1) := by decide +kernel
theorem dX8_read_66 : decode cX8_read 66 = .ok (.iload 4, 2) := by decide +kernel
theorem dX8_read_68 : decode cX8_read 68 = .ok (.iadd, 1) := by decide +kernel
theorem dX8_read_69 : decode cX8_read 69 = .ok (.iaload, 1) := by decide +kernel
theorem dX8_read_70 : decode cX8_read 70 = .ok (.iload_n 3, 1) := by decide +kernel
theorem dX8_read_71 : decode cX8_read 71 = .ok (.invokevirtual 132, 3) := by decide +kernel
theorem dX8_read_74 : decode cX8_read 74 = .ok (.ifCond .lt 9, 3) := by decide +kernel
theorem dX8_read_77 : decode cX8_read 77 = .ok (.iinc 4 1, 3) := by decide +kernel
theorem dX8_read_80 : decode cX8_read 80 = .ok (.goto (-37), 3) := by decide +kernel
theorem dX8_read_83 : decode cX8_read 83 = .ok (.iload 4, 2) := by decide +kernel
theorem dX8_read_85 : decode cX8_read 85 = .ok (.ireturn, 1) := by decide +kernel
theorem dX8_findSays_0 : decode cX8_findSays 0 = .ok (.iconst 0, 1) := by decide +kernel
theorem dX8_findSays_1 : decode cX8_findSays 1 = .ok (.istore_n 1, 1) := by decide +kernel
theorem dX8_findSays_2 : decode cX8_findSays 2 = .ok (.iload_n 1, 1) := by decide +kernel
theorem dX8_findSays_3 : decode cX8_findSays 3 = .ok (.bipush 84, 2) := by decide +kernel
theorem dX8_findSays_5 : decode cX8_findSays 5 = .ok (.if_icmp .ge 16, 3) := by decide +kernel
theorem dX8_findSays_8 : decode cX8_findSays 8 = .ok (.aload_n 0, 1) := by decide +kernel
theorem dX8_findSays_9 : decode cX8_findSays 9 = .ok (.getfield 37, 3) := by decide +kernel
theorem dX8_findSays_12 : decode cX8_findSays 12 = .ok (.iload_n 1, 1) := by decide +kernel
theorem dX8_findSays_13 : decode cX8_findSays 13 = .ok (.iconst 2, 1) := by decide +kernel
theorem dX8_findSays_14 : decode cX8_findSays 14 = .ok (.iastore, 1) := by decide +kernel
theorem dX8_findSays_15 : decode cX8_findSays 15 = .ok (.iinc 1 1, 3) := by decide +kernel
theorem dX8_findSays_18 : decode cX8_findSays 18 = .ok (.goto (-16), 3) := by decide +kernel
theorem dX8_findSays_21 : decode cX8_findSays 21 = .ok (.iconst 0, 1) := by decide +kernel
theorem dX8_findSays_22 : decode cX8_findSays 22 = .ok (.istore_n 1, 1) := by decide +kernel
theorem dX8_findSays_23 : decode cX8_findSays 23 = .ok (.iload_n 1, 1) := by decide +kernel
theorem dX8_findSays_24 : decode cX8_findSays 24 = .ok (.aload_n 0, 1) := by decide +kernel
theorem dX8_findSays_25 : decode cX8_findSays 25 = .ok (.getfield 118, 3) := by decide +kernel
theorem dX8_findSays_28 : decode cX8_findSays 28 = .ok (.if_icmp .ge 62, 3) := by decide +kernel
theorem dX8_findSays_31 : decode cX8_findSays 31 = .ok (.bipush 7, 2) := by decide +kernel
theorem dX8_findSays_33 : decode cX8_findSays 33 = .ok (.aload_n 0, 1) := by decide +kernel
theorem dX8_findSays_34 : decode cX8_findSays 34 = .ok (.getfield 25, 3) := by decide +kernel
theorem dX8_findSays_37 : decode cX8_findSays 37 = .ok (.iload_n 1, 1) := by decide +kernel
theorem dX8_findSays_38 : decode cX8_findSays 38 = .ok (.iaload, 1) := by decide +kernel
theorem dX8_findSays_39 : decode cX8_findSays 39 = .ok (.imul, 1) := by decide +kernel
theorem dX8_findSays_40 : decode cX8_findSays 40 = .ok (.aload_n 0, 1) := by decide +kernel
theorem dX8_findSays_41 : decode cX8_findSays 41 = .ok (.getfield 28, 3) := by decide +kernel
theorem dX8_findSays_44 : decode cX8_findSays 44 = .ok (.iload_n 1, 1) := by decide +kernel
theorem dX8_findSays_45 : decode cX8_findSays 45 = .ok (.iaload, 1) := by decide +kernel
theorem dX8_findSays_46 : decode cX8_findSays 46 = .ok (.iadd, 1) := by decide +kernel
theorem dX8_findSays_47 : decode cX8_findSays 47 = .ok (.istore_n 2, 1) := by decide +kernel
theorem dX8_findSays_48 : decode cX8_findSays 48 = .ok (.aload_n 0, 1) := by decide +kernel
theorem dX8_findSays_49 : decode cX8_findSays 49 = .ok (.getfield 37, 3) := by decide +kernel
theorem dX8_findSays_52 : decode cX8_findSays 52 = .ok (.iload_n 2, 1) := by decide +kernel
theorem dX8_findSays_53 : decode cX8_findSays 53 = .ok (.aload_n 0, 1) := by decide +kernel
theorem dX8_findSays_54 : decode cX8_findSays 54 = .ok (.getfield 34, 3) := by decide +kernel
theorem dX8_findSays_57 : decode cX8_findSays 57 = .ok (.iload_n 1, 1) := by decide +kernel
theorem dX8_findSays_58 : decode cX8_findSays 58 = .ok (.iaload, 1) := by decide +kernel
theorem dX8_findSays_59 : decode cX8_findSays 59 = .ok (.aload_n 0, 1) := by decide +kernel
theorem dX8_findSays_60 : decode cX8_findSays 60 = .ok (.getfield 22, 3) := by decide +kernel
theorem dX8_findSays_63 : decode cX8_findSays 63 = .ok (.iconst 1, 1) := by decide +kernel
theorem dX8_findSays_64 : decode cX8_findSays 64 = .ok (.iaload, 1) := by decide +kernel
theorem dX8_findSays_65 : decode cX8_findSays 65 = .ok (.if_icmp .gt 12, 3) := by decide +kernel
theorem dX8_findSays_68 : decode cX8_findSays 68 = .ok (.aload_n 0, 1) := by decide +kernel
theorem dX8_findSays_69 : decode cX8_findSays 69 = .ok (.getfield 31, 3) := by decide +kernel
theorem dX8_findSays_72 : decode cX8_findSays 72 = .ok (.iload_n 1, 1) := by decide +kernel
theorem dX8_findSays_73 : decode cX8_findSays 73 = .ok (.iaload, 1) := by decide +kernel
theorem dX8_findSays_74 : decode cX8_findSays 74 = .ok (.goto 9, 3) := by decide +kernel
theorem dX8_findSays_77 : decode cX8_findSays 77 = .ok (.aload_n 0, 1) := by decide +kernel
theorem dX8_findSays_78 : decode cX8_findSays 78 = .ok (.getfield 37, 3) := by decide +kernel
theorem dX8_findSays_81 : decode cX8_findSays 81 = .ok (.iload_n 2, 1) := by decide +kernel
theorem dX8_findSays_82 : decode cX8_findSays 82 = .ok (.iaload, 1) := by decide +kernel
theorem dX8_findSays_83 : decode cX8_findSays 83 = .ok (.iastore, 1) := by decide +kernel
theorem dX8_findSays_84 : decode cX8_findSays 84 = .ok (.iinc 1 1, 3) := by decide +kernel
theorem dX8_findSays_87 : decode cX8_findSays 87 = .ok (.goto (-64), 3) := by decide +kernel
theorem dX8_findSays_90 : decode cX8_findSays 90 = .ok (.return_, 1) := by decide +kernel
theorem dX8_said_0 : decode cX8_said 0 = .ok (.iload_n 1, 1) := by decide +kernel
theorem dX8_said_1 : decode cX8_said 1 = .ok (.invokestatic 123, 3) := by decide +kernel
theorem dX8_said_4 : decode cX8_said 4 = .ok (.ifCond .eq 10, 3) := by decide +kernel
theorem dX8_said_7 : decode cX8_said 7 = .ok (.iload_n 2, 1) := by decide +kernel
theorem dX8_said_8 : decode cX8_said 8 = .ok (.invokestatic 126, 3) := by decide +kernel
theorem dX8_said_11 : decode cX8_said 11 = .ok (.ifCond .ne 6, 3) := by decide +kernel
theorem dX8_said_14 : decode cX8_said 14 = .ok (.bipush (-2), 2) := by decide +kernel
theorem dX8_said_16 : decode cX8_said 16 = .ok (.ireturn, 1) := by decide +kernel
theorem dX8_said_17 : decode cX8_said 17 = .ok (.aload_n 0, 1) := by decide +kernel
theorem dX8_said_18 : decode cX8_said 18 = .ok (.invokevirtual 136, 3) := by decide +kernel
theorem dX8_said_21 : decode cX8_said 21 = .ok (.aload_n 0, 1) := by decide +kernel
theorem dX8_said_22 : decode cX8_said 22 = .ok (.getfield 37, 3) := by decide +kernel
theorem dX8_said_25 : decode cX8_said 25 = .ok (.bipush 7, 2) := by decide +kernel
theorem dX8_said_27 : decode cX8_said 27 = .ok (.iload_n 1, 1) := by decide +kernel
theorem dX8_said_28 : decode cX8_said 28 = .ok (.imul, 1) := by decide +kernel
theorem dX8_said_29 : decode cX8_said 29 = .ok (.iload_n 2, 1) := by decide +kernel
theorem dX8_said_30 : decode cX8_said 30 = .ok (.iadd, 1) := by decide +kernel
theorem dX8_said_31 : decode cX8_said 31 = .ok (.iaload, 1) := by decide +kernel
theorem dX8_said_32 : decode cX8_said 32 = .ok (.ireturn, 1) := by decide +kernel
theorem dX8_bits_0 : decode cX8_bits 0 = .ok (.iconst 0, 1) := by decide +kernel
theorem dX8_bits_1 : decode cX8_bits 1 = .ok (.istore_n 3, 1) := by decide +kernel
theorem dX8_bits_2 : decode cX8_bits 2 = .ok (.iconst 0, 1) := by decide +kernel
theorem dX8_bits_3 : decode cX8_bits 3 = .ok (.istore 4, 2) := by decide +kernel
theorem dX8_bits_5 : decode cX8_bits 5 = .ok (.iload 4, 2) := by decide +kernel
theorem dX8_bits_7 : decode cX8_bits 7 = .ok (.aload_n 0, 1) := by decide +kernel
theorem dX8_bits_8 : decode cX8_bits 8 = .ok (.invokevirtual 111, 3) := by decide +kernel
theorem dX8_bits_11 : decode cX8_bits 11 = .ok (.if_icmp .ge 36, 3) := by decide +kernel
theorem dX8_bits_14 : decode cX8_bits 14 = .ok (.iload_n 3, 1) := by decide +kernel
theorem dX8_bits_15 : decode cX8_bits 15 = .ok (.aload_n 0, 1) := by decide +kernel
theorem dX8_bits_16 : decode cX8_bits 16 = .ok (.getfield 37, 3) := by decide +kernel
theorem dX8_bits_19 : decode cX8_bits 19 = .ok (.bipush 7, 2) := by decide +kernel
theorem dX8_bits_21 : decode cX8_bits 21 = .ok (.iload_n 1, 1) := by decide +kernel
theorem dX8_bits_22 : decode cX8_bits 22 = .ok (.imul, 1) := by decide +kernel
theorem dX8_bits_23 : decode cX8_bits 23 = .ok (.iload 4, 2) := by decide +kernel
theorem dX8_bits_25 : decode cX8_bits 25 = .ok (.iadd, 1) := by decide +kernel
theorem dX8_bits_26 : decode cX8_bits 26 = .ok (.iaload, 1) := by decide +kernel
theorem dX8_bits_27 : decode cX8_bits 27 = .ok (.iload_n 2, 1) := by decide +kernel
theorem dX8_bits_28 : decode cX8_bits 28 = .ok (.if_icmp .ne 10, 3) := by decide +kernel
theorem dX8_bits_31 : decode cX8_bits 31 = .ok (.iconst 1, 1) := by decide +kernel
theorem dX8_bits_32 : decode cX8_bits 32 = .ok (.iload 4, 2) := by decide +kernel
theorem dX8_bits_34 : decode cX8_bits 34 = .ok (.ishl, 1) := by decide +kernel
theorem dX8_bits_35 : decode cX8_bits 35 = .ok (.goto 4, 3) := by decide +kernel
theorem dX8_bits_38 : decode cX8_bits 38 = .ok (.iconst 0, 1) := by decide +kernel
theorem dX8_bits_39 : decode cX8_bits 39 = .ok (.ior, 1) := by decide +kernel
theorem dX8_bits_40 : decode cX8_bits 40 = .ok (.istore_n 3, 1) := by decide +kernel
theorem dX8_bits_41 : decode cX8_bits 41 = .ok (.iinc 4 1, 3) := by decide +kernel
theorem dX8_bits_44 : decode cX8_bits 44 = .ok (.goto (-39), 3) := by decide +kernel
theorem dX8_bits_47 : decode cX8_bits 47 = .ok (.iload_n 3, 1) := by decide +kernel
theorem dX8_bits_48 : decode cX8_bits 48 = .ok (.ireturn, 1) := by decide +kernel
theorem dX8_type_0 : decode cX8_type 0 = .ok (.iload_n 1, 1) := by decide +kernel
theorem dX8_type_1 : decode cX8_type 1 = .ok (.i2l, 1) := by decide +kernel
theorem dX8_type_2 : decode cX8_type 2 = .ok (.lconst 0, 1) := by decide +kernel
theorem dX8_type_3 : decode cX8_type 3 = .ok (.ldc2_w 139, 3) := by decide +kernel
theorem dX8_type_6 : decode cX8_type 6 = .ok (.invokestatic 78, 3) := by decide +kernel
theorem dX8_type_9 : decode cX8_type 9 = .ok (.ifCond .ne 6, 3) := by decide +kernel
theorem dX8_type_12 : decode cX8_type 12 = .ok (.bipush (-2), 2) := by decide +kernel
theorem dX8_type_14 : decode cX8_type 14 = .ok (.ireturn, 1) := by decide +kernel
theorem dX8_type_15 : decode cX8_type 15 = .ok (.aload_n 0, 1) := by decide +kernel
theorem dX8_type_16 : decode cX8_type 16 = .ok (.getfield 141, 3) := by decide +kernel
theorem dX8_type_19 : decode cX8_type 19 = .ok (.bipush 60, 2) := by decide +kernel
theorem dX8_type_21 : decode cX8_type 21 = .ok (.if_icmp .ne 6, 3) := by decide +kernel
theorem dX8_type_24 : decode cX8_type 24 = .ok (.bipush (-4), 2) := by decide +kernel
theorem dX8_type_26 : decode cX8_type 26 = .ok (.ireturn, 1) := by decide +kernel
theorem dX8_type_27 : decode cX8_type 27 = .ok (.aload_n 0, 1) := by decide +kernel
theorem dX8_type_28 : decode cX8_type 28 = .ok (.getfield 40, 3) := by decide +kernel
theorem dX8_type_31 : decode cX8_type 31 = .ok (.aload_n 0, 1) := by decide +kernel
theorem dX8_type_32 : decode cX8_type 32 = .ok (.getfield 141, 3) := by decide +kernel
theorem dX8_type_35 : decode cX8_type 35 = .ok (.iload_n 1, 1) := by decide +kernel
theorem dX8_type_36 : decode cX8_type 36 = .ok (.iastore, 1) := by decide +kernel
theorem dX8_type_37 : decode cX8_type 37 = .ok (.aload_n 0, 1) := by decide +kernel
theorem dX8_type_38 : decode cX8_type 38 = .ok (.dup, 1) := by decide +kernel
theorem dX8_type_39 : decode cX8_type 39 = .ok (.getfield 141, 3) := by decide +kernel
theorem dX8_type_42 : decode cX8_type 42 = .ok (.iconst 1, 1) := by decide +kernel
theorem dX8_type_43 : decode cX8_type 43 = .ok (.iadd, 1) := by decide +kernel
theorem dX8_type_44 : decode cX8_type 44 = .ok (.putfield 141, 3) := by decide +kernel
theorem dX8_type_47 : decode cX8_type 47 = .ok (.aload_n 0, 1) := by decide +kernel
theorem dX8_type_48 : decode cX8_type 48 = .ok (.getfield 141, 3) := by decide +kernel
theorem dX8_type_51 : decode cX8_type 51 = .ok (.ireturn, 1) := by decide +kernel
theorem dX8_wipe_0 : decode cX8_wipe 0 = .ok (.aload_n 0, 1) := by decide +kernel
theorem dX8_wipe_1 : decode cX8_wipe 1 = .ok (.getfield 141, 3) := by decide +kernel
theorem dX8_wipe_4 : decode cX8_wipe 4 = .ok (.istore_n 1, 1) := by decide +kernel
theorem dX8_wipe_5 : decode cX8_wipe 5 = .ok (.aload_n 0, 1) := by decide +kernel
theorem dX8_wipe_6 : decode cX8_wipe 6 = .ok (.iconst 0, 1) := by decide +kernel
theorem dX8_wipe_7 : decode cX8_wipe 7 = .ok (.putfield 141, 3) := by decide +kernel
theorem dX8_wipe_10 : decode cX8_wipe 10 = .ok (.iload_n 1, 1) := by decide +kernel
theorem dX8_wipe_11 : decode cX8_wipe 11 = .ok (.ireturn, 1) := by decide +kernel
theorem dX8_here_0 : decode cX8_here 0 = .ok (.aload_n 0, 1) := by decide +kernel
theorem dX8_here_1 : decode cX8_here 1 = .ok (.getfield 144, 3) := by decide +kernel
theorem dX8_here_4 : decode cX8_here 4 = .ok (.aload_n 0, 1) := by decide +kernel
theorem dX8_here_5 : decode cX8_here 5 = .ok (.getfield 141, 3) := by decide +kernel
theorem dX8_here_8 : decode cX8_here 8 = .ok (.if_icmp .ge 15, 3) := by decide +kernel
theorem dX8_here_11 : decode cX8_here 11 = .ok (.aload_n 0, 1) := by decide +kernel
theorem dX8_here_12 : decode cX8_here 12 = .ok (.getfield 40, 3) := by decide +kernel
theorem dX8_here_15 : decode cX8_here 15 = .ok (.aload_n 0, 1) := by decide +kernel
theorem dX8_here_16 : decode cX8_here 16 = .ok (.getfield 144, 3) := by decide +kernel
theorem dX8_here_19 : decode cX8_here 19 = .ok (.iaload, 1) := by decide +kernel
theorem dX8_here_20 : decode cX8_here 20 = .ok (.goto 4, 3) := by decide +kernel
theorem dX8_here_23 : decode cX8_here 23 = .ok (.iconst (-1), 1) := by decide +kernel
theorem dX8_here_24 : decode cX8_here 24 = .ok (.ireturn, 1) := by decide +kernel
theorem dX8_clears_0 : decode cX8_clears 0 = .ok (.aload_n 0, 1) := by decide +kernel
theorem dX8_clears_1 : decode cX8_clears 1 = .ok (.iconst 0, 1) := by decide +kernel
theorem dX8_clears_2 : decode cX8_clears 2 = .ok (.putfield 147, 3) := by decide +kernel
theorem dX8_clears_5 : decode cX8_clears 5 = .ok (.iconst 0, 1) := by decide +kernel
theorem dX8_clears_6 : decode cX8_clears 6 = .ok (.istore_n 1, 1) := by decide +kernel
theorem dX8_clears_7 : decode cX8_clears 7 = .ok (.iload_n 1, 1) := by decide +kernel
theorem dX8_clears_8 : decode cX8_clears 8 = .ok (.bipush 7, 2) := by decide +kernel
theorem dX8_clears_10 : decode cX8_clears 10 = .ok (.if_icmp .ge 16, 3) := by decide +kernel
theorem dX8_clears_13 : decode cX8_clears 13 = .ok (.aload_n 0, 1) := by decide +kernel
theorem dX8_clears_14 : decode cX8_clears 14 = .ok (.getfield 43, 3) := by decide +kernel
theorem dX8_clears_17 : decode cX8_clears 17 = .ok (.iload_n 1, 1) := by decide +kernel
theorem dX8_clears_18 : decode cX8_clears 18 = .ok (.iconst 0, 1) := by decide +kernel
theorem dX8_clears_19 : decode cX8_clears 19 = .ok (.iastore, 1) := by decide +kernel
theorem dX8_clears_20 : decode cX8_clears 20 = .ok (.iinc 1 1, 3) := by decide +kernel
theorem dX8_clears_23 : decode cX8_clears 23 = .ok (.goto (-16), 3) := by decide +kernel
theorem dX8_clears_26 : decode cX8_clears 26 = .ok (.return_, 1) := by decide +kernel
theorem dX8_takes_0 : decode cX8_takes 0 = .ok (.aload_n 0, 1) := by decide +kernel
theorem dX8_takes_1 : decode cX8_takes 1 = .ok (.invokevirtual 150, 3) := by decide +kernel
theorem dX8_takes_4 : decode cX8_takes 4 = .ok (.iload_n 1, 1) := by decide +kernel
theorem dX8_takes_5 : decode cX8_takes 5 = .ok (.if_icmp .eq 5, 3) := by decide +kernel
theorem dX8_takes_8 : decode cX8_takes 8 = .ok (.iconst 0, 1) := by decide +kernel
theorem dX8_takes_9 : decode cX8_takes 9 = .ok (.ireturn, 1) := by decide +kernel
theorem dX8_takes_10 : decode cX8_takes 10 = .ok (.aload_n 0, 1) := by decide +kernel
theorem dX8_takes_11 : decode cX8_takes 11 = .ok (.dup, 1) := by decide +kernel
theorem dX8_takes_12 : decode cX8_takes 12 = .ok (.getfield 144, 3) := by decide +kernel
theorem dX8_takes_15 : decode cX8_takes 15 = .ok (.iconst 1, 1) := by decide +kernel
theorem dX8_takes_16 : decode cX8_takes 16 = .ok (.iadd, 1) := by decide +kernel
theorem dX8_takes_17 : decode cX8_takes 17 = .ok (.putfield 144, 3) := by decide +kernel
theorem dX8_takes_20 : decode cX8_takes 20 = .ok (.iconst 1, 1) := by decide +kernel
theorem dX8_takes_21 : decode cX8_takes 21 = .ok (.ireturn, 1) := by decide +kernel
theorem dX8_ahead_0 : decode cX8_ahead 0 = .ok (.iload_n 1, 1) := by decide +kernel
theorem dX8_ahead_1 : decode cX8_ahead 1 = .ok (.istore_n 2, 1) := by decide +kernel
theorem dX8_ahead_2 : decode cX8_ahead 2 = .ok (.iconst 0, 1) := by decide +kernel
theorem dX8_ahead_3 : decode cX8_ahead 3 = .ok (.istore_n 3, 1) := by decide +kernel
theorem dX8_ahead_4 : decode cX8_ahead 4 = .ok (.iload_n 3, 1) := by decide +kernel
theorem dX8_ahead_5 : decode cX8_ahead 5 = .ok (.bipush 7, 2) := by decide +kernel
theorem dX8_ahead_7 : decode cX8_ahead 7 = .ok (.if_icmp .ge 48, 3) := by decide +kernel
theorem dX8_ahead_10 : decode cX8_ahead 10 = .ok (.iconst 0, 1) := by decide +kernel
theorem dX8_ahead_11 : decode cX8_ahead 11 = .ok (.istore 4, 2) := by decide +kernel
theorem dX8_ahead_13 : decode cX8_ahead 13 = .ok (.iload 4, 2) := by decide +kernel
theorem dX8_ahead_15 : decode cX8_ahead 15 = .ok (.bipush 7, 2) := by decide +kernel
theorem dX8_ahead_17 : decode cX8_ahead 17 = .ok (.if_icmp .ge 32, 3) := by decide +kernel
theorem dX8_ahead_20 : decode cX8_ahead 20 = .ok (.iload_n 2, 1) := by decide +kernel
theorem dX8_ahead_21 : decode cX8_ahead 21 = .ok (.iload_n 2, 1) := by decide +kernel
theorem dX8_ahead_22 : decode cX8_ahead 22 = .ok (.iload 4, 2) := by decide +kernel
theorem dX8_ahead_24 : decode cX8_ahead 24 = .ok (.invokestatic 153, 3) := by decide +kernel
theorem dX8_ahead_27 : decode cX8_ahead 27 = .ok (.ifCond .eq 13, 3) := by decide +kernel
theorem dX8_ahead_30 : decode cX8_ahead 30 = .ok (.aload_n 0, 1) := by decide +kernel
theorem dX8_ahead_31 : decode cX8_ahead 31 = .ok (.getfield 43, 3) := by decide +kernel
theorem dX8_ahead_34 : decode cX8_ahead 34 = .ok (.iload 4, 2) := by decide +kernel
theorem dX8_ahead_36 : decode cX8_ahead 36 = .ok (.iaload, 1) := by decide +kernel
theorem dX8_ahead_37 : decode cX8_ahead 37 = .ok (.goto 4, 3) := by decide +kernel
theorem dX8_ahead_40 : decode cX8_ahead 40 = .ok (.iconst 0, 1) := by decide +kernel
theorem dX8_ahead_41 : decode cX8_ahead 41 = .ok (.ior, 1) := by decide +kernel
theorem dX8_ahead_42 : decode cX8_ahead 42 = .ok (.istore_n 2, 1) := by decide +kernel
theorem dX8_ahead_43 : decode cX8_ahead 43 = .ok (.iinc 4 1, 3) := by decide +kernel
theorem dX8_ahead_46 : decode cX8_ahead 46 = .ok (.goto (-33), 3) := by decide +kernel
theorem dX8_ahead_49 : decode cX8_ahead 49 = .ok (.iinc 3 1, 3) := by decide +kernel
theorem dX8_ahead_52 : decode cX8_ahead 52 = .ok (.goto (-48), 3) := by decide +kernel
theorem dX8_ahead_55 : decode cX8_ahead 55 = .ok (.iload_n 2, 1) := by decide +kernel
theorem dX8_ahead_56 : decode cX8_ahead 56 = .ok (.ireturn, 1) := by decide +kernel
theorem dX8_readsPart_0 : decode cX8_readsPart 0 = .ok (.aload_n 0, 1) := by decide +kernel
theorem dX8_readsPart_1 : decode cX8_readsPart 1 = .ok (.invokevirtual 150, 3) := by decide +kernel
theorem dX8_readsPart_4 : decode cX8_readsPart 4 = .ok (.bipush 97, 2) := by decide +kernel
theorem dX8_readsPart_6 : decode cX8_readsPart 6 = .ok (.isub, 1) := by decide +kernel
theorem dX8_readsPart_7 : decode cX8_readsPart 7 = .ok (.istore_n 1, 1) := by decide +kernel
theorem dX8_readsPart_8 : decode cX8_readsPart 8 = .ok (.iload_n 1, 1) := by decide +kernel
theorem dX8_readsPart_9 : decode cX8_readsPart 9 = .ok (.invokestatic 126, 3) := by decide +kernel
theorem dX8_readsPart_12 : decode cX8_readsPart 12 = .ok (.ifCond .ne 5, 3) := by decide +kernel
theorem dX8_readsPart_15 : decode cX8_readsPart 15 = .ok (.iconst 0, 1) := by decide +kernel
theorem dX8_readsPart_16 : decode cX8_readsPart 16 = .ok (.ireturn, 1) := by decide +kernel
theorem dX8_readsPart_17 : decode cX8_readsPart 17 = .ok (.aload_n 0, 1) := by decide +kernel
theorem dX8_readsPart_18 : decode cX8_readsPart 18 = .ok (.dup, 1) := by decide +kernel
theorem dX8_readsPart_19 : decode cX8_readsPart 19 = .ok (.getfield 144, 3) := by decide +kernel
theorem dX8_readsPart_22 : decode cX8_readsPart 22 = .ok (.iconst 1, 1) := by decide +kernel
theorem dX8_readsPart_23 : decode cX8_readsPart 23 = .ok (.iadd, 1) := by decide +kernel
theorem dX8_readsPart_24 : decode cX8_readsPart 24 = .ok (.putfield 144, 3) := by decide +kernel
theorem dX8_readsPart_27 : decode cX8_readsPart 27 = .ok (.aload_n 0, 1) := by decide +kernel
theorem dX8_readsPart_28 : decode cX8_readsPart 28 = .ok (.bipush 60, 2) := by decide +kernel
theorem dX8_readsPart_30 : decode cX8_readsPart 30 = .ok (.invokevirtual 157, 3) := by decide +kernel
theorem dX8_readsPart_33 : decode cX8_readsPart 33 = .ok (.ifCond .ne 5, 3) := by decide +kernel
theorem dX8_readsPart_36 : decode cX8_readsPart 36 = .ok (.iconst 0, 1) := by decide +kernel
theorem dX8_readsPart_37 : decode cX8_readsPart 37 = .ok (.ireturn, 1) := by decide +kernel
theorem dX8_readsPart_38 : decode cX8_readsPart 38 = .ok (.aload_n 0, 1) := by decide +kernel
theorem dX8_readsPart_39 : decode cX8_readsPart 39 = .ok (.invokevirtual 150, 3) := by decide +kernel
theorem dX8_readsPart_42 : decode cX8_readsPart 42 = .ok (.bipush 97, 2) := by decide +kernel
theorem dX8_readsPart_44 : decode cX8_readsPart 44 = .ok (.isub, 1) := by decide +kernel
theorem dX8_readsPart_45 : decode cX8_readsPart 45 = .ok (.istore_n 2, 1) := by decide +kernel
theorem dX8_readsPart_46 : decode cX8_readsPart 46 = .ok (.iload_n 2, 1) := by decide +kernel
theorem dX8_readsPart_47 : decode cX8_readsPart 47 = .ok (.invokestatic 126, 3) := by decide +kernel
theorem dX8_readsPart_50 : decode cX8_readsPart 50 = .ok (.ifCond .eq 17, 3) := by decide +kernel
theorem dX8_readsPart_53 : decode cX8_readsPart 53 = .ok (.aload_n 0, 1) := by decide +kernel
theorem dX8_readsPart_54 : decode cX8_readsPart 54 = .ok (.iconst 1, 1) := by decide +kernel
theorem dX8_readsPart_55 : decode cX8_readsPart 55 = .ok (.iload_n 1, 1) := by decide +kernel
theorem dX8_readsPart_56 : decode cX8_readsPart 56 = .ok (.ishl, 1) := by decide +kernel
theorem dX8_readsPart_57 : decode cX8_readsPart 57 = .ok (.invokevirtual 160, 3) := by decide +kernel
theorem dX8_readsPart_60 : decode cX8_readsPart 60 = .ok (.iload_n 2, 1) := by decide +kernel
theorem dX8_readsPart_61 : decode cX8_readsPart 61 = .ok (.invokestatic 153, 3) := by decide +kernel
theorem dX8_readsPart_64 : decode cX8_readsPart 64 = .ok (.ifCond .eq 5, 3) := by decide +kernel
theorem dX8_readsPart_67 : decode cX8_readsPart 67 = .ok (.iconst 0, 1) := by decide +kernel
theorem dX8_readsPart_68 : decode cX8_readsPart 68 = .ok (.ireturn, 1) := by decide +kernel
theorem dX8_readsPart_69 : decode cX8_readsPart 69 = .ok (.aload_n 0, 1) := by decide +kernel
theorem dX8_readsPart_70 : decode cX8_readsPart 70 = .ok (.dup, 1) := by decide +kernel
theorem dX8_readsPart_71 : decode cX8_readsPart 71 = .ok (.getfield 144, 3) := by decide +kernel
theorem dX8_readsPart_74 : decode cX8_readsPart 74 = .ok (.iconst 1, 1) := by decide +kernel
theorem dX8_readsPart_75 : decode cX8_readsPart 75 = .ok (.iadd, 1) := by decide +kernel
theorem dX8_readsPart_76 : decode cX8_readsPart 76 = .ok (.putfield 144, 3) := by decide +kernel
theorem dX8_readsPart_79 : decode cX8_readsPart 79 = .ok (.aload_n 0, 1) := by decide +kernel
theorem dX8_readsPart_80 : decode cX8_readsPart 80 = .ok (.getfield 43, 3) := by decide +kernel
theorem dX8_readsPart_83 : decode cX8_readsPart 83 = .ok (.iload_n 2, 1) := by decide +kernel
theorem dX8_readsPart_84 : decode cX8_readsPart 84 = .ok (.dup2, 1) := by decide +kernel
theorem dX8_readsPart_85 : decode cX8_readsPart 85 = .ok (.iaload, 1) := by decide +kernel
theorem dX8_readsPart_86 : decode cX8_readsPart 86 = .ok (.iconst 1, 1) := by decide +kernel
theorem dX8_readsPart_87 : decode cX8_readsPart 87 = .ok (.iload_n 1, 1) := by decide +kernel
theorem dX8_readsPart_88 : decode cX8_readsPart 88 = .ok (.ishl, 1) := by decide +kernel
theorem dX8_readsPart_89 : decode cX8_readsPart 89 = .ok (.ior, 1) := by decide +kernel
theorem dX8_readsPart_90 : decode cX8_readsPart 90 = .ok (.iastore, 1) := by decide +kernel
theorem dX8_readsPart_91 : decode cX8_readsPart 91 = .ok (.aload_n 0, 1) := by decide +kernel
theorem dX8_readsPart_92 : decode cX8_readsPart 92 = .ok (.dup, 1) := by decide +kernel
theorem dX8_readsPart_93 : decode cX8_readsPart 93 = .ok (.getfield 147, 3) := by decide +kernel
theorem dX8_readsPart_96 : decode cX8_readsPart 96 = .ok (.iconst 1, 1) := by decide +kernel
theorem dX8_readsPart_97 : decode cX8_readsPart 97 = .ok (.iadd, 1) := by decide +kernel
theorem dX8_readsPart_98 : decode cX8_readsPart 98 = .ok (.putfield 147, 3) := by decide +kernel
theorem dX8_readsPart_101 : decode cX8_readsPart 101 = .ok (.iconst 1, 1) := by decide +kernel
theorem dX8_readsPart_102 : decode cX8_readsPart 102 = .ok (.ireturn, 1) := by decide +kernel
theorem dX8_reads_0 : decode cX8_reads 0 = .ok (.aload_n 0, 1) := by decide +kernel
theorem dX8_reads_1 : decode cX8_reads 1 = .ok (.iconst 0, 1) := by decide +kernel
theorem dX8_reads_2 : decode cX8_reads 2 = .ok (.putfield 144, 3) := by decide +kernel
theorem dX8_reads_5 : decode cX8_reads 5 = .ok (.aload_n 0, 1) := by decide +kernel
theorem dX8_reads_6 : decode cX8_reads 6 = .ok (.invokevirtual 163, 3) := by decide +kernel
theorem dX8_reads_9 : decode cX8_reads 9 = .ok (.aload_n 0, 1) := by decide +kernel
theorem dX8_reads_10 : decode cX8_reads 10 = .ok (.getfield 141, 3) := by decide +kernel
theorem dX8_reads_13 : decode cX8_reads 13 = .ok (.ifCond .le 7, 3) := by decide +kernel
theorem dX8_reads_16 : decode cX8_reads 16 = .ok (.iconst 1, 1) := by decide +kernel
theorem dX8_reads_17 : decode cX8_reads 17 = .ok (.goto 4, 3) := by decide +kernel
theorem dX8_reads_20 : decode cX8_reads 20 = .ok (.iconst 0, 1) := by decide +kernel
theorem dX8_reads_21 : decode cX8_reads 21 = .ok (.istore_n 1, 1) := by decide +kernel
theorem dX8_reads_22 : decode cX8_reads 22 = .ok (.iload_n 1, 1) := by decide +kernel
theorem dX8_reads_23 : decode cX8_reads 23 = .ok (.ifCond .eq 58, 3) := by decide +kernel
theorem dX8_reads_26 : decode cX8_reads 26 = .ok (.aload_n 0, 1) := by decide +kernel
theorem dX8_reads_27 : decode cX8_reads 27 = .ok (.invokevirtual 166, 3) := by decide +kernel
theorem dX8_reads_30 : decode cX8_reads 30 = .ok (.ifCond .ne 12, 3) := by decide +kernel
theorem dX8_reads_33 : decode cX8_reads 33 = .ok (.aload_n 0, 1) := by decide +kernel
theorem dX8_reads_34 : decode cX8_reads 34 = .ok (.invokevirtual 163, 3) := by decide +kernel
theorem dX8_reads_37 : decode cX8_reads 37 = .ok (.aload_n 0, 1) := by decide +kernel
theorem dX8_reads_38 : decode cX8_reads 38 = .ok (.getfield 144, 3) := by decide +kernel
theorem dX8_reads_41 : decode cX8_reads 41 = .ok (.ireturn, 1) := by decide +kernel
theorem dX8_reads_42 : decode cX8_reads 42 = .ok (.aload_n 0, 1) := by decide +kernel
theorem dX8_reads_43 : decode cX8_reads 43 = .ok (.getfield 144, 3) := by decide +kernel
theorem dX8_reads_46 : decode cX8_reads 46 = .ok (.aload_n 0, 1) := by decide +kernel
theorem dX8_reads_47 : decode cX8_reads 47 = .ok (.getfield 141, 3) := by decide +kernel
theorem dX8_reads_50 : decode cX8_reads 50 = .ok (.if_icmp .ge 7, 3) := by decide +kernel
theorem dX8_reads_53 : decode cX8_reads 53 = .ok (.iconst 1, 1) := by decide +kernel
theorem dX8_reads_54 : decode cX8_reads 54 = .ok (.goto 4, 3) := by decide +kernel
theorem dX8_reads_57 : decode cX8_reads 57 = .ok (.iconst 0, 1) := by decide +kernel
theorem dX8_reads_58 : decode cX8_reads 58 = .ok (.istore_n 1, 1) := by decide +kernel
theorem dX8_reads_59 : decode cX8_reads 59 = .ok (.iload_n 1, 1) := by decide +kernel
theorem dX8_reads_60 : decode cX8_reads 60 = .ok (.ifCond .eq (-38), 3) := by decide +kernel
theorem dX8_reads_63 : decode cX8_reads 63 = .ok (.aload_n 0, 1) := by decide +kernel
theorem dX8_reads_64 : decode cX8_reads 64 = .ok (.bipush 59, 2) := by decide +kernel
theorem dX8_reads_66 : decode cX8_reads 66 = .ok (.invokevirtual 157, 3) := by decide +kernel
theorem dX8_reads_69 : decode cX8_reads 69 = .ok (.ifCond .ne (-47), 3) := by decide +kernel
theorem dX8_reads_72 : decode cX8_reads 72 = .ok (.aload_n 0, 1) := by decide +kernel
theorem dX8_reads_73 : decode cX8_reads 73 = .ok (.invokevirtual 163, 3) := by decide +kernel
theorem dX8_reads_76 : decode cX8_reads 76 = .ok (.aload_n 0, 1) := by decide +kernel
theorem dX8_reads_77 : decode cX8_reads 77 = .ok (.getfield 144, 3) := by decide +kernel
theorem dX8_reads_80 : decode cX8_reads 80 = .ok (.ireturn, 1) := by decide +kernel
theorem dX8_reads_81 : decode cX8_reads 81 = .ok (.iconst (-1), 1) := by decide +kernel
theorem dX8_reads_82 : decode cX8_reads 82 = .ok (.ireturn, 1) := by decide +kernel
theorem dX8_fault_0 : decode cX8_fault 0 = .ok (.aload_n 0, 1) := by decide +kernel
theorem dX8_fault_1 : decode cX8_fault 1 = .ok (.invokevirtual 170, 3) := by decide +kernel
theorem dX8_fault_4 : decode cX8_fault 4 = .ok (.ireturn, 1) := by decide +kernel
theorem dX8_isFound_0 : decode cX8_isFound 0 = .ok (.iconst 0, 1) := by decide +kernel
theorem dX8_isFound_1 : decode cX8_isFound 1 = .ok (.istore_n 3, 1) := by decide +kernel
theorem dX8_isFound_2 : decode cX8_isFound 2 = .ok (.iconst 0, 1) := by decide +kernel
theorem dX8_isFound_3 : decode cX8_isFound 3 = .ok (.istore 4, 2) := by decide +kernel
theorem dX8_isFound_5 : decode cX8_isFound 5 = .ok (.iconst 0, 1) := by decide +kernel
theorem dX8_isFound_6 : decode cX8_isFound 6 = .ok (.istore 5, 2) := by decide +kernel
theorem dX8_isFound_8 : decode cX8_isFound 8 = .ok (.iload 5, 2) := by decide +kernel
theorem dX8_isFound_10 : decode cX8_isFound 10 = .ok (.bipush 12, 2) := by decide +kernel
theorem dX8_isFound_12 : decode cX8_isFound 12 = .ok (.if_icmp .ge 77, 3) := by decide +kernel
theorem dX8_isFound_15 : decode cX8_isFound 15 = .ok (.aload_n 0, 1) := by decide +kernel
theorem dX8_isFound_16 : decode cX8_isFound 16 = .ok (.getfield 37, 3) := by decide +kernel
theorem dX8_isFound_19 : decode cX8_isFound 19 = .ok (.bipush 7, 2) := by decide +kernel
theorem dX8_isFound_21 : decode cX8_isFound 21 = .ok (.iload 5, 2) := by decide +kernel
theorem dX8_isFound_23 : decode cX8_isFound 23 = .ok (.imul, 1) := by decide +kernel
theorem dX8_isFound_24 : decode cX8_isFound 24 = .ok (.iload_n 1, 1) := by decide +kernel
theorem dX8_isFound_25 : decode cX8_isFound 25 = .ok (.iadd, 1) := by decide +kernel
theorem dX8_isFound_26 : decode cX8_isFound 26 = .ok (.iaload, 1) := by decide +kernel
theorem dX8_isFound_27 : decode cX8_isFound 27 = .ok (.istore 6, 2) := by decide +kernel
theorem dX8_isFound_29 : decode cX8_isFound 29 = .ok (.aload_n 0, 1) := by decide +kernel
theorem dX8_isFound_30 : decode cX8_isFound 30 = .ok (.getfield 37, 3) := by decide +kernel
theorem dX8_isFound_33 : decode cX8_isFound 33 = .ok (.bipush 7, 2) := by decide +kernel
theorem dX8_isFound_35 : decode cX8_isFound 35 = .ok (.iload 5, 2) := by decide +kernel
theorem dX8_isFound_37 : decode cX8_isFound 37 = .ok (.imul, 1) := by decide +kernel
theorem dX8_isFound_38 : decode cX8_isFound 38 = .ok (.iload_n 2, 1) := by decide +kernel
theorem dX8_isFound_39 : decode cX8_isFound 39 = .ok (.iadd, 1) := by decide +kernel
theorem dX8_isFound_40 : decode cX8_isFound 40 = .ok (.iaload, 1) := by decide +kernel
theorem dX8_isFound_41 : decode cX8_isFound 41 = .ok (.istore 7, 2) := by decide +kernel
theorem dX8_isFound_43 : decode cX8_isFound 43 = .ok (.iload_n 3, 1) := by decide +kernel
theorem dX8_isFound_44 : decode cX8_isFound 44 = .ok (.iload 6, 2) := by decide +kernel
theorem dX8_isFound_46 : decode cX8_isFound 46 = .ok (.iconst 1, 1) := by decide +kernel
theorem dX8_isFound_47 : decode cX8_isFound 47 = .ok (.if_icmp .ne 12, 3) := by decide +kernel
theorem dX8_isFound_50 : decode cX8_isFound 50 = .ok (.iload 7, 2) := by decide +kernel
theorem dX8_isFound_52 : decode cX8_isFound 52 = .ok (.ifCond .ne 7, 3) := by decide +kernel
theorem dX8_isFound_55 : decode cX8_isFound 55 = .ok (.iconst 1, 1) := by decide +kernel
theorem dX8_isFound_56 : decode cX8_isFound 56 = .ok (.goto 4, 3) := by decide +kernel
theorem dX8_isFound_59 : decode cX8_isFound 59 = .ok (.iconst 0, 1) := by decide +kernel
theorem dX8_isFound_60 : decode cX8_isFound 60 = .ok (.iadd, 1) := by decide +kernel
theorem dX8_isFound_61 : decode cX8_isFound 61 = .ok (.istore_n 3, 1) := by decide +kernel
theorem dX8_isFound_62 : decode cX8_isFound 62 = .ok (.iload 4, 2) := by decide +kernel
theorem dX8_isFound_64 : decode cX8_isFound 64 = .ok (.iload 6, 2) := by decide +kernel
theorem dX8_isFound_66 : decode cX8_isFound 66 = .ok (.ifCond .ne 13, 3) := by decide +kernel
theorem dX8_isFound_69 : decode cX8_isFound 69 = .ok (.iload 7, 2) := by decide +kernel
theorem dX8_isFound_71 : decode cX8_isFound 71 = .ok (.iconst 1, 1) := by decide +kernel
theorem dX8_isFound_72 : decode cX8_isFound 72 = .ok (.if_icmp .ne 7, 3) := by decide +kernel
theorem dX8_isFound_75 : decode cX8_isFound 75 = .ok (.iconst 1, 1) := by decide +kernel
theorem dX8_isFound_76 : decode cX8_isFound 76 = .ok (.goto 4, 3) := by decide +kernel
theorem dX8_isFound_79 : decode cX8_isFound 79 = .ok (.iconst 0, 1) := by decide +kernel
theorem dX8_isFound_80 : decode cX8_isFound 80 = .ok (.iadd, 1) := by decide +kernel
theorem dX8_isFound_81 : decode cX8_isFound 81 = .ok (.istore 4, 2) := by decide +kernel
theorem dX8_isFound_83 : decode cX8_isFound 83 = .ok (.iinc 5 1, 3) := by decide +kernel
theorem dX8_isFound_86 : decode cX8_isFound 86 = .ok (.goto (-78), 3) := by decide +kernel
theorem dX8_isFound_89 : decode cX8_isFound 89 = .ok (.iload 4, 2) := by decide +kernel
theorem dX8_isFound_91 : decode cX8_isFound 91 = .ok (.aload_n 0, 1) := by decide +kernel
theorem dX8_isFound_92 : decode cX8_isFound 92 = .ok (.getfield 22, 3) := by decide +kernel
theorem dX8_isFound_95 : decode cX8_isFound 95 = .ok (.iconst 2, 1) := by decide +kernel
theorem dX8_isFound_96 : decode cX8_isFound 96 = .ok (.iaload, 1) := by decide +kernel
theorem dX8_isFound_97 : decode cX8_isFound 97 = .ok (.if_icmp .gt 13, 3) := by decide +kernel
theorem dX8_isFound_100 : decode cX8_isFound 100 = .ok (.iload 4, 2) := by decide +kernel
theorem dX8_isFound_102 : decode cX8_isFound 102 = .ok (.iload_n 3, 1) := by decide +kernel
theorem dX8_isFound_103 : decode cX8_isFound 103 = .ok (.if_icmp .ge 7, 3) := by decide +kernel
theorem dX8_isFound_106 : decode cX8_isFound 106 = .ok (.iconst 1, 1) := by decide +kernel
theorem dX8_isFound_107 : decode cX8_isFound 107 = .ok (.goto 4, 3) := by decide +kernel
theorem dX8_isFound_110 : decode cX8_isFound 110 = .ok (.iconst 0, 1) := by decide +kernel
theorem dX8_isFound_111 : decode cX8_isFound 111 = .ok (.ireturn, 1) := by decide +kernel
theorem dX8_isNeeded_0 : decode cX8_isNeeded 0 = .ok (.iload_n 1, 1) := by decide +kernel
theorem dX8_isNeeded_1 : decode cX8_isNeeded 1 = .ok (.iload_n 2, 1) := by decide +kernel
theorem dX8_isNeeded_2 : decode cX8_isNeeded 2 = .ok (.if_icmp .eq 36, 3) := by decide +kernel
theorem dX8_isNeeded_5 : decode cX8_isNeeded 5 = .ok (.iload_n 3, 1) := by decide +kernel
theorem dX8_isNeeded_6 : decode cX8_isNeeded 6 = .ok (.ifCond .ne 19, 3) := by decide +kernel
theorem dX8_isNeeded_9 : decode cX8_isNeeded 9 = .ok (.aload_n 0, 1) := by decide +kernel
theorem dX8_isNeeded_10 : decode cX8_isNeeded 10 = .ok (.getfield 43, 3) := by decide +kernel
theorem dX8_isNeeded_13 : decode cX8_isNeeded 13 = .ok (.iload_n 2, 1) := by decide +kernel
theorem dX8_isNeeded_14 : decode cX8_isNeeded 14 = .ok (.iaload, 1) := by decide +kernel
theorem dX8_isNeeded_15 : decode cX8_isNeeded 15 = .ok (.iload_n 1, 1) := by decide +kernel
theorem dX8_isNeeded_16 : decode cX8_isNeeded 16 = .ok (.invokestatic 153, 3) := by decide +kernel
theorem dX8_isNeeded_19 : decode cX8_isNeeded 19 = .ok (.ifCond .eq 19, 3) := by decide +kernel
theorem dX8_isNeeded_22 : decode cX8_isNeeded 22 = .ok (.goto 12, 3) := by decide +kernel
theorem dX8_isNeeded_25 : decode cX8_isNeeded 25 = .ok (.aload_n 0, 1) := by decide +kernel
theorem dX8_isNeeded_26 : decode cX8_isNeeded 26 = .ok (.iload_n 1, 1) := by decide +kernel
theorem dX8_isNeeded_27 : decode cX8_isNeeded 27 = .ok (.iload_n 2, 1) := by decide +kernel
theorem dX8_isNeeded_28 : decode cX8_isNeeded 28 = .ok (.invokevirtual 173, 3) := by decide +kernel
theorem dX8_isNeeded_31 : decode cX8_isNeeded 31 = .ok (.ifCond .eq 7, 3) := by decide +kernel
theorem dX8_isNeeded_34 : decode cX8_isNeeded 34 = .ok (.iconst 1, 1) := by decide +kernel
theorem dX8_isNeeded_35 : decode cX8_isNeeded 35 = .ok (.goto 4, 3) := by decide +kernel
theorem dX8_isNeeded_38 : decode cX8_isNeeded 38 = .ok (.iconst 0, 1) := by decide +kernel
theorem dX8_isNeeded_39 : decode cX8_isNeeded 39 = .ok (.ireturn, 1) := by decide +kernel
theorem dX8_find_0 : decode cX8_find 0 = .ok (.aload_n 0, 1) := by decide +kernel
theorem dX8_find_1 : decode cX8_find 1 = .ok (.invokevirtual 136, 3) := by decide +kernel
theorem dX8_find_4 : decode cX8_find 4 = .ok (.aload_n 0, 1) := by decide +kernel
theorem dX8_find_5 : decode cX8_find 5 = .ok (.invokevirtual 170, 3) := by decide +kernel
theorem dX8_find_8 : decode cX8_find 8 = .ok (.pop, 1) := by decide +kernel
theorem dX8_find_9 : decode cX8_find 9 = .ok (.return_, 1) := by decide +kernel
theorem dX8_needed_0 : decode cX8_needed 0 = .ok (.aload_n 0, 1) := by decide +kernel
theorem dX8_needed_1 : decode cX8_needed 1 = .ok (.iload_n 1, 1) := by decide +kernel
theorem dX8_needed_2 : decode cX8_needed 2 = .ok (.invokevirtual 176, 3) := by decide +kernel
theorem dX8_needed_5 : decode cX8_needed 5 = .ok (.ifCond .eq 23, 3) := by decide +kernel
theorem dX8_needed_8 : decode cX8_needed 8 = .ok (.aload_n 0, 1) := by decide +kernel
theorem dX8_needed_9 : decode cX8_needed 9 = .ok (.iload_n 2, 1) := by decide +kernel
theorem dX8_needed_10 : decode cX8_needed 10 = .ok (.invokevirtual 176, 3) := by decide +kernel
theorem dX8_needed_13 : decode cX8_needed 13 = .ok (.ifCond .eq 15, 3) := by decide +kernel
theorem dX8_needed_16 : decode cX8_needed 16 = .ok (.iload_n 1, 1) := by decide +kernel
theorem dX8_needed_17 : decode cX8_needed 17 = .ok (.iload_n 2, 1) := by decide +kernel
theorem dX8_needed_18 : decode cX8_needed 18 = .ok (.if_icmp .eq 10, 3) := by decide +kernel
theorem dX8_needed_21 : decode cX8_needed 21 = .ok (.iload_n 3, 1) := by decide +kernel
theorem dX8_needed_22 : decode cX8_needed 22 = .ok (.invokestatic 179, 3) := by decide +kernel
theorem dX8_needed_25 : decode cX8_needed 25 = .ok (.ifCond .ne 6, 3) := by decide +kernel
theorem dX8_needed_28 : decode cX8_needed 28 = .ok (.bipush (-2), 2) := by decide +kernel
theorem dX8_needed_30 : decode cX8_needed 30 = .ok (.ireturn, 1) := by decide +kernel
theorem dX8_needed_31 : decode cX8_needed 31 = .ok (.aload_n 0, 1) := by decide +kernel
theorem dX8_needed_32 : decode cX8_needed 32 = .ok (.invokevirtual 182, 3) := by decide +kernel
theorem dX8_needed_35 : decode cX8_needed 35 = .ok (.aload_n 0, 1) := by decide +kernel
theorem dX8_needed_36 : decode cX8_needed 36 = .ok (.iload_n 1, 1) := by decide +kernel
theorem dX8_needed_37 : decode cX8_needed 37 = .ok (.iload_n 2, 1) := by decide +kernel
theorem dX8_needed_38 : decode cX8_needed 38 = .ok (.iload_n 3, 1) := by decide +kernel
theorem dX8_needed_39 : decode cX8_needed 39 = .ok (.invokevirtual 185, 3) := by decide +kernel
theorem dX8_needed_42 : decode cX8_needed 42 = .ok (.ifCond .eq 7, 3) := by decide +kernel
theorem dX8_needed_45 : decode cX8_needed 45 = .ok (.iconst 1, 1) := by decide +kernel
theorem dX8_needed_46 : decode cX8_needed 46 = .ok (.goto 4, 3) := by decide +kernel
theorem dX8_needed_49 : decode cX8_needed 49 = .ok (.iconst 0, 1) := by decide +kernel
theorem dX8_needed_50 : decode cX8_needed 50 = .ok (.ireturn, 1) := by decide +kernel
theorem dX8_findNeeds_0 : decode cX8_findNeeds 0 = .ok (.aload_n 0, 1) := by decide +kernel
theorem dX8_findNeeds_1 : decode cX8_findNeeds 1 = .ok (.invokevirtual 182, 3) := by decide +kernel
theorem dX8_findNeeds_4 : decode cX8_findNeeds 4 = .ok (.iconst 0, 1) := by decide +kernel
theorem dX8_findNeeds_5 : decode cX8_findNeeds 5 = .ok (.istore_n 1, 1) := by decide +kernel
theorem dX8_findNeeds_6 : decode cX8_findNeeds 6 = .ok (.iload_n 1, 1) := by decide +kernel
theorem dX8_findNeeds_7 : decode cX8_findNeeds 7 = .ok (.aload_n 0, 1) := by decide +kernel
theorem dX8_findNeeds_8 : decode cX8_findNeeds 8 = .ok (.invokevirtual 111, 3) := by decide +kernel
theorem dX8_findNeeds_11 : decode cX8_findNeeds 11 = .ok (.if_icmp .ge 63, 3) := by decide +kernel
theorem dX8_findNeeds_14 : decode cX8_findNeeds 14 = .ok (.aload_n 0, 1) := by decide +kernel
theorem dX8_findNeeds_15 : decode cX8_findNeeds 15 = .ok (.getfield 46, 3) := by decide +kernel
theorem dX8_findNeeds_18 : decode cX8_findNeeds 18 = .ok (.iload_n 1, 1) := by decide +kernel
theorem dX8_findNeeds_19 : decode cX8_findNeeds 19 = .ok (.iconst 0, 1) := by decide +kernel
theorem dX8_findNeeds_20 : decode cX8_findNeeds 20 = .ok (.iastore, 1) := by decide +kernel
theorem dX8_findNeeds_21 : decode cX8_findNeeds 21 = .ok (.iconst 0, 1) := by decide +kernel
theorem dX8_findNeeds_22 : decode cX8_findNeeds 22 = .ok (.istore_n 2, 1) := by decide +kernel
theorem dX8_findNeeds_23 : decode cX8_findNeeds 23 = .ok (.iload_n 2, 1) := by decide +kernel
theorem dX8_findNeeds_24 : decode cX8_findNeeds 24 = .ok (.aload_n 0, 1) := by decide +kernel
theorem dX8_findNeeds_25 : decode cX8_findNeeds 25 = .ok (.invokevirtual 111, 3) := by decide +kernel
theorem dX8_findNeeds_28 : decode cX8_findNeeds 28 = .ok (.if_icmp .ge 40, 3) := by decide +kernel
theorem dX8_findNeeds_31 : decode cX8_findNeeds 31 = .ok (.aload_n 0, 1) := by decide +kernel
theorem dX8_findNeeds_32 : decode cX8_findNeeds 32 = .ok (.getfield 46, 3) := by decide +kernel
theorem dX8_findNeeds_35 : decode cX8_findNeeds 35 = .ok (.iload_n 1, 1) := by decide +kernel
theorem dX8_findNeeds_36 : decode cX8_findNeeds 36 = .ok (.dup2, 1) := by decide +kernel
theorem dX8_findNeeds_37 : decode cX8_findNeeds 37 = .ok (.iaload, 1) := by decide +kernel
theorem dX8_findNeeds_38 : decode cX8_findNeeds 38 = .ok (.aload_n 0, 1) := by decide +kernel
theorem dX8_findNeeds_39 : decode cX8_findNeeds 39 = .ok (.iload_n 2, 1) := by decide +kernel
theorem dX8_findNeeds_40 : decode cX8_findNeeds 40 = .ok (.iload_n 1, 1) := by decide +kernel
theorem dX8_findNeeds_41 : decode cX8_findNeeds 41 = .ok (.aload_n 0, 1) := by decide +kernel
theorem dX8_findNeeds_42 : decode cX8_findNeeds 42 = .ok (.getfield 22, 3) := by decide +kernel
theorem dX8_findNeeds_45 : decode cX8_findNeeds 45 = .ok (.iconst 3, 1) := by decide +kernel
theorem dX8_findNeeds_46 : decode cX8_findNeeds 46 = .ok (.iaload, 1) := by decide +kernel
theorem dX8_findNeeds_47 : decode cX8_findNeeds 47 = .ok (.invokevirtual 185, 3) := by decide +kernel
theorem dX8_findNeeds_50 : decode cX8_findNeeds 50 = .ok (.ifCond .eq 9, 3) := by decide +kernel
theorem dX8_findNeeds_53 : decode cX8_findNeeds 53 = .ok (.iconst 1, 1) := by decide +kernel
theorem dX8_findNeeds_54 : decode cX8_findNeeds 54 = .ok (.iload_n 2, 1) := by decide +kernel
theorem dX8_findNeeds_55 : decode cX8_findNeeds 55 = .ok (.ishl, 1) := by decide +kernel
theorem dX8_findNeeds_56 : decode cX8_findNeeds 56 = .ok (.goto 4, 3) := by decide +kernel
theorem dX8_findNeeds_59 : decode cX8_findNeeds 59 = .ok (.iconst 0, 1) := by decide +kernel
theorem dX8_findNeeds_60 : decode cX8_findNeeds 60 = .ok (.ior, 1) := by decide +kernel
theorem dX8_findNeeds_61 : decode cX8_findNeeds 61 = .ok (.iastore, 1) := by decide +kernel
theorem dX8_findNeeds_62 : decode cX8_findNeeds 62 = .ok (.iinc 2 1, 3) := by decide +kernel
theorem dX8_findNeeds_65 : decode cX8_findNeeds 65 = .ok (.goto (-42), 3) := by decide +kernel
theorem dX8_findNeeds_68 : decode cX8_findNeeds 68 = .ok (.iinc 1 1, 3) := by decide +kernel
theorem dX8_findNeeds_71 : decode cX8_findNeeds 71 = .ok (.goto (-65), 3) := by decide +kernel
theorem dX8_findNeeds_74 : decode cX8_findNeeds 74 = .ok (.return_, 1) := by decide +kernel
theorem dX8_isState_0 : decode cX8_isState 0 = .ok (.iconst 1, 1) := by decide +kernel
theorem dX8_isState_1 : decode cX8_isState 1 = .ok (.istore_n 2, 1) := by decide +kernel
theorem dX8_isState_2 : decode cX8_isState 2 = .ok (.iconst 0, 1) := by decide +kernel
theorem dX8_isState_3 : decode cX8_isState 3 = .ok (.istore_n 3, 1) := by decide +kernel
theorem dX8_isState_4 : decode cX8_isState 4 = .ok (.iload_n 3, 1) := by decide +kernel
theorem dX8_isState_5 : decode cX8_isState 5 = .ok (.aload_n 0, 1) := by decide +kernel
theorem dX8_isState_6 : decode cX8_isState 6 = .ok (.invokevirtual 111, 3) := by decide +kernel
theorem dX8_isState_9 : decode cX8_isState 9 = .ok (.if_icmp .ge 40, 3) := by decide +kernel
theorem dX8_isState_12 : decode cX8_isState 12 = .ok (.iload_n 2, 1) := by decide +kernel
theorem dX8_isState_13 : decode cX8_isState 13 = .ok (.ifCond .eq 28, 3) := by decide +kernel
theorem dX8_isState_16 : decode cX8_isState 16 = .ok (.iload_n 1, 1) := by decide +kernel
theorem dX8_isState_17 : decode cX8_isState 17 = .ok (.iload_n 3, 1) := by decide +kernel
theorem dX8_isState_18 : decode cX8_isState 18 = .ok (.invokestatic 153, 3) := by decide +kernel
theorem dX8_isState_21 : decode cX8_isState 21 = .ok (.ifCond .eq 16, 3) := by decide +kernel
theorem dX8_isState_24 : decode cX8_isState 24 = .ok (.aload_n 0, 1) := by decide +kernel
theorem dX8_isState_25 : decode cX8_isState 25 = .ok (.getfield 46, 3) := by decide +kernel
theorem dX8_isState_28 : decode cX8_isState 28 = .ok (.iload_n 3, 1) := by decide +kernel
theorem dX8_isState_29 : decode cX8_isState 29 = .ok (.iaload, 1) := by decide +kernel
theorem dX8_isState_30 : decode cX8_isState 30 = .ok (.iload_n 1, 1) := by decide +kernel
theorem dX8_isState_31 : decode cX8_isState 31 = .ok (.iconst (-1), 1) := by decide +kernel
theorem dX8_isState_32 : decode cX8_isState 32 = .ok (.ixor, 1) := by decide +kernel
theorem dX8_isState_33 : decode cX8_isState 33 = .ok (.iand, 1) := by decide +kernel
theorem dX8_isState_34 : decode cX8_isState 34 = .ok (.ifCond .ne 7, 3) := by decide +kernel
theorem dX8_isState_37 : decode cX8_isState 37 = .ok (.iconst 1, 1) := by decide +kernel
theorem dX8_isState_38 : decode cX8_isState 38 = .ok (.goto 4, 3) := by decide +kernel
theorem dX8_isState_41 : decode cX8_isState 41 = .ok (.iconst 0, 1) := by decide +kernel
theorem dX8_isState_42 : decode cX8_isState 42 = .ok (.istore_n 2, 1) := by decide +kernel
theorem dX8_isState_43 : decode cX8_isState 43 = .ok (.iinc 3 1, 3) := by decide +kernel
theorem dX8_isState_46 : decode cX8_isState 46 = .ok (.goto (-42), 3) := by decide +kernel
theorem dX8_isState_49 : decode cX8_isState 49 = .ok (.iload_n 2, 1) := by decide +kernel
theorem dX8_isState_50 : decode cX8_isState 50 = .ok (.ireturn, 1) := by decide +kernel
theorem dX8_errorsOf_0 : decode cX8_errorsOf 0 = .ok (.aload_n 0, 1) := by decide +kernel
theorem dX8_errorsOf_1 : decode cX8_errorsOf 1 = .ok (.iload_n 1, 1) := by decide +kernel
theorem dX8_errorsOf_2 : decode cX8_errorsOf 2 = .ok (.iconst 1, 1) := by decide +kernel
theorem dX8_errorsOf_3 : decode cX8_errorsOf 3 = .ok (.invokevirtual 189, 3) := by decide +kernel
theorem dX8_errorsOf_6 : decode cX8_errorsOf 6 = .ok (.iload_n 2, 1) := by decide +kernel
theorem dX8_errorsOf_7 : decode cX8_errorsOf 7 = .ok (.iconst (-1), 1) := by decide +kernel
theorem dX8_errorsOf_8 : decode cX8_errorsOf 8 = .ok (.ixor, 1) := by decide +kernel
theorem dX8_errorsOf_9 : decode cX8_errorsOf 9 = .ok (.iand, 1) := by decide +kernel
theorem dX8_errorsOf_10 : decode cX8_errorsOf 10 = .ok (.invokestatic 192, 3) := by decide +kernel
theorem dX8_errorsOf_13 : decode cX8_errorsOf 13 = .ok (.aload_n 0, 1) := by decide +kernel
theorem dX8_errorsOf_14 : decode cX8_errorsOf 14 = .ok (.iload_n 1, 1) := by decide +kernel
theorem dX8_errorsOf_15 : decode cX8_errorsOf 15 = .ok (.iconst 0, 1) := by decide +kernel
theorem dX8_errorsOf_16 : decode cX8_errorsOf 16 = .ok (.invokevirtual 189, 3) := by decide +kernel
theorem dX8_errorsOf_19 : decode cX8_errorsOf 19 = .ok (.iload_n 2, 1) := by decide +kernel
theorem dX8_errorsOf_20 : decode cX8_errorsOf 20 = .ok (.iand, 1) := by decide +kernel
theorem dX8_errorsOf_21 : decode cX8_errorsOf 21 = .ok (.invokestatic 192, 3) := by decide +kernel
theorem dX8_errorsOf_24 : decode cX8_errorsOf 24 = .ok (.iadd, 1) := by decide +kernel
theorem dX8_errorsOf_25 : decode cX8_errorsOf 25 = .ok (.ireturn, 1) := by decide +kernel
theorem dX8_errors_0 : decode cX8_errors 0 = .ok (.iload_n 1, 1) := by decide +kernel
theorem dX8_errors_1 : decode cX8_errors 1 = .ok (.invokestatic 123, 3) := by decide +kernel
theorem dX8_errors_4 : decode cX8_errors 4 = .ok (.ifCond .eq 15, 3) := by decide +kernel
theorem dX8_errors_7 : decode cX8_errors 7 = .ok (.iload_n 2, 1) := by decide +kernel
theorem dX8_errors_8 : decode cX8_errors 8 = .ok (.i2l, 1) := by decide +kernel
theorem dX8_errors_9 : decode cX8_errors 9 = .ok (.lconst 0, 1) := by decide +kernel
theorem dX8_errors_10 : decode cX8_errors 10 = .ok (.ldc2_w 195, 3) := by decide +kernel
theorem dX8_errors_13 : decode cX8_errors 13 = .ok (.invokestatic 78, 3) := by decide +kernel
theorem dX8_errors_16 : decode cX8_errors 16 = .ok (.ifCond .ne 6, 3) := by decide +kernel
theorem dX8_errors_19 : decode cX8_errors 19 = .ok (.bipush (-2), 2) := by decide +kernel
theorem dX8_errors_21 : decode cX8_errors 21 = .ok (.ireturn, 1) := by decide +kernel
theorem dX8_errors_22 : decode cX8_errors 22 = .ok (.aload_n 0, 1) := by decide +kernel
theorem dX8_errors_23 : decode cX8_errors 23 = .ok (.invokevirtual 136, 3) := by decide +kernel
theorem dX8_errors_26 : decode cX8_errors 26 = .ok (.aload_n 0, 1) := by decide +kernel
theorem dX8_errors_27 : decode cX8_errors 27 = .ok (.iload_n 1, 1) := by decide +kernel
theorem dX8_errors_28 : decode cX8_errors 28 = .ok (.iload_n 2, 1) := by decide +kernel
theorem dX8_errors_29 : decode cX8_errors 29 = .ok (.invokevirtual 197, 3) := by decide +kernel
theorem dX8_errors_32 : decode cX8_errors 32 = .ok (.ireturn, 1) := by decide +kernel
theorem dX8_findWrong_0 : decode cX8_findWrong 0 = .ok (.iconst 0, 1) := by decide +kernel
theorem dX8_findWrong_1 : decode cX8_findWrong 1 = .ok (.istore_n 3, 1) := by decide +kernel
theorem dX8_findWrong_2 : decode cX8_findWrong 2 = .ok (.iload_n 3, 1) := by decide +kernel
theorem dX8_findWrong_3 : decode cX8_findWrong 3 = .ok (.bipush 12, 2) := by decide +kernel
theorem dX8_findWrong_5 : decode cX8_findWrong 5 = .ok (.if_icmp .ge 132, 3) := by decide +kernel
theorem dX8_findWrong_8 : decode cX8_findWrong 8 = .ok (.aload_n 0, 1) := by decide +kernel
theorem dX8_findWrong_9 : decode cX8_findWrong 9 = .ok (.iload_n 3, 1) := by decide +kernel
theorem dX8_findWrong_10 : decode cX8_findWrong 10 = .ok (.iconst 1, 1) := by decide +kernel
theorem dX8_findWrong_11 : decode cX8_findWrong 11 = .ok (.invokevirtual 189, 3) := by decide +kernel
theorem dX8_findWrong_14 : decode cX8_findWrong 14 = .ok (.istore 4, 2) := by decide +kernel
theorem dX8_findWrong_16 : decode cX8_findWrong 16 = .ok (.aload_n 0, 1) := by decide +kernel
theorem dX8_findWrong_17 : decode cX8_findWrong 17 = .ok (.iload_n 3, 1) := by decide +kernel
theorem dX8_findWrong_18 : decode cX8_findWrong 18 = .ok (.iconst 0, 1) := by decide +kernel
theorem dX8_findWrong_19 : decode cX8_findWrong 19 = .ok (.invokevirtual 189, 3) := by decide +kernel
theorem dX8_findWrong_22 : decode cX8_findWrong 22 = .ok (.istore 5, 2) := by decide +kernel
theorem dX8_findWrong_24 : decode cX8_findWrong 24 = .ok (.iload_n 1, 1) := by decide +kernel
theorem dX8_findWrong_25 : decode cX8_findWrong 25 = .ok (.iconst (-1), 1) := by decide +kernel
theorem dX8_findWrong_26 : decode cX8_findWrong 26 = .ok (.if_icmp .eq 23, 3) := by decide +kernel
theorem dX8_findWrong_29 : decode cX8_findWrong 29 = .ok (.iload 4, 2) := by decide +kernel
theorem dX8_findWrong_31 : decode cX8_findWrong 31 = .ok (.iconst 1, 1) := by decide +kernel
theorem dX8_findWrong_32 : decode cX8_findWrong 32 = .ok (.iload_n 1, 1) := by decide +kernel
theorem dX8_findWrong_33 : decode cX8_findWrong 33 = .ok (.ishl, 1) := by decide +kernel
theorem dX8_findWrong_34 : decode cX8_findWrong 34 = .ok (.iconst (-1), 1) := by decide +kernel
theorem dX8_findWrong_35 : decode cX8_findWrong 35 = .ok (.ixor, 1) := by decide +kernel
theorem dX8_findWrong_36 : decode cX8_findWrong 36 = .ok (.iand, 1) := by decide +kernel
theorem dX8_findWrong_37 : decode cX8_findWrong 37 = .ok (.istore 4, 2) := by decide +kernel
theorem dX8_findWrong_39 : decode cX8_findWrong 39 = .ok (.iload 5, 2) := by decide +kernel
theorem dX8_findWrong_41 : decode cX8_findWrong 41 = .ok (.iconst 1, 1) := by decide +kernel
theorem dX8_findWrong_42 : decode cX8_findWrong 42 = .ok (.iload_n 1, 1) := by decide +kernel
theorem dX8_findWrong_43 : decode cX8_findWrong 43 = .ok (.ishl, 1) := by decide +kernel
theorem dX8_findWrong_44 : decode cX8_findWrong 44 = .ok (.iconst (-1), 1) := by decide +kernel
theorem dX8_findWrong_45 : decode cX8_findWrong 45 = .ok (.ixor, 1) := by decide +kernel
theorem dX8_findWrong_46 : decode cX8_findWrong 46 = .ok (.iand, 1) := by decide +kernel
theorem dX8_findWrong_47 : decode cX8_findWrong 47 = .ok (.istore 5, 2) := by decide +kernel
theorem dX8_findWrong_49 : decode cX8_findWrong 49 = .ok (.iload_n 2, 1) := by decide +kernel
theorem dX8_findWrong_50 : decode cX8_findWrong 50 = .ok (.iconst (-1), 1) := by decide +kernel
theorem dX8_findWrong_51 : decode cX8_findWrong 51 = .ok (.if_icmp .eq 28, 3) := by decide +kernel
theorem dX8_findWrong_54 : decode cX8_findWrong 54 = .ok (.iload 4, 2) := by decide +kernel
theorem dX8_findWrong_56 : decode cX8_findWrong 56 = .ok (.iload 5, 2) := by decide +kernel
theorem dX8_findWrong_58 : decode cX8_findWrong 58 = .ok (.ixor, 1) := by decide +kernel
theorem dX8_findWrong_59 : decode cX8_findWrong 59 = .ok (.iconst 1, 1) := by decide +kernel
theorem dX8_findWrong_60 : decode cX8_findWrong 60 = .ok (.iload_n 2, 1) := by decide +kernel
theorem dX8_findWrong_61 : decode cX8_findWrong 61 = .ok (.ishl, 1) := by decide +kernel
theorem dX8_findWrong_62 : decode cX8_findWrong 62 = .ok (.iand, 1) := by decide +kernel
theorem dX8_findWrong_63 : decode cX8_findWrong 63 = .ok (.istore 6, 2) := by decide +kernel
theorem dX8_findWrong_65 : decode cX8_findWrong 65 = .ok (.iload 4, 2) := by decide +kernel
theorem dX8_findWrong_67 : decode cX8_findWrong 67 = .ok (.iload 6, 2) := by decide +kernel
theorem dX8_findWrong_69 : decode cX8_findWrong 69 = .ok (.ixor, 1) := by decide +kernel
theorem dX8_findWrong_70 : decode cX8_findWrong 70 = .ok (.istore 4, 2) := by decide +kernel
theorem dX8_findWrong_72 : decode cX8_findWrong 72 = .ok (.iload 5, 2) := by decide +kernel
theorem dX8_findWrong_74 : decode cX8_findWrong 74 = .ok (.iload 6, 2) := by decide +kernel
theorem dX8_findWrong_76 : decode cX8_findWrong 76 = .ok (.ixor, 1) := by decide +kernel
theorem dX8_findWrong_77 : decode cX8_findWrong 77 = .ok (.istore 5, 2) := by decide +kernel
theorem dX8_findWrong_79 : decode cX8_findWrong 79 = .ok (.iconst 0, 1) := by decide +kernel
theorem dX8_findWrong_80 : decode cX8_findWrong 80 = .ok (.istore 6, 2) := by decide +kernel
theorem dX8_findWrong_82 : decode cX8_findWrong 82 = .ok (.iload 6, 2) := by decide +kernel
theorem dX8_findWrong_84 : decode cX8_findWrong 84 = .ok (.iconst 1, 1) := by decide +kernel
theorem dX8_findWrong_85 : decode cX8_findWrong 85 = .ok (.aload_n 0, 1) := by decide +kernel
theorem dX8_findWrong_86 : decode cX8_findWrong 86 = .ok (.invokevirtual 111, 3) := by decide +kernel
theorem dX8_findWrong_89 : decode cX8_findWrong 89 = .ok (.ishl, 1) := by decide +kernel
theorem dX8_findWrong_90 : decode cX8_findWrong 90 = .ok (.if_icmp .ge 41, 3) := by decide +kernel
theorem dX8_findWrong_93 : decode cX8_findWrong 93 = .ok (.aload_n 0, 1) := by decide +kernel
theorem dX8_findWrong_94 : decode cX8_findWrong 94 = .ok (.getfield 49, 3) := by decide +kernel
theorem dX8_findWrong_97 : decode cX8_findWrong 97 = .ok (.sipush 128, 3) := by decide +kernel
theorem dX8_findWrong_100 : decode cX8_findWrong 100 = .ok (.iload_n 3, 1) := by decide +kernel
theorem dX8_findWrong_101 : decode cX8_findWrong 101 = .ok (.imul, 1) := by decide +kernel
theorem dX8_findWrong_102 : decode cX8_findWrong 102 = .ok (.iload 6, 2) := by decide +kernel
theorem dX8_findWrong_104 : decode cX8_findWrong 104 = .ok (.iadd, 1) := by decide +kernel
theorem dX8_findWrong_105 : decode cX8_findWrong 105 = .ok (.iload 4, 2) := by decide +kernel
theorem dX8_findWrong_107 : decode cX8_findWrong 107 = .ok (.iload 6, 2) := by decide +kernel
theorem dX8_findWrong_109 : decode cX8_findWrong 109 = .ok (.iconst (-1), 1) := by decide +kernel
theorem dX8_findWrong_110 : decode cX8_findWrong 110 = .ok (.ixor, 1) := by decide +kernel
theorem dX8_findWrong_111 : decode cX8_findWrong 111 = .ok (.iand, 1) := by decide +kernel
theorem dX8_findWrong_112 : decode cX8_findWrong 112 = .ok (.invokestatic 192, 3) := by decide +kernel
theorem dX8_findWrong_115 : decode cX8_findWrong 115 = .ok (.iload 5, 2) := by decide +kernel
theorem dX8_findWrong_117 : decode cX8_findWrong 117 = .ok (.iload 6, 2) := by decide +kernel
theorem dX8_findWrong_119 : decode cX8_findWrong 119 = .ok (.iand, 1) := by decide +kernel
theorem dX8_findWrong_120 : decode cX8_findWrong 120 = .ok (.invokestatic 192, 3) := by decide +kernel
theorem dX8_findWrong_123 : decode cX8_findWrong 123 = .ok (.iadd, 1) := by decide +kernel
theorem dX8_findWrong_124 : decode cX8_findWrong 124 = .ok (.iastore, 1) := by decide +kernel
theorem dX8_findWrong_125 : decode cX8_findWrong 125 = .ok (.iinc 6 1, 3) := by decide +kernel
theorem dX8_findWrong_128 : decode cX8_findWrong 128 = .ok (.goto (-46), 3) := by decide +kernel
theorem dX8_findWrong_131 : decode cX8_findWrong 131 = .ok (.iinc 3 1, 3) := by decide +kernel
theorem dX8_findWrong_134 : decode cX8_findWrong 134 = .ok (.goto (-132), 3) := by decide +kernel
theorem dX8_findWrong_137 : decode cX8_findWrong 137 = .ok (.return_, 1) := by decide +kernel
theorem dX8_offNow_0 : decode cX8_offNow 0 = .ok (.iconst 0, 1) := by decide +kernel
theorem dX8_offNow_1 : decode cX8_offNow 1 = .ok (.istore_n 2, 1) := by decide +kernel
theorem dX8_offNow_2 : decode cX8_offNow 2 = .ok (.iconst 0, 1) := by decide +kernel
theorem dX8_offNow_3 : decode cX8_offNow 3 = .ok (.istore_n 3, 1) := by decide +kernel
theorem dX8_offNow_4 : decode cX8_offNow 4 = .ok (.iload_n 3, 1) := by decide +kernel
theorem dX8_offNow_5 : decode cX8_offNow 5 = .ok (.bipush 12, 2) := by decide +kernel
theorem dX8_offNow_7 : decode cX8_offNow 7 = .ok (.if_icmp .ge 89, 3) := by decide +kernel
theorem dX8_offNow_10 : decode cX8_offNow 10 = .ok (.iconst 0, 1) := by decide +kernel
theorem dX8_offNow_11 : decode cX8_offNow 11 = .ok (.istore 4, 2) := by decide +kernel
theorem dX8_offNow_13 : decode cX8_offNow 13 = .ok (.aload_n 0, 1) := by decide +kernel
theorem dX8_offNow_14 : decode cX8_offNow 14 = .ok (.getfield 49, 3) := by decide +kernel
theorem dX8_offNow_17 : decode cX8_offNow 17 = .ok (.sipush 128, 3) := by decide +kernel
theorem dX8_offNow_20 : decode cX8_offNow 20 = .ok (.iload_n 3, 1) := by decide +kernel
theorem dX8_offNow_21 : decode cX8_offNow 21 = .ok (.imul, 1) := by decide +kernel
theorem dX8_offNow_22 : decode cX8_offNow 22 = .ok (.iaload, 1) := by decide +kernel
theorem dX8_offNow_23 : decode cX8_offNow 23 = .ok (.istore 5, 2) := by decide +kernel
theorem dX8_offNow_25 : decode cX8_offNow 25 = .ok (.iconst 0, 1) := by decide +kernel
theorem dX8_offNow_26 : decode cX8_offNow 26 = .ok (.istore 6, 2) := by decide +kernel
theorem dX8_offNow_28 : decode cX8_offNow 28 = .ok (.iload 6, 2) := by decide +kernel
theorem dX8_offNow_30 : decode cX8_offNow 30 = .ok (.iload_n 1, 1) := by decide +kernel
theorem dX8_offNow_31 : decode cX8_offNow 31 = .ok (.if_icmp .ge 54, 3) := by decide +kernel
theorem dX8_offNow_34 : decode cX8_offNow 34 = .ok (.iload 4, 2) := by decide +kernel
theorem dX8_offNow_36 : decode cX8_offNow 36 = .ok (.iconst 1, 1) := by decide +kernel
theorem dX8_offNow_37 : decode cX8_offNow 37 = .ok (.aload_n 0, 1) := by decide +kernel
theorem dX8_offNow_38 : decode cX8_offNow 38 = .ok (.getfield 52, 3) := by decide +kernel
theorem dX8_offNow_41 : decode cX8_offNow 41 = .ok (.iload 6, 2) := by decide +kernel
theorem dX8_offNow_43 : decode cX8_offNow 43 = .ok (.iaload, 1) := by decide +kernel
theorem dX8_offNow_44 : decode cX8_offNow 44 = .ok (.ishl, 1) := by decide +kernel
theorem dX8_offNow_45 : decode cX8_offNow 45 = .ok (.ior, 1) := by decide +kernel
theorem dX8_offNow_46 : decode cX8_offNow 46 = .ok (.istore 4, 2) := by decide +kernel
theorem dX8_offNow_48 : decode cX8_offNow 48 = .ok (.aload_n 0, 1) := by decide +kernel
theorem dX8_offNow_49 : decode cX8_offNow 49 = .ok (.getfield 49, 3) := by decide +kernel
theorem dX8_offNow_52 : decode cX8_offNow 52 = .ok (.sipush 128, 3) := by decide +kernel
theorem dX8_offNow_55 : decode cX8_offNow 55 = .ok (.iload_n 3, 1) := by decide +kernel
theorem dX8_offNow_56 : decode cX8_offNow 56 = .ok (.imul, 1) := by decide +kernel
theorem dX8_offNow_57 : decode cX8_offNow 57 = .ok (.iload 4, 2) := by decide +kernel
theorem dX8_offNow_59 : decode cX8_offNow 59 = .ok (.iadd, 1) := by decide +kernel
theorem dX8_offNow_60 : decode cX8_offNow 60 = .ok (.iaload, 1) := by decide +kernel
theorem dX8_offNow_61 : decode cX8_offNow 61 = .ok (.istore 7, 2) := by decide +kernel
theorem dX8_offNow_63 : decode cX8_offNow 63 = .ok (.iload 7, 2) := by decide +kernel
theorem dX8_offNow_65 : decode cX8_offNow 65 = .ok (.iload 5, 2) := by decide +kernel
theorem dX8_offNow_67 : decode cX8_offNow 67 = .ok (.if_icmp .ge 8, 3) := by decide +kernel
theorem dX8_offNow_70 : decode cX8_offNow 70 = .ok (.iload 7, 2) := by decide +kernel
theorem dX8_offNow_72 : decode cX8_offNow 72 = .ok (.goto 5, 3) := by decide +kernel
theorem dX8_offNow_75 : decode cX8_offNow 75 = .ok (.iload 5, 2) := by decide +kernel
theorem dX8_offNow_77 : decode cX8_offNow 77 = .ok (.istore 5, 2) := by decide +kernel
theorem dX8_offNow_79 : decode cX8_offNow 79 = .ok (.iinc 6 1, 3) := by decide +kernel
theorem dX8_offNow_82 : decode cX8_offNow 82 = .ok (.goto (-54), 3) := by decide +kernel
theorem dX8_offNow_85 : decode cX8_offNow 85 = .ok (.iload_n 2, 1) := by decide +kernel
theorem dX8_offNow_86 : decode cX8_offNow 86 = .ok (.iload 5, 2) := by decide +kernel
theorem dX8_offNow_88 : decode cX8_offNow 88 = .ok (.iadd, 1) := by decide +kernel
theorem dX8_offNow_89 : decode cX8_offNow 89 = .ok (.istore_n 2, 1) := by decide +kernel
theorem dX8_offNow_90 : decode cX8_offNow 90 = .ok (.iinc 3 1, 3) := by decide +kernel
theorem dX8_offNow_93 : decode cX8_offNow 93 = .ok (.goto (-89), 3) := by decide +kernel
theorem dX8_offNow_96 : decode cX8_offNow 96 = .ok (.iload_n 2, 1) := by decide +kernel
theorem dX8_offNow_97 : decode cX8_offNow 97 = .ok (.ireturn, 1) := by decide +kernel
theorem dX8_goesOn_0 : decode cX8_goesOn 0 = .ok (.iload_n 1, 1) := by decide +kernel
theorem dX8_goesOn_1 : decode cX8_goesOn 1 = .ok (.iconst 2, 1) := by decide +kernel
theorem dX8_goesOn_2 : decode cX8_goesOn 2 = .ok (.isub, 1) := by decide +kernel
theorem dX8_goesOn_3 : decode cX8_goesOn 3 = .ok (.istore_n 2, 1) := by decide +kernel
theorem dX8_goesOn_4 : decode cX8_goesOn 4 = .ok (.iload_n 2, 1) := by decide +kernel
theorem dX8_goesOn_5 : decode cX8_goesOn 5 = .ok (.ifCond .lt 26, 3) := by decide +kernel
theorem dX8_goesOn_8 : decode cX8_goesOn 8 = .ok (.aload_n 0, 1) := by decide +kernel
theorem dX8_goesOn_9 : decode cX8_goesOn 9 = .ok (.getfield 52, 3) := by decide +kernel
theorem dX8_goesOn_12 : decode cX8_goesOn 12 = .ok (.iload_n 2, 1) := by decide +kernel
theorem dX8_goesOn_13 : decode cX8_goesOn 13 = .ok (.iaload, 1) := by decide +kernel
theorem dX8_goesOn_14 : decode cX8_goesOn 14 = .ok (.aload_n 0, 1) := by decide +kernel
theorem dX8_goesOn_15 : decode cX8_goesOn 15 = .ok (.getfield 52, 3) := by decide +kernel
theorem dX8_goesOn_18 : decode cX8_goesOn 18 = .ok (.iload_n 2, 1) := by decide +kernel
theorem dX8_goesOn_19 : decode cX8_goesOn 19 = .ok (.iconst 1, 1) := by decide +kernel
theorem dX8_goesOn_20 : decode cX8_goesOn 20 = .ok (.iadd, 1) := by decide +kernel
theorem dX8_goesOn_21 : decode cX8_goesOn 21 = .ok (.iaload, 1) := by decide +kernel
theorem dX8_goesOn_22 : decode cX8_goesOn 22 = .ok (.if_icmp .le 9, 3) := by decide +kernel
theorem dX8_goesOn_25 : decode cX8_goesOn 25 = .ok (.iinc 2 (-1), 3) := by decide +kernel
theorem dX8_goesOn_28 : decode cX8_goesOn 28 = .ok (.goto (-24), 3) := by decide +kernel
theorem dX8_goesOn_31 : decode cX8_goesOn 31 = .ok (.iload_n 2, 1) := by decide +kernel
theorem dX8_goesOn_32 : decode cX8_goesOn 32 = .ok (.ifCond .ge 5, 3) := by decide +kernel
theorem dX8_goesOn_35 : decode cX8_goesOn 35 = .ok (.iconst 0, 1) := by decide +kernel
theorem dX8_goesOn_36 : decode cX8_goesOn 36 = .ok (.ireturn, 1) := by decide +kernel
theorem dX8_goesOn_37 : decode cX8_goesOn 37 = .ok (.iload_n 1, 1) := by decide +kernel
theorem dX8_goesOn_38 : decode cX8_goesOn 38 = .ok (.iconst 1, 1) := by decide +kernel
theorem dX8_goesOn_39 : decode cX8_goesOn 39 = .ok (.isub, 1) := by decide +kernel
theorem dX8_goesOn_40 : decode cX8_goesOn 40 = .ok (.istore_n 3, 1) := by decide +kernel
theorem dX8_goesOn_41 : decode cX8_goesOn 41 = .ok (.aload_n 0, 1) := by decide +kernel
theorem dX8_goesOn_42 : decode cX8_goesOn 42 = .ok (.getfield 52, 3) := by decide +kernel
theorem dX8_goesOn_45 : decode cX8_goesOn 45 = .ok (.iload_n 3, 1) := by decide +kernel
theorem dX8_goesOn_46 : decode cX8_goesOn 46 = .ok (.iaload, 1) := by decide +kernel
theorem dX8_goesOn_47 : decode cX8_goesOn 47 = .ok (.aload_n 0, 1) := by decide +kernel
