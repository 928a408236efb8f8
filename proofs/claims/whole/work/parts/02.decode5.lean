theorem dX8_goesOn_48 : decode cX8_goesOn 48 = .ok (.getfield 52, 3) := by decide +kernel
theorem dX8_goesOn_51 : decode cX8_goesOn 51 = .ok (.iload_n 2, 1) := by decide +kernel
theorem dX8_goesOn_52 : decode cX8_goesOn 52 = .ok (.iaload, 1) := by decide +kernel
theorem dX8_goesOn_53 : decode cX8_goesOn 53 = .ok (.if_icmp .ge 9, 3) := by decide +kernel
theorem dX8_goesOn_56 : decode cX8_goesOn 56 = .ok (.iinc 3 (-1), 3) := by decide +kernel
theorem dX8_goesOn_59 : decode cX8_goesOn 59 = .ok (.goto (-18), 3) := by decide +kernel
theorem dX8_goesOn_62 : decode cX8_goesOn 62 = .ok (.aload_n 0, 1) := by decide +kernel
theorem dX8_goesOn_63 : decode cX8_goesOn 63 = .ok (.iload_n 2, 1) := by decide +kernel
theorem dX8_goesOn_64 : decode cX8_goesOn 64 = .ok (.iload_n 3, 1) := by decide +kernel
theorem dX8_goesOn_65 : decode cX8_goesOn 65 = .ok (.invokevirtual 200, 3) := by decide +kernel
theorem dX8_goesOn_68 : decode cX8_goesOn 68 = .ok (.iload_n 2, 1) := by decide +kernel
theorem dX8_goesOn_69 : decode cX8_goesOn 69 = .ok (.iconst 1, 1) := by decide +kernel
theorem dX8_goesOn_70 : decode cX8_goesOn 70 = .ok (.iadd, 1) := by decide +kernel
theorem dX8_goesOn_71 : decode cX8_goesOn 71 = .ok (.istore 4, 2) := by decide +kernel
theorem dX8_goesOn_73 : decode cX8_goesOn 73 = .ok (.iload_n 1, 1) := by decide +kernel
theorem dX8_goesOn_74 : decode cX8_goesOn 74 = .ok (.iconst 1, 1) := by decide +kernel
theorem dX8_goesOn_75 : decode cX8_goesOn 75 = .ok (.isub, 1) := by decide +kernel
theorem dX8_goesOn_76 : decode cX8_goesOn 76 = .ok (.istore 5, 2) := by decide +kernel
theorem dX8_goesOn_78 : decode cX8_goesOn 78 = .ok (.iload 4, 2) := by decide +kernel
theorem dX8_goesOn_80 : decode cX8_goesOn 80 = .ok (.iload 5, 2) := by decide +kernel
theorem dX8_goesOn_82 : decode cX8_goesOn 82 = .ok (.if_icmp .ge 20, 3) := by decide +kernel
theorem dX8_goesOn_85 : decode cX8_goesOn 85 = .ok (.aload_n 0, 1) := by decide +kernel
theorem dX8_goesOn_86 : decode cX8_goesOn 86 = .ok (.iload 4, 2) := by decide +kernel
theorem dX8_goesOn_88 : decode cX8_goesOn 88 = .ok (.iload 5, 2) := by decide +kernel
theorem dX8_goesOn_90 : decode cX8_goesOn 90 = .ok (.invokevirtual 200, 3) := by decide +kernel
theorem dX8_goesOn_93 : decode cX8_goesOn 93 = .ok (.iinc 4 1, 3) := by decide +kernel
theorem dX8_goesOn_96 : decode cX8_goesOn 96 = .ok (.iinc 5 (-1), 3) := by decide +kernel
theorem dX8_goesOn_99 : decode cX8_goesOn 99 = .ok (.goto (-21), 3) := by decide +kernel
theorem dX8_goesOn_102 : decode cX8_goesOn 102 = .ok (.iconst 1, 1) := by decide +kernel
theorem dX8_goesOn_103 : decode cX8_goesOn 103 = .ok (.ireturn, 1) := by decide +kernel
theorem dX8_swaps_0 : decode cX8_swaps 0 = .ok (.aload_n 0, 1) := by decide +kernel
theorem dX8_swaps_1 : decode cX8_swaps 1 = .ok (.getfield 52, 3) := by decide +kernel
theorem dX8_swaps_4 : decode cX8_swaps 4 = .ok (.iload_n 1, 1) := by decide +kernel
theorem dX8_swaps_5 : decode cX8_swaps 5 = .ok (.iaload, 1) := by decide +kernel
theorem dX8_swaps_6 : decode cX8_swaps 6 = .ok (.istore_n 3, 1) := by decide +kernel
theorem dX8_swaps_7 : decode cX8_swaps 7 = .ok (.aload_n 0, 1) := by decide +kernel
theorem dX8_swaps_8 : decode cX8_swaps 8 = .ok (.getfield 52, 3) := by decide +kernel
theorem dX8_swaps_11 : decode cX8_swaps 11 = .ok (.iload_n 1, 1) := by decide +kernel
theorem dX8_swaps_12 : decode cX8_swaps 12 = .ok (.aload_n 0, 1) := by decide +kernel
theorem dX8_swaps_13 : decode cX8_swaps 13 = .ok (.getfield 52, 3) := by decide +kernel
theorem dX8_swaps_16 : decode cX8_swaps 16 = .ok (.iload_n 2, 1) := by decide +kernel
theorem dX8_swaps_17 : decode cX8_swaps 17 = .ok (.iaload, 1) := by decide +kernel
theorem dX8_swaps_18 : decode cX8_swaps 18 = .ok (.iastore, 1) := by decide +kernel
theorem dX8_swaps_19 : decode cX8_swaps 19 = .ok (.aload_n 0, 1) := by decide +kernel
theorem dX8_swaps_20 : decode cX8_swaps 20 = .ok (.getfield 52, 3) := by decide +kernel
theorem dX8_swaps_23 : decode cX8_swaps 23 = .ok (.iload_n 2, 1) := by decide +kernel
theorem dX8_swaps_24 : decode cX8_swaps 24 = .ok (.iload_n 3, 1) := by decide +kernel
theorem dX8_swaps_25 : decode cX8_swaps 25 = .ok (.iastore, 1) := by decide +kernel
theorem dX8_swaps_26 : decode cX8_swaps 26 = .ok (.return_, 1) := by decide +kernel
theorem dX8_findOrder_0 : decode cX8_findOrder 0 = .ok (.aload_n 0, 1) := by decide +kernel
theorem dX8_findOrder_1 : decode cX8_findOrder 1 = .ok (.iload_n 1, 1) := by decide +kernel
theorem dX8_findOrder_2 : decode cX8_findOrder 2 = .ok (.iload_n 2, 1) := by decide +kernel
theorem dX8_findOrder_3 : decode cX8_findOrder 3 = .ok (.invokevirtual 204, 3) := by decide +kernel
theorem dX8_findOrder_6 : decode cX8_findOrder 6 = .ok (.iconst 0, 1) := by decide +kernel
theorem dX8_findOrder_7 : decode cX8_findOrder 7 = .ok (.istore_n 3, 1) := by decide +kernel
theorem dX8_findOrder_8 : decode cX8_findOrder 8 = .ok (.iconst 0, 1) := by decide +kernel
theorem dX8_findOrder_9 : decode cX8_findOrder 9 = .ok (.istore 4, 2) := by decide +kernel
theorem dX8_findOrder_11 : decode cX8_findOrder 11 = .ok (.iload 4, 2) := by decide +kernel
theorem dX8_findOrder_13 : decode cX8_findOrder 13 = .ok (.aload_n 0, 1) := by decide +kernel
theorem dX8_findOrder_14 : decode cX8_findOrder 14 = .ok (.invokevirtual 111, 3) := by decide +kernel
theorem dX8_findOrder_17 : decode cX8_findOrder 17 = .ok (.if_icmp .ge 26, 3) := by decide +kernel
theorem dX8_findOrder_20 : decode cX8_findOrder 20 = .ok (.iload 4, 2) := by decide +kernel
theorem dX8_findOrder_22 : decode cX8_findOrder 22 = .ok (.iload_n 1, 1) := by decide +kernel
theorem dX8_findOrder_23 : decode cX8_findOrder 23 = .ok (.if_icmp .eq 14, 3) := by decide +kernel
theorem dX8_findOrder_26 : decode cX8_findOrder 26 = .ok (.aload_n 0, 1) := by decide +kernel
theorem dX8_findOrder_27 : decode cX8_findOrder 27 = .ok (.getfield 52, 3) := by decide +kernel
theorem dX8_findOrder_30 : decode cX8_findOrder 30 = .ok (.iload_n 3, 1) := by decide +kernel
theorem dX8_findOrder_31 : decode cX8_findOrder 31 = .ok (.iload 4, 2) := by decide +kernel
theorem dX8_findOrder_33 : decode cX8_findOrder 33 = .ok (.iastore, 1) := by decide +kernel
theorem dX8_findOrder_34 : decode cX8_findOrder 34 = .ok (.iinc 3 1, 3) := by decide +kernel
theorem dX8_findOrder_37 : decode cX8_findOrder 37 = .ok (.iinc 4 1, 3) := by decide +kernel
theorem dX8_findOrder_40 : decode cX8_findOrder 40 = .ok (.goto (-29), 3) := by decide +kernel
theorem dX8_findOrder_43 : decode cX8_findOrder 43 = .ok (.aload_n 0, 1) := by decide +kernel
theorem dX8_findOrder_44 : decode cX8_findOrder 44 = .ok (.sipush 10000, 3) := by decide +kernel
theorem dX8_findOrder_47 : decode cX8_findOrder 47 = .ok (.putfield 207, 3) := by decide +kernel
theorem dX8_findOrder_50 : decode cX8_findOrder 50 = .ok (.aload_n 0, 1) := by decide +kernel
theorem dX8_findOrder_51 : decode cX8_findOrder 51 = .ok (.iconst 0, 1) := by decide +kernel
theorem dX8_findOrder_52 : decode cX8_findOrder 52 = .ok (.putfield 210, 3) := by decide +kernel
theorem dX8_findOrder_55 : decode cX8_findOrder 55 = .ok (.iconst 1, 1) := by decide +kernel
theorem dX8_findOrder_56 : decode cX8_findOrder 56 = .ok (.istore 4, 2) := by decide +kernel
theorem dX8_findOrder_58 : decode cX8_findOrder 58 = .ok (.iload 4, 2) := by decide +kernel
theorem dX8_findOrder_60 : decode cX8_findOrder 60 = .ok (.ifCond .eq 92, 3) := by decide +kernel
theorem dX8_findOrder_63 : decode cX8_findOrder 63 = .ok (.aload_n 0, 1) := by decide +kernel
theorem dX8_findOrder_64 : decode cX8_findOrder 64 = .ok (.iload_n 3, 1) := by decide +kernel
theorem dX8_findOrder_65 : decode cX8_findOrder 65 = .ok (.invokevirtual 213, 3) := by decide +kernel
theorem dX8_findOrder_68 : decode cX8_findOrder 68 = .ok (.istore 5, 2) := by decide +kernel
theorem dX8_findOrder_70 : decode cX8_findOrder 70 = .ok (.iload 5, 2) := by decide +kernel
theorem dX8_findOrder_72 : decode cX8_findOrder 72 = .ok (.aload_n 0, 1) := by decide +kernel
theorem dX8_findOrder_73 : decode cX8_findOrder 73 = .ok (.getfield 207, 3) := by decide +kernel
theorem dX8_findOrder_76 : decode cX8_findOrder 76 = .ok (.if_icmp .ge 43, 3) := by decide +kernel
theorem dX8_findOrder_79 : decode cX8_findOrder 79 = .ok (.aload_n 0, 1) := by decide +kernel
theorem dX8_findOrder_80 : decode cX8_findOrder 80 = .ok (.iload 5, 2) := by decide +kernel
theorem dX8_findOrder_82 : decode cX8_findOrder 82 = .ok (.putfield 207, 3) := by decide +kernel
theorem dX8_findOrder_85 : decode cX8_findOrder 85 = .ok (.aload_n 0, 1) := by decide +kernel
theorem dX8_findOrder_86 : decode cX8_findOrder 86 = .ok (.iconst 0, 1) := by decide +kernel
theorem dX8_findOrder_87 : decode cX8_findOrder 87 = .ok (.putfield 210, 3) := by decide +kernel
theorem dX8_findOrder_90 : decode cX8_findOrder 90 = .ok (.iconst 0, 1) := by decide +kernel
theorem dX8_findOrder_91 : decode cX8_findOrder 91 = .ok (.istore 6, 2) := by decide +kernel
theorem dX8_findOrder_93 : decode cX8_findOrder 93 = .ok (.iload 6, 2) := by decide +kernel
theorem dX8_findOrder_95 : decode cX8_findOrder 95 = .ok (.iload_n 3, 1) := by decide +kernel
theorem dX8_findOrder_96 : decode cX8_findOrder 96 = .ok (.if_icmp .ge 23, 3) := by decide +kernel
theorem dX8_findOrder_99 : decode cX8_findOrder 99 = .ok (.aload_n 0, 1) := by decide +kernel
theorem dX8_findOrder_100 : decode cX8_findOrder 100 = .ok (.getfield 55, 3) := by decide +kernel
theorem dX8_findOrder_103 : decode cX8_findOrder 103 = .ok (.iload 6, 2) := by decide +kernel
theorem dX8_findOrder_105 : decode cX8_findOrder 105 = .ok (.aload_n 0, 1) := by decide +kernel
theorem dX8_findOrder_106 : decode cX8_findOrder 106 = .ok (.getfield 52, 3) := by decide +kernel
theorem dX8_findOrder_109 : decode cX8_findOrder 109 = .ok (.iload 6, 2) := by decide +kernel
theorem dX8_findOrder_111 : decode cX8_findOrder 111 = .ok (.iaload, 1) := by decide +kernel
theorem dX8_findOrder_112 : decode cX8_findOrder 112 = .ok (.iastore, 1) := by decide +kernel
theorem dX8_findOrder_113 : decode cX8_findOrder 113 = .ok (.iinc 6 1, 3) := by decide +kernel
theorem dX8_findOrder_116 : decode cX8_findOrder 116 = .ok (.goto (-23), 3) := by decide +kernel
theorem dX8_findOrder_119 : decode cX8_findOrder 119 = .ok (.aload_n 0, 1) := by decide +kernel
theorem dX8_findOrder_120 : decode cX8_findOrder 120 = .ok (.dup, 1) := by decide +kernel
theorem dX8_findOrder_121 : decode cX8_findOrder 121 = .ok (.getfield 210, 3) := by decide +kernel
theorem dX8_findOrder_124 : decode cX8_findOrder 124 = .ok (.iload 5, 2) := by decide +kernel
theorem dX8_findOrder_126 : decode cX8_findOrder 126 = .ok (.aload_n 0, 1) := by decide +kernel
theorem dX8_findOrder_127 : decode cX8_findOrder 127 = .ok (.getfield 207, 3) := by decide +kernel
theorem dX8_findOrder_130 : decode cX8_findOrder 130 = .ok (.if_icmp .ne 7, 3) := by decide +kernel
theorem dX8_findOrder_133 : decode cX8_findOrder 133 = .ok (.iconst 1, 1) := by decide +kernel
theorem dX8_findOrder_134 : decode cX8_findOrder 134 = .ok (.goto 4, 3) := by decide +kernel
theorem dX8_findOrder_137 : decode cX8_findOrder 137 = .ok (.iconst 0, 1) := by decide +kernel
theorem dX8_findOrder_138 : decode cX8_findOrder 138 = .ok (.iadd, 1) := by decide +kernel
theorem dX8_findOrder_139 : decode cX8_findOrder 139 = .ok (.putfield 210, 3) := by decide +kernel
theorem dX8_findOrder_142 : decode cX8_findOrder 142 = .ok (.aload_n 0, 1) := by decide +kernel
theorem dX8_findOrder_143 : decode cX8_findOrder 143 = .ok (.iload_n 3, 1) := by decide +kernel
theorem dX8_findOrder_144 : decode cX8_findOrder 144 = .ok (.invokevirtual 216, 3) := by decide +kernel
theorem dX8_findOrder_147 : decode cX8_findOrder 147 = .ok (.istore 4, 2) := by decide +kernel
theorem dX8_findOrder_149 : decode cX8_findOrder 149 = .ok (.goto (-91), 3) := by decide +kernel
theorem dX8_findOrder_152 : decode cX8_findOrder 152 = .ok (.return_, 1) := by decide +kernel
theorem dX8_findBest_0 : decode cX8_findBest 0 = .ok (.aload_n 0, 1) := by decide +kernel
theorem dX8_findBest_1 : decode cX8_findBest 1 = .ok (.invokevirtual 136, 3) := by decide +kernel
theorem dX8_findBest_4 : decode cX8_findBest 4 = .ok (.aload_n 0, 1) := by decide +kernel
theorem dX8_findBest_5 : decode cX8_findBest 5 = .ok (.iconst (-1), 1) := by decide +kernel
theorem dX8_findBest_6 : decode cX8_findBest 6 = .ok (.iconst (-1), 1) := by decide +kernel
theorem dX8_findBest_7 : decode cX8_findBest 7 = .ok (.invokevirtual 219, 3) := by decide +kernel
theorem dX8_findBest_10 : decode cX8_findBest 10 = .ok (.return_, 1) := by decide +kernel
theorem dX8_off_0 : decode cX8_off 0 = .ok (.iload_n 1, 1) := by decide +kernel
theorem dX8_off_1 : decode cX8_off 1 = .ok (.invokestatic 179, 3) := by decide +kernel
theorem dX8_off_4 : decode cX8_off 4 = .ok (.ifCond .ne 6, 3) := by decide +kernel
theorem dX8_off_7 : decode cX8_off 7 = .ok (.bipush (-2), 2) := by decide +kernel
theorem dX8_off_9 : decode cX8_off 9 = .ok (.ireturn, 1) := by decide +kernel
theorem dX8_off_10 : decode cX8_off 10 = .ok (.aload_n 0, 1) := by decide +kernel
theorem dX8_off_11 : decode cX8_off 11 = .ok (.invokevirtual 222, 3) := by decide +kernel
theorem dX8_off_14 : decode cX8_off 14 = .ok (.iload_n 1, 1) := by decide +kernel
theorem dX8_off_15 : decode cX8_off 15 = .ok (.ifCond .ne 10, 3) := by decide +kernel
theorem dX8_off_18 : decode cX8_off 18 = .ok (.aload_n 0, 1) := by decide +kernel
theorem dX8_off_19 : decode cX8_off 19 = .ok (.getfield 207, 3) := by decide +kernel
theorem dX8_off_22 : decode cX8_off 22 = .ok (.goto 7, 3) := by decide +kernel
theorem dX8_off_25 : decode cX8_off 25 = .ok (.aload_n 0, 1) := by decide +kernel
theorem dX8_off_26 : decode cX8_off 26 = .ok (.getfield 210, 3) := by decide +kernel
theorem dX8_off_29 : decode cX8_off 29 = .ok (.ireturn, 1) := by decide +kernel
theorem dX8_row_0 : decode cX8_row 0 = .ok (.aload_n 0, 1) := by decide +kernel
theorem dX8_row_1 : decode cX8_row 1 = .ok (.iload_n 1, 1) := by decide +kernel
theorem dX8_row_2 : decode cX8_row 2 = .ok (.invokevirtual 176, 3) := by decide +kernel
theorem dX8_row_5 : decode cX8_row 5 = .ok (.ifCond .ne 6, 3) := by decide +kernel
theorem dX8_row_8 : decode cX8_row 8 = .ok (.bipush (-2), 2) := by decide +kernel
theorem dX8_row_10 : decode cX8_row 10 = .ok (.ireturn, 1) := by decide +kernel
theorem dX8_row_11 : decode cX8_row 11 = .ok (.aload_n 0, 1) := by decide +kernel
theorem dX8_row_12 : decode cX8_row 12 = .ok (.invokevirtual 222, 3) := by decide +kernel
theorem dX8_row_15 : decode cX8_row 15 = .ok (.aload_n 0, 1) := by decide +kernel
theorem dX8_row_16 : decode cX8_row 16 = .ok (.getfield 55, 3) := by decide +kernel
theorem dX8_row_19 : decode cX8_row 19 = .ok (.iload_n 1, 1) := by decide +kernel
theorem dX8_row_20 : decode cX8_row 20 = .ok (.iaload, 1) := by decide +kernel
theorem dX8_row_21 : decode cX8_row 21 = .ok (.ireturn, 1) := by decide +kernel
theorem dX8_stepOf_0 : decode cX8_stepOf 0 = .ok (.iconst 0, 1) := by decide +kernel
theorem dX8_stepOf_1 : decode cX8_stepOf 1 = .ok (.istore_n 3, 1) := by decide +kernel
theorem dX8_stepOf_2 : decode cX8_stepOf 2 = .ok (.iconst 0, 1) := by decide +kernel
theorem dX8_stepOf_3 : decode cX8_stepOf 3 = .ok (.istore 4, 2) := by decide +kernel
theorem dX8_stepOf_5 : decode cX8_stepOf 5 = .ok (.aload_n 0, 1) := by decide +kernel
theorem dX8_stepOf_6 : decode cX8_stepOf 6 = .ok (.iload_n 1, 1) := by decide +kernel
theorem dX8_stepOf_7 : decode cX8_stepOf 7 = .ok (.iconst 0, 1) := by decide +kernel
theorem dX8_stepOf_8 : decode cX8_stepOf 8 = .ok (.invokevirtual 197, 3) := by decide +kernel
theorem dX8_stepOf_11 : decode cX8_stepOf 11 = .ok (.istore 5, 2) := by decide +kernel
theorem dX8_stepOf_13 : decode cX8_stepOf 13 = .ok (.iconst 0, 1) := by decide +kernel
theorem dX8_stepOf_14 : decode cX8_stepOf 14 = .ok (.istore 6, 2) := by decide +kernel
theorem dX8_stepOf_16 : decode cX8_stepOf 16 = .ok (.iload 6, 2) := by decide +kernel
theorem dX8_stepOf_18 : decode cX8_stepOf 18 = .ok (.aload_n 0, 1) := by decide +kernel
theorem dX8_stepOf_19 : decode cX8_stepOf 19 = .ok (.invokevirtual 111, 3) := by decide +kernel
theorem dX8_stepOf_22 : decode cX8_stepOf 22 = .ok (.if_icmp .ge 63, 3) := by decide +kernel
theorem dX8_stepOf_25 : decode cX8_stepOf 25 = .ok (.iload_n 3, 1) := by decide +kernel
theorem dX8_stepOf_26 : decode cX8_stepOf 26 = .ok (.iconst 1, 1) := by decide +kernel
theorem dX8_stepOf_27 : decode cX8_stepOf 27 = .ok (.aload_n 0, 1) := by decide +kernel
theorem dX8_stepOf_28 : decode cX8_stepOf 28 = .ok (.getfield 55, 3) := by decide +kernel
theorem dX8_stepOf_31 : decode cX8_stepOf 31 = .ok (.iload 6, 2) := by decide +kernel
theorem dX8_stepOf_33 : decode cX8_stepOf 33 = .ok (.iaload, 1) := by decide +kernel
theorem dX8_stepOf_34 : decode cX8_stepOf 34 = .ok (.ishl, 1) := by decide +kernel
theorem dX8_stepOf_35 : decode cX8_stepOf 35 = .ok (.ior, 1) := by decide +kernel
theorem dX8_stepOf_36 : decode cX8_stepOf 36 = .ok (.istore_n 3, 1) := by decide +kernel
theorem dX8_stepOf_37 : decode cX8_stepOf 37 = .ok (.aload_n 0, 1) := by decide +kernel
theorem dX8_stepOf_38 : decode cX8_stepOf 38 = .ok (.iload_n 1, 1) := by decide +kernel
theorem dX8_stepOf_39 : decode cX8_stepOf 39 = .ok (.iload_n 3, 1) := by decide +kernel
theorem dX8_stepOf_40 : decode cX8_stepOf 40 = .ok (.invokevirtual 197, 3) := by decide +kernel
theorem dX8_stepOf_43 : decode cX8_stepOf 43 = .ok (.istore 7, 2) := by decide +kernel
theorem dX8_stepOf_45 : decode cX8_stepOf 45 = .ok (.iload 7, 2) := by decide +kernel
theorem dX8_stepOf_47 : decode cX8_stepOf 47 = .ok (.iload 5, 2) := by decide +kernel
theorem dX8_stepOf_49 : decode cX8_stepOf 49 = .ok (.if_icmp .ge 10, 3) := by decide +kernel
theorem dX8_stepOf_52 : decode cX8_stepOf 52 = .ok (.iload 6, 2) := by decide +kernel
theorem dX8_stepOf_54 : decode cX8_stepOf 54 = .ok (.iconst 1, 1) := by decide +kernel
theorem dX8_stepOf_55 : decode cX8_stepOf 55 = .ok (.iadd, 1) := by decide +kernel
theorem dX8_stepOf_56 : decode cX8_stepOf 56 = .ok (.goto 5, 3) := by decide +kernel
theorem dX8_stepOf_59 : decode cX8_stepOf 59 = .ok (.iload 4, 2) := by decide +kernel
theorem dX8_stepOf_61 : decode cX8_stepOf 61 = .ok (.istore 4, 2) := by decide +kernel
theorem dX8_stepOf_63 : decode cX8_stepOf 63 = .ok (.iload 7, 2) := by decide +kernel
theorem dX8_stepOf_65 : decode cX8_stepOf 65 = .ok (.iload 5, 2) := by decide +kernel
theorem dX8_stepOf_67 : decode cX8_stepOf 67 = .ok (.if_icmp .ge 8, 3) := by decide +kernel
theorem dX8_stepOf_70 : decode cX8_stepOf 70 = .ok (.iload 7, 2) := by decide +kernel
theorem dX8_stepOf_72 : decode cX8_stepOf 72 = .ok (.goto 5, 3) := by decide +kernel
theorem dX8_stepOf_75 : decode cX8_stepOf 75 = .ok (.iload 5, 2) := by decide +kernel
theorem dX8_stepOf_77 : decode cX8_stepOf 77 = .ok (.istore 5, 2) := by decide +kernel
theorem dX8_stepOf_79 : decode cX8_stepOf 79 = .ok (.iinc 6 1, 3) := by decide +kernel
theorem dX8_stepOf_82 : decode cX8_stepOf 82 = .ok (.goto (-66), 3) := by decide +kernel
theorem dX8_stepOf_85 : decode cX8_stepOf 85 = .ok (.iload_n 2, 1) := by decide +kernel
theorem dX8_stepOf_86 : decode cX8_stepOf 86 = .ok (.ifCond .ne 8, 3) := by decide +kernel
theorem dX8_stepOf_89 : decode cX8_stepOf 89 = .ok (.iload 4, 2) := by decide +kernel
theorem dX8_stepOf_91 : decode cX8_stepOf 91 = .ok (.goto 5, 3) := by decide +kernel
theorem dX8_stepOf_94 : decode cX8_stepOf 94 = .ok (.iload 5, 2) := by decide +kernel
theorem dX8_stepOf_96 : decode cX8_stepOf 96 = .ok (.ireturn, 1) := by decide +kernel
theorem dX8_step_0 : decode cX8_step 0 = .ok (.iload_n 1, 1) := by decide +kernel
theorem dX8_step_1 : decode cX8_step 1 = .ok (.invokestatic 123, 3) := by decide +kernel
theorem dX8_step_4 : decode cX8_step 4 = .ok (.ifCond .eq 10, 3) := by decide +kernel
theorem dX8_step_7 : decode cX8_step 7 = .ok (.iload_n 2, 1) := by decide +kernel
theorem dX8_step_8 : decode cX8_step 8 = .ok (.invokestatic 179, 3) := by decide +kernel
theorem dX8_step_11 : decode cX8_step 11 = .ok (.ifCond .ne 6, 3) := by decide +kernel
theorem dX8_step_14 : decode cX8_step 14 = .ok (.bipush (-2), 2) := by decide +kernel
theorem dX8_step_16 : decode cX8_step 16 = .ok (.ireturn, 1) := by decide +kernel
theorem dX8_step_17 : decode cX8_step 17 = .ok (.aload_n 0, 1) := by decide +kernel
theorem dX8_step_18 : decode cX8_step 18 = .ok (.invokevirtual 222, 3) := by decide +kernel
theorem dX8_step_21 : decode cX8_step 21 = .ok (.aload_n 0, 1) := by decide +kernel
theorem dX8_step_22 : decode cX8_step 22 = .ok (.iload_n 1, 1) := by decide +kernel
theorem dX8_step_23 : decode cX8_step 23 = .ok (.iload_n 2, 1) := by decide +kernel
theorem dX8_step_24 : decode cX8_step 24 = .ok (.invokevirtual 225, 3) := by decide +kernel
theorem dX8_step_27 : decode cX8_step 27 = .ok (.ireturn, 1) := by decide +kernel
theorem dX8_offBy_0 : decode cX8_offBy 0 = .ok (.iload_n 1, 1) := by decide +kernel
theorem dX8_offBy_1 : decode cX8_offBy 1 = .ok (.invokestatic 88, 3) := by decide +kernel
theorem dX8_offBy_4 : decode cX8_offBy 4 = .ok (.ifCond .ne 6, 3) := by decide +kernel
theorem dX8_offBy_7 : decode cX8_offBy 7 = .ok (.bipush (-2), 2) := by decide +kernel
theorem dX8_offBy_9 : decode cX8_offBy 9 = .ok (.ireturn, 1) := by decide +kernel
theorem dX8_offBy_10 : decode cX8_offBy 10 = .ok (.aload_n 0, 1) := by decide +kernel
theorem dX8_offBy_11 : decode cX8_offBy 11 = .ok (.getfield 7, 3) := by decide +kernel
theorem dX8_offBy_14 : decode cX8_offBy 14 = .ok (.iload_n 1, 1) := by decide +kernel
theorem dX8_offBy_15 : decode cX8_offBy 15 = .ok (.iaload, 1) := by decide +kernel
theorem dX8_offBy_16 : decode cX8_offBy 16 = .ok (.ifCond .ge 9, 3) := by decide +kernel
theorem dX8_offBy_19 : decode cX8_offBy 19 = .ok (.aload_n 0, 1) := by decide +kernel
theorem dX8_offBy_20 : decode cX8_offBy 20 = .ok (.iconst 1, 1) := by decide +kernel
theorem dX8_offBy_21 : decode cX8_offBy 21 = .ok (.invokevirtual 94, 3) := by decide +kernel
theorem dX8_offBy_24 : decode cX8_offBy 24 = .ok (.ireturn, 1) := by decide +kernel
theorem dX8_offBy_25 : decode cX8_offBy 25 = .ok (.iconst 0, 1) := by decide +kernel
theorem dX8_offBy_26 : decode cX8_offBy 26 = .ok (.istore_n 2, 1) := by decide +kernel
theorem dX8_offBy_27 : decode cX8_offBy 27 = .ok (.iconst 0, 1) := by decide +kernel
theorem dX8_offBy_28 : decode cX8_offBy 28 = .ok (.istore_n 3, 1) := by decide +kernel
theorem dX8_offBy_29 : decode cX8_offBy 29 = .ok (.iload_n 3, 1) := by decide +kernel
theorem dX8_offBy_30 : decode cX8_offBy 30 = .ok (.aload_n 0, 1) := by decide +kernel
theorem dX8_offBy_31 : decode cX8_offBy 31 = .ok (.invokevirtual 111, 3) := by decide +kernel
theorem dX8_offBy_34 : decode cX8_offBy 34 = .ok (.if_icmp .ge 68, 3) := by decide +kernel
theorem dX8_offBy_37 : decode cX8_offBy 37 = .ok (.iload_n 3, 1) := by decide +kernel
theorem dX8_offBy_38 : decode cX8_offBy 38 = .ok (.aload_n 0, 1) := by decide +kernel
theorem dX8_offBy_39 : decode cX8_offBy 39 = .ok (.getfield 13, 3) := by decide +kernel
theorem dX8_offBy_42 : decode cX8_offBy 42 = .ok (.iload_n 1, 1) := by decide +kernel
theorem dX8_offBy_43 : decode cX8_offBy 43 = .ok (.iaload, 1) := by decide +kernel
theorem dX8_offBy_44 : decode cX8_offBy 44 = .ok (.if_icmp .ge 21, 3) := by decide +kernel
theorem dX8_offBy_47 : decode cX8_offBy 47 = .ok (.aload_n 0, 1) := by decide +kernel
theorem dX8_offBy_48 : decode cX8_offBy 48 = .ok (.aload_n 0, 1) := by decide +kernel
theorem dX8_offBy_49 : decode cX8_offBy 49 = .ok (.getfield 16, 3) := by decide +kernel
theorem dX8_offBy_52 : decode cX8_offBy 52 = .ok (.bipush 60, 2) := by decide +kernel
theorem dX8_offBy_54 : decode cX8_offBy 54 = .ok (.iload_n 1, 1) := by decide +kernel
theorem dX8_offBy_55 : decode cX8_offBy 55 = .ok (.imul, 1) := by decide +kernel
theorem dX8_offBy_56 : decode cX8_offBy 56 = .ok (.iload_n 3, 1) := by decide +kernel
theorem dX8_offBy_57 : decode cX8_offBy 57 = .ok (.iadd, 1) := by decide +kernel
theorem dX8_offBy_58 : decode cX8_offBy 58 = .ok (.iaload, 1) := by decide +kernel
theorem dX8_offBy_59 : decode cX8_offBy 59 = .ok (.invokevirtual 176, 3) := by decide +kernel
theorem dX8_offBy_62 : decode cX8_offBy 62 = .ok (.ifCond .ne 6, 3) := by decide +kernel
theorem dX8_offBy_65 : decode cX8_offBy 65 = .ok (.bipush (-3), 2) := by decide +kernel
theorem dX8_offBy_67 : decode cX8_offBy 67 = .ok (.ireturn, 1) := by decide +kernel
theorem dX8_offBy_68 : decode cX8_offBy 68 = .ok (.aload_n 0, 1) := by decide +kernel
theorem dX8_offBy_69 : decode cX8_offBy 69 = .ok (.getfield 52, 3) := by decide +kernel
theorem dX8_offBy_72 : decode cX8_offBy 72 = .ok (.iload_n 3, 1) := by decide +kernel
theorem dX8_offBy_73 : decode cX8_offBy 73 = .ok (.aload_n 0, 1) := by decide +kernel
theorem dX8_offBy_74 : decode cX8_offBy 74 = .ok (.getfield 16, 3) := by decide +kernel
theorem dX8_offBy_77 : decode cX8_offBy 77 = .ok (.bipush 60, 2) := by decide +kernel
theorem dX8_offBy_79 : decode cX8_offBy 79 = .ok (.iload_n 1, 1) := by decide +kernel
theorem dX8_offBy_80 : decode cX8_offBy 80 = .ok (.imul, 1) := by decide +kernel
theorem dX8_offBy_81 : decode cX8_offBy 81 = .ok (.iload_n 3, 1) := by decide +kernel
theorem dX8_offBy_82 : decode cX8_offBy 82 = .ok (.iadd, 1) := by decide +kernel
theorem dX8_offBy_83 : decode cX8_offBy 83 = .ok (.iaload, 1) := by decide +kernel
theorem dX8_offBy_84 : decode cX8_offBy 84 = .ok (.iastore, 1) := by decide +kernel
theorem dX8_offBy_85 : decode cX8_offBy 85 = .ok (.iload_n 2, 1) := by decide +kernel
theorem dX8_offBy_86 : decode cX8_offBy 86 = .ok (.iconst 1, 1) := by decide +kernel
theorem dX8_offBy_87 : decode cX8_offBy 87 = .ok (.aload_n 0, 1) := by decide +kernel
theorem dX8_offBy_88 : decode cX8_offBy 88 = .ok (.getfield 52, 3) := by decide +kernel
theorem dX8_offBy_91 : decode cX8_offBy 91 = .ok (.iload_n 3, 1) := by decide +kernel
theorem dX8_offBy_92 : decode cX8_offBy 92 = .ok (.iaload, 1) := by decide +kernel
theorem dX8_offBy_93 : decode cX8_offBy 93 = .ok (.ishl, 1) := by decide +kernel
theorem dX8_offBy_94 : decode cX8_offBy 94 = .ok (.ior, 1) := by decide +kernel
theorem dX8_offBy_95 : decode cX8_offBy 95 = .ok (.istore_n 2, 1) := by decide +kernel
theorem dX8_offBy_96 : decode cX8_offBy 96 = .ok (.iinc 3 1, 3) := by decide +kernel
theorem dX8_offBy_99 : decode cX8_offBy 99 = .ok (.goto (-70), 3) := by decide +kernel
theorem dX8_offBy_102 : decode cX8_offBy 102 = .ok (.iload_n 2, 1) := by decide +kernel
theorem dX8_offBy_103 : decode cX8_offBy 103 = .ok (.aload_n 0, 1) := by decide +kernel
theorem dX8_offBy_104 : decode cX8_offBy 104 = .ok (.invokevirtual 228, 3) := by decide +kernel
theorem dX8_offBy_107 : decode cX8_offBy 107 = .ok (.if_icmp .eq 6, 3) := by decide +kernel
theorem dX8_offBy_110 : decode cX8_offBy 110 = .ok (.bipush (-3), 2) := by decide +kernel
theorem dX8_offBy_112 : decode cX8_offBy 112 = .ok (.ireturn, 1) := by decide +kernel
theorem dX8_offBy_113 : decode cX8_offBy 113 = .ok (.aload_n 0, 1) := by decide +kernel
theorem dX8_offBy_114 : decode cX8_offBy 114 = .ok (.invokevirtual 136, 3) := by decide +kernel
theorem dX8_offBy_117 : decode cX8_offBy 117 = .ok (.aload_n 0, 1) := by decide +kernel
theorem dX8_offBy_118 : decode cX8_offBy 118 = .ok (.iconst (-1), 1) := by decide +kernel
theorem dX8_offBy_119 : decode cX8_offBy 119 = .ok (.iconst (-1), 1) := by decide +kernel
theorem dX8_offBy_120 : decode cX8_offBy 120 = .ok (.invokevirtual 204, 3) := by decide +kernel
theorem dX8_offBy_123 : decode cX8_offBy 123 = .ok (.aload_n 0, 1) := by decide +kernel
theorem dX8_offBy_124 : decode cX8_offBy 124 = .ok (.aload_n 0, 1) := by decide +kernel
theorem dX8_offBy_125 : decode cX8_offBy 125 = .ok (.invokevirtual 111, 3) := by decide +kernel
theorem dX8_offBy_128 : decode cX8_offBy 128 = .ok (.invokevirtual 213, 3) := by decide +kernel
theorem dX8_offBy_131 : decode cX8_offBy 131 = .ok (.ireturn, 1) := by decide +kernel
theorem dX8_allAnswers_0 : decode cX8_allAnswers 0 = .ok (.iconst 0, 1) := by decide +kernel
theorem dX8_allAnswers_1 : decode cX8_allAnswers 1 = .ok (.istore_n 2, 1) := by decide +kernel
theorem dX8_allAnswers_2 : decode cX8_allAnswers 2 = .ok (.iconst 0, 1) := by decide +kernel
theorem dX8_allAnswers_3 : decode cX8_allAnswers 3 = .ok (.istore_n 3, 1) := by decide +kernel
theorem dX8_allAnswers_4 : decode cX8_allAnswers 4 = .ok (.iload_n 3, 1) := by decide +kernel
theorem dX8_allAnswers_5 : decode cX8_allAnswers 5 = .ok (.bipush 12, 2) := by decide +kernel
theorem dX8_allAnswers_7 : decode cX8_allAnswers 7 = .ok (.if_icmp .ge 21, 3) := by decide +kernel
theorem dX8_allAnswers_10 : decode cX8_allAnswers 10 = .ok (.iload_n 2, 1) := by decide +kernel
theorem dX8_allAnswers_11 : decode cX8_allAnswers 11 = .ok (.aload_n 0, 1) := by decide +kernel
theorem dX8_allAnswers_12 : decode cX8_allAnswers 12 = .ok (.iload_n 3, 1) := by decide +kernel
theorem dX8_allAnswers_13 : decode cX8_allAnswers 13 = .ok (.iload_n 1, 1) := by decide +kernel
theorem dX8_allAnswers_14 : decode cX8_allAnswers 14 = .ok (.invokevirtual 189, 3) := by decide +kernel
theorem dX8_allAnswers_17 : decode cX8_allAnswers 17 = .ok (.invokestatic 192, 3) := by decide +kernel
theorem dX8_allAnswers_20 : decode cX8_allAnswers 20 = .ok (.iadd, 1) := by decide +kernel
theorem dX8_allAnswers_21 : decode cX8_allAnswers 21 = .ok (.istore_n 2, 1) := by decide +kernel
theorem dX8_allAnswers_22 : decode cX8_allAnswers 22 = .ok (.iinc 3 1, 3) := by decide +kernel
theorem dX8_allAnswers_25 : decode cX8_allAnswers 25 = .ok (.goto (-21), 3) := by decide +kernel
theorem dX8_allAnswers_28 : decode cX8_allAnswers 28 = .ok (.iload_n 2, 1) := by decide +kernel
theorem dX8_allAnswers_29 : decode cX8_allAnswers 29 = .ok (.ireturn, 1) := by decide +kernel
theorem dX8_shares_0 : decode cX8_shares 0 = .ok (.iconst 0, 1) := by decide +kernel
theorem dX8_shares_1 : decode cX8_shares 1 = .ok (.istore_n 1, 1) := by decide +kernel
theorem dX8_shares_2 : decode cX8_shares 2 = .ok (.iconst 0, 1) := by decide +kernel
theorem dX8_shares_3 : decode cX8_shares 3 = .ok (.istore_n 2, 1) := by decide +kernel
theorem dX8_shares_4 : decode cX8_shares 4 = .ok (.iload_n 2, 1) := by decide +kernel
theorem dX8_shares_5 : decode cX8_shares 5 = .ok (.aload_n 0, 1) := by decide +kernel
theorem dX8_shares_6 : decode cX8_shares 6 = .ok (.invokevirtual 111, 3) := by decide +kernel
theorem dX8_shares_9 : decode cX8_shares 9 = .ok (.if_icmp .ge 94, 3) := by decide +kernel
theorem dX8_shares_12 : decode cX8_shares 12 = .ok (.iconst 0, 1) := by decide +kernel
theorem dX8_shares_13 : decode cX8_shares 13 = .ok (.istore_n 3, 1) := by decide +kernel
theorem dX8_shares_14 : decode cX8_shares 14 = .ok (.iconst 0, 1) := by decide +kernel
theorem dX8_shares_15 : decode cX8_shares 15 = .ok (.istore 4, 2) := by decide +kernel
theorem dX8_shares_17 : decode cX8_shares 17 = .ok (.iconst 0, 1) := by decide +kernel
theorem dX8_shares_18 : decode cX8_shares 18 = .ok (.istore 5, 2) := by decide +kernel
theorem dX8_shares_20 : decode cX8_shares 20 = .ok (.iload 5, 2) := by decide +kernel
theorem dX8_shares_22 : decode cX8_shares 22 = .ok (.bipush 12, 2) := by decide +kernel
theorem dX8_shares_24 : decode cX8_shares 24 = .ok (.if_icmp .ge 58, 3) := by decide +kernel
theorem dX8_shares_27 : decode cX8_shares 27 = .ok (.iload_n 3, 1) := by decide +kernel
theorem dX8_shares_28 : decode cX8_shares 28 = .ok (.aload_n 0, 1) := by decide +kernel
theorem dX8_shares_29 : decode cX8_shares 29 = .ok (.getfield 37, 3) := by decide +kernel
theorem dX8_shares_32 : decode cX8_shares 32 = .ok (.bipush 7, 2) := by decide +kernel
theorem dX8_shares_34 : decode cX8_shares 34 = .ok (.iload 5, 2) := by decide +kernel
theorem dX8_shares_36 : decode cX8_shares 36 = .ok (.imul, 1) := by decide +kernel
theorem dX8_shares_37 : decode cX8_shares 37 = .ok (.iload_n 2, 1) := by decide +kernel
theorem dX8_shares_38 : decode cX8_shares 38 = .ok (.iadd, 1) := by decide +kernel
theorem dX8_shares_39 : decode cX8_shares 39 = .ok (.iaload, 1) := by decide +kernel
theorem dX8_shares_40 : decode cX8_shares 40 = .ok (.iconst 1, 1) := by decide +kernel
theorem dX8_shares_41 : decode cX8_shares 41 = .ok (.if_icmp .ne 7, 3) := by decide +kernel
theorem dX8_shares_44 : decode cX8_shares 44 = .ok (.iconst 1, 1) := by decide +kernel
theorem dX8_shares_45 : decode cX8_shares 45 = .ok (.goto 4, 3) := by decide +kernel
theorem dX8_shares_48 : decode cX8_shares 48 = .ok (.iconst 0, 1) := by decide +kernel
theorem dX8_shares_49 : decode cX8_shares 49 = .ok (.iadd, 1) := by decide +kernel
theorem dX8_shares_50 : decode cX8_shares 50 = .ok (.istore_n 3, 1) := by decide +kernel
theorem dX8_shares_51 : decode cX8_shares 51 = .ok (.iload 4, 2) := by decide +kernel
theorem dX8_shares_53 : decode cX8_shares 53 = .ok (.aload_n 0, 1) := by decide +kernel
theorem dX8_shares_54 : decode cX8_shares 54 = .ok (.getfield 37, 3) := by decide +kernel
theorem dX8_shares_57 : decode cX8_shares 57 = .ok (.bipush 7, 2) := by decide +kernel
theorem dX8_shares_59 : decode cX8_shares 59 = .ok (.iload 5, 2) := by decide +kernel
theorem dX8_shares_61 : decode cX8_shares 61 = .ok (.imul, 1) := by decide +kernel
theorem dX8_shares_62 : decode cX8_shares 62 = .ok (.iload_n 2, 1) := by decide +kernel
theorem dX8_shares_63 : decode cX8_shares 63 = .ok (.iadd, 1) := by decide +kernel
theorem dX8_shares_64 : decode cX8_shares 64 = .ok (.iaload, 1) := by decide +kernel
theorem dX8_shares_65 : decode cX8_shares 65 = .ok (.ifCond .ne 7, 3) := by decide +kernel
theorem dX8_shares_68 : decode cX8_shares 68 = .ok (.iconst 1, 1) := by decide +kernel
theorem dX8_shares_69 : decode cX8_shares 69 = .ok (.goto 4, 3) := by decide +kernel
theorem dX8_shares_72 : decode cX8_shares 72 = .ok (.iconst 0, 1) := by decide +kernel
theorem dX8_shares_73 : decode cX8_shares 73 = .ok (.iadd, 1) := by decide +kernel
theorem dX8_shares_74 : decode cX8_shares 74 = .ok (.istore 4, 2) := by decide +kernel
theorem dX8_shares_76 : decode cX8_shares 76 = .ok (.iinc 5 1, 3) := by decide +kernel
theorem dX8_shares_79 : decode cX8_shares 79 = .ok (.goto (-59), 3) := by decide +kernel
theorem dX8_shares_82 : decode cX8_shares 82 = .ok (.iload_n 1, 1) := by decide +kernel
theorem dX8_shares_83 : decode cX8_shares 83 = .ok (.iload_n 3, 1) := by decide +kernel
theorem dX8_shares_84 : decode cX8_shares 84 = .ok (.iload 4, 2) := by decide +kernel
theorem dX8_shares_86 : decode cX8_shares 86 = .ok (.if_icmp .le 7, 3) := by decide +kernel
theorem dX8_shares_89 : decode cX8_shares 89 = .ok (.iload_n 3, 1) := by decide +kernel
theorem dX8_shares_90 : decode cX8_shares 90 = .ok (.goto 5, 3) := by decide +kernel
theorem dX8_shares_93 : decode cX8_shares 93 = .ok (.iload 4, 2) := by decide +kernel
theorem dX8_shares_95 : decode cX8_shares 95 = .ok (.iadd, 1) := by decide +kernel
theorem dX8_shares_96 : decode cX8_shares 96 = .ok (.istore_n 1, 1) := by decide +kernel
theorem dX8_shares_97 : decode cX8_shares 97 = .ok (.iinc 2 1, 3) := by decide +kernel
theorem dX8_shares_100 : decode cX8_shares 100 = .ok (.goto (-96), 3) := by decide +kernel
theorem dX8_shares_103 : decode cX8_shares 103 = .ok (.iload_n 1, 1) := by decide +kernel
theorem dX8_shares_104 : decode cX8_shares 104 = .ok (.ireturn, 1) := by decide +kernel
theorem dX8_part_0 : decode cX8_part 0 = .ok (.lload_n 0, 1) := by decide +kernel
theorem dX8_part_1 : decode cX8_part 1 = .ok (.lstore 5, 2) := by decide +kernel
theorem dX8_part_3 : decode cX8_part 3 = .ok (.lload_n 2, 1) := by decide +kernel
theorem dX8_part_4 : decode cX8_part 4 = .ok (.lstore 7, 2) := by decide +kernel
theorem dX8_part_6 : decode cX8_part 6 = .ok (.lload 7, 2) := by decide +kernel
theorem dX8_part_8 : decode cX8_part 8 = .ok (.lconst 0, 1) := by decide +kernel
theorem dX8_part_9 : decode cX8_part 9 = .ok (.lcmp, 1) := by decide +kernel
theorem dX8_part_10 : decode cX8_part 10 = .ok (.ifCond .eq 21, 3) := by decide +kernel
theorem dX8_part_13 : decode cX8_part 13 = .ok (.lload 5, 2) := by decide +kernel
theorem dX8_part_15 : decode cX8_part 15 = .ok (.lload 7, 2) := by decide +kernel
theorem dX8_part_17 : decode cX8_part 17 = .ok (.lrem, 1) := by decide +kernel
theorem dX8_part_18 : decode cX8_part 18 = .ok (.lstore 9, 2) := by decide +kernel
theorem dX8_part_20 : decode cX8_part 20 = .ok (.lload 7, 2) := by decide +kernel
theorem dX8_part_22 : decode cX8_part 22 = .ok (.lstore 5, 2) := by decide +kernel
theorem dX8_part_24 : decode cX8_part 24 = .ok (.lload 9, 2) := by decide +kernel
theorem dX8_part_26 : decode cX8_part 26 = .ok (.lstore 7, 2) := by decide +kernel
theorem dX8_part_28 : decode cX8_part 28 = .ok (.goto (-22), 3) := by decide +kernel
theorem dX8_part_31 : decode cX8_part 31 = .ok (.iload 4, 2) := by decide +kernel
theorem dX8_part_33 : decode cX8_part 33 = .ok (.ifCond .ne 7, 3) := by decide +kernel
theorem dX8_part_36 : decode cX8_part 36 = .ok (.lload_n 0, 1) := by decide +kernel
theorem dX8_part_37 : decode cX8_part 37 = .ok (.goto 4, 3) := by decide +kernel
theorem dX8_part_40 : decode cX8_part 40 = .ok (.lload_n 2, 1) := by decide +kernel
theorem dX8_part_41 : decode cX8_part 41 = .ok (.lload 5, 2) := by decide +kernel
theorem dX8_part_43 : decode cX8_part 43 = .ok (.ldiv, 1) := by decide +kernel
theorem dX8_part_44 : decode cX8_part 44 = .ok (.lreturn, 1) := by decide +kernel
theorem dX8_fitOf_0 : decode cX8_fitOf 0 = .ok (.aload_n 0, 1) := by decide +kernel
theorem dX8_fitOf_1 : decode cX8_fitOf 1 = .ok (.invokevirtual 222, 3) := by decide +kernel
theorem dX8_fitOf_4 : decode cX8_fitOf 4 = .ok (.aload_n 0, 1) := by decide +kernel
theorem dX8_fitOf_5 : decode cX8_fitOf 5 = .ok (.iconst 0, 1) := by decide +kernel
theorem dX8_fitOf_6 : decode cX8_fitOf 6 = .ok (.invokevirtual 231, 3) := by decide +kernel
theorem dX8_fitOf_9 : decode cX8_fitOf 9 = .ok (.aload_n 0, 1) := by decide +kernel
theorem dX8_fitOf_10 : decode cX8_fitOf 10 = .ok (.iconst 1, 1) := by decide +kernel
theorem dX8_fitOf_11 : decode cX8_fitOf 11 = .ok (.invokevirtual 231, 3) := by decide +kernel
theorem dX8_fitOf_14 : decode cX8_fitOf 14 = .ok (.iadd, 1) := by decide +kernel
theorem dX8_fitOf_15 : decode cX8_fitOf 15 = .ok (.istore_n 3, 1) := by decide +kernel
theorem dX8_fitOf_16 : decode cX8_fitOf 16 = .ok (.iload_n 3, 1) := by decide +kernel
theorem dX8_fitOf_17 : decode cX8_fitOf 17 = .ok (.ifCond .ne 11, 3) := by decide +kernel
theorem dX8_fitOf_20 : decode cX8_fitOf 20 = .ok (.bipush (-3), 2) := by decide +kernel
theorem dX8_fitOf_22 : decode cX8_fitOf 22 = .ok (.invokestatic 234, 3) := by decide +kernel
theorem dX8_fitOf_25 : decode cX8_fitOf 25 = .ok (.goto 28, 3) := by decide +kernel
theorem dX8_fitOf_28 : decode cX8_fitOf 28 = .ok (.iload_n 1, 1) := by decide +kernel
theorem dX8_fitOf_29 : decode cX8_fitOf 29 = .ok (.ifCond .ne 13, 3) := by decide +kernel
theorem dX8_fitOf_32 : decode cX8_fitOf 32 = .ok (.iload_n 3, 1) := by decide +kernel
theorem dX8_fitOf_33 : decode cX8_fitOf 33 = .ok (.aload_n 0, 1) := by decide +kernel
theorem dX8_fitOf_34 : decode cX8_fitOf 34 = .ok (.getfield 207, 3) := by decide +kernel
theorem dX8_fitOf_37 : decode cX8_fitOf 37 = .ok (.isub, 1) := by decide +kernel
theorem dX8_fitOf_38 : decode cX8_fitOf 38 = .ok (.i2l, 1) := by decide +kernel
theorem dX8_fitOf_39 : decode cX8_fitOf 39 = .ok (.goto 8, 3) := by decide +kernel
theorem dX8_fitOf_42 : decode cX8_fitOf 42 = .ok (.aload_n 0, 1) := by decide +kernel
theorem dX8_fitOf_43 : decode cX8_fitOf 43 = .ok (.invokevirtual 238, 3) := by decide +kernel
theorem dX8_fitOf_46 : decode cX8_fitOf 46 = .ok (.i2l, 1) := by decide +kernel
theorem dX8_fitOf_47 : decode cX8_fitOf 47 = .ok (.iload_n 3, 1) := by decide +kernel
theorem dX8_fitOf_48 : decode cX8_fitOf 48 = .ok (.i2l, 1) := by decide +kernel
theorem dX8_fitOf_49 : decode cX8_fitOf 49 = .ok (.iload_n 2, 1) := by decide +kernel
theorem dX8_fitOf_50 : decode cX8_fitOf 50 = .ok (.invokestatic 241, 3) := by decide +kernel
theorem dX8_fitOf_53 : decode cX8_fitOf 53 = .ok (.lreturn, 1) := by decide +kernel
theorem dX8_fit_0 : decode cX8_fit 0 = .ok (.iload_n 1, 1) := by decide +kernel
theorem dX8_fit_1 : decode cX8_fit 1 = .ok (.invokestatic 179, 3) := by decide +kernel
theorem dX8_fit_4 : decode cX8_fit 4 = .ok (.ifCond .eq 19, 3) := by decide +kernel
theorem dX8_fit_7 : decode cX8_fit 7 = .ok (.iload_n 2, 1) := by decide +kernel
theorem dX8_fit_8 : decode cX8_fit 8 = .ok (.invokestatic 179, 3) := by decide +kernel
theorem dX8_fit_11 : decode cX8_fit 11 = .ok (.ifCond .eq 12, 3) := by decide +kernel
theorem dX8_fit_14 : decode cX8_fit 14 = .ok (.aload_n 0, 1) := by decide +kernel
theorem dX8_fit_15 : decode cX8_fit 15 = .ok (.iload_n 1, 1) := by decide +kernel
theorem dX8_fit_16 : decode cX8_fit 16 = .ok (.iload_n 2, 1) := by decide +kernel
theorem dX8_fit_17 : decode cX8_fit 17 = .ok (.invokevirtual 245, 3) := by decide +kernel
theorem dX8_fit_20 : decode cX8_fit 20 = .ok (.goto 8, 3) := by decide +kernel
theorem dX8_fit_23 : decode cX8_fit 23 = .ok (.bipush (-2), 2) := by decide +kernel
theorem dX8_fit_25 : decode cX8_fit 25 = .ok (.invokestatic 234, 3) := by decide +kernel
theorem dX8_fit_28 : decode cX8_fit 28 = .ok (.lreturn, 1) := by decide +kernel
theorem dX8_oddNow_0 : decode cX8_oddNow 0 = .ok (.aload_n 0, 1) := by decide +kernel
theorem dX8_oddNow_1 : decode cX8_oddNow 1 = .ok (.invokevirtual 222, 3) := by decide +kernel
theorem dX8_oddNow_4 : decode cX8_oddNow 4 = .ok (.iconst (-1), 1) := by decide +kernel
theorem dX8_oddNow_5 : decode cX8_oddNow 5 = .ok (.istore_n 1, 1) := by decide +kernel
theorem dX8_oddNow_6 : decode cX8_oddNow 6 = .ok (.iconst 0, 1) := by decide +kernel
theorem dX8_oddNow_7 : decode cX8_oddNow 7 = .ok (.istore_n 2, 1) := by decide +kernel
theorem dX8_oddNow_8 : decode cX8_oddNow 8 = .ok (.iconst 0, 1) := by decide +kernel
theorem dX8_oddNow_9 : decode cX8_oddNow 9 = .ok (.istore_n 3, 1) := by decide +kernel
theorem dX8_oddNow_10 : decode cX8_oddNow 10 = .ok (.iload_n 3, 1) := by decide +kernel
theorem dX8_oddNow_11 : decode cX8_oddNow 11 = .ok (.bipush 12, 2) := by decide +kernel
theorem dX8_oddNow_13 : decode cX8_oddNow 13 = .ok (.if_icmp .ge 42, 3) := by decide +kernel
theorem dX8_oddNow_16 : decode cX8_oddNow 16 = .ok (.aload_n 0, 1) := by decide +kernel
theorem dX8_oddNow_17 : decode cX8_oddNow 17 = .ok (.iload_n 3, 1) := by decide +kernel
theorem dX8_oddNow_18 : decode cX8_oddNow 18 = .ok (.iconst 1, 1) := by decide +kernel
theorem dX8_oddNow_19 : decode cX8_oddNow 19 = .ok (.invokevirtual 225, 3) := by decide +kernel
theorem dX8_oddNow_22 : decode cX8_oddNow 22 = .ok (.istore 4, 2) := by decide +kernel
theorem dX8_oddNow_24 : decode cX8_oddNow 24 = .ok (.iload 4, 2) := by decide +kernel
theorem dX8_oddNow_26 : decode cX8_oddNow 26 = .ok (.iload_n 2, 1) := by decide +kernel
theorem dX8_oddNow_27 : decode cX8_oddNow 27 = .ok (.if_icmp .le 7, 3) := by decide +kernel
theorem dX8_oddNow_30 : decode cX8_oddNow 30 = .ok (.iload_n 3, 1) := by decide +kernel
theorem dX8_oddNow_31 : decode cX8_oddNow 31 = .ok (.goto 4, 3) := by decide +kernel
theorem dX8_oddNow_34 : decode cX8_oddNow 34 = .ok (.iload_n 1, 1) := by decide +kernel
theorem dX8_oddNow_35 : decode cX8_oddNow 35 = .ok (.istore_n 1, 1) := by decide +kernel
theorem dX8_oddNow_36 : decode cX8_oddNow 36 = .ok (.iload 4, 2) := by decide +kernel
theorem dX8_oddNow_38 : decode cX8_oddNow 38 = .ok (.iload_n 2, 1) := by decide +kernel
theorem dX8_oddNow_39 : decode cX8_oddNow 39 = .ok (.if_icmp .le 8, 3) := by decide +kernel
theorem dX8_oddNow_42 : decode cX8_oddNow 42 = .ok (.iload 4, 2) := by decide +kernel
theorem dX8_oddNow_44 : decode cX8_oddNow 44 = .ok (.goto 4, 3) := by decide +kernel
theorem dX8_oddNow_47 : decode cX8_oddNow 47 = .ok (.iload_n 2, 1) := by decide +kernel
theorem dX8_oddNow_48 : decode cX8_oddNow 48 = .ok (.istore_n 2, 1) := by decide +kernel
theorem dX8_oddNow_49 : decode cX8_oddNow 49 = .ok (.iinc 3 1, 3) := by decide +kernel
theorem dX8_oddNow_52 : decode cX8_oddNow 52 = .ok (.goto (-42), 3) := by decide +kernel
theorem dX8_oddNow_55 : decode cX8_oddNow 55 = .ok (.iload_n 1, 1) := by decide +kernel
theorem dX8_oddNow_56 : decode cX8_oddNow 56 = .ok (.ireturn, 1) := by decide +kernel
theorem dX8_odd_0 : decode cX8_odd 0 = .ok (.aload_n 0, 1) := by decide +kernel
theorem dX8_odd_1 : decode cX8_odd 1 = .ok (.invokevirtual 249, 3) := by decide +kernel
theorem dX8_odd_4 : decode cX8_odd 4 = .ok (.ireturn, 1) := by decide +kernel
theorem dX8_withoutOf_0 : decode cX8_withoutOf 0 = .ok (.aload_n 0, 1) := by decide +kernel
theorem dX8_withoutOf_1 : decode cX8_withoutOf 1 = .ok (.invokevirtual 136, 3) := by decide +kernel
theorem dX8_withoutOf_4 : decode cX8_withoutOf 4 = .ok (.aload_n 0, 1) := by decide +kernel
theorem dX8_withoutOf_5 : decode cX8_withoutOf 5 = .ok (.iload_n 2, 1) := by decide +kernel
theorem dX8_withoutOf_6 : decode cX8_withoutOf 6 = .ok (.ifCond .ne 7, 3) := by decide +kernel
theorem dX8_withoutOf_9 : decode cX8_withoutOf 9 = .ok (.iload_n 1, 1) := by decide +kernel
theorem dX8_withoutOf_10 : decode cX8_withoutOf 10 = .ok (.goto 4, 3) := by decide +kernel
theorem dX8_withoutOf_13 : decode cX8_withoutOf 13 = .ok (.iconst (-1), 1) := by decide +kernel
theorem dX8_withoutOf_14 : decode cX8_withoutOf 14 = .ok (.iload_n 2, 1) := by decide +kernel
theorem dX8_withoutOf_15 : decode cX8_withoutOf 15 = .ok (.ifCond .ne 7, 3) := by decide +kernel
theorem dX8_withoutOf_18 : decode cX8_withoutOf 18 = .ok (.iconst (-1), 1) := by decide +kernel
theorem dX8_withoutOf_19 : decode cX8_withoutOf 19 = .ok (.goto 4, 3) := by decide +kernel
theorem dX8_withoutOf_22 : decode cX8_withoutOf 22 = .ok (.iload_n 1, 1) := by decide +kernel
theorem dX8_withoutOf_23 : decode cX8_withoutOf 23 = .ok (.invokevirtual 219, 3) := by decide +kernel
theorem dX8_withoutOf_26 : decode cX8_withoutOf 26 = .ok (.aload_n 0, 1) := by decide +kernel
theorem dX8_withoutOf_27 : decode cX8_withoutOf 27 = .ok (.getfield 207, 3) := by decide +kernel
theorem dX8_withoutOf_30 : decode cX8_withoutOf 30 = .ok (.ireturn, 1) := by decide +kernel
theorem dX8_without_0 : decode cX8_without 0 = .ok (.aload_n 0, 1) := by decide +kernel
theorem dX8_without_1 : decode cX8_without 1 = .ok (.iload_n 1, 1) := by decide +kernel
theorem dX8_without_2 : decode cX8_without 2 = .ok (.invokevirtual 176, 3) := by decide +kernel
theorem dX8_without_5 : decode cX8_without 5 = .ok (.ifCond .eq 19, 3) := by decide +kernel
theorem dX8_without_8 : decode cX8_without 8 = .ok (.iload_n 2, 1) := by decide +kernel
theorem dX8_without_9 : decode cX8_without 9 = .ok (.invokestatic 179, 3) := by decide +kernel
theorem dX8_without_12 : decode cX8_without 12 = .ok (.ifCond .eq 12, 3) := by decide +kernel
theorem dX8_without_15 : decode cX8_without 15 = .ok (.aload_n 0, 1) := by decide +kernel
theorem dX8_without_16 : decode cX8_without 16 = .ok (.iload_n 1, 1) := by decide +kernel
theorem dX8_without_17 : decode cX8_without 17 = .ok (.iload_n 2, 1) := by decide +kernel
theorem dX8_without_18 : decode cX8_without 18 = .ok (.invokevirtual 252, 3) := by decide +kernel
theorem dX8_without_21 : decode cX8_without 21 = .ok (.goto 5, 3) := by decide +kernel
theorem dX8_without_24 : decode cX8_without 24 = .ok (.bipush (-2), 2) := by decide +kernel
theorem dX8_without_26 : decode cX8_without 26 = .ok (.ireturn, 1) := by decide +kernel
theorem dX8_worstOf_0 : decode cX8_worstOf 0 = .ok (.iconst (-1), 1) := by decide +kernel
theorem dX8_worstOf_1 : decode cX8_worstOf 1 = .ok (.istore_n 2, 1) := by decide +kernel
theorem dX8_worstOf_2 : decode cX8_worstOf 2 = .ok (.sipush 10000, 3) := by decide +kernel
theorem dX8_worstOf_5 : decode cX8_worstOf 5 = .ok (.istore_n 3, 1) := by decide +kernel
theorem dX8_worstOf_6 : decode cX8_worstOf 6 = .ok (.iconst 0, 1) := by decide +kernel
theorem dX8_worstOf_7 : decode cX8_worstOf 7 = .ok (.istore 4, 2) := by decide +kernel
theorem dX8_worstOf_9 : decode cX8_worstOf 9 = .ok (.iload 4, 2) := by decide +kernel
theorem dX8_worstOf_11 : decode cX8_worstOf 11 = .ok (.aload_n 0, 1) := by decide +kernel
theorem dX8_worstOf_12 : decode cX8_worstOf 12 = .ok (.invokevirtual 111, 3) := by decide +kernel
theorem dX8_worstOf_15 : decode cX8_worstOf 15 = .ok (.if_icmp .ge 44, 3) := by decide +kernel
theorem dX8_worstOf_18 : decode cX8_worstOf 18 = .ok (.aload_n 0, 1) := by decide +kernel
theorem dX8_worstOf_19 : decode cX8_worstOf 19 = .ok (.iload 4, 2) := by decide +kernel
theorem dX8_worstOf_21 : decode cX8_worstOf 21 = .ok (.iload_n 1, 1) := by decide +kernel
theorem dX8_worstOf_22 : decode cX8_worstOf 22 = .ok (.invokevirtual 252, 3) := by decide +kernel
theorem dX8_worstOf_25 : decode cX8_worstOf 25 = .ok (.istore 5, 2) := by decide +kernel
theorem dX8_worstOf_27 : decode cX8_worstOf 27 = .ok (.iload 5, 2) := by decide +kernel
theorem dX8_worstOf_29 : decode cX8_worstOf 29 = .ok (.iload_n 3, 1) := by decide +kernel
theorem dX8_worstOf_30 : decode cX8_worstOf 30 = .ok (.if_icmp .ge 8, 3) := by decide +kernel
theorem dX8_worstOf_33 : decode cX8_worstOf 33 = .ok (.iload 4, 2) := by decide +kernel
theorem dX8_worstOf_35 : decode cX8_worstOf 35 = .ok (.goto 4, 3) := by decide +kernel
theorem dX8_worstOf_38 : decode cX8_worstOf 38 = .ok (.iload_n 2, 1) := by decide +kernel
theorem dX8_worstOf_39 : decode cX8_worstOf 39 = .ok (.istore_n 2, 1) := by decide +kernel
theorem dX8_worstOf_40 : decode cX8_worstOf 40 = .ok (.iload 5, 2) := by decide +kernel
theorem dX8_worstOf_42 : decode cX8_worstOf 42 = .ok (.iload_n 3, 1) := by decide +kernel
theorem dX8_worstOf_43 : decode cX8_worstOf 43 = .ok (.if_icmp .ge 8, 3) := by decide +kernel
theorem dX8_worstOf_46 : decode cX8_worstOf 46 = .ok (.iload 5, 2) := by decide +kernel
theorem dX8_worstOf_48 : decode cX8_worstOf 48 = .ok (.goto 4, 3) := by decide +kernel
theorem dX8_worstOf_51 : decode cX8_worstOf 51 = .ok (.iload_n 3, 1) := by decide +kernel
theorem dX8_worstOf_52 : decode cX8_worstOf 52 = .ok (.istore_n 3, 1) := by decide +kernel
theorem dX8_worstOf_53 : decode cX8_worstOf 53 = .ok (.iinc 4 1, 3) := by decide +kernel
theorem dX8_worstOf_56 : decode cX8_worstOf 56 = .ok (.goto (-47), 3) := by decide +kernel
theorem dX8_worstOf_59 : decode cX8_worstOf 59 = .ok (.iload_n 2, 1) := by decide +kernel
theorem dX8_worstOf_60 : decode cX8_worstOf 60 = .ok (.ireturn, 1) := by decide +kernel
theorem dX8_worst_0 : decode cX8_worst 0 = .ok (.iload_n 1, 1) := by decide +kernel
theorem dX8_worst_1 : decode cX8_worst 1 = .ok (.invokestatic 179, 3) := by decide +kernel
theorem dX8_worst_4 : decode cX8_worst 4 = .ok (.ifCond .eq 11, 3) := by decide +kernel
theorem dX8_worst_7 : decode cX8_worst 7 = .ok (.aload_n 0, 1) := by decide +kernel
theorem dX8_worst_8 : decode cX8_worst 8 = .ok (.iload_n 1, 1) := by decide +kernel
theorem dX8_worst_9 : decode cX8_worst 9 = .ok (.invokevirtual 255, 3) := by decide +kernel
theorem dX8_worst_12 : decode cX8_worst 12 = .ok (.goto 5, 3) := by decide +kernel
theorem dX8_worst_15 : decode cX8_worst 15 = .ok (.bipush (-2), 2) := by decide +kernel
theorem dX8_worst_17 : decode cX8_worst 17 = .ok (.ireturn, 1) := by decide +kernel
theorem dX8_statesOf_0 : decode cX8_statesOf 0 = .ok (.aload_n 0, 1) := by decide +kernel
theorem dX8_statesOf_1 : decode cX8_statesOf 1 = .ok (.invokevirtual 258, 3) := by decide +kernel
theorem dX8_statesOf_4 : decode cX8_statesOf 4 = .ok (.iconst 0, 1) := by decide +kernel
theorem dX8_statesOf_5 : decode cX8_statesOf 5 = .ok (.istore_n 2, 1) := by decide +kernel
theorem dX8_statesOf_6 : decode cX8_statesOf 6 = .ok (.iconst 0, 1) := by decide +kernel
theorem dX8_statesOf_7 : decode cX8_statesOf 7 = .ok (.istore_n 3, 1) := by decide +kernel
theorem dX8_statesOf_8 : decode cX8_statesOf 8 = .ok (.iload_n 3, 1) := by decide +kernel
theorem dX8_statesOf_9 : decode cX8_statesOf 9 = .ok (.aload_n 0, 1) := by decide +kernel
theorem dX8_statesOf_10 : decode cX8_statesOf 10 = .ok (.invokevirtual 228, 3) := by decide +kernel
theorem dX8_statesOf_13 : decode cX8_statesOf 13 = .ok (.if_icmp .gt 27, 3) := by decide +kernel
theorem dX8_statesOf_16 : decode cX8_statesOf 16 = .ok (.aload_n 0, 1) := by decide +kernel
theorem dX8_statesOf_17 : decode cX8_statesOf 17 = .ok (.iload_n 3, 1) := by decide +kernel
theorem dX8_statesOf_18 : decode cX8_statesOf 18 = .ok (.invokevirtual 261, 3) := by decide +kernel
theorem dX8_statesOf_21 : decode cX8_statesOf 21 = .ok (.ifCond .eq 13, 3) := by decide +kernel
theorem dX8_statesOf_24 : decode cX8_statesOf 24 = .ok (.iload_n 2, 1) := by decide +kernel
theorem dX8_statesOf_25 : decode cX8_statesOf 25 = .ok (.iload_n 1, 1) := by decide +kernel
theorem dX8_statesOf_26 : decode cX8_statesOf 26 = .ok (.if_icmp .ne 5, 3) := by decide +kernel
theorem dX8_statesOf_29 : decode cX8_statesOf 29 = .ok (.iload_n 3, 1) := by decide +kernel
theorem dX8_statesOf_30 : decode cX8_statesOf 30 = .ok (.ireturn, 1) := by decide +kernel
theorem dX8_statesOf_31 : decode cX8_statesOf 31 = .ok (.iinc 2 1, 3) := by decide +kernel
theorem dX8_statesOf_34 : decode cX8_statesOf 34 = .ok (.iinc 3 1, 3) := by decide +kernel
theorem dX8_statesOf_37 : decode cX8_statesOf 37 = .ok (.goto (-29), 3) := by decide +kernel
theorem dX8_statesOf_40 : decode cX8_statesOf 40 = .ok (.iload_n 1, 1) := by decide +kernel
theorem dX8_statesOf_41 : decode cX8_statesOf 41 = .ok (.iconst (-1), 1) := by decide +kernel
theorem dX8_statesOf_42 : decode cX8_statesOf 42 = .ok (.if_icmp .ne 7, 3) := by decide +kernel
theorem dX8_statesOf_45 : decode cX8_statesOf 45 = .ok (.iload_n 2, 1) := by decide +kernel
theorem dX8_statesOf_46 : decode cX8_statesOf 46 = .ok (.goto 4, 3) := by decide +kernel
theorem dX8_statesOf_49 : decode cX8_statesOf 49 = .ok (.iconst (-1), 1) := by decide +kernel
theorem dX8_statesOf_50 : decode cX8_statesOf 50 = .ok (.ireturn, 1) := by decide +kernel
theorem dX8_states_0 : decode cX8_states 0 = .ok (.iload_n 1, 1) := by decide +kernel
theorem dX8_states_1 : decode cX8_states 1 = .ok (.iconst (-1), 1) := by decide +kernel
theorem dX8_states_2 : decode cX8_states 2 = .ok (.if_icmp .lt 11, 3) := by decide +kernel
theorem dX8_states_5 : decode cX8_states 5 = .ok (.aload_n 0, 1) := by decide +kernel
theorem dX8_states_6 : decode cX8_states 6 = .ok (.iload_n 1, 1) := by decide +kernel
theorem dX8_states_7 : decode cX8_states 7 = .ok (.invokevirtual 264, 3) := by decide +kernel
theorem dX8_states_10 : decode cX8_states 10 = .ok (.goto 5, 3) := by decide +kernel
theorem dX8_states_13 : decode cX8_states 13 = .ok (.bipush (-2), 2) := by decide +kernel
theorem dX8_states_15 : decode cX8_states 15 = .ok (.ireturn, 1) := by decide +kernel
theorem dX8_belongsOf_0 : decode cX8_belongsOf 0 = .ok (.aload_n 0, 1) := by decide +kernel
theorem dX8_belongsOf_1 : decode cX8_belongsOf 1 = .ok (.invokevirtual 258, 3) := by decide +kernel
theorem dX8_belongsOf_4 : decode cX8_belongsOf 4 = .ok (.iconst (-1), 1) := by decide +kernel
theorem dX8_belongsOf_5 : decode cX8_belongsOf 5 = .ok (.istore_n 3, 1) := by decide +kernel
theorem dX8_belongsOf_6 : decode cX8_belongsOf 6 = .ok (.sipush 10000, 3) := by decide +kernel
theorem dX8_belongsOf_9 : decode cX8_belongsOf 9 = .ok (.istore 4, 2) := by decide +kernel
theorem dX8_belongsOf_11 : decode cX8_belongsOf 11 = .ok (.iconst 0, 1) := by decide +kernel
theorem dX8_belongsOf_12 : decode cX8_belongsOf 12 = .ok (.istore 5, 2) := by decide +kernel
theorem dX8_belongsOf_14 : decode cX8_belongsOf 14 = .ok (.iconst 0, 1) := by decide +kernel
theorem dX8_belongsOf_15 : decode cX8_belongsOf 15 = .ok (.istore 6, 2) := by decide +kernel
theorem dX8_belongsOf_17 : decode cX8_belongsOf 17 = .ok (.iload 6, 2) := by decide +kernel
theorem dX8_belongsOf_19 : decode cX8_belongsOf 19 = .ok (.aload_n 0, 1) := by decide +kernel
theorem dX8_belongsOf_20 : decode cX8_belongsOf 20 = .ok (.invokevirtual 228, 3) := by decide +kernel
theorem dX8_belongsOf_23 : decode cX8_belongsOf 23 = .ok (.if_icmp .gt 86, 3) := by decide +kernel
theorem dX8_belongsOf_26 : decode cX8_belongsOf 26 = .ok (.aload_n 0, 1) := by decide +kernel
theorem dX8_belongsOf_27 : decode cX8_belongsOf 27 = .ok (.iload 6, 2) := by decide +kernel
theorem dX8_belongsOf_29 : decode cX8_belongsOf 29 = .ok (.invokevirtual 261, 3) := by decide +kernel
theorem dX8_belongsOf_32 : decode cX8_belongsOf 32 = .ok (.ifCond .eq 71, 3) := by decide +kernel
theorem dX8_belongsOf_35 : decode cX8_belongsOf 35 = .ok (.aload_n 0, 1) := by decide +kernel
theorem dX8_belongsOf_36 : decode cX8_belongsOf 36 = .ok (.iload_n 1, 1) := by decide +kernel
theorem dX8_belongsOf_37 : decode cX8_belongsOf 37 = .ok (.iload 6, 2) := by decide +kernel
theorem dX8_belongsOf_39 : decode cX8_belongsOf 39 = .ok (.invokevirtual 197, 3) := by decide +kernel
theorem dX8_belongsOf_42 : decode cX8_belongsOf 42 = .ok (.istore 7, 2) := by decide +kernel
theorem dX8_belongsOf_44 : decode cX8_belongsOf 44 = .ok (.iload 7, 2) := by decide +kernel
theorem dX8_belongsOf_46 : decode cX8_belongsOf 46 = .ok (.iload 4, 2) := by decide +kernel
theorem dX8_belongsOf_48 : decode cX8_belongsOf 48 = .ok (.if_icmp .ge 8, 3) := by decide +kernel
theorem dX8_belongsOf_51 : decode cX8_belongsOf 51 = .ok (.iload 6, 2) := by decide +kernel
theorem dX8_belongsOf_53 : decode cX8_belongsOf 53 = .ok (.goto 4, 3) := by decide +kernel
theorem dX8_belongsOf_56 : decode cX8_belongsOf 56 = .ok (.iload_n 3, 1) := by decide +kernel
theorem dX8_belongsOf_57 : decode cX8_belongsOf 57 = .ok (.istore_n 3, 1) := by decide +kernel
theorem dX8_belongsOf_58 : decode cX8_belongsOf 58 = .ok (.iload 7, 2) := by decide +kernel
theorem dX8_belongsOf_60 : decode cX8_belongsOf 60 = .ok (.iload 4, 2) := by decide +kernel
theorem dX8_belongsOf_62 : decode cX8_belongsOf 62 = .ok (.if_icmp .ge 7, 3) := by decide +kernel
theorem dX8_belongsOf_65 : decode cX8_belongsOf 65 = .ok (.iconst 1, 1) := by decide +kernel
theorem dX8_belongsOf_66 : decode cX8_belongsOf 66 = .ok (.goto 19, 3) := by decide +kernel
theorem dX8_belongsOf_69 : decode cX8_belongsOf 69 = .ok (.iload 7, 2) := by decide +kernel
theorem dX8_belongsOf_71 : decode cX8_belongsOf 71 = .ok (.iload 4, 2) := by decide +kernel
theorem dX8_belongsOf_73 : decode cX8_belongsOf 73 = .ok (.if_icmp .ne 10, 3) := by decide +kernel
theorem dX8_belongsOf_76 : decode cX8_belongsOf 76 = .ok (.iload 5, 2) := by decide +kernel
theorem dX8_belongsOf_78 : decode cX8_belongsOf 78 = .ok (.iconst 1, 1) := by decide +kernel
theorem dX8_belongsOf_79 : decode cX8_belongsOf 79 = .ok (.iadd, 1) := by decide +kernel
theorem dX8_belongsOf_80 : decode cX8_belongsOf 80 = .ok (.goto 5, 3) := by decide +kernel
theorem dX8_belongsOf_83 : decode cX8_belongsOf 83 = .ok (.iload 5, 2) := by decide +kernel
theorem dX8_belongsOf_85 : decode cX8_belongsOf 85 = .ok (.istore 5, 2) := by decide +kernel
theorem dX8_belongsOf_87 : decode cX8_belongsOf 87 = .ok (.iload 7, 2) := by decide +kernel
theorem dX8_belongsOf_89 : decode cX8_belongsOf 89 = .ok (.iload 4, 2) := by decide +kernel
theorem dX8_belongsOf_91 : decode cX8_belongsOf 91 = .ok (.if_icmp .ge 8, 3) := by decide +kernel
theorem dX8_belongsOf_94 : decode cX8_belongsOf 94 = .ok (.iload 7, 2) := by decide +kernel
theorem dX8_belongsOf_96 : decode cX8_belongsOf 96 = .ok (.goto 5, 3) := by decide +kernel
theorem dX8_belongsOf_99 : decode cX8_belongsOf 99 = .ok (.iload 4, 2) := by decide +kernel
theorem dX8_belongsOf_101 : decode cX8_belongsOf 101 = .ok (.istore 4, 2) := by decide +kernel
theorem dX8_belongsOf_103 : decode cX8_belongsOf 103 = .ok (.iinc 6 1, 3) := by decide +kernel
theorem dX8_belongsOf_106 : decode cX8_belongsOf 106 = .ok (.goto (-89), 3) := by decide +kernel
theorem dX8_belongsOf_109 : decode cX8_belongsOf 109 = .ok (.iload_n 2, 1) := by decide +kernel
theorem dX8_belongsOf_110 : decode cX8_belongsOf 110 = .ok (.ifCond .ne 7, 3) := by decide +kernel
theorem dX8_belongsOf_113 : decode cX8_belongsOf 113 = .ok (.iload_n 3, 1) := by decide +kernel
theorem dX8_belongsOf_114 : decode cX8_belongsOf 114 = .ok (.goto 15, 3) := by decide +kernel
theorem dX8_belongsOf_117 : decode cX8_belongsOf 117 = .ok (.iload_n 2, 1) := by decide +kernel
theorem dX8_belongsOf_118 : decode cX8_belongsOf 118 = .ok (.iconst 1, 1) := by decide +kernel
theorem dX8_belongsOf_119 : decode cX8_belongsOf 119 = .ok (.if_icmp .ne 8, 3) := by decide +kernel
theorem dX8_belongsOf_122 : decode cX8_belongsOf 122 = .ok (.iload 4, 2) := by decide +kernel
theorem dX8_belongsOf_124 : decode cX8_belongsOf 124 = .ok (.goto 5, 3) := by decide +kernel
theorem dX8_belongsOf_127 : decode cX8_belongsOf 127 = .ok (.iload 5, 2) := by decide +kernel
theorem dX8_belongsOf_129 : decode cX8_belongsOf 129 = .ok (.ireturn, 1) := by decide +kernel
theorem dX8_belongs_0 : decode cX8_belongs 0 = .ok (.iload_n 1, 1) := by decide +kernel
theorem dX8_belongs_1 : decode cX8_belongs 1 = .ok (.invokestatic 123, 3) := by decide +kernel
theorem dX8_belongs_4 : decode cX8_belongs 4 = .ok (.ifCond .eq 24, 3) := by decide +kernel
theorem dX8_belongs_7 : decode cX8_belongs 7 = .ok (.iload_n 2, 1) := by decide +kernel
theorem dX8_belongs_8 : decode cX8_belongs 8 = .ok (.i2l, 1) := by decide +kernel
theorem dX8_belongs_9 : decode cX8_belongs 9 = .ok (.lconst 0, 1) := by decide +kernel
theorem dX8_belongs_10 : decode cX8_belongs 10 = .ok (.ldc2_w 92, 3) := by decide +kernel
theorem dX8_belongs_13 : decode cX8_belongs 13 = .ok (.invokestatic 78, 3) := by decide +kernel
theorem dX8_belongs_16 : decode cX8_belongs 16 = .ok (.ifCond .eq 12, 3) := by decide +kernel
theorem dX8_belongs_19 : decode cX8_belongs 19 = .ok (.aload_n 0, 1) := by decide +kernel
theorem dX8_belongs_20 : decode cX8_belongs 20 = .ok (.iload_n 1, 1) := by decide +kernel
theorem dX8_belongs_21 : decode cX8_belongs 21 = .ok (.iload_n 2, 1) := by decide +kernel
theorem dX8_belongs_22 : decode cX8_belongs 22 = .ok (.invokevirtual 267, 3) := by decide +kernel
theorem dX8_belongs_25 : decode cX8_belongs 25 = .ok (.goto 5, 3) := by decide +kernel
theorem dX8_belongs_28 : decode cX8_belongs 28 = .ok (.bipush (-2), 2) := by decide +kernel
theorem dX8_belongs_30 : decode cX8_belongs 30 = .ok (.ireturn, 1) := by decide +kernel
theorem dX8_next_0 : decode cX8_next 0 = .ok (.iload_n 1, 1) := by decide +kernel
theorem dX8_next_1 : decode cX8_next 1 = .ok (.i2l, 1) := by decide +kernel
theorem dX8_next_2 : decode cX8_next 2 = .ok (.lconst 0, 1) := by decide +kernel
theorem dX8_next_3 : decode cX8_next 3 = .ok (.ldc2_w 195, 3) := by decide +kernel
theorem dX8_next_6 : decode cX8_next 6 = .ok (.invokestatic 78, 3) := by decide +kernel
theorem dX8_next_9 : decode cX8_next 9 = .ok (.ifCond .eq 15, 3) := by decide +kernel
theorem dX8_next_12 : decode cX8_next 12 = .ok (.iload_n 2, 1) := by decide +kernel
theorem dX8_next_13 : decode cX8_next 13 = .ok (.i2l, 1) := by decide +kernel
theorem dX8_next_14 : decode cX8_next 14 = .ok (.lconst 0, 1) := by decide +kernel
theorem dX8_next_15 : decode cX8_next 15 = .ok (.ldc2_w 92, 3) := by decide +kernel
theorem dX8_next_18 : decode cX8_next 18 = .ok (.invokestatic 78, 3) := by decide +kernel
theorem dX8_next_21 : decode cX8_next 21 = .ok (.ifCond .ne 6, 3) := by decide +kernel
theorem dX8_next_24 : decode cX8_next 24 = .ok (.bipush (-2), 2) := by decide +kernel
theorem dX8_next_26 : decode cX8_next 26 = .ok (.ireturn, 1) := by decide +kernel
theorem dX8_next_27 : decode cX8_next 27 = .ok (.aload_n 0, 1) := by decide +kernel
theorem dX8_next_28 : decode cX8_next 28 = .ok (.invokevirtual 258, 3) := by decide +kernel
theorem dX8_next_31 : decode cX8_next 31 = .ok (.iload_n 1, 1) := by decide +kernel
theorem dX8_next_32 : decode cX8_next 32 = .ok (.aload_n 0, 1) := by decide +kernel
theorem dX8_next_33 : decode cX8_next 33 = .ok (.invokevirtual 228, 3) := by decide +kernel
theorem dX8_next_36 : decode cX8_next 36 = .ok (.iand, 1) := by decide +kernel
theorem dX8_next_37 : decode cX8_next 37 = .ok (.istore_n 3, 1) := by decide +kernel
theorem dX8_next_38 : decode cX8_next 38 = .ok (.iload_n 2, 1) := by decide +kernel
theorem dX8_next_39 : decode cX8_next 39 = .ok (.iconst 2, 1) := by decide +kernel
theorem dX8_next_40 : decode cX8_next 40 = .ok (.if_icmp .ne 17, 3) := by decide +kernel
theorem dX8_next_43 : decode cX8_next 43 = .ok (.aload_n 0, 1) := by decide +kernel
theorem dX8_next_44 : decode cX8_next 44 = .ok (.iload_n 3, 1) := by decide +kernel
theorem dX8_next_45 : decode cX8_next 45 = .ok (.invokevirtual 261, 3) := by decide +kernel
theorem dX8_next_48 : decode cX8_next 48 = .ok (.ifCond .eq 7, 3) := by decide +kernel
theorem dX8_next_51 : decode cX8_next 51 = .ok (.iconst 1, 1) := by decide +kernel
theorem dX8_next_52 : decode cX8_next 52 = .ok (.goto 4, 3) := by decide +kernel
theorem dX8_next_55 : decode cX8_next 55 = .ok (.iconst 0, 1) := by decide +kernel
theorem dX8_next_56 : decode cX8_next 56 = .ok (.ireturn, 1) := by decide +kernel
theorem dX8_next_57 : decode cX8_next 57 = .ok (.iconst 0, 1) := by decide +kernel
theorem dX8_next_58 : decode cX8_next 58 = .ok (.istore 4, 2) := by decide +kernel
theorem dX8_next_60 : decode cX8_next 60 = .ok (.iconst 0, 1) := by decide +kernel
theorem dX8_next_61 : decode cX8_next 61 = .ok (.istore 5, 2) := by decide +kernel
theorem dX8_next_63 : decode cX8_next 63 = .ok (.iload 5, 2) := by decide +kernel
theorem dX8_next_65 : decode cX8_next 65 = .ok (.aload_n 0, 1) := by decide +kernel
theorem dX8_next_66 : decode cX8_next 66 = .ok (.invokevirtual 111, 3) := by decide +kernel
theorem dX8_next_69 : decode cX8_next 69 = .ok (.if_icmp .ge 66, 3) := by decide +kernel
theorem dX8_next_72 : decode cX8_next 72 = .ok (.iload_n 3, 1) := by decide +kernel
theorem dX8_next_73 : decode cX8_next 73 = .ok (.iload 5, 2) := by decide +kernel
theorem dX8_next_75 : decode cX8_next 75 = .ok (.invokestatic 153, 3) := by decide +kernel
theorem dX8_next_78 : decode cX8_next 78 = .ok (.iload_n 2, 1) := by decide +kernel
theorem dX8_next_79 : decode cX8_next 79 = .ok (.iconst 1, 1) := by decide +kernel
theorem dX8_next_80 : decode cX8_next 80 = .ok (.if_icmp .ne 7, 3) := by decide +kernel
theorem dX8_next_83 : decode cX8_next 83 = .ok (.iconst 1, 1) := by decide +kernel
theorem dX8_next_84 : decode cX8_next 84 = .ok (.goto 4, 3) := by decide +kernel
theorem dX8_next_87 : decode cX8_next 87 = .ok (.iconst 0, 1) := by decide +kernel
theorem dX8_next_88 : decode cX8_next 88 = .ok (.if_icmp .ne 7, 3) := by decide +kernel
theorem dX8_next_91 : decode cX8_next 91 = .ok (.iconst 1, 1) := by decide +kernel
theorem dX8_next_92 : decode cX8_next 92 = .ok (.goto 4, 3) := by decide +kernel
theorem dX8_next_95 : decode cX8_next 95 = .ok (.iconst 0, 1) := by decide +kernel
theorem dX8_next_96 : decode cX8_next 96 = .ok (.istore 6, 2) := by decide +kernel
theorem dX8_next_98 : decode cX8_next 98 = .ok (.iload 4, 2) := by decide +kernel
theorem dX8_next_100 : decode cX8_next 100 = .ok (.iload 6, 2) := by decide +kernel
theorem dX8_next_102 : decode cX8_next 102 = .ok (.ifCond .eq 23, 3) := by decide +kernel
theorem dX8_next_105 : decode cX8_next 105 = .ok (.aload_n 0, 1) := by decide +kernel
theorem dX8_next_106 : decode cX8_next 106 = .ok (.iload_n 3, 1) := by decide +kernel
theorem dX8_next_107 : decode cX8_next 107 = .ok (.iconst 1, 1) := by decide +kernel
theorem dX8_next_108 : decode cX8_next 108 = .ok (.iload 5, 2) := by decide +kernel
theorem dX8_next_110 : decode cX8_next 110 = .ok (.ishl, 1) := by decide +kernel
theorem dX8_next_111 : decode cX8_next 111 = .ok (.ixor, 1) := by decide +kernel
theorem dX8_next_112 : decode cX8_next 112 = .ok (.invokevirtual 261, 3) := by decide +kernel
theorem dX8_next_115 : decode cX8_next 115 = .ok (.ifCond .eq 10, 3) := by decide +kernel
theorem dX8_next_118 : decode cX8_next 118 = .ok (.iconst 1, 1) := by decide +kernel
theorem dX8_next_119 : decode cX8_next 119 = .ok (.iload 5, 2) := by decide +kernel
theorem dX8_next_121 : decode cX8_next 121 = .ok (.ishl, 1) := by decide +kernel
theorem dX8_next_122 : decode cX8_next 122 = .ok (.goto 4, 3) := by decide +kernel
theorem dX8_next_125 : decode cX8_next 125 = .ok (.iconst 0, 1) := by decide +kernel
theorem dX8_next_126 : decode cX8_next 126 = .ok (.ior, 1) := by decide +kernel
theorem dX8_next_127 : decode cX8_next 127 = .ok (.istore 4, 2) := by decide +kernel
theorem dX8_next_129 : decode cX8_next 129 = .ok (.iinc 5 1, 3) := by decide +kernel
theorem dX8_next_132 : decode cX8_next 132 = .ok (.goto (-69), 3) := by decide +kernel
theorem dX8_next_135 : decode cX8_next 135 = .ok (.iload 4, 2) := by decide +kernel
theorem dX8_next_137 : decode cX8_next 137 = .ok (.ireturn, 1) := by decide +kernel
theorem dX8_pathsNow_0 : decode cX8_pathsNow 0 = .ok (.aload_n 0, 1) := by decide +kernel
theorem dX8_pathsNow_1 : decode cX8_pathsNow 1 = .ok (.invokevirtual 258, 3) := by decide +kernel
theorem dX8_pathsNow_4 : decode cX8_pathsNow 4 = .ok (.iconst 0, 1) := by decide +kernel
theorem dX8_pathsNow_5 : decode cX8_pathsNow 5 = .ok (.istore_n 1, 1) := by decide +kernel
theorem dX8_pathsNow_6 : decode cX8_pathsNow 6 = .ok (.iload_n 1, 1) := by decide +kernel
theorem dX8_pathsNow_7 : decode cX8_pathsNow 7 = .ok (.aload_n 0, 1) := by decide +kernel
theorem dX8_pathsNow_8 : decode cX8_pathsNow 8 = .ok (.invokevirtual 228, 3) := by decide +kernel
theorem dX8_pathsNow_11 : decode cX8_pathsNow 11 = .ok (.if_icmp .gt 79, 3) := by decide +kernel
theorem dX8_pathsNow_14 : decode cX8_pathsNow 14 = .ok (.aload_n 0, 1) := by decide +kernel
theorem dX8_pathsNow_15 : decode cX8_pathsNow 15 = .ok (.getfield 58, 3) := by decide +kernel
theorem dX8_pathsNow_18 : decode cX8_pathsNow 18 = .ok (.iload_n 1, 1) := by decide +kernel
theorem dX8_pathsNow_19 : decode cX8_pathsNow 19 = .ok (.iload_n 1, 1) := by decide +kernel
theorem dX8_pathsNow_20 : decode cX8_pathsNow 20 = .ok (.ifCond .ne 7, 3) := by decide +kernel
theorem dX8_pathsNow_23 : decode cX8_pathsNow 23 = .ok (.iconst 1, 1) := by decide +kernel
theorem dX8_pathsNow_24 : decode cX8_pathsNow 24 = .ok (.goto 4, 3) := by decide +kernel
theorem dX8_pathsNow_27 : decode cX8_pathsNow 27 = .ok (.iconst 0, 1) := by decide +kernel
theorem dX8_pathsNow_28 : decode cX8_pathsNow 28 = .ok (.iastore, 1) := by decide +kernel
theorem dX8_pathsNow_29 : decode cX8_pathsNow 29 = .ok (.iconst 0, 1) := by decide +kernel
theorem dX8_pathsNow_30 : decode cX8_pathsNow 30 = .ok (.istore_n 2, 1) := by decide +kernel
theorem dX8_pathsNow_31 : decode cX8_pathsNow 31 = .ok (.iload_n 2, 1) := by decide +kernel
theorem dX8_pathsNow_32 : decode cX8_pathsNow 32 = .ok (.aload_n 0, 1) := by decide +kernel
theorem dX8_pathsNow_33 : decode cX8_pathsNow 33 = .ok (.invokevirtual 111, 3) := by decide +kernel
theorem dX8_pathsNow_36 : decode cX8_pathsNow 36 = .ok (.if_icmp .ge 48, 3) := by decide +kernel
theorem dX8_pathsNow_39 : decode cX8_pathsNow 39 = .ok (.aload_n 0, 1) := by decide +kernel
theorem dX8_pathsNow_40 : decode cX8_pathsNow 40 = .ok (.getfield 58, 3) := by decide +kernel
theorem dX8_pathsNow_43 : decode cX8_pathsNow 43 = .ok (.iload_n 1, 1) := by decide +kernel
theorem dX8_pathsNow_44 : decode cX8_pathsNow 44 = .ok (.dup2, 1) := by decide +kernel
theorem dX8_pathsNow_45 : decode cX8_pathsNow 45 = .ok (.iaload, 1) := by decide +kernel
theorem dX8_pathsNow_46 : decode cX8_pathsNow 46 = .ok (.iload_n 1, 1) := by decide +kernel
theorem dX8_pathsNow_47 : decode cX8_pathsNow 47 = .ok (.iload_n 2, 1) := by decide +kernel
theorem dX8_pathsNow_48 : decode cX8_pathsNow 48 = .ok (.invokestatic 153, 3) := by decide +kernel
theorem dX8_pathsNow_51 : decode cX8_pathsNow 51 = .ok (.ifCond .eq 24, 3) := by decide +kernel
theorem dX8_pathsNow_54 : decode cX8_pathsNow 54 = .ok (.aload_n 0, 1) := by decide +kernel
theorem dX8_pathsNow_55 : decode cX8_pathsNow 55 = .ok (.iload_n 1, 1) := by decide +kernel
theorem dX8_pathsNow_56 : decode cX8_pathsNow 56 = .ok (.invokevirtual 261, 3) := by decide +kernel
theorem dX8_pathsNow_59 : decode cX8_pathsNow 59 = .ok (.ifCond .eq 16, 3) := by decide +kernel
theorem dX8_pathsNow_62 : decode cX8_pathsNow 62 = .ok (.aload_n 0, 1) := by decide +kernel
theorem dX8_pathsNow_63 : decode cX8_pathsNow 63 = .ok (.getfield 58, 3) := by decide +kernel
theorem dX8_pathsNow_66 : decode cX8_pathsNow 66 = .ok (.iload_n 1, 1) := by decide +kernel
theorem dX8_pathsNow_67 : decode cX8_pathsNow 67 = .ok (.iconst 1, 1) := by decide +kernel
theorem dX8_pathsNow_68 : decode cX8_pathsNow 68 = .ok (.iload_n 2, 1) := by decide +kernel
theorem dX8_pathsNow_69 : decode cX8_pathsNow 69 = .ok (.ishl, 1) := by decide +kernel
theorem dX8_pathsNow_70 : decode cX8_pathsNow 70 = .ok (.ixor, 1) := by decide +kernel
theorem dX8_pathsNow_71 : decode cX8_pathsNow 71 = .ok (.iaload, 1) := by decide +kernel
theorem dX8_pathsNow_72 : decode cX8_pathsNow 72 = .ok (.goto 4, 3) := by decide +kernel
theorem dX8_pathsNow_75 : decode cX8_pathsNow 75 = .ok (.iconst 0, 1) := by decide +kernel
theorem dX8_pathsNow_76 : decode cX8_pathsNow 76 = .ok (.iadd, 1) := by decide +kernel
theorem dX8_pathsNow_77 : decode cX8_pathsNow 77 = .ok (.iastore, 1) := by decide +kernel
theorem dX8_pathsNow_78 : decode cX8_pathsNow 78 = .ok (.iinc 2 1, 3) := by decide +kernel
theorem dX8_pathsNow_81 : decode cX8_pathsNow 81 = .ok (.goto (-50), 3) := by decide +kernel
theorem dX8_pathsNow_84 : decode cX8_pathsNow 84 = .ok (.iinc 1 1, 3) := by decide +kernel
theorem dX8_pathsNow_87 : decode cX8_pathsNow 87 = .ok (.goto (-81), 3) := by decide +kernel
theorem dX8_pathsNow_90 : decode cX8_pathsNow 90 = .ok (.aload_n 0, 1) := by decide +kernel
theorem dX8_pathsNow_91 : decode cX8_pathsNow 91 = .ok (.getfield 58, 3) := by decide +kernel
theorem dX8_pathsNow_94 : decode cX8_pathsNow 94 = .ok (.aload_n 0, 1) := by decide +kernel
theorem dX8_pathsNow_95 : decode cX8_pathsNow 95 = .ok (.invokevirtual 228, 3) := by decide +kernel
theorem dX8_pathsNow_98 : decode cX8_pathsNow 98 = .ok (.iaload, 1) := by decide +kernel
theorem dX8_pathsNow_99 : decode cX8_pathsNow 99 = .ok (.ireturn, 1) := by decide +kernel
theorem dX8_paths_0 : decode cX8_paths 0 = .ok (.aload_n 0, 1) := by decide +kernel
theorem dX8_paths_1 : decode cX8_paths 1 = .ok (.invokevirtual 270, 3) := by decide +kernel
theorem dX8_paths_4 : decode cX8_paths 4 = .ok (.ireturn, 1) := by decide +kernel
theorem dX8_deepOf_0 : decode cX8_deepOf 0 = .ok (.aload_n 0, 1) := by decide +kernel
theorem dX8_deepOf_1 : decode cX8_deepOf 1 = .ok (.invokevirtual 258, 3) := by decide +kernel
theorem dX8_deepOf_4 : decode cX8_deepOf 4 = .ok (.sipush 10000, 3) := by decide +kernel
theorem dX8_deepOf_7 : decode cX8_deepOf 7 = .ok (.istore_n 2, 1) := by decide +kernel
theorem dX8_deepOf_8 : decode cX8_deepOf 8 = .ok (.iconst 0, 1) := by decide +kernel
theorem dX8_deepOf_9 : decode cX8_deepOf 9 = .ok (.istore_n 3, 1) := by decide +kernel
theorem dX8_deepOf_10 : decode cX8_deepOf 10 = .ok (.iload_n 3, 1) := by decide +kernel
theorem dX8_deepOf_11 : decode cX8_deepOf 11 = .ok (.aload_n 0, 1) := by decide +kernel
theorem dX8_deepOf_12 : decode cX8_deepOf 12 = .ok (.invokevirtual 228, 3) := by decide +kernel
theorem dX8_deepOf_15 : decode cX8_deepOf 15 = .ok (.if_icmp .gt 42, 3) := by decide +kernel
theorem dX8_deepOf_18 : decode cX8_deepOf 18 = .ok (.iload_n 3, 1) := by decide +kernel
theorem dX8_deepOf_19 : decode cX8_deepOf 19 = .ok (.iload_n 1, 1) := by decide +kernel
theorem dX8_deepOf_20 : decode cX8_deepOf 20 = .ok (.invokestatic 153, 3) := by decide +kernel
theorem dX8_deepOf_23 : decode cX8_deepOf 23 = .ok (.ifCond .eq 26, 3) := by decide +kernel
theorem dX8_deepOf_26 : decode cX8_deepOf 26 = .ok (.aload_n 0, 1) := by decide +kernel
theorem dX8_deepOf_27 : decode cX8_deepOf 27 = .ok (.iload_n 3, 1) := by decide +kernel
theorem dX8_deepOf_28 : decode cX8_deepOf 28 = .ok (.invokevirtual 261, 3) := by decide +kernel
theorem dX8_deepOf_31 : decode cX8_deepOf 31 = .ok (.ifCond .eq 18, 3) := by decide +kernel
theorem dX8_deepOf_34 : decode cX8_deepOf 34 = .ok (.iload_n 3, 1) := by decide +kernel
theorem dX8_deepOf_35 : decode cX8_deepOf 35 = .ok (.invokestatic 192, 3) := by decide +kernel
theorem dX8_deepOf_38 : decode cX8_deepOf 38 = .ok (.iload_n 2, 1) := by decide +kernel
theorem dX8_deepOf_39 : decode cX8_deepOf 39 = .ok (.if_icmp .ge 10, 3) := by decide +kernel
theorem dX8_deepOf_42 : decode cX8_deepOf 42 = .ok (.iload_n 3, 1) := by decide +kernel
theorem dX8_deepOf_43 : decode cX8_deepOf 43 = .ok (.invokestatic 192, 3) := by decide +kernel
theorem dX8_deepOf_46 : decode cX8_deepOf 46 = .ok (.goto 4, 3) := by decide +kernel
theorem dX8_deepOf_49 : decode cX8_deepOf 49 = .ok (.iload_n 2, 1) := by decide +kernel
theorem dX8_deepOf_50 : decode cX8_deepOf 50 = .ok (.istore_n 2, 1) := by decide +kernel
theorem dX8_deepOf_51 : decode cX8_deepOf 51 = .ok (.iinc 3 1, 3) := by decide +kernel
theorem dX8_deepOf_54 : decode cX8_deepOf 54 = .ok (.goto (-44), 3) := by decide +kernel
theorem dX8_deepOf_57 : decode cX8_deepOf 57 = .ok (.iload_n 2, 1) := by decide +kernel
theorem dX8_deepOf_58 : decode cX8_deepOf 58 = .ok (.ireturn, 1) := by decide +kernel
theorem dX8_deep_0 : decode cX8_deep 0 = .ok (.aload_n 0, 1) := by decide +kernel
theorem dX8_deep_1 : decode cX8_deep 1 = .ok (.iload_n 1, 1) := by decide +kernel
theorem dX8_deep_2 : decode cX8_deep 2 = .ok (.invokevirtual 176, 3) := by decide +kernel
theorem dX8_deep_5 : decode cX8_deep 5 = .ok (.ifCond .eq 11, 3) := by decide +kernel
theorem dX8_deep_8 : decode cX8_deep 8 = .ok (.aload_n 0, 1) := by decide +kernel
theorem dX8_deep_9 : decode cX8_deep 9 = .ok (.iload_n 1, 1) := by decide +kernel
theorem dX8_deep_10 : decode cX8_deep 10 = .ok (.invokevirtual 273, 3) := by decide +kernel
theorem dX8_deep_13 : decode cX8_deep 13 = .ok (.goto 5, 3) := by decide +kernel
theorem dX8_deep_16 : decode cX8_deep 16 = .ok (.bipush (-2), 2) := by decide +kernel
theorem dX8_deep_18 : decode cX8_deep 18 = .ok (.ireturn, 1) := by decide +kernel
theorem dX8_byAsking_0 : decode cX8_byAsking 0 = .ok (.iload_n 2, 1) := by decide +kernel
theorem dX8_byAsking_1 : decode cX8_byAsking 1 = .ok (.aload_n 0, 1) := by decide +kernel
theorem dX8_byAsking_2 : decode cX8_byAsking 2 = .ok (.getfield 64, 3) := by decide +kernel
theorem dX8_byAsking_5 : decode cX8_byAsking 5 = .ok (.iload_n 1, 1) := by decide +kernel
theorem dX8_byAsking_6 : decode cX8_byAsking 6 = .ok (.iaload, 1) := by decide +kernel
theorem dX8_byAsking_7 : decode cX8_byAsking 7 = .ok (.iand, 1) := by decide +kernel
theorem dX8_byAsking_8 : decode cX8_byAsking 8 = .ok (.istore_n 3, 1) := by decide +kernel
theorem dX8_byAsking_9 : decode cX8_byAsking 9 = .ok (.iload_n 2, 1) := by decide +kernel
theorem dX8_byAsking_10 : decode cX8_byAsking 10 = .ok (.aload_n 0, 1) := by decide +kernel
theorem dX8_byAsking_11 : decode cX8_byAsking 11 = .ok (.getfield 64, 3) := by decide +kernel
theorem dX8_byAsking_14 : decode cX8_byAsking 14 = .ok (.iload_n 1, 1) := by decide +kernel
theorem dX8_byAsking_15 : decode cX8_byAsking 15 = .ok (.iaload, 1) := by decide +kernel
theorem dX8_byAsking_16 : decode cX8_byAsking 16 = .ok (.iconst (-1), 1) := by decide +kernel
theorem dX8_byAsking_17 : decode cX8_byAsking 17 = .ok (.ixor, 1) := by decide +kernel
theorem dX8_byAsking_18 : decode cX8_byAsking 18 = .ok (.iand, 1) := by decide +kernel
theorem dX8_byAsking_19 : decode cX8_byAsking 19 = .ok (.istore 4, 2) := by decide +kernel
theorem dX8_byAsking_21 : decode cX8_byAsking 21 = .ok (.iload_n 3, 1) := by decide +kernel
theorem dX8_byAsking_22 : decode cX8_byAsking 22 = .ok (.ifCond .eq 8, 3) := by decide +kernel
theorem dX8_byAsking_25 : decode cX8_byAsking 25 = .ok (.iload 4, 2) := by decide +kernel
theorem dX8_byAsking_27 : decode cX8_byAsking 27 = .ok (.ifCond .ne 7, 3) := by decide +kernel
theorem dX8_byAsking_30 : decode cX8_byAsking 30 = .ok (.sipush 10000, 3) := by decide +kernel
theorem dX8_byAsking_33 : decode cX8_byAsking 33 = .ok (.ireturn, 1) := by decide +kernel
theorem dX8_byAsking_34 : decode cX8_byAsking 34 = .ok (.iconst 1, 1) := by decide +kernel
theorem dX8_byAsking_35 : decode cX8_byAsking 35 = .ok (.aload_n 0, 1) := by decide +kernel
theorem dX8_byAsking_36 : decode cX8_byAsking 36 = .ok (.getfield 67, 3) := by decide +kernel
theorem dX8_byAsking_39 : decode cX8_byAsking 39 = .ok (.iload_n 3, 1) := by decide +kernel
theorem dX8_byAsking_40 : decode cX8_byAsking 40 = .ok (.iaload, 1) := by decide +kernel
theorem dX8_byAsking_41 : decode cX8_byAsking 41 = .ok (.aload_n 0, 1) := by decide +kernel
theorem dX8_byAsking_42 : decode cX8_byAsking 42 = .ok (.getfield 67, 3) := by decide +kernel
theorem dX8_byAsking_45 : decode cX8_byAsking 45 = .ok (.iload 4, 2) := by decide +kernel
theorem dX8_byAsking_47 : decode cX8_byAsking 47 = .ok (.iaload, 1) := by decide +kernel
theorem dX8_byAsking_48 : decode cX8_byAsking 48 = .ok (.if_icmp .le 12, 3) := by decide +kernel
theorem dX8_byAsking_51 : decode cX8_byAsking 51 = .ok (.aload_n 0, 1) := by decide +kernel
theorem dX8_byAsking_52 : decode cX8_byAsking 52 = .ok (.getfield 67, 3) := by decide +kernel
theorem dX8_byAsking_55 : decode cX8_byAsking 55 = .ok (.iload_n 3, 1) := by decide +kernel
theorem dX8_byAsking_56 : decode cX8_byAsking 56 = .ok (.iaload, 1) := by decide +kernel
theorem dX8_byAsking_57 : decode cX8_byAsking 57 = .ok (.goto 10, 3) := by decide +kernel
theorem dX8_byAsking_60 : decode cX8_byAsking 60 = .ok (.aload_n 0, 1) := by decide +kernel
theorem dX8_byAsking_61 : decode cX8_byAsking 61 = .ok (.getfield 67, 3) := by decide +kernel
theorem dX8_byAsking_64 : decode cX8_byAsking 64 = .ok (.iload 4, 2) := by decide +kernel
theorem dX8_byAsking_66 : decode cX8_byAsking 66 = .ok (.iaload, 1) := by decide +kernel
theorem dX8_byAsking_67 : decode cX8_byAsking 67 = .ok (.iadd, 1) := by decide +kernel
theorem dX8_byAsking_68 : decode cX8_byAsking 68 = .ok (.ireturn, 1) := by decide +kernel
theorem dX8_sureOf_0 : decode cX8_sureOf 0 = .ok (.aload_n 0, 1) := by decide +kernel
theorem dX8_sureOf_1 : decode cX8_sureOf 1 = .ok (.invokevirtual 258, 3) := by decide +kernel
theorem dX8_sureOf_4 : decode cX8_sureOf 4 = .ok (.iconst 0, 1) := by decide +kernel
theorem dX8_sureOf_5 : decode cX8_sureOf 5 = .ok (.istore 4, 2) := by decide +kernel
theorem dX8_sureOf_7 : decode cX8_sureOf 7 = .ok (.iconst 0, 1) := by decide +kernel
theorem dX8_sureOf_8 : decode cX8_sureOf 8 = .ok (.istore 5, 2) := by decide +kernel
theorem dX8_sureOf_10 : decode cX8_sureOf 10 = .ok (.iload 5, 2) := by decide +kernel
theorem dX8_sureOf_12 : decode cX8_sureOf 12 = .ok (.aload_n 0, 1) := by decide +kernel
theorem dX8_sureOf_13 : decode cX8_sureOf 13 = .ok (.invokevirtual 228, 3) := by decide +kernel
theorem dX8_sureOf_16 : decode cX8_sureOf 16 = .ok (.if_icmp .gt 58, 3) := by decide +kernel
theorem dX8_sureOf_19 : decode cX8_sureOf 19 = .ok (.aload_n 0, 1) := by decide +kernel
theorem dX8_sureOf_20 : decode cX8_sureOf 20 = .ok (.iload 5, 2) := by decide +kernel
theorem dX8_sureOf_22 : decode cX8_sureOf 22 = .ok (.invokevirtual 261, 3) := by decide +kernel
theorem dX8_sureOf_25 : decode cX8_sureOf 25 = .ok (.ifCond .eq 43, 3) := by decide +kernel
theorem dX8_sureOf_28 : decode cX8_sureOf 28 = .ok (.iload_n 1, 1) := by decide +kernel
theorem dX8_sureOf_29 : decode cX8_sureOf 29 = .ok (.aload_n 0, 1) := by decide +kernel
theorem dX8_sureOf_30 : decode cX8_sureOf 30 = .ok (.invokevirtual 228, 3) := by decide +kernel
theorem dX8_sureOf_33 : decode cX8_sureOf 33 = .ok (.iand, 1) := by decide +kernel
theorem dX8_sureOf_34 : decode cX8_sureOf 34 = .ok (.iload 5, 2) := by decide +kernel
theorem dX8_sureOf_36 : decode cX8_sureOf 36 = .ok (.iconst (-1), 1) := by decide +kernel
theorem dX8_sureOf_37 : decode cX8_sureOf 37 = .ok (.ixor, 1) := by decide +kernel
theorem dX8_sureOf_38 : decode cX8_sureOf 38 = .ok (.iand, 1) := by decide +kernel
theorem dX8_sureOf_39 : decode cX8_sureOf 39 = .ok (.ifCond .ne 29, 3) := by decide +kernel
theorem dX8_sureOf_42 : decode cX8_sureOf 42 = .ok (.iload_n 2, 1) := by decide +kernel
theorem dX8_sureOf_43 : decode cX8_sureOf 43 = .ok (.iload 5, 2) := by decide +kernel
theorem dX8_sureOf_45 : decode cX8_sureOf 45 = .ok (.iand, 1) := by decide +kernel
theorem dX8_sureOf_46 : decode cX8_sureOf 46 = .ok (.ifCond .ne 22, 3) := by decide +kernel
theorem dX8_sureOf_49 : decode cX8_sureOf 49 = .ok (.iload 4, 2) := by decide +kernel
theorem dX8_sureOf_51 : decode cX8_sureOf 51 = .ok (.bipush 14, 2) := by decide +kernel
theorem dX8_sureOf_53 : decode cX8_sureOf 53 = .ok (.if_icmp .ge 12, 3) := by decide +kernel
theorem dX8_sureOf_56 : decode cX8_sureOf 56 = .ok (.aload_n 0, 1) := by decide +kernel
theorem dX8_sureOf_57 : decode cX8_sureOf 57 = .ok (.getfield 61, 3) := by decide +kernel
theorem dX8_sureOf_60 : decode cX8_sureOf 60 = .ok (.iload 4, 2) := by decide +kernel
theorem dX8_sureOf_62 : decode cX8_sureOf 62 = .ok (.iload 5, 2) := by decide +kernel
theorem dX8_sureOf_64 : decode cX8_sureOf 64 = .ok (.iastore, 1) := by decide +kernel
theorem dX8_sureOf_65 : decode cX8_sureOf 65 = .ok (.iinc 4 1, 3) := by decide +kernel
theorem dX8_sureOf_68 : decode cX8_sureOf 68 = .ok (.iinc 5 1, 3) := by decide +kernel
theorem dX8_sureOf_71 : decode cX8_sureOf 71 = .ok (.goto (-61), 3) := by decide +kernel
theorem dX8_sureOf_74 : decode cX8_sureOf 74 = .ok (.iload 4, 2) := by decide +kernel
theorem dX8_sureOf_76 : decode cX8_sureOf 76 = .ok (.ifCond .ne 6, 3) := by decide +kernel
theorem dX8_sureOf_79 : decode cX8_sureOf 79 = .ok (.bipush (-3), 2) := by decide +kernel
theorem dX8_sureOf_81 : decode cX8_sureOf 81 = .ok (.ireturn, 1) := by decide +kernel
theorem dX8_sureOf_82 : decode cX8_sureOf 82 = .ok (.iload 4, 2) := by decide +kernel
theorem dX8_sureOf_84 : decode cX8_sureOf 84 = .ok (.bipush 14, 2) := by decide +kernel
theorem dX8_sureOf_86 : decode cX8_sureOf 86 = .ok (.if_icmp .le 6, 3) := by decide +kernel
theorem dX8_sureOf_89 : decode cX8_sureOf 89 = .ok (.bipush (-4), 2) := by decide +kernel
theorem dX8_sureOf_91 : decode cX8_sureOf 91 = .ok (.ireturn, 1) := by decide +kernel
theorem dX8_sureOf_92 : decode cX8_sureOf 92 = .ok (.iconst 0, 1) := by decide +kernel
theorem dX8_sureOf_93 : decode cX8_sureOf 93 = .ok (.istore 5, 2) := by decide +kernel
theorem dX8_sureOf_95 : decode cX8_sureOf 95 = .ok (.iload 5, 2) := by decide +kernel
theorem dX8_sureOf_97 : decode cX8_sureOf 97 = .ok (.aload_n 0, 1) := by decide +kernel
theorem dX8_sureOf_98 : decode cX8_sureOf 98 = .ok (.invokevirtual 111, 3) := by decide +kernel
theorem dX8_sureOf_101 : decode cX8_sureOf 101 = .ok (.if_icmp .ge 66, 3) := by decide +kernel
theorem dX8_sureOf_104 : decode cX8_sureOf 104 = .ok (.aload_n 0, 1) := by decide +kernel
theorem dX8_sureOf_105 : decode cX8_sureOf 105 = .ok (.getfield 64, 3) := by decide +kernel
theorem dX8_sureOf_108 : decode cX8_sureOf 108 = .ok (.iload 5, 2) := by decide +kernel
theorem dX8_sureOf_110 : decode cX8_sureOf 110 = .ok (.iconst 0, 1) := by decide +kernel
theorem dX8_sureOf_111 : decode cX8_sureOf 111 = .ok (.iastore, 1) := by decide +kernel
theorem dX8_sureOf_112 : decode cX8_sureOf 112 = .ok (.iconst 0, 1) := by decide +kernel
theorem dX8_sureOf_113 : decode cX8_sureOf 113 = .ok (.istore 6, 2) := by decide +kernel
theorem dX8_sureOf_115 : decode cX8_sureOf 115 = .ok (.iload 6, 2) := by decide +kernel
theorem dX8_sureOf_117 : decode cX8_sureOf 117 = .ok (.iload 4, 2) := by decide +kernel
theorem dX8_sureOf_119 : decode cX8_sureOf 119 = .ok (.if_icmp .ge 42, 3) := by decide +kernel
theorem dX8_sureOf_122 : decode cX8_sureOf 122 = .ok (.aload_n 0, 1) := by decide +kernel
theorem dX8_sureOf_123 : decode cX8_sureOf 123 = .ok (.getfield 64, 3) := by decide +kernel
theorem dX8_sureOf_126 : decode cX8_sureOf 126 = .ok (.iload 5, 2) := by decide +kernel
theorem dX8_sureOf_128 : decode cX8_sureOf 128 = .ok (.dup2, 1) := by decide +kernel
theorem dX8_sureOf_129 : decode cX8_sureOf 129 = .ok (.iaload, 1) := by decide +kernel
theorem dX8_sureOf_130 : decode cX8_sureOf 130 = .ok (.aload_n 0, 1) := by decide +kernel
theorem dX8_sureOf_131 : decode cX8_sureOf 131 = .ok (.getfield 61, 3) := by decide +kernel
theorem dX8_sureOf_134 : decode cX8_sureOf 134 = .ok (.iload 6, 2) := by decide +kernel
theorem dX8_sureOf_136 : decode cX8_sureOf 136 = .ok (.iaload, 1) := by decide +kernel
theorem dX8_sureOf_137 : decode cX8_sureOf 137 = .ok (.iload 5, 2) := by decide +kernel
theorem dX8_sureOf_139 : decode cX8_sureOf 139 = .ok (.invokestatic 153, 3) := by decide +kernel
theorem dX8_sureOf_142 : decode cX8_sureOf 142 = .ok (.ifCond .eq 10, 3) := by decide +kernel
theorem dX8_sureOf_145 : decode cX8_sureOf 145 = .ok (.iconst 1, 1) := by decide +kernel
theorem dX8_sureOf_146 : decode cX8_sureOf 146 = .ok (.iload 6, 2) := by decide +kernel
theorem dX8_sureOf_148 : decode cX8_sureOf 148 = .ok (.ishl, 1) := by decide +kernel
theorem dX8_sureOf_149 : decode cX8_sureOf 149 = .ok (.goto 4, 3) := by decide +kernel
theorem dX8_sureOf_152 : decode cX8_sureOf 152 = .ok (.iconst 0, 1) := by decide +kernel
theorem dX8_sureOf_153 : decode cX8_sureOf 153 = .ok (.ior, 1) := by decide +kernel
theorem dX8_sureOf_154 : decode cX8_sureOf 154 = .ok (.iastore, 1) := by decide +kernel
theorem dX8_sureOf_155 : decode cX8_sureOf 155 = .ok (.iinc 6 1, 3) := by decide +kernel
theorem dX8_sureOf_158 : decode cX8_sureOf 158 = .ok (.goto (-43), 3) := by decide +kernel
theorem dX8_sureOf_161 : decode cX8_sureOf 161 = .ok (.iinc 5 1, 3) := by decide +kernel
theorem dX8_sureOf_164 : decode cX8_sureOf 164 = .ok (.goto (-69), 3) := by decide +kernel
theorem dX8_sureOf_167 : decode cX8_sureOf 167 = .ok (.iconst 1, 1) := by decide +kernel
theorem dX8_sureOf_168 : decode cX8_sureOf 168 = .ok (.iload 4, 2) := by decide +kernel
theorem dX8_sureOf_170 : decode cX8_sureOf 170 = .ok (.ishl, 1) := by decide +kernel
theorem dX8_sureOf_171 : decode cX8_sureOf 171 = .ok (.iconst 1, 1) := by decide +kernel
theorem dX8_sureOf_172 : decode cX8_sureOf 172 = .ok (.isub, 1) := by decide +kernel
theorem dX8_sureOf_173 : decode cX8_sureOf 173 = .ok (.istore 5, 2) := by decide +kernel
theorem dX8_sureOf_175 : decode cX8_sureOf 175 = .ok (.iconst 1, 1) := by decide +kernel
theorem dX8_sureOf_176 : decode cX8_sureOf 176 = .ok (.istore 6, 2) := by decide +kernel
theorem dX8_sureOf_178 : decode cX8_sureOf 178 = .ok (.iload 6, 2) := by decide +kernel
theorem dX8_sureOf_180 : decode cX8_sureOf 180 = .ok (.iload 5, 2) := by decide +kernel
theorem dX8_sureOf_182 : decode cX8_sureOf 182 = .ok (.if_icmp .gt 102, 3) := by decide +kernel
theorem dX8_sureOf_185 : decode cX8_sureOf 185 = .ok (.aload_n 0, 1) := by decide +kernel
theorem dX8_sureOf_186 : decode cX8_sureOf 186 = .ok (.getfield 67, 3) := by decide +kernel
theorem dX8_sureOf_189 : decode cX8_sureOf 189 = .ok (.iload 6, 2) := by decide +kernel
theorem dX8_sureOf_191 : decode cX8_sureOf 191 = .ok (.iload 6, 2) := by decide +kernel
theorem dX8_sureOf_193 : decode cX8_sureOf 193 = .ok (.iload 6, 2) := by decide +kernel
theorem dX8_sureOf_195 : decode cX8_sureOf 195 = .ok (.iconst 1, 1) := by decide +kernel
theorem dX8_sureOf_196 : decode cX8_sureOf 196 = .ok (.isub, 1) := by decide +kernel
theorem dX8_sureOf_197 : decode cX8_sureOf 197 = .ok (.iand, 1) := by decide +kernel
theorem dX8_sureOf_198 : decode cX8_sureOf 198 = .ok (.ifCond .ne 7, 3) := by decide +kernel
theorem dX8_sureOf_201 : decode cX8_sureOf 201 = .ok (.iconst 0, 1) := by decide +kernel
theorem dX8_sureOf_202 : decode cX8_sureOf 202 = .ok (.goto 6, 3) := by decide +kernel
theorem dX8_sureOf_205 : decode cX8_sureOf 205 = .ok (.sipush 10000, 3) := by decide +kernel
theorem dX8_sureOf_208 : decode cX8_sureOf 208 = .ok (.iastore, 1) := by decide +kernel
theorem dX8_sureOf_209 : decode cX8_sureOf 209 = .ok (.iconst 0, 1) := by decide +kernel
theorem dX8_sureOf_210 : decode cX8_sureOf 210 = .ok (.istore 7, 2) := by decide +kernel
theorem dX8_sureOf_212 : decode cX8_sureOf 212 = .ok (.iload 7, 2) := by decide +kernel
theorem dX8_sureOf_214 : decode cX8_sureOf 214 = .ok (.aload_n 0, 1) := by decide +kernel
theorem dX8_sureOf_215 : decode cX8_sureOf 215 = .ok (.invokevirtual 111, 3) := by decide +kernel
theorem dX8_sureOf_218 : decode cX8_sureOf 218 = .ok (.if_icmp .ge 60, 3) := by decide +kernel
