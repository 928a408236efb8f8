theorem dX2_tellPart_63 : decode cX2_tellPart 63 = .ok (.getfield 18, 3) := by decide +kernel
theorem dX2_tellPart_66 : decode cX2_tellPart 66 = .ok (.iload 4, 2) := by decide +kernel
theorem dX2_tellPart_68 : decode cX2_tellPart 68 = .ok (.dup2, 1) := by decide +kernel
theorem dX2_tellPart_69 : decode cX2_tellPart 69 = .ok (.iaload, 1) := by decide +kernel
theorem dX2_tellPart_70 : decode cX2_tellPart 70 = .ok (.iload_n 3, 1) := by decide +kernel
theorem dX2_tellPart_71 : decode cX2_tellPart 71 = .ok (.ior, 1) := by decide +kernel
theorem dX2_tellPart_72 : decode cX2_tellPart 72 = .ok (.iastore, 1) := by decide +kernel
theorem dX2_tellPart_73 : decode cX2_tellPart 73 = .ok (.iinc 4 1, 3) := by decide +kernel
theorem dX2_tellPart_76 : decode cX2_tellPart 76 = .ok (.goto (-41), 3) := by decide +kernel
theorem dX2_tellPart_79 : decode cX2_tellPart 79 = .ok (.aload_n 0, 1) := by decide +kernel
theorem dX2_tellPart_80 : decode cX2_tellPart 80 = .ok (.dup, 1) := by decide +kernel
theorem dX2_tellPart_81 : decode cX2_tellPart 81 = .ok (.getfield 44, 3) := by decide +kernel
theorem dX2_tellPart_84 : decode cX2_tellPart 84 = .ok (.iconst 1, 1) := by decide +kernel
theorem dX2_tellPart_85 : decode cX2_tellPart 85 = .ok (.iadd, 1) := by decide +kernel
theorem dX2_tellPart_86 : decode cX2_tellPart 86 = .ok (.putfield 44, 3) := by decide +kernel
theorem dX2_tellPart_89 : decode cX2_tellPart 89 = .ok (.return_, 1) := by decide +kernel
theorem dX3_init_0 : decode cX3_init 0 = .ok (.aload_n 0, 1) := by decide +kernel
theorem dX3_init_1 : decode cX3_init 1 = .ok (.invokespecial 3, 3) := by decide +kernel
theorem dX3_init_4 : decode cX3_init 4 = .ok (.aload_n 0, 1) := by decide +kernel
theorem dX3_init_5 : decode cX3_init 5 = .ok (.iconst 5, 1) := by decide +kernel
theorem dX3_init_6 : decode cX3_init 6 = .ok (.bipush 12, 2) := by decide +kernel
theorem dX3_init_8 : decode cX3_init 8 = .ok (.multianewarray 9 2, 4) := by decide +kernel
theorem dX3_init_12 : decode cX3_init 12 = .ok (.putfield 11, 3) := by decide +kernel
theorem dX3_init_15 : decode cX3_init 15 = .ok (.aload_n 0, 1) := by decide +kernel
theorem dX3_init_16 : decode cX3_init 16 = .ok (.iconst 4, 1) := by decide +kernel
theorem dX3_init_17 : decode cX3_init 17 = .ok (.newarray .int, 2) := by decide +kernel
theorem dX3_init_19 : decode cX3_init 19 = .ok (.putfield 16, 3) := by decide +kernel
theorem dX3_init_22 : decode cX3_init 22 = .ok (.aload_n 0, 1) := by decide +kernel
theorem dX3_init_23 : decode cX3_init 23 = .ok (.iconst 4, 1) := by decide +kernel
theorem dX3_init_24 : decode cX3_init 24 = .ok (.newarray .int, 2) := by decide +kernel
theorem dX3_init_26 : decode cX3_init 26 = .ok (.putfield 20, 3) := by decide +kernel
theorem dX3_init_29 : decode cX3_init 29 = .ok (.return_, 1) := by decide +kernel
theorem dX3_begin_0 : decode cX3_begin 0 = .ok (.aload_n 0, 1) := by decide +kernel
theorem dX3_begin_1 : decode cX3_begin 1 = .ok (.iconst 0, 1) := by decide +kernel
theorem dX3_begin_2 : decode cX3_begin 2 = .ok (.putfield 23, 3) := by decide +kernel
theorem dX3_begin_5 : decode cX3_begin 5 = .ok (.return_, 1) := by decide +kernel
theorem dX3_admit_0 : decode cX3_admit 0 = .ok (.aload_n 0, 1) := by decide +kernel
theorem dX3_admit_1 : decode cX3_admit 1 = .ok (.getfield 23, 3) := by decide +kernel
theorem dX3_admit_4 : decode cX3_admit 4 = .ok (.bipush 12, 2) := by decide +kernel
theorem dX3_admit_6 : decode cX3_admit 6 = .ok (.if_icmp .ge 25, 3) := by decide +kernel
theorem dX3_admit_9 : decode cX3_admit 9 = .ok (.aload_n 0, 1) := by decide +kernel
theorem dX3_admit_10 : decode cX3_admit 10 = .ok (.getfield 11, 3) := by decide +kernel
theorem dX3_admit_13 : decode cX3_admit 13 = .ok (.iconst 0, 1) := by decide +kernel
theorem dX3_admit_14 : decode cX3_admit 14 = .ok (.aaload, 1) := by decide +kernel
theorem dX3_admit_15 : decode cX3_admit 15 = .ok (.aload_n 0, 1) := by decide +kernel
theorem dX3_admit_16 : decode cX3_admit 16 = .ok (.getfield 23, 3) := by decide +kernel
theorem dX3_admit_19 : decode cX3_admit 19 = .ok (.iload_n 1, 1) := by decide +kernel
theorem dX3_admit_20 : decode cX3_admit 20 = .ok (.iastore, 1) := by decide +kernel
theorem dX3_admit_21 : decode cX3_admit 21 = .ok (.aload_n 0, 1) := by decide +kernel
theorem dX3_admit_22 : decode cX3_admit 22 = .ok (.dup, 1) := by decide +kernel
theorem dX3_admit_23 : decode cX3_admit 23 = .ok (.getfield 23, 3) := by decide +kernel
theorem dX3_admit_26 : decode cX3_admit 26 = .ok (.iconst 1, 1) := by decide +kernel
theorem dX3_admit_27 : decode cX3_admit 27 = .ok (.iadd, 1) := by decide +kernel
theorem dX3_admit_28 : decode cX3_admit 28 = .ok (.putfield 23, 3) := by decide +kernel
theorem dX3_admit_31 : decode cX3_admit 31 = .ok (.return_, 1) := by decide +kernel
theorem dX3_choose_0 : decode cX3_choose 0 = .ok (.aload_n 0, 1) := by decide +kernel
theorem dX3_choose_1 : decode cX3_choose 1 = .ok (.iload_n 1, 1) := by decide +kernel
theorem dX3_choose_2 : decode cX3_choose 2 = .ok (.putfield 27, 3) := by decide +kernel
theorem dX3_choose_5 : decode cX3_choose 5 = .ok (.aload_n 0, 1) := by decide +kernel
theorem dX3_choose_6 : decode cX3_choose 6 = .ok (.iconst (-1), 1) := by decide +kernel
theorem dX3_choose_7 : decode cX3_choose 7 = .ok (.putfield 30, 3) := by decide +kernel
theorem dX3_choose_10 : decode cX3_choose 10 = .ok (.aload_n 0, 1) := by decide +kernel
theorem dX3_choose_11 : decode cX3_choose 11 = .ok (.iconst 0, 1) := by decide +kernel
theorem dX3_choose_12 : decode cX3_choose 12 = .ok (.iconst 0, 1) := by decide +kernel
theorem dX3_choose_13 : decode cX3_choose 13 = .ok (.aload_n 2, 1) := by decide +kernel
theorem dX3_choose_14 : decode cX3_choose 14 = .ok (.invokevirtual 33, 3) := by decide +kernel
theorem dX3_choose_17 : decode cX3_choose 17 = .ok (.return_, 1) := by decide +kernel
theorem dX3_teach_0 : decode cX3_teach 0 = .ok (.iload_n 1, 1) := by decide +kernel
theorem dX3_teach_1 : decode cX3_teach 1 = .ok (.aload_n 0, 1) := by decide +kernel
theorem dX3_teach_2 : decode cX3_teach 2 = .ok (.getfield 27, 3) := by decide +kernel
theorem dX3_teach_5 : decode cX3_teach 5 = .ok (.if_icmp .lt 9, 3) := by decide +kernel
theorem dX3_teach_8 : decode cX3_teach 8 = .ok (.aload_n 0, 1) := by decide +kernel
theorem dX3_teach_9 : decode cX3_teach 9 = .ok (.iload_n 2, 1) := by decide +kernel
theorem dX3_teach_10 : decode cX3_teach 10 = .ok (.invokevirtual 37, 3) := by decide +kernel
theorem dX3_teach_13 : decode cX3_teach 13 = .ok (.return_, 1) := by decide +kernel
theorem dX3_teach_14 : decode cX3_teach 14 = .ok (.iconst 0, 1) := by decide +kernel
theorem dX3_teach_15 : decode cX3_teach 15 = .ok (.istore 4, 2) := by decide +kernel
theorem dX3_teach_17 : decode cX3_teach 17 = .ok (.iload 4, 2) := by decide +kernel
theorem dX3_teach_19 : decode cX3_teach 19 = .ok (.aload_n 3, 1) := by decide +kernel
theorem dX3_teach_20 : decode cX3_teach 20 = .ok (.getfield 41, 3) := by decide +kernel
theorem dX3_teach_23 : decode cX3_teach 23 = .ok (.if_icmp .ge 56, 3) := by decide +kernel
theorem dX3_teach_26 : decode cX3_teach 26 = .ok (.iload_n 2, 1) := by decide +kernel
theorem dX3_teach_27 : decode cX3_teach 27 = .ok (.aload_n 0, 1) := by decide +kernel
theorem dX3_teach_28 : decode cX3_teach 28 = .ok (.getfield 27, 3) := by decide +kernel
theorem dX3_teach_31 : decode cX3_teach 31 = .ok (.iload_n 1, 1) := by decide +kernel
theorem dX3_teach_32 : decode cX3_teach 32 = .ok (.isub, 1) := by decide +kernel
theorem dX3_teach_33 : decode cX3_teach 33 = .ok (.aload_n 0, 1) := by decide +kernel
theorem dX3_teach_34 : decode cX3_teach 34 = .ok (.getfield 23, 3) := by decide +kernel
theorem dX3_teach_37 : decode cX3_teach 37 = .ok (.imul, 1) := by decide +kernel
theorem dX3_teach_38 : decode cX3_teach 38 = .ok (.iadd, 1) := by decide +kernel
theorem dX3_teach_39 : decode cX3_teach 39 = .ok (.aload_n 0, 1) := by decide +kernel
theorem dX3_teach_40 : decode cX3_teach 40 = .ok (.getfield 30, 3) := by decide +kernel
theorem dX3_teach_43 : decode cX3_teach 43 = .ok (.if_icmp .gt 4, 3) := by decide +kernel
theorem dX3_teach_46 : decode cX3_teach 46 = .ok (.return_, 1) := by decide +kernel
theorem dX3_teach_47 : decode cX3_teach 47 = .ok (.aload_n 0, 1) := by decide +kernel
theorem dX3_teach_48 : decode cX3_teach 48 = .ok (.getfield 16, 3) := by decide +kernel
theorem dX3_teach_51 : decode cX3_teach 51 = .ok (.iload_n 1, 1) := by decide +kernel
theorem dX3_teach_52 : decode cX3_teach 52 = .ok (.iload 4, 2) := by decide +kernel
theorem dX3_teach_54 : decode cX3_teach 54 = .ok (.iastore, 1) := by decide +kernel
theorem dX3_teach_55 : decode cX3_teach 55 = .ok (.aload_n 0, 1) := by decide +kernel
theorem dX3_teach_56 : decode cX3_teach 56 = .ok (.iload_n 1, 1) := by decide +kernel
theorem dX3_teach_57 : decode cX3_teach 57 = .ok (.iconst 1, 1) := by decide +kernel
theorem dX3_teach_58 : decode cX3_teach 58 = .ok (.iadd, 1) := by decide +kernel
theorem dX3_teach_59 : decode cX3_teach 59 = .ok (.iload_n 2, 1) := by decide +kernel
theorem dX3_teach_60 : decode cX3_teach 60 = .ok (.aload_n 0, 1) := by decide +kernel
theorem dX3_teach_61 : decode cX3_teach 61 = .ok (.iload_n 1, 1) := by decide +kernel
theorem dX3_teach_62 : decode cX3_teach 62 = .ok (.iload 4, 2) := by decide +kernel
theorem dX3_teach_64 : decode cX3_teach 64 = .ok (.aload_n 3, 1) := by decide +kernel
theorem dX3_teach_65 : decode cX3_teach 65 = .ok (.invokevirtual 46, 3) := by decide +kernel
theorem dX3_teach_68 : decode cX3_teach 68 = .ok (.iadd, 1) := by decide +kernel
theorem dX3_teach_69 : decode cX3_teach 69 = .ok (.aload_n 3, 1) := by decide +kernel
theorem dX3_teach_70 : decode cX3_teach 70 = .ok (.invokevirtual 33, 3) := by decide +kernel
theorem dX3_teach_73 : decode cX3_teach 73 = .ok (.iinc 4 1, 3) := by decide +kernel
theorem dX3_teach_76 : decode cX3_teach 76 = .ok (.goto (-59), 3) := by decide +kernel
theorem dX3_teach_79 : decode cX3_teach 79 = .ok (.return_, 1) := by decide +kernel
theorem dX3_lesson_0 : decode cX3_lesson 0 = .ok (.iconst 1, 1) := by decide +kernel
theorem dX3_lesson_1 : decode cX3_lesson 1 = .ok (.iload_n 2, 1) := by decide +kernel
theorem dX3_lesson_2 : decode cX3_lesson 2 = .ok (.ishl, 1) := by decide +kernel
theorem dX3_lesson_3 : decode cX3_lesson 3 = .ok (.istore 4, 2) := by decide +kernel
theorem dX3_lesson_5 : decode cX3_lesson 5 = .ok (.iconst 0, 1) := by decide +kernel
theorem dX3_lesson_6 : decode cX3_lesson 6 = .ok (.istore 5, 2) := by decide +kernel
theorem dX3_lesson_8 : decode cX3_lesson 8 = .ok (.iconst 0, 1) := by decide +kernel
theorem dX3_lesson_9 : decode cX3_lesson 9 = .ok (.istore 6, 2) := by decide +kernel
theorem dX3_lesson_11 : decode cX3_lesson 11 = .ok (.iload 6, 2) := by decide +kernel
theorem dX3_lesson_13 : decode cX3_lesson 13 = .ok (.aload_n 0, 1) := by decide +kernel
theorem dX3_lesson_14 : decode cX3_lesson 14 = .ok (.getfield 23, 3) := by decide +kernel
theorem dX3_lesson_17 : decode cX3_lesson 17 = .ok (.if_icmp .ge 89, 3) := by decide +kernel
theorem dX3_lesson_20 : decode cX3_lesson 20 = .ok (.aload_n 0, 1) := by decide +kernel
theorem dX3_lesson_21 : decode cX3_lesson 21 = .ok (.getfield 11, 3) := by decide +kernel
theorem dX3_lesson_24 : decode cX3_lesson 24 = .ok (.iload_n 1, 1) := by decide +kernel
theorem dX3_lesson_25 : decode cX3_lesson 25 = .ok (.aaload, 1) := by decide +kernel
theorem dX3_lesson_26 : decode cX3_lesson 26 = .ok (.iload 6, 2) := by decide +kernel
theorem dX3_lesson_28 : decode cX3_lesson 28 = .ok (.iaload, 1) := by decide +kernel
theorem dX3_lesson_29 : decode cX3_lesson 29 = .ok (.istore 7, 2) := by decide +kernel
theorem dX3_lesson_31 : decode cX3_lesson 31 = .ok (.iload 7, 2) := by decide +kernel
theorem dX3_lesson_33 : decode cX3_lesson 33 = .ok (.iload 4, 2) := by decide +kernel
theorem dX3_lesson_35 : decode cX3_lesson 35 = .ok (.iand, 1) := by decide +kernel
theorem dX3_lesson_36 : decode cX3_lesson 36 = .ok (.ifCond .ne 20, 3) := by decide +kernel
theorem dX3_lesson_39 : decode cX3_lesson 39 = .ok (.aload_n 3, 1) := by decide +kernel
theorem dX3_lesson_40 : decode cX3_lesson 40 = .ok (.getfield 50, 3) := by decide +kernel
theorem dX3_lesson_43 : decode cX3_lesson 43 = .ok (.iload 7, 2) := by decide +kernel
theorem dX3_lesson_45 : decode cX3_lesson 45 = .ok (.iload 4, 2) := by decide +kernel
theorem dX3_lesson_47 : decode cX3_lesson 47 = .ok (.ior, 1) := by decide +kernel
theorem dX3_lesson_48 : decode cX3_lesson 48 = .ok (.baload, 1) := by decide +kernel
theorem dX3_lesson_49 : decode cX3_lesson 49 = .ok (.ifCond .eq 7, 3) := by decide +kernel
theorem dX3_lesson_52 : decode cX3_lesson 52 = .ok (.iconst 1, 1) := by decide +kernel
theorem dX3_lesson_53 : decode cX3_lesson 53 = .ok (.goto 4, 3) := by decide +kernel
theorem dX3_lesson_56 : decode cX3_lesson 56 = .ok (.iconst 0, 1) := by decide +kernel
theorem dX3_lesson_57 : decode cX3_lesson 57 = .ok (.istore 8, 2) := by decide +kernel
theorem dX3_lesson_59 : decode cX3_lesson 59 = .ok (.aload_n 0, 1) := by decide +kernel
theorem dX3_lesson_60 : decode cX3_lesson 60 = .ok (.getfield 11, 3) := by decide +kernel
theorem dX3_lesson_63 : decode cX3_lesson 63 = .ok (.iload_n 1, 1) := by decide +kernel
theorem dX3_lesson_64 : decode cX3_lesson 64 = .ok (.iconst 1, 1) := by decide +kernel
theorem dX3_lesson_65 : decode cX3_lesson 65 = .ok (.iadd, 1) := by decide +kernel
theorem dX3_lesson_66 : decode cX3_lesson 66 = .ok (.aaload, 1) := by decide +kernel
theorem dX3_lesson_67 : decode cX3_lesson 67 = .ok (.iload 6, 2) := by decide +kernel
theorem dX3_lesson_69 : decode cX3_lesson 69 = .ok (.iload 8, 2) := by decide +kernel
theorem dX3_lesson_71 : decode cX3_lesson 71 = .ok (.ifCond .eq 11, 3) := by decide +kernel
theorem dX3_lesson_74 : decode cX3_lesson 74 = .ok (.iload 7, 2) := by decide +kernel
theorem dX3_lesson_76 : decode cX3_lesson 76 = .ok (.iload 4, 2) := by decide +kernel
theorem dX3_lesson_78 : decode cX3_lesson 78 = .ok (.ior, 1) := by decide +kernel
theorem dX3_lesson_79 : decode cX3_lesson 79 = .ok (.goto 5, 3) := by decide +kernel
theorem dX3_lesson_82 : decode cX3_lesson 82 = .ok (.iload 7, 2) := by decide +kernel
theorem dX3_lesson_84 : decode cX3_lesson 84 = .ok (.iastore, 1) := by decide +kernel
theorem dX3_lesson_85 : decode cX3_lesson 85 = .ok (.iload 5, 2) := by decide +kernel
theorem dX3_lesson_87 : decode cX3_lesson 87 = .ok (.iload 8, 2) := by decide +kernel
theorem dX3_lesson_89 : decode cX3_lesson 89 = .ok (.ifCond .eq 7, 3) := by decide +kernel
theorem dX3_lesson_92 : decode cX3_lesson 92 = .ok (.iconst 1, 1) := by decide +kernel
theorem dX3_lesson_93 : decode cX3_lesson 93 = .ok (.goto 4, 3) := by decide +kernel
theorem dX3_lesson_96 : decode cX3_lesson 96 = .ok (.iconst 0, 1) := by decide +kernel
theorem dX3_lesson_97 : decode cX3_lesson 97 = .ok (.iadd, 1) := by decide +kernel
theorem dX3_lesson_98 : decode cX3_lesson 98 = .ok (.istore 5, 2) := by decide +kernel
theorem dX3_lesson_100 : decode cX3_lesson 100 = .ok (.iinc 6 1, 3) := by decide +kernel
theorem dX3_lesson_103 : decode cX3_lesson 103 = .ok (.goto (-92), 3) := by decide +kernel
theorem dX3_lesson_106 : decode cX3_lesson 106 = .ok (.iload 5, 2) := by decide +kernel
theorem dX3_lesson_108 : decode cX3_lesson 108 = .ok (.ireturn, 1) := by decide +kernel
theorem dX3_judge_0 : decode cX3_judge 0 = .ok (.iload_n 1, 1) := by decide +kernel
theorem dX3_judge_1 : decode cX3_judge 1 = .ok (.aload_n 0, 1) := by decide +kernel
theorem dX3_judge_2 : decode cX3_judge 2 = .ok (.getfield 30, 3) := by decide +kernel
theorem dX3_judge_5 : decode cX3_judge 5 = .ok (.if_icmp .le 25, 3) := by decide +kernel
theorem dX3_judge_8 : decode cX3_judge 8 = .ok (.aload_n 0, 1) := by decide +kernel
theorem dX3_judge_9 : decode cX3_judge 9 = .ok (.iload_n 1, 1) := by decide +kernel
theorem dX3_judge_10 : decode cX3_judge 10 = .ok (.putfield 30, 3) := by decide +kernel
theorem dX3_judge_13 : decode cX3_judge 13 = .ok (.aload_n 0, 1) := by decide +kernel
theorem dX3_judge_14 : decode cX3_judge 14 = .ok (.getfield 16, 3) := by decide +kernel
theorem dX3_judge_17 : decode cX3_judge 17 = .ok (.iconst 0, 1) := by decide +kernel
theorem dX3_judge_18 : decode cX3_judge 18 = .ok (.aload_n 0, 1) := by decide +kernel
theorem dX3_judge_19 : decode cX3_judge 19 = .ok (.getfield 20, 3) := by decide +kernel
theorem dX3_judge_22 : decode cX3_judge 22 = .ok (.iconst 0, 1) := by decide +kernel
theorem dX3_judge_23 : decode cX3_judge 23 = .ok (.aload_n 0, 1) := by decide +kernel
theorem dX3_judge_24 : decode cX3_judge 24 = .ok (.getfield 27, 3) := by decide +kernel
theorem dX3_judge_27 : decode cX3_judge 27 = .ok (.invokestatic 54, 3) := by decide +kernel
theorem dX3_judge_30 : decode cX3_judge 30 = .ok (.return_, 1) := by decide +kernel
theorem dX4_init_0 : decode cX4_init 0 = .ok (.aload_n 0, 1) := by decide +kernel
theorem dX4_init_1 : decode cX4_init 1 = .ok (.invokespecial 3, 3) := by decide +kernel
theorem dX4_init_4 : decode cX4_init 4 = .ok (.aload_n 0, 1) := by decide +kernel
theorem dX4_init_5 : decode cX4_init 5 = .ok (.bipush 7, 2) := by decide +kernel
theorem dX4_init_7 : decode cX4_init 7 = .ok (.newarray .long, 2) := by decide +kernel
theorem dX4_init_9 : decode cX4_init 9 = .ok (.putfield 9, 3) := by decide +kernel
theorem dX4_init_12 : decode cX4_init 12 = .ok (.aload_n 0, 1) := by decide +kernel
theorem dX4_init_13 : decode cX4_init 13 = .ok (.bipush 7, 2) := by decide +kernel
theorem dX4_init_15 : decode cX4_init 15 = .ok (.newarray .long, 2) := by decide +kernel
theorem dX4_init_17 : decode cX4_init 17 = .ok (.putfield 15, 3) := by decide +kernel
theorem dX4_init_20 : decode cX4_init 20 = .ok (.aload_n 0, 1) := by decide +kernel
theorem dX4_init_21 : decode cX4_init 21 = .ok (.sipush 128, 3) := by decide +kernel
theorem dX4_init_24 : decode cX4_init 24 = .ok (.newarray .long, 2) := by decide +kernel
theorem dX4_init_26 : decode cX4_init 26 = .ok (.putfield 18, 3) := by decide +kernel
theorem dX4_init_29 : decode cX4_init 29 = .ok (.aload_n 0, 1) := by decide +kernel
theorem dX4_init_30 : decode cX4_init 30 = .ok (.sipush 128, 3) := by decide +kernel
theorem dX4_init_33 : decode cX4_init 33 = .ok (.newarray .long, 2) := by decide +kernel
theorem dX4_init_35 : decode cX4_init 35 = .ok (.putfield 21, 3) := by decide +kernel
theorem dX4_init_38 : decode cX4_init 38 = .ok (.aload_n 0, 1) := by decide +kernel
theorem dX4_init_39 : decode cX4_init 39 = .ok (.bipush 7, 2) := by decide +kernel
theorem dX4_init_41 : decode cX4_init 41 = .ok (.newarray .int, 2) := by decide +kernel
theorem dX4_init_43 : decode cX4_init 43 = .ok (.putfield 24, 3) := by decide +kernel
theorem dX4_init_46 : decode cX4_init 46 = .ok (.aload_n 0, 1) := by decide +kernel
theorem dX4_init_47 : decode cX4_init 47 = .ok (.bipush 7, 2) := by decide +kernel
theorem dX4_init_49 : decode cX4_init 49 = .ok (.newarray .int, 2) := by decide +kernel
theorem dX4_init_51 : decode cX4_init 51 = .ok (.putfield 28, 3) := by decide +kernel
theorem dX4_init_54 : decode cX4_init 54 = .ok (.aload_n 0, 1) := by decide +kernel
theorem dX4_init_55 : decode cX4_init 55 = .ok (.bipush 14, 2) := by decide +kernel
theorem dX4_init_57 : decode cX4_init 57 = .ok (.newarray .int, 2) := by decide +kernel
theorem dX4_init_59 : decode cX4_init 59 = .ok (.putfield 31, 3) := by decide +kernel
theorem dX4_init_62 : decode cX4_init 62 = .ok (.return_, 1) := by decide +kernel
theorem dX4_searchBest_0 : decode cX4_searchBest 0 = .ok (.aload_n 0, 1) := by decide +kernel
theorem dX4_searchBest_1 : decode cX4_searchBest 1 = .ok (.getfield 34, 3) := by decide +kernel
theorem dX4_searchBest_4 : decode cX4_searchBest 4 = .ok (.ifCond .eq 4, 3) := by decide +kernel
theorem dX4_searchBest_7 : decode cX4_searchBest 7 = .ok (.return_, 1) := by decide +kernel
theorem dX4_searchBest_8 : decode cX4_searchBest 8 = .ok (.aload_n 0, 1) := by decide +kernel
theorem dX4_searchBest_9 : decode cX4_searchBest 9 = .ok (.aload_n 1, 1) := by decide +kernel
theorem dX4_searchBest_10 : decode cX4_searchBest 10 = .ok (.invokevirtual 38, 3) := by decide +kernel
theorem dX4_searchBest_13 : decode cX4_searchBest 13 = .ok (.aload_n 0, 1) := by decide +kernel
theorem dX4_searchBest_14 : decode cX4_searchBest 14 = .ok (.getfield 31, 3) := by decide +kernel
theorem dX4_searchBest_17 : decode cX4_searchBest 17 = .ok (.iconst (-1), 1) := by decide +kernel
theorem dX4_searchBest_18 : decode cX4_searchBest 18 = .ok (.invokestatic 42, 3) := by decide +kernel
theorem dX4_searchBest_21 : decode cX4_searchBest 21 = .ok (.aload_n 0, 1) := by decide +kernel
theorem dX4_searchBest_22 : decode cX4_searchBest 22 = .ok (.iconst 1, 1) := by decide +kernel
theorem dX4_searchBest_23 : decode cX4_searchBest 23 = .ok (.putfield 48, 3) := by decide +kernel
theorem dX4_searchBest_26 : decode cX4_searchBest 26 = .ok (.aload_n 0, 1) := by decide +kernel
theorem dX4_searchBest_27 : decode cX4_searchBest 27 = .ok (.aload_n 0, 1) := by decide +kernel
theorem dX4_searchBest_28 : decode cX4_searchBest 28 = .ok (.getfield 51, 3) := by decide +kernel
theorem dX4_searchBest_31 : decode cX4_searchBest 31 = .ok (.invokevirtual 55, 3) := by decide +kernel
theorem dX4_searchBest_34 : decode cX4_searchBest 34 = .ok (.aload_n 0, 1) := by decide +kernel
theorem dX4_searchBest_35 : decode cX4_searchBest 35 = .ok (.iconst 0, 1) := by decide +kernel
theorem dX4_searchBest_36 : decode cX4_searchBest 36 = .ok (.putfield 48, 3) := by decide +kernel
theorem dX4_searchBest_39 : decode cX4_searchBest 39 = .ok (.aload_n 0, 1) := by decide +kernel
theorem dX4_searchBest_40 : decode cX4_searchBest 40 = .ok (.aload_n 0, 1) := by decide +kernel
theorem dX4_searchBest_41 : decode cX4_searchBest 41 = .ok (.getfield 59, 3) := by decide +kernel
theorem dX4_searchBest_44 : decode cX4_searchBest 44 = .ok (.putfield 62, 3) := by decide +kernel
theorem dX4_searchBest_47 : decode cX4_searchBest 47 = .ok (.aload_n 0, 1) := by decide +kernel
theorem dX4_searchBest_48 : decode cX4_searchBest 48 = .ok (.aload_n 0, 1) := by decide +kernel
theorem dX4_searchBest_49 : decode cX4_searchBest 49 = .ok (.getfield 65, 3) := by decide +kernel
theorem dX4_searchBest_52 : decode cX4_searchBest 52 = .ok (.putfield 68, 3) := by decide +kernel
theorem dX4_searchBest_55 : decode cX4_searchBest 55 = .ok (.aload_n 0, 1) := by decide +kernel
theorem dX4_searchBest_56 : decode cX4_searchBest 56 = .ok (.iconst 1, 1) := by decide +kernel
theorem dX4_searchBest_57 : decode cX4_searchBest 57 = .ok (.putfield 34, 3) := by decide +kernel
theorem dX4_searchBest_60 : decode cX4_searchBest 60 = .ok (.return_, 1) := by decide +kernel
theorem dX4_offChanged_0 : decode cX4_offChanged 0 = .ok (.iload_n 2, 1) := by decide +kernel
theorem dX4_offChanged_1 : decode cX4_offChanged 1 = .ok (.bipush 7, 2) := by decide +kernel
theorem dX4_offChanged_3 : decode cX4_offChanged 3 = .ok (.imul, 1) := by decide +kernel
theorem dX4_offChanged_4 : decode cX4_offChanged 4 = .ok (.iload_n 1, 1) := by decide +kernel
theorem dX4_offChanged_5 : decode cX4_offChanged 5 = .ok (.iadd, 1) := by decide +kernel
theorem dX4_offChanged_6 : decode cX4_offChanged 6 = .ok (.istore_n 3, 1) := by decide +kernel
theorem dX4_offChanged_7 : decode cX4_offChanged 7 = .ok (.aload_n 0, 1) := by decide +kernel
theorem dX4_offChanged_8 : decode cX4_offChanged 8 = .ok (.getfield 31, 3) := by decide +kernel
theorem dX4_offChanged_11 : decode cX4_offChanged 11 = .ok (.iload_n 3, 1) := by decide +kernel
theorem dX4_offChanged_12 : decode cX4_offChanged 12 = .ok (.iaload, 1) := by decide +kernel
theorem dX4_offChanged_13 : decode cX4_offChanged 13 = .ok (.iconst (-1), 1) := by decide +kernel
theorem dX4_offChanged_14 : decode cX4_offChanged 14 = .ok (.if_icmp .ne 53, 3) := by decide +kernel
theorem dX4_offChanged_17 : decode cX4_offChanged 17 = .ok (.iload_n 2, 1) := by decide +kernel
theorem dX4_offChanged_18 : decode cX4_offChanged 18 = .ok (.iconst 1, 1) := by decide +kernel
theorem dX4_offChanged_19 : decode cX4_offChanged 19 = .ok (.if_icmp .ne 24, 3) := by decide +kernel
theorem dX4_offChanged_22 : decode cX4_offChanged 22 = .ok (.aload_n 0, 1) := by decide +kernel
theorem dX4_offChanged_23 : decode cX4_offChanged 23 = .ok (.iload_n 1, 1) := by decide +kernel
theorem dX4_offChanged_24 : decode cX4_offChanged 24 = .ok (.invokevirtual 71, 3) := by decide +kernel
theorem dX4_offChanged_27 : decode cX4_offChanged 27 = .ok (.aload_n 0, 1) := by decide +kernel
theorem dX4_offChanged_28 : decode cX4_offChanged 28 = .ok (.aload_n 0, 1) := by decide +kernel
theorem dX4_offChanged_29 : decode cX4_offChanged 29 = .ok (.getfield 51, 3) := by decide +kernel
theorem dX4_offChanged_32 : decode cX4_offChanged 32 = .ok (.invokevirtual 55, 3) := by decide +kernel
theorem dX4_offChanged_35 : decode cX4_offChanged 35 = .ok (.aload_n 0, 1) := by decide +kernel
theorem dX4_offChanged_36 : decode cX4_offChanged 36 = .ok (.iload_n 1, 1) := by decide +kernel
theorem dX4_offChanged_37 : decode cX4_offChanged 37 = .ok (.invokevirtual 71, 3) := by decide +kernel
theorem dX4_offChanged_40 : decode cX4_offChanged 40 = .ok (.goto 17, 3) := by decide +kernel
theorem dX4_offChanged_43 : decode cX4_offChanged 43 = .ok (.aload_n 0, 1) := by decide +kernel
theorem dX4_offChanged_44 : decode cX4_offChanged 44 = .ok (.aload_n 0, 1) := by decide +kernel
theorem dX4_offChanged_45 : decode cX4_offChanged 45 = .ok (.getfield 51, 3) := by decide +kernel
theorem dX4_offChanged_48 : decode cX4_offChanged 48 = .ok (.iconst 1, 1) := by decide +kernel
theorem dX4_offChanged_49 : decode cX4_offChanged 49 = .ok (.iload_n 1, 1) := by decide +kernel
theorem dX4_offChanged_50 : decode cX4_offChanged 50 = .ok (.ishl, 1) := by decide +kernel
theorem dX4_offChanged_51 : decode cX4_offChanged 51 = .ok (.iconst (-1), 1) := by decide +kernel
theorem dX4_offChanged_52 : decode cX4_offChanged 52 = .ok (.ixor, 1) := by decide +kernel
theorem dX4_offChanged_53 : decode cX4_offChanged 53 = .ok (.iand, 1) := by decide +kernel
theorem dX4_offChanged_54 : decode cX4_offChanged 54 = .ok (.invokevirtual 55, 3) := by decide +kernel
theorem dX4_offChanged_57 : decode cX4_offChanged 57 = .ok (.aload_n 0, 1) := by decide +kernel
theorem dX4_offChanged_58 : decode cX4_offChanged 58 = .ok (.getfield 31, 3) := by decide +kernel
theorem dX4_offChanged_61 : decode cX4_offChanged 61 = .ok (.iload_n 3, 1) := by decide +kernel
theorem dX4_offChanged_62 : decode cX4_offChanged 62 = .ok (.aload_n 0, 1) := by decide +kernel
theorem dX4_offChanged_63 : decode cX4_offChanged 63 = .ok (.getfield 59, 3) := by decide +kernel
theorem dX4_offChanged_66 : decode cX4_offChanged 66 = .ok (.iastore, 1) := by decide +kernel
theorem dX4_offChanged_67 : decode cX4_offChanged 67 = .ok (.aload_n 0, 1) := by decide +kernel
theorem dX4_offChanged_68 : decode cX4_offChanged 68 = .ok (.getfield 31, 3) := by decide +kernel
theorem dX4_offChanged_71 : decode cX4_offChanged 71 = .ok (.iload_n 3, 1) := by decide +kernel
theorem dX4_offChanged_72 : decode cX4_offChanged 72 = .ok (.iaload, 1) := by decide +kernel
theorem dX4_offChanged_73 : decode cX4_offChanged 73 = .ok (.ireturn, 1) := by decide +kernel
theorem dX4_takeAnswers_0 : decode cX4_takeAnswers 0 = .ok (.aload_n 0, 1) := by decide +kernel
theorem dX4_takeAnswers_1 : decode cX4_takeAnswers 1 = .ok (.aload_n 1, 1) := by decide +kernel
theorem dX4_takeAnswers_2 : decode cX4_takeAnswers 2 = .ok (.getfield 74, 3) := by decide +kernel
theorem dX4_takeAnswers_5 : decode cX4_takeAnswers 5 = .ok (.putfield 79, 3) := by decide +kernel
theorem dX4_takeAnswers_8 : decode cX4_takeAnswers 8 = .ok (.aload_n 0, 1) := by decide +kernel
theorem dX4_takeAnswers_9 : decode cX4_takeAnswers 9 = .ok (.aload_n 1, 1) := by decide +kernel
theorem dX4_takeAnswers_10 : decode cX4_takeAnswers 10 = .ok (.getfield 80, 3) := by decide +kernel
theorem dX4_takeAnswers_13 : decode cX4_takeAnswers 13 = .ok (.putfield 51, 3) := by decide +kernel
theorem dX4_takeAnswers_16 : decode cX4_takeAnswers 16 = .ok (.aload_n 0, 1) := by decide +kernel
theorem dX4_takeAnswers_17 : decode cX4_takeAnswers 17 = .ok (.getfield 9, 3) := by decide +kernel
theorem dX4_takeAnswers_20 : decode cX4_takeAnswers 20 = .ok (.lconst 0, 1) := by decide +kernel
theorem dX4_takeAnswers_21 : decode cX4_takeAnswers 21 = .ok (.invokestatic 81, 3) := by decide +kernel
theorem dX4_takeAnswers_24 : decode cX4_takeAnswers 24 = .ok (.aload_n 0, 1) := by decide +kernel
theorem dX4_takeAnswers_25 : decode cX4_takeAnswers 25 = .ok (.getfield 15, 3) := by decide +kernel
theorem dX4_takeAnswers_28 : decode cX4_takeAnswers 28 = .ok (.lconst 0, 1) := by decide +kernel
theorem dX4_takeAnswers_29 : decode cX4_takeAnswers 29 = .ok (.invokestatic 81, 3) := by decide +kernel
theorem dX4_takeAnswers_32 : decode cX4_takeAnswers 32 = .ok (.iconst 0, 1) := by decide +kernel
theorem dX4_takeAnswers_33 : decode cX4_takeAnswers 33 = .ok (.istore_n 2, 1) := by decide +kernel
theorem dX4_takeAnswers_34 : decode cX4_takeAnswers 34 = .ok (.iload_n 2, 1) := by decide +kernel
theorem dX4_takeAnswers_35 : decode cX4_takeAnswers 35 = .ok (.bipush 12, 2) := by decide +kernel
theorem dX4_takeAnswers_37 : decode cX4_takeAnswers 37 = .ok (.if_icmp .ge 83, 3) := by decide +kernel
theorem dX4_takeAnswers_40 : decode cX4_takeAnswers 40 = .ok (.lconst 1, 1) := by decide +kernel
theorem dX4_takeAnswers_41 : decode cX4_takeAnswers 41 = .ok (.iconst 4, 1) := by decide +kernel
theorem dX4_takeAnswers_42 : decode cX4_takeAnswers 42 = .ok (.iload_n 2, 1) := by decide +kernel
theorem dX4_takeAnswers_43 : decode cX4_takeAnswers 43 = .ok (.imul, 1) := by decide +kernel
theorem dX4_takeAnswers_44 : decode cX4_takeAnswers 44 = .ok (.lshl, 1) := by decide +kernel
theorem dX4_takeAnswers_45 : decode cX4_takeAnswers 45 = .ok (.lstore_n 3, 1) := by decide +kernel
theorem dX4_takeAnswers_46 : decode cX4_takeAnswers 46 = .ok (.iconst 0, 1) := by decide +kernel
theorem dX4_takeAnswers_47 : decode cX4_takeAnswers 47 = .ok (.istore 5, 2) := by decide +kernel
theorem dX4_takeAnswers_49 : decode cX4_takeAnswers 49 = .ok (.iload 5, 2) := by decide +kernel
theorem dX4_takeAnswers_51 : decode cX4_takeAnswers 51 = .ok (.aload_n 0, 1) := by decide +kernel
theorem dX4_takeAnswers_52 : decode cX4_takeAnswers 52 = .ok (.getfield 79, 3) := by decide +kernel
theorem dX4_takeAnswers_55 : decode cX4_takeAnswers 55 = .ok (.if_icmp .ge 59, 3) := by decide +kernel
theorem dX4_takeAnswers_58 : decode cX4_takeAnswers 58 = .ok (.aload_n 1, 1) := by decide +kernel
theorem dX4_takeAnswers_59 : decode cX4_takeAnswers 59 = .ok (.iload_n 2, 1) := by decide +kernel
theorem dX4_takeAnswers_60 : decode cX4_takeAnswers 60 = .ok (.iload 5, 2) := by decide +kernel
theorem dX4_takeAnswers_62 : decode cX4_takeAnswers 62 = .ok (.invokevirtual 84, 3) := by decide +kernel
theorem dX4_takeAnswers_65 : decode cX4_takeAnswers 65 = .ok (.istore 6, 2) := by decide +kernel
theorem dX4_takeAnswers_67 : decode cX4_takeAnswers 67 = .ok (.aload_n 0, 1) := by decide +kernel
theorem dX4_takeAnswers_68 : decode cX4_takeAnswers 68 = .ok (.getfield 9, 3) := by decide +kernel
theorem dX4_takeAnswers_71 : decode cX4_takeAnswers 71 = .ok (.iload 5, 2) := by decide +kernel
theorem dX4_takeAnswers_73 : decode cX4_takeAnswers 73 = .ok (.dup2, 1) := by decide +kernel
theorem dX4_takeAnswers_74 : decode cX4_takeAnswers 74 = .ok (.laload, 1) := by decide +kernel
theorem dX4_takeAnswers_75 : decode cX4_takeAnswers 75 = .ok (.iload 6, 2) := by decide +kernel
theorem dX4_takeAnswers_77 : decode cX4_takeAnswers 77 = .ok (.iconst 1, 1) := by decide +kernel
theorem dX4_takeAnswers_78 : decode cX4_takeAnswers 78 = .ok (.if_icmp .ne 7, 3) := by decide +kernel
theorem dX4_takeAnswers_81 : decode cX4_takeAnswers 81 = .ok (.lload_n 3, 1) := by decide +kernel
theorem dX4_takeAnswers_82 : decode cX4_takeAnswers 82 = .ok (.goto 4, 3) := by decide +kernel
theorem dX4_takeAnswers_85 : decode cX4_takeAnswers 85 = .ok (.lconst 0, 1) := by decide +kernel
theorem dX4_takeAnswers_86 : decode cX4_takeAnswers 86 = .ok (.ladd, 1) := by decide +kernel
theorem dX4_takeAnswers_87 : decode cX4_takeAnswers 87 = .ok (.lastore, 1) := by decide +kernel
theorem dX4_takeAnswers_88 : decode cX4_takeAnswers 88 = .ok (.aload_n 0, 1) := by decide +kernel
theorem dX4_takeAnswers_89 : decode cX4_takeAnswers 89 = .ok (.getfield 15, 3) := by decide +kernel
theorem dX4_takeAnswers_92 : decode cX4_takeAnswers 92 = .ok (.iload 5, 2) := by decide +kernel
theorem dX4_takeAnswers_94 : decode cX4_takeAnswers 94 = .ok (.dup2, 1) := by decide +kernel
theorem dX4_takeAnswers_95 : decode cX4_takeAnswers 95 = .ok (.laload, 1) := by decide +kernel
theorem dX4_takeAnswers_96 : decode cX4_takeAnswers 96 = .ok (.iload 6, 2) := by decide +kernel
theorem dX4_takeAnswers_98 : decode cX4_takeAnswers 98 = .ok (.ifCond .ne 7, 3) := by decide +kernel
theorem dX4_takeAnswers_101 : decode cX4_takeAnswers 101 = .ok (.lload_n 3, 1) := by decide +kernel
theorem dX4_takeAnswers_102 : decode cX4_takeAnswers 102 = .ok (.goto 4, 3) := by decide +kernel
theorem dX4_takeAnswers_105 : decode cX4_takeAnswers 105 = .ok (.lconst 0, 1) := by decide +kernel
theorem dX4_takeAnswers_106 : decode cX4_takeAnswers 106 = .ok (.ladd, 1) := by decide +kernel
theorem dX4_takeAnswers_107 : decode cX4_takeAnswers 107 = .ok (.lastore, 1) := by decide +kernel
theorem dX4_takeAnswers_108 : decode cX4_takeAnswers 108 = .ok (.iinc 5 1, 3) := by decide +kernel
theorem dX4_takeAnswers_111 : decode cX4_takeAnswers 111 = .ok (.goto (-62), 3) := by decide +kernel
theorem dX4_takeAnswers_114 : decode cX4_takeAnswers 114 = .ok (.iinc 2 1, 3) := by decide +kernel
theorem dX4_takeAnswers_117 : decode cX4_takeAnswers 117 = .ok (.goto (-83), 3) := by decide +kernel
theorem dX4_takeAnswers_120 : decode cX4_takeAnswers 120 = .ok (.return_, 1) := by decide +kernel
theorem dX4_turn_0 : decode cX4_turn 0 = .ok (.aload_n 0, 1) := by decide +kernel
theorem dX4_turn_1 : decode cX4_turn 1 = .ok (.getfield 9, 3) := by decide +kernel
theorem dX4_turn_4 : decode cX4_turn 4 = .ok (.iload_n 1, 1) := by decide +kernel
theorem dX4_turn_5 : decode cX4_turn 5 = .ok (.laload, 1) := by decide +kernel
theorem dX4_turn_6 : decode cX4_turn 6 = .ok (.lstore_n 2, 1) := by decide +kernel
theorem dX4_turn_7 : decode cX4_turn 7 = .ok (.aload_n 0, 1) := by decide +kernel
theorem dX4_turn_8 : decode cX4_turn 8 = .ok (.getfield 9, 3) := by decide +kernel
theorem dX4_turn_11 : decode cX4_turn 11 = .ok (.iload_n 1, 1) := by decide +kernel
theorem dX4_turn_12 : decode cX4_turn 12 = .ok (.aload_n 0, 1) := by decide +kernel
theorem dX4_turn_13 : decode cX4_turn 13 = .ok (.getfield 15, 3) := by decide +kernel
theorem dX4_turn_16 : decode cX4_turn 16 = .ok (.iload_n 1, 1) := by decide +kernel
theorem dX4_turn_17 : decode cX4_turn 17 = .ok (.laload, 1) := by decide +kernel
theorem dX4_turn_18 : decode cX4_turn 18 = .ok (.lastore, 1) := by decide +kernel
theorem dX4_turn_19 : decode cX4_turn 19 = .ok (.aload_n 0, 1) := by decide +kernel
theorem dX4_turn_20 : decode cX4_turn 20 = .ok (.getfield 15, 3) := by decide +kernel
theorem dX4_turn_23 : decode cX4_turn 23 = .ok (.iload_n 1, 1) := by decide +kernel
theorem dX4_turn_24 : decode cX4_turn 24 = .ok (.lload_n 2, 1) := by decide +kernel
theorem dX4_turn_25 : decode cX4_turn 25 = .ok (.lastore, 1) := by decide +kernel
theorem dX4_turn_26 : decode cX4_turn 26 = .ok (.return_, 1) := by decide +kernel
theorem dX4_search_0 : decode cX4_search 0 = .ok (.aload_n 0, 1) := by decide +kernel
theorem dX4_search_1 : decode cX4_search 1 = .ok (.iload_n 1, 1) := by decide +kernel
theorem dX4_search_2 : decode cX4_search 2 = .ok (.putfield 88, 3) := by decide +kernel
theorem dX4_search_5 : decode cX4_search 5 = .ok (.aload_n 0, 1) := by decide +kernel
theorem dX4_search_6 : decode cX4_search 6 = .ok (.invokevirtual 91, 3) := by decide +kernel
theorem dX4_search_9 : decode cX4_search 9 = .ok (.aload_n 0, 1) := by decide +kernel
theorem dX4_search_10 : decode cX4_search 10 = .ok (.getfield 18, 3) := by decide +kernel
theorem dX4_search_13 : decode cX4_search 13 = .ok (.iconst 0, 1) := by decide +kernel
theorem dX4_search_14 : decode cX4_search 14 = .ok (.laload, 1) := by decide +kernel
theorem dX4_search_15 : decode cX4_search 15 = .ok (.aload_n 0, 1) := by decide +kernel
theorem dX4_search_16 : decode cX4_search 16 = .ok (.getfield 18, 3) := by decide +kernel
theorem dX4_search_19 : decode cX4_search 19 = .ok (.aload_n 0, 1) := by decide +kernel
theorem dX4_search_20 : decode cX4_search 20 = .ok (.getfield 88, 3) := by decide +kernel
theorem dX4_search_23 : decode cX4_search 23 = .ok (.laload, 1) := by decide +kernel
theorem dX4_search_24 : decode cX4_search 24 = .ok (.invokestatic 94, 3) := by decide +kernel
theorem dX4_search_27 : decode cX4_search 27 = .ok (.lstore_n 2, 1) := by decide +kernel
theorem dX4_search_28 : decode cX4_search 28 = .ok (.aload_n 0, 1) := by decide +kernel
theorem dX4_search_29 : decode cX4_search 29 = .ok (.lload_n 2, 1) := by decide +kernel
theorem dX4_search_30 : decode cX4_search 30 = .ok (.invokestatic 98, 3) := by decide +kernel
theorem dX4_search_33 : decode cX4_search 33 = .ok (.putfield 59, 3) := by decide +kernel
theorem dX4_search_36 : decode cX4_search 36 = .ok (.aload_n 0, 1) := by decide +kernel
theorem dX4_search_37 : decode cX4_search 37 = .ok (.iconst 0, 1) := by decide +kernel
theorem dX4_search_38 : decode cX4_search 38 = .ok (.putfield 65, 3) := by decide +kernel
theorem dX4_search_41 : decode cX4_search 41 = .ok (.aload_n 0, 1) := by decide +kernel
theorem dX4_search_42 : decode cX4_search 42 = .ok (.iconst 0, 1) := by decide +kernel
theorem dX4_search_43 : decode cX4_search 43 = .ok (.iconst 0, 1) := by decide +kernel
theorem dX4_search_44 : decode cX4_search 44 = .ok (.lload_n 2, 1) := by decide +kernel
theorem dX4_search_45 : decode cX4_search 45 = .ok (.invokevirtual 102, 3) := by decide +kernel
theorem dX4_search_48 : decode cX4_search 48 = .ok (.return_, 1) := by decide +kernel
theorem dX4_fillTables_0 : decode cX4_fillTables 0 = .ok (.aload_n 0, 1) := by decide +kernel
theorem dX4_fillTables_1 : decode cX4_fillTables 1 = .ok (.getfield 18, 3) := by decide +kernel
theorem dX4_fillTables_4 : decode cX4_fillTables 4 = .ok (.iconst 0, 1) := by decide +kernel
theorem dX4_fillTables_5 : decode cX4_fillTables 5 = .ok (.lconst 0, 1) := by decide +kernel
theorem dX4_fillTables_6 : decode cX4_fillTables 6 = .ok (.lastore, 1) := by decide +kernel
theorem dX4_fillTables_7 : decode cX4_fillTables 7 = .ok (.aload_n 0, 1) := by decide +kernel
theorem dX4_fillTables_8 : decode cX4_fillTables 8 = .ok (.getfield 21, 3) := by decide +kernel
theorem dX4_fillTables_11 : decode cX4_fillTables 11 = .ok (.iconst 0, 1) := by decide +kernel
theorem dX4_fillTables_12 : decode cX4_fillTables 12 = .ok (.lconst 0, 1) := by decide +kernel
theorem dX4_fillTables_13 : decode cX4_fillTables 13 = .ok (.lastore, 1) := by decide +kernel
theorem dX4_fillTables_14 : decode cX4_fillTables 14 = .ok (.iconst 0, 1) := by decide +kernel
theorem dX4_fillTables_15 : decode cX4_fillTables 15 = .ok (.istore_n 1, 1) := by decide +kernel
theorem dX4_fillTables_16 : decode cX4_fillTables 16 = .ok (.iload_n 1, 1) := by decide +kernel
theorem dX4_fillTables_17 : decode cX4_fillTables 17 = .ok (.aload_n 0, 1) := by decide +kernel
theorem dX4_fillTables_18 : decode cX4_fillTables 18 = .ok (.getfield 79, 3) := by decide +kernel
theorem dX4_fillTables_21 : decode cX4_fillTables 21 = .ok (.if_icmp .ge 39, 3) := by decide +kernel
theorem dX4_fillTables_24 : decode cX4_fillTables 24 = .ok (.aload_n 0, 1) := by decide +kernel
theorem dX4_fillTables_25 : decode cX4_fillTables 25 = .ok (.getfield 18, 3) := by decide +kernel
theorem dX4_fillTables_28 : decode cX4_fillTables 28 = .ok (.iconst 0, 1) := by decide +kernel
theorem dX4_fillTables_29 : decode cX4_fillTables 29 = .ok (.dup2, 1) := by decide +kernel
theorem dX4_fillTables_30 : decode cX4_fillTables 30 = .ok (.laload, 1) := by decide +kernel
theorem dX4_fillTables_31 : decode cX4_fillTables 31 = .ok (.aload_n 0, 1) := by decide +kernel
theorem dX4_fillTables_32 : decode cX4_fillTables 32 = .ok (.getfield 88, 3) := by decide +kernel
theorem dX4_fillTables_35 : decode cX4_fillTables 35 = .ok (.iconst 1, 1) := by decide +kernel
theorem dX4_fillTables_36 : decode cX4_fillTables 36 = .ok (.iload_n 1, 1) := by decide +kernel
theorem dX4_fillTables_37 : decode cX4_fillTables 37 = .ok (.ishl, 1) := by decide +kernel
theorem dX4_fillTables_38 : decode cX4_fillTables 38 = .ok (.iand, 1) := by decide +kernel
theorem dX4_fillTables_39 : decode cX4_fillTables 39 = .ok (.ifCond .eq 12, 3) := by decide +kernel
theorem dX4_fillTables_42 : decode cX4_fillTables 42 = .ok (.aload_n 0, 1) := by decide +kernel
theorem dX4_fillTables_43 : decode cX4_fillTables 43 = .ok (.getfield 9, 3) := by decide +kernel
theorem dX4_fillTables_46 : decode cX4_fillTables 46 = .ok (.iload_n 1, 1) := by decide +kernel
theorem dX4_fillTables_47 : decode cX4_fillTables 47 = .ok (.laload, 1) := by decide +kernel
theorem dX4_fillTables_48 : decode cX4_fillTables 48 = .ok (.goto 4, 3) := by decide +kernel
theorem dX4_fillTables_51 : decode cX4_fillTables 51 = .ok (.lconst 0, 1) := by decide +kernel
theorem dX4_fillTables_52 : decode cX4_fillTables 52 = .ok (.ladd, 1) := by decide +kernel
theorem dX4_fillTables_53 : decode cX4_fillTables 53 = .ok (.lastore, 1) := by decide +kernel
theorem dX4_fillTables_54 : decode cX4_fillTables 54 = .ok (.iinc 1 1, 3) := by decide +kernel
theorem dX4_fillTables_57 : decode cX4_fillTables 57 = .ok (.goto (-41), 3) := by decide +kernel
theorem dX4_fillTables_60 : decode cX4_fillTables 60 = .ok (.iconst 1, 1) := by decide +kernel
theorem dX4_fillTables_61 : decode cX4_fillTables 61 = .ok (.istore_n 1, 1) := by decide +kernel
theorem dX4_fillTables_62 : decode cX4_fillTables 62 = .ok (.iload_n 1, 1) := by decide +kernel
theorem dX4_fillTables_63 : decode cX4_fillTables 63 = .ok (.aload_n 0, 1) := by decide +kernel
theorem dX4_fillTables_64 : decode cX4_fillTables 64 = .ok (.getfield 88, 3) := by decide +kernel
theorem dX4_fillTables_67 : decode cX4_fillTables 67 = .ok (.if_icmp .gt 76, 3) := by decide +kernel
theorem dX4_fillTables_70 : decode cX4_fillTables 70 = .ok (.iload_n 1, 1) := by decide +kernel
theorem dX4_fillTables_71 : decode cX4_fillTables 71 = .ok (.aload_n 0, 1) := by decide +kernel
theorem dX4_fillTables_72 : decode cX4_fillTables 72 = .ok (.getfield 88, 3) := by decide +kernel
theorem dX4_fillTables_75 : decode cX4_fillTables 75 = .ok (.iconst (-1), 1) := by decide +kernel
theorem dX4_fillTables_76 : decode cX4_fillTables 76 = .ok (.ixor, 1) := by decide +kernel
theorem dX4_fillTables_77 : decode cX4_fillTables 77 = .ok (.iand, 1) := by decide +kernel
theorem dX4_fillTables_78 : decode cX4_fillTables 78 = .ok (.ifCond .ne 59, 3) := by decide +kernel
theorem dX4_fillTables_81 : decode cX4_fillTables 81 = .ok (.iload_n 1, 1) := by decide +kernel
theorem dX4_fillTables_82 : decode cX4_fillTables 82 = .ok (.invokestatic 106, 3) := by decide +kernel
theorem dX4_fillTables_85 : decode cX4_fillTables 85 = .ok (.istore_n 2, 1) := by decide +kernel
theorem dX4_fillTables_86 : decode cX4_fillTables 86 = .ok (.iload_n 1, 1) := by decide +kernel
theorem dX4_fillTables_87 : decode cX4_fillTables 87 = .ok (.iload_n 1, 1) := by decide +kernel
theorem dX4_fillTables_88 : decode cX4_fillTables 88 = .ok (.iconst 1, 1) := by decide +kernel
theorem dX4_fillTables_89 : decode cX4_fillTables 89 = .ok (.isub, 1) := by decide +kernel
theorem dX4_fillTables_90 : decode cX4_fillTables 90 = .ok (.iand, 1) := by decide +kernel
theorem dX4_fillTables_91 : decode cX4_fillTables 91 = .ok (.istore_n 3, 1) := by decide +kernel
theorem dX4_fillTables_92 : decode cX4_fillTables 92 = .ok (.aload_n 0, 1) := by decide +kernel
theorem dX4_fillTables_93 : decode cX4_fillTables 93 = .ok (.getfield 18, 3) := by decide +kernel
theorem dX4_fillTables_96 : decode cX4_fillTables 96 = .ok (.iload_n 1, 1) := by decide +kernel
theorem dX4_fillTables_97 : decode cX4_fillTables 97 = .ok (.aload_n 0, 1) := by decide +kernel
theorem dX4_fillTables_98 : decode cX4_fillTables 98 = .ok (.getfield 18, 3) := by decide +kernel
theorem dX4_fillTables_101 : decode cX4_fillTables 101 = .ok (.iload_n 3, 1) := by decide +kernel
theorem dX4_fillTables_102 : decode cX4_fillTables 102 = .ok (.laload, 1) := by decide +kernel
theorem dX4_fillTables_103 : decode cX4_fillTables 103 = .ok (.aload_n 0, 1) := by decide +kernel
theorem dX4_fillTables_104 : decode cX4_fillTables 104 = .ok (.getfield 15, 3) := by decide +kernel
theorem dX4_fillTables_107 : decode cX4_fillTables 107 = .ok (.iload_n 2, 1) := by decide +kernel
theorem dX4_fillTables_108 : decode cX4_fillTables 108 = .ok (.laload, 1) := by decide +kernel
theorem dX4_fillTables_109 : decode cX4_fillTables 109 = .ok (.ladd, 1) := by decide +kernel
theorem dX4_fillTables_110 : decode cX4_fillTables 110 = .ok (.aload_n 0, 1) := by decide +kernel
theorem dX4_fillTables_111 : decode cX4_fillTables 111 = .ok (.getfield 9, 3) := by decide +kernel
theorem dX4_fillTables_114 : decode cX4_fillTables 114 = .ok (.iload_n 2, 1) := by decide +kernel
theorem dX4_fillTables_115 : decode cX4_fillTables 115 = .ok (.laload, 1) := by decide +kernel
theorem dX4_fillTables_116 : decode cX4_fillTables 116 = .ok (.lsub, 1) := by decide +kernel
theorem dX4_fillTables_117 : decode cX4_fillTables 117 = .ok (.lastore, 1) := by decide +kernel
theorem dX4_fillTables_118 : decode cX4_fillTables 118 = .ok (.aload_n 0, 1) := by decide +kernel
theorem dX4_fillTables_119 : decode cX4_fillTables 119 = .ok (.getfield 21, 3) := by decide +kernel
theorem dX4_fillTables_122 : decode cX4_fillTables 122 = .ok (.iload_n 1, 1) := by decide +kernel
theorem dX4_fillTables_123 : decode cX4_fillTables 123 = .ok (.aload_n 0, 1) := by decide +kernel
theorem dX4_fillTables_124 : decode cX4_fillTables 124 = .ok (.getfield 21, 3) := by decide +kernel
theorem dX4_fillTables_127 : decode cX4_fillTables 127 = .ok (.iload_n 3, 1) := by decide +kernel
theorem dX4_fillTables_128 : decode cX4_fillTables 128 = .ok (.laload, 1) := by decide +kernel
theorem dX4_fillTables_129 : decode cX4_fillTables 129 = .ok (.aload_n 0, 1) := by decide +kernel
theorem dX4_fillTables_130 : decode cX4_fillTables 130 = .ok (.getfield 15, 3) := by decide +kernel
theorem dX4_fillTables_133 : decode cX4_fillTables 133 = .ok (.iload_n 2, 1) := by decide +kernel
theorem dX4_fillTables_134 : decode cX4_fillTables 134 = .ok (.laload, 1) := by decide +kernel
theorem dX4_fillTables_135 : decode cX4_fillTables 135 = .ok (.ladd, 1) := by decide +kernel
theorem dX4_fillTables_136 : decode cX4_fillTables 136 = .ok (.lastore, 1) := by decide +kernel
theorem dX4_fillTables_137 : decode cX4_fillTables 137 = .ok (.iinc 1 1, 3) := by decide +kernel
theorem dX4_fillTables_140 : decode cX4_fillTables 140 = .ok (.goto (-78), 3) := by decide +kernel
theorem dX4_fillTables_143 : decode cX4_fillTables 143 = .ok (.return_, 1) := by decide +kernel
theorem dX4_extend_0 : decode cX4_extend 0 = .ok (.iload_n 1, 1) := by decide +kernel
theorem dX4_extend_1 : decode cX4_extend 1 = .ok (.aload_n 0, 1) := by decide +kernel
theorem dX4_extend_2 : decode cX4_extend 2 = .ok (.getfield 79, 3) := by decide +kernel
theorem dX4_extend_5 : decode cX4_extend 5 = .ok (.if_icmp .lt 4, 3) := by decide +kernel
theorem dX4_extend_8 : decode cX4_extend 8 = .ok (.return_, 1) := by decide +kernel
theorem dX4_extend_9 : decode cX4_extend 9 = .ok (.iconst 0, 1) := by decide +kernel
theorem dX4_extend_10 : decode cX4_extend 10 = .ok (.istore 5, 2) := by decide +kernel
theorem dX4_extend_12 : decode cX4_extend 12 = .ok (.iload 5, 2) := by decide +kernel
theorem dX4_extend_14 : decode cX4_extend 14 = .ok (.aload_n 0, 1) := by decide +kernel
theorem dX4_extend_15 : decode cX4_extend 15 = .ok (.getfield 79, 3) := by decide +kernel
theorem dX4_extend_18 : decode cX4_extend 18 = .ok (.if_icmp .ge 113, 3) := by decide +kernel
theorem dX4_extend_21 : decode cX4_extend 21 = .ok (.iconst 1, 1) := by decide +kernel
theorem dX4_extend_22 : decode cX4_extend 22 = .ok (.iload 5, 2) := by decide +kernel
theorem dX4_extend_24 : decode cX4_extend 24 = .ok (.ishl, 1) := by decide +kernel
theorem dX4_extend_25 : decode cX4_extend 25 = .ok (.istore 6, 2) := by decide +kernel
theorem dX4_extend_27 : decode cX4_extend 27 = .ok (.aload_n 0, 1) := by decide +kernel
theorem dX4_extend_28 : decode cX4_extend 28 = .ok (.getfield 88, 3) := by decide +kernel
theorem dX4_extend_31 : decode cX4_extend 31 = .ok (.iload_n 2, 1) := by decide +kernel
theorem dX4_extend_32 : decode cX4_extend 32 = .ok (.iconst (-1), 1) := by decide +kernel
theorem dX4_extend_33 : decode cX4_extend 33 = .ok (.ixor, 1) := by decide +kernel
theorem dX4_extend_34 : decode cX4_extend 34 = .ok (.iand, 1) := by decide +kernel
theorem dX4_extend_35 : decode cX4_extend 35 = .ok (.iload 6, 2) := by decide +kernel
theorem dX4_extend_37 : decode cX4_extend 37 = .ok (.iand, 1) := by decide +kernel
theorem dX4_extend_38 : decode cX4_extend 38 = .ok (.ifCond .ne 6, 3) := by decide +kernel
theorem dX4_extend_41 : decode cX4_extend 41 = .ok (.goto 84, 3) := by decide +kernel
theorem dX4_extend_44 : decode cX4_extend 44 = .ok (.iload_n 2, 1) := by decide +kernel
theorem dX4_extend_45 : decode cX4_extend 45 = .ok (.iload 6, 2) := by decide +kernel
theorem dX4_extend_47 : decode cX4_extend 47 = .ok (.ior, 1) := by decide +kernel
theorem dX4_extend_48 : decode cX4_extend 48 = .ok (.istore 7, 2) := by decide +kernel
theorem dX4_extend_50 : decode cX4_extend 50 = .ok (.lload_n 3, 1) := by decide +kernel
theorem dX4_extend_51 : decode cX4_extend 51 = .ok (.aload_n 0, 1) := by decide +kernel
theorem dX4_extend_52 : decode cX4_extend 52 = .ok (.getfield 18, 3) := by decide +kernel
theorem dX4_extend_55 : decode cX4_extend 55 = .ok (.iload 7, 2) := by decide +kernel
theorem dX4_extend_57 : decode cX4_extend 57 = .ok (.laload, 1) := by decide +kernel
theorem dX4_extend_58 : decode cX4_extend 58 = .ok (.invokestatic 94, 3) := by decide +kernel
theorem dX4_extend_61 : decode cX4_extend 61 = .ok (.lstore 8, 2) := by decide +kernel
theorem dX4_extend_63 : decode cX4_extend 63 = .ok (.aload_n 0, 1) := by decide +kernel
theorem dX4_extend_64 : decode cX4_extend 64 = .ok (.lload 8, 2) := by decide +kernel
theorem dX4_extend_66 : decode cX4_extend 66 = .ok (.aload_n 0, 1) := by decide +kernel
theorem dX4_extend_67 : decode cX4_extend 67 = .ok (.getfield 21, 3) := by decide +kernel
theorem dX4_extend_70 : decode cX4_extend 70 = .ok (.iload 7, 2) := by decide +kernel
theorem dX4_extend_72 : decode cX4_extend 72 = .ok (.laload, 1) := by decide +kernel
theorem dX4_extend_73 : decode cX4_extend 73 = .ok (.invokestatic 94, 3) := by decide +kernel
theorem dX4_extend_76 : decode cX4_extend 76 = .ok (.invokestatic 98, 3) := by decide +kernel
theorem dX4_extend_79 : decode cX4_extend 79 = .ok (.invokevirtual 112, 3) := by decide +kernel
theorem dX4_extend_82 : decode cX4_extend 82 = .ok (.ifCond .ne 43, 3) := by decide +kernel
theorem dX4_extend_85 : decode cX4_extend 85 = .ok (.aload_n 0, 1) := by decide +kernel
theorem dX4_extend_86 : decode cX4_extend 86 = .ok (.getfield 24, 3) := by decide +kernel
theorem dX4_extend_89 : decode cX4_extend 89 = .ok (.iload_n 1, 1) := by decide +kernel
theorem dX4_extend_90 : decode cX4_extend 90 = .ok (.iload 5, 2) := by decide +kernel
theorem dX4_extend_92 : decode cX4_extend 92 = .ok (.iastore, 1) := by decide +kernel
theorem dX4_extend_93 : decode cX4_extend 93 = .ok (.iload 7, 2) := by decide +kernel
theorem dX4_extend_95 : decode cX4_extend 95 = .ok (.aload_n 0, 1) := by decide +kernel
theorem dX4_extend_96 : decode cX4_extend 96 = .ok (.getfield 88, 3) := by decide +kernel
theorem dX4_extend_99 : decode cX4_extend 99 = .ok (.if_icmp .ne 15, 3) := by decide +kernel
theorem dX4_extend_102 : decode cX4_extend 102 = .ok (.aload_n 0, 1) := by decide +kernel
theorem dX4_extend_103 : decode cX4_extend 103 = .ok (.lload 8, 2) := by decide +kernel
theorem dX4_extend_105 : decode cX4_extend 105 = .ok (.invokestatic 98, 3) := by decide +kernel
theorem dX4_extend_108 : decode cX4_extend 108 = .ok (.invokevirtual 116, 3) := by decide +kernel
theorem dX4_extend_111 : decode cX4_extend 111 = .ok (.goto 14, 3) := by decide +kernel
theorem dX4_extend_114 : decode cX4_extend 114 = .ok (.aload_n 0, 1) := by decide +kernel
theorem dX4_extend_115 : decode cX4_extend 115 = .ok (.iload_n 1, 1) := by decide +kernel
theorem dX4_extend_116 : decode cX4_extend 116 = .ok (.iconst 1, 1) := by decide +kernel
theorem dX4_extend_117 : decode cX4_extend 117 = .ok (.iadd, 1) := by decide +kernel
theorem dX4_extend_118 : decode cX4_extend 118 = .ok (.iload 7, 2) := by decide +kernel
theorem dX4_extend_120 : decode cX4_extend 120 = .ok (.lload 8, 2) := by decide +kernel
theorem dX4_extend_122 : decode cX4_extend 122 = .ok (.invokevirtual 102, 3) := by decide +kernel
theorem dX4_extend_125 : decode cX4_extend 125 = .ok (.iinc 5 1, 3) := by decide +kernel
theorem dX4_extend_128 : decode cX4_extend 128 = .ok (.goto (-116), 3) := by decide +kernel
theorem dX4_extend_131 : decode cX4_extend 131 = .ok (.return_, 1) := by decide +kernel
theorem dX4_isHopeless_0 : decode cX4_isHopeless 0 = .ok (.aload_n 0, 1) := by decide +kernel
theorem dX4_isHopeless_1 : decode cX4_isHopeless 1 = .ok (.getfield 48, 3) := by decide +kernel
theorem dX4_isHopeless_4 : decode cX4_isHopeless 4 = .ok (.ifCond .eq 19, 3) := by decide +kernel
theorem dX4_isHopeless_7 : decode cX4_isHopeless 7 = .ok (.iload_n 1, 1) := by decide +kernel
theorem dX4_isHopeless_8 : decode cX4_isHopeless 8 = .ok (.aload_n 0, 1) := by decide +kernel
theorem dX4_isHopeless_9 : decode cX4_isHopeless 9 = .ok (.getfield 59, 3) := by decide +kernel
theorem dX4_isHopeless_12 : decode cX4_isHopeless 12 = .ok (.if_icmp .le 7, 3) := by decide +kernel
theorem dX4_isHopeless_15 : decode cX4_isHopeless 15 = .ok (.iconst 1, 1) := by decide +kernel
theorem dX4_isHopeless_16 : decode cX4_isHopeless 16 = .ok (.goto 20, 3) := by decide +kernel
theorem dX4_isHopeless_19 : decode cX4_isHopeless 19 = .ok (.iconst 0, 1) := by decide +kernel
theorem dX4_isHopeless_20 : decode cX4_isHopeless 20 = .ok (.goto 16, 3) := by decide +kernel
theorem dX4_isHopeless_23 : decode cX4_isHopeless 23 = .ok (.iload_n 1, 1) := by decide +kernel
theorem dX4_isHopeless_24 : decode cX4_isHopeless 24 = .ok (.aload_n 0, 1) := by decide +kernel
theorem dX4_isHopeless_25 : decode cX4_isHopeless 25 = .ok (.getfield 59, 3) := by decide +kernel
theorem dX4_isHopeless_28 : decode cX4_isHopeless 28 = .ok (.if_icmp .lt 7, 3) := by decide +kernel
theorem dX4_isHopeless_31 : decode cX4_isHopeless 31 = .ok (.iconst 1, 1) := by decide +kernel
theorem dX4_isHopeless_32 : decode cX4_isHopeless 32 = .ok (.goto 4, 3) := by decide +kernel
theorem dX4_isHopeless_35 : decode cX4_isHopeless 35 = .ok (.iconst 0, 1) := by decide +kernel
theorem dX4_isHopeless_36 : decode cX4_isHopeless 36 = .ok (.ireturn, 1) := by decide +kernel
theorem dX4_judge_0 : decode cX4_judge 0 = .ok (.iload_n 1, 1) := by decide +kernel
theorem dX4_judge_1 : decode cX4_judge 1 = .ok (.aload_n 0, 1) := by decide +kernel
theorem dX4_judge_2 : decode cX4_judge 2 = .ok (.getfield 59, 3) := by decide +kernel
theorem dX4_judge_5 : decode cX4_judge 5 = .ok (.if_icmp .lt 10, 3) := by decide +kernel
theorem dX4_judge_8 : decode cX4_judge 8 = .ok (.aload_n 0, 1) := by decide +kernel
theorem dX4_judge_9 : decode cX4_judge 9 = .ok (.getfield 65, 3) := by decide +kernel
theorem dX4_judge_12 : decode cX4_judge 12 = .ok (.ifCond .ne 48, 3) := by decide +kernel
theorem dX4_judge_15 : decode cX4_judge 15 = .ok (.aload_n 0, 1) := by decide +kernel
theorem dX4_judge_16 : decode cX4_judge 16 = .ok (.iload_n 1, 1) := by decide +kernel
theorem dX4_judge_17 : decode cX4_judge 17 = .ok (.putfield 59, 3) := by decide +kernel
theorem dX4_judge_20 : decode cX4_judge 20 = .ok (.aload_n 0, 1) := by decide +kernel
theorem dX4_judge_21 : decode cX4_judge 21 = .ok (.iconst 0, 1) := by decide +kernel
theorem dX4_judge_22 : decode cX4_judge 22 = .ok (.putfield 65, 3) := by decide +kernel
theorem dX4_judge_25 : decode cX4_judge 25 = .ok (.iconst 0, 1) := by decide +kernel
theorem dX4_judge_26 : decode cX4_judge 26 = .ok (.istore_n 2, 1) := by decide +kernel
theorem dX4_judge_27 : decode cX4_judge 27 = .ok (.iload_n 2, 1) := by decide +kernel
theorem dX4_judge_28 : decode cX4_judge 28 = .ok (.aload_n 0, 1) := by decide +kernel
theorem dX4_judge_29 : decode cX4_judge 29 = .ok (.getfield 79, 3) := by decide +kernel
theorem dX4_judge_32 : decode cX4_judge 32 = .ok (.if_icmp .ge 28, 3) := by decide +kernel
theorem dX4_judge_35 : decode cX4_judge 35 = .ok (.aload_n 0, 1) := by decide +kernel
theorem dX4_judge_36 : decode cX4_judge 36 = .ok (.getfield 48, 3) := by decide +kernel
theorem dX4_judge_39 : decode cX4_judge 39 = .ok (.ifCond .eq 21, 3) := by decide +kernel
theorem dX4_judge_42 : decode cX4_judge 42 = .ok (.aload_n 0, 1) := by decide +kernel
theorem dX4_judge_43 : decode cX4_judge 43 = .ok (.getfield 28, 3) := by decide +kernel
theorem dX4_judge_46 : decode cX4_judge 46 = .ok (.iload_n 2, 1) := by decide +kernel
theorem dX4_judge_47 : decode cX4_judge 47 = .ok (.aload_n 0, 1) := by decide +kernel
theorem dX4_judge_48 : decode cX4_judge 48 = .ok (.getfield 24, 3) := by decide +kernel
theorem dX4_judge_51 : decode cX4_judge 51 = .ok (.iload_n 2, 1) := by decide +kernel
theorem dX4_judge_52 : decode cX4_judge 52 = .ok (.iaload, 1) := by decide +kernel
theorem dX4_judge_53 : decode cX4_judge 53 = .ok (.iastore, 1) := by decide +kernel
theorem dX4_judge_54 : decode cX4_judge 54 = .ok (.iinc 2 1, 3) := by decide +kernel
theorem dX4_judge_57 : decode cX4_judge 57 = .ok (.goto (-30), 3) := by decide +kernel
theorem dX4_judge_60 : decode cX4_judge 60 = .ok (.aload_n 0, 1) := by decide +kernel
theorem dX4_judge_61 : decode cX4_judge 61 = .ok (.dup, 1) := by decide +kernel
theorem dX4_judge_62 : decode cX4_judge 62 = .ok (.getfield 65, 3) := by decide +kernel
theorem dX4_judge_65 : decode cX4_judge 65 = .ok (.iconst 1, 1) := by decide +kernel
theorem dX4_judge_66 : decode cX4_judge 66 = .ok (.iadd, 1) := by decide +kernel
theorem dX4_judge_67 : decode cX4_judge 67 = .ok (.putfield 65, 3) := by decide +kernel
theorem dX4_judge_70 : decode cX4_judge 70 = .ok (.return_, 1) := by decide +kernel
theorem dX4_lesser_0 : decode cX4_lesser 0 = .ok (.lload_n 0, 1) := by decide +kernel
theorem dX4_lesser_1 : decode cX4_lesser 1 = .ok (.ldc2_w 119, 3) := by decide +kernel
theorem dX4_lesser_4 : decode cX4_lesser 4 = .ok (.lor, 1) := by decide +kernel
theorem dX4_lesser_5 : decode cX4_lesser 5 = .ok (.lload_n 2, 1) := by decide +kernel
theorem dX4_lesser_6 : decode cX4_lesser 6 = .ok (.lsub, 1) := by decide +kernel
theorem dX4_lesser_7 : decode cX4_lesser 7 = .ok (.ldc2_w 119, 3) := by decide +kernel
theorem dX4_lesser_10 : decode cX4_lesser 10 = .ok (.land, 1) := by decide +kernel
theorem dX4_lesser_11 : decode cX4_lesser 11 = .ok (.lstore 4, 2) := by decide +kernel
theorem dX4_lesser_13 : decode cX4_lesser 13 = .ok (.lload 4, 2) := by decide +kernel
theorem dX4_lesser_15 : decode cX4_lesser 15 = .ok (.lload 4, 2) := by decide +kernel
theorem dX4_lesser_17 : decode cX4_lesser 17 = .ok (.iconst 3, 1) := by decide +kernel
theorem dX4_lesser_18 : decode cX4_lesser 18 = .ok (.lushr, 1) := by decide +kernel
theorem dX4_lesser_19 : decode cX4_lesser 19 = .ok (.lsub, 1) := by decide +kernel
theorem dX4_lesser_20 : decode cX4_lesser 20 = .ok (.lstore 6, 2) := by decide +kernel
theorem dX4_lesser_22 : decode cX4_lesser 22 = .ok (.lload_n 2, 1) := by decide +kernel
theorem dX4_lesser_23 : decode cX4_lesser 23 = .ok (.lload 6, 2) := by decide +kernel
theorem dX4_lesser_25 : decode cX4_lesser 25 = .ok (.land, 1) := by decide +kernel
theorem dX4_lesser_26 : decode cX4_lesser 26 = .ok (.lload_n 0, 1) := by decide +kernel
theorem dX4_lesser_27 : decode cX4_lesser 27 = .ok (.lload 6, 2) := by decide +kernel
theorem dX4_lesser_29 : decode cX4_lesser 29 = .ok (.ldc2_w 121, 3) := by decide +kernel
theorem dX4_lesser_32 : decode cX4_lesser 32 = .ok (.lxor, 1) := by decide +kernel
theorem dX4_lesser_33 : decode cX4_lesser 33 = .ok (.land, 1) := by decide +kernel
theorem dX4_lesser_34 : decode cX4_lesser 34 = .ok (.lor, 1) := by decide +kernel
theorem dX4_lesser_35 : decode cX4_lesser 35 = .ok (.lreturn, 1) := by decide +kernel
theorem dX4_total_0 : decode cX4_total 0 = .ok (.lload_n 0, 1) := by decide +kernel
theorem dX4_total_1 : decode cX4_total 1 = .ok (.ldc2_w 123, 3) := by decide +kernel
theorem dX4_total_4 : decode cX4_total 4 = .ok (.land, 1) := by decide +kernel
theorem dX4_total_5 : decode cX4_total 5 = .ok (.lload_n 0, 1) := by decide +kernel
theorem dX4_total_6 : decode cX4_total 6 = .ok (.iconst 4, 1) := by decide +kernel
theorem dX4_total_7 : decode cX4_total 7 = .ok (.lushr, 1) := by decide +kernel
theorem dX4_total_8 : decode cX4_total 8 = .ok (.ldc2_w 123, 3) := by decide +kernel
theorem dX4_total_11 : decode cX4_total 11 = .ok (.land, 1) := by decide +kernel
theorem dX4_total_12 : decode cX4_total 12 = .ok (.ladd, 1) := by decide +kernel
theorem dX4_total_13 : decode cX4_total 13 = .ok (.lstore_n 2, 1) := by decide +kernel
theorem dX4_total_14 : decode cX4_total 14 = .ok (.lload_n 2, 1) := by decide +kernel
theorem dX4_total_15 : decode cX4_total 15 = .ok (.ldc2_w 125, 3) := by decide +kernel
theorem dX4_total_18 : decode cX4_total 18 = .ok (.lmul, 1) := by decide +kernel
theorem dX4_total_19 : decode cX4_total 19 = .ok (.bipush 56, 2) := by decide +kernel
theorem dX4_total_21 : decode cX4_total 21 = .ok (.lushr, 1) := by decide +kernel
theorem dX4_total_22 : decode cX4_total 22 = .ok (.l2i, 1) := by decide +kernel
theorem dX4_total_23 : decode cX4_total 23 = .ok (.ireturn, 1) := by decide +kernel
theorem dX5_init_0 : decode cX5_init 0 = .ok (.aload_n 0, 1) := by decide +kernel
theorem dX5_init_1 : decode cX5_init 1 = .ok (.invokespecial 3, 3) := by decide +kernel
theorem dX5_init_4 : decode cX5_init 4 = .ok (.aload_n 0, 1) := by decide +kernel
theorem dX5_init_5 : decode cX5_init 5 = .ok (.bipush 60, 2) := by decide +kernel
theorem dX5_init_7 : decode cX5_init 7 = .ok (.newarray .int, 2) := by decide +kernel
theorem dX5_init_9 : decode cX5_init 9 = .ok (.putfield 9, 3) := by decide +kernel
theorem dX5_init_12 : decode cX5_init 12 = .ok (.aload_n 0, 1) := by decide +kernel
theorem dX5_init_13 : decode cX5_init 13 = .ok (.iconst 1, 1) := by decide +kernel
theorem dX5_init_14 : decode cX5_init 14 = .ok (.putfield 15, 3) := by decide +kernel
theorem dX5_init_17 : decode cX5_init 17 = .ok (.return_, 1) := by decide +kernel
theorem dX5_renew_0 : decode cX5_renew 0 = .ok (.aload_n 0, 1) := by decide +kernel
theorem dX5_renew_1 : decode cX5_renew 1 = .ok (.getfield 9, 3) := by decide +kernel
theorem dX5_renew_4 : decode cX5_renew 4 = .ok (.iconst 0, 1) := by decide +kernel
theorem dX5_renew_5 : decode cX5_renew 5 = .ok (.invokestatic 19, 3) := by decide +kernel
theorem dX5_renew_8 : decode cX5_renew 8 = .ok (.aload_n 0, 1) := by decide +kernel
theorem dX5_renew_9 : decode cX5_renew 9 = .ok (.iload_n 1, 1) := by decide +kernel
theorem dX5_renew_10 : decode cX5_renew 10 = .ok (.putfield 25, 3) := by decide +kernel
theorem dX5_renew_13 : decode cX5_renew 13 = .ok (.aload_n 0, 1) := by decide +kernel
theorem dX5_renew_14 : decode cX5_renew 14 = .ok (.iload_n 2, 1) := by decide +kernel
theorem dX5_renew_15 : decode cX5_renew 15 = .ok (.putfield 29, 3) := by decide +kernel
theorem dX5_renew_18 : decode cX5_renew 18 = .ok (.aload_n 0, 1) := by decide +kernel
theorem dX5_renew_19 : decode cX5_renew 19 = .ok (.iconst 0, 1) := by decide +kernel
theorem dX5_renew_20 : decode cX5_renew 20 = .ok (.putfield 15, 3) := by decide +kernel
theorem dX5_renew_23 : decode cX5_renew 23 = .ok (.return_, 1) := by decide +kernel
theorem dX5_findingAt_0 : decode cX5_findingAt 0 = .ok (.aload_n 0, 1) := by decide +kernel
theorem dX5_findingAt_1 : decode cX5_findingAt 1 = .ok (.getfield 15, 3) := by decide +kernel
theorem dX5_findingAt_4 : decode cX5_findingAt 4 = .ok (.ifCond .eq 5, 3) := by decide +kernel
theorem dX5_findingAt_7 : decode cX5_findingAt 7 = .ok (.iconst 1, 1) := by decide +kernel
theorem dX5_findingAt_8 : decode cX5_findingAt 8 = .ok (.ireturn, 1) := by decide +kernel
theorem dX5_findingAt_9 : decode cX5_findingAt 9 = .ok (.iload_n 1, 1) := by decide +kernel
theorem dX5_findingAt_10 : decode cX5_findingAt 10 = .ok (.aload_n 0, 1) := by decide +kernel
theorem dX5_findingAt_11 : decode cX5_findingAt 11 = .ok (.getfield 25, 3) := by decide +kernel
theorem dX5_findingAt_14 : decode cX5_findingAt 14 = .ok (.if_icmp .eq 5, 3) := by decide +kernel
theorem dX5_findingAt_17 : decode cX5_findingAt 17 = .ok (.iconst 3, 1) := by decide +kernel
theorem dX5_findingAt_18 : decode cX5_findingAt 18 = .ok (.ireturn, 1) := by decide +kernel
theorem dX5_findingAt_19 : decode cX5_findingAt 19 = .ok (.iload_n 2, 1) := by decide +kernel
theorem dX5_findingAt_20 : decode cX5_findingAt 20 = .ok (.aload_n 0, 1) := by decide +kernel
theorem dX5_findingAt_21 : decode cX5_findingAt 21 = .ok (.getfield 29, 3) := by decide +kernel
theorem dX5_findingAt_24 : decode cX5_findingAt 24 = .ok (.invokestatic 32, 3) := by decide +kernel
theorem dX5_findingAt_27 : decode cX5_findingAt 27 = .ok (.ifCond .eq 7, 3) := by decide +kernel
theorem dX5_findingAt_30 : decode cX5_findingAt 30 = .ok (.iconst 0, 1) := by decide +kernel
theorem dX5_findingAt_31 : decode cX5_findingAt 31 = .ok (.goto 4, 3) := by decide +kernel
theorem dX5_findingAt_34 : decode cX5_findingAt 34 = .ok (.iconst 2, 1) := by decide +kernel
theorem dX5_findingAt_35 : decode cX5_findingAt 35 = .ok (.ireturn, 1) := by decide +kernel
theorem dX5_hasRange_0 : decode cX5_hasRange 0 = .ok (.iload_n 1, 1) := by decide +kernel
theorem dX5_hasRange_1 : decode cX5_hasRange 1 = .ok (.ifCond .lt 29, 3) := by decide +kernel
theorem dX5_hasRange_4 : decode cX5_hasRange 4 = .ok (.iload_n 2, 1) := by decide +kernel
theorem dX5_hasRange_5 : decode cX5_hasRange 5 = .ok (.ifCond .lt 25, 3) := by decide +kernel
theorem dX5_hasRange_8 : decode cX5_hasRange 8 = .ok (.iload_n 2, 1) := by decide +kernel
theorem dX5_hasRange_9 : decode cX5_hasRange 9 = .ok (.aload_n 0, 1) := by decide +kernel
theorem dX5_hasRange_10 : decode cX5_hasRange 10 = .ok (.getfield 29, 3) := by decide +kernel
theorem dX5_hasRange_13 : decode cX5_hasRange 13 = .ok (.if_icmp .gt 17, 3) := by decide +kernel
theorem dX5_hasRange_16 : decode cX5_hasRange 16 = .ok (.iload_n 1, 1) := by decide +kernel
theorem dX5_hasRange_17 : decode cX5_hasRange 17 = .ok (.aload_n 0, 1) := by decide +kernel
theorem dX5_hasRange_18 : decode cX5_hasRange 18 = .ok (.getfield 29, 3) := by decide +kernel
theorem dX5_hasRange_21 : decode cX5_hasRange 21 = .ok (.iload_n 2, 1) := by decide +kernel
theorem dX5_hasRange_22 : decode cX5_hasRange 22 = .ok (.isub, 1) := by decide +kernel
theorem dX5_hasRange_23 : decode cX5_hasRange 23 = .ok (.if_icmp .gt 7, 3) := by decide +kernel
theorem dX5_hasRange_26 : decode cX5_hasRange 26 = .ok (.iconst 1, 1) := by decide +kernel
theorem dX5_hasRange_27 : decode cX5_hasRange 27 = .ok (.goto 4, 3) := by decide +kernel
theorem dX5_hasRange_30 : decode cX5_hasRange 30 = .ok (.iconst 0, 1) := by decide +kernel
theorem dX5_hasRange_31 : decode cX5_hasRange 31 = .ok (.ireturn, 1) := by decide +kernel
theorem dX5_put_0 : decode cX5_put 0 = .ok (.iload_n 1, 1) := by decide +kernel
theorem dX5_put_1 : decode cX5_put 1 = .ok (.aload_n 0, 1) := by decide +kernel
theorem dX5_put_2 : decode cX5_put 2 = .ok (.getfield 29, 3) := by decide +kernel
theorem dX5_put_5 : decode cX5_put 5 = .ok (.invokestatic 32, 3) := by decide +kernel
theorem dX5_put_8 : decode cX5_put 8 = .ok (.ifCond .eq 35, 3) := by decide +kernel
theorem dX5_put_11 : decode cX5_put 11 = .ok (.aload_n 0, 1) := by decide +kernel
theorem dX5_put_12 : decode cX5_put 12 = .ok (.getfield 9, 3) := by decide +kernel
theorem dX5_put_15 : decode cX5_put 15 = .ok (.iload_n 1, 1) := by decide +kernel
theorem dX5_put_16 : decode cX5_put 16 = .ok (.aload_n 0, 1) := by decide +kernel
theorem dX5_put_17 : decode cX5_put 17 = .ok (.getfield 25, 3) := by decide +kernel
theorem dX5_put_20 : decode cX5_put 20 = .ok (.ifCond .ne 8, 3) := by decide +kernel
theorem dX5_put_23 : decode cX5_put 23 = .ok (.iload_n 2, 1) := by decide +kernel
theorem dX5_put_24 : decode cX5_put 24 = .ok (.i2b, 1) := by decide +kernel
theorem dX5_put_25 : decode cX5_put 25 = .ok (.goto 17, 3) := by decide +kernel
theorem dX5_put_28 : decode cX5_put 28 = .ok (.aload_n 0, 1) := by decide +kernel
theorem dX5_put_29 : decode cX5_put 29 = .ok (.getfield 25, 3) := by decide +kernel
theorem dX5_put_32 : decode cX5_put 32 = .ok (.iconst 1, 1) := by decide +kernel
theorem dX5_put_33 : decode cX5_put 33 = .ok (.if_icmp .ne 8, 3) := by decide +kernel
theorem dX5_put_36 : decode cX5_put 36 = .ok (.iload_n 2, 1) := by decide +kernel
theorem dX5_put_37 : decode cX5_put 37 = .ok (.i2s, 1) := by decide +kernel
theorem dX5_put_38 : decode cX5_put 38 = .ok (.goto 4, 3) := by decide +kernel
theorem dX5_put_41 : decode cX5_put 41 = .ok (.iload_n 2, 1) := by decide +kernel
theorem dX5_put_42 : decode cX5_put 42 = .ok (.iastore, 1) := by decide +kernel
theorem dX5_put_43 : decode cX5_put 43 = .ok (.return_, 1) := by decide +kernel
theorem dX6_init_0 : decode cX6_init 0 = .ok (.aload_n 0, 1) := by decide +kernel
theorem dX6_init_1 : decode cX6_init 1 = .ok (.invokespecial 3, 3) := by decide +kernel
theorem dX6_init_4 : decode cX6_init 4 = .ok (.aload_n 0, 1) := by decide +kernel
theorem dX6_init_5 : decode cX6_init 5 = .ok (.bipush 7, 2) := by decide +kernel
theorem dX6_init_7 : decode cX6_init 7 = .ok (.newarray .int, 2) := by decide +kernel
theorem dX6_init_9 : decode cX6_init 9 = .ok (.putfield 9, 3) := by decide +kernel
theorem dX6_init_12 : decode cX6_init 12 = .ok (.aload_n 0, 1) := by decide +kernel
theorem dX6_init_13 : decode cX6_init 13 = .ok (.sipush 128, 3) := by decide +kernel
theorem dX6_init_16 : decode cX6_init 16 = .ok (.newarray .boolean, 2) := by decide +kernel
theorem dX6_init_18 : decode cX6_init 18 = .ok (.putfield 15, 3) := by decide +kernel
theorem dX6_init_21 : decode cX6_init 21 = .ok (.aload_n 0, 1) := by decide +kernel
theorem dX6_init_22 : decode cX6_init 22 = .ok (.sipush 128, 3) := by decide +kernel
theorem dX6_init_25 : decode cX6_init 25 = .ok (.newarray .int, 2) := by decide +kernel
theorem dX6_init_27 : decode cX6_init 27 = .ok (.putfield 19, 3) := by decide +kernel
theorem dX6_init_30 : decode cX6_init 30 = .ok (.aload_n 0, 1) := by decide +kernel
theorem dX6_init_31 : decode cX6_init 31 = .ok (.sipush 128, 3) := by decide +kernel
theorem dX6_init_34 : decode cX6_init 34 = .ok (.newarray .int, 2) := by decide +kernel
theorem dX6_init_36 : decode cX6_init 36 = .ok (.putfield 22, 3) := by decide +kernel
theorem dX6_init_39 : decode cX6_init 39 = .ok (.return_, 1) := by decide +kernel
theorem dX6_begin_0 : decode cX6_begin 0 = .ok (.aload_n 0, 1) := by decide +kernel
theorem dX6_begin_1 : decode cX6_begin 1 = .ok (.iload_n 1, 1) := by decide +kernel
theorem dX6_begin_2 : decode cX6_begin 2 = .ok (.putfield 25, 3) := by decide +kernel
theorem dX6_begin_5 : decode cX6_begin 5 = .ok (.aload_n 0, 1) := by decide +kernel
theorem dX6_begin_6 : decode cX6_begin 6 = .ok (.iconst 1, 1) := by decide +kernel
theorem dX6_begin_7 : decode cX6_begin 7 = .ok (.aload_n 0, 1) := by decide +kernel
theorem dX6_begin_8 : decode cX6_begin 8 = .ok (.getfield 25, 3) := by decide +kernel
theorem dX6_begin_11 : decode cX6_begin 11 = .ok (.ishl, 1) := by decide +kernel
theorem dX6_begin_12 : decode cX6_begin 12 = .ok (.iconst 1, 1) := by decide +kernel
theorem dX6_begin_13 : decode cX6_begin 13 = .ok (.isub, 1) := by decide +kernel
theorem dX6_begin_14 : decode cX6_begin 14 = .ok (.putfield 29, 3) := by decide +kernel
theorem dX6_begin_17 : decode cX6_begin 17 = .ok (.return_, 1) := by decide +kernel
theorem dX6_gather_0 : decode cX6_gather 0 = .ok (.aload_n 0, 1) := by decide +kernel
theorem dX6_gather_1 : decode cX6_gather 1 = .ok (.iconst 0, 1) := by decide +kernel
theorem dX6_gather_2 : decode cX6_gather 2 = .ok (.putfield 32, 3) := by decide +kernel
theorem dX6_gather_5 : decode cX6_gather 5 = .ok (.iconst 0, 1) := by decide +kernel
theorem dX6_gather_6 : decode cX6_gather 6 = .ok (.istore_n 1, 1) := by decide +kernel
theorem dX6_gather_7 : decode cX6_gather 7 = .ok (.iload_n 1, 1) := by decide +kernel
theorem dX6_gather_8 : decode cX6_gather 8 = .ok (.aload_n 0, 1) := by decide +kernel
theorem dX6_gather_9 : decode cX6_gather 9 = .ok (.getfield 29, 3) := by decide +kernel
theorem dX6_gather_12 : decode cX6_gather 12 = .ok (.if_icmp .gt 49, 3) := by decide +kernel
theorem dX6_gather_15 : decode cX6_gather 15 = .ok (.aload_n 0, 1) := by decide +kernel
theorem dX6_gather_16 : decode cX6_gather 16 = .ok (.getfield 15, 3) := by decide +kernel
theorem dX6_gather_19 : decode cX6_gather 19 = .ok (.iload_n 1, 1) := by decide +kernel
theorem dX6_gather_20 : decode cX6_gather 20 = .ok (.aload_n 0, 1) := by decide +kernel
theorem dX6_gather_21 : decode cX6_gather 21 = .ok (.iload_n 1, 1) := by decide +kernel
theorem dX6_gather_22 : decode cX6_gather 22 = .ok (.invokevirtual 35, 3) := by decide +kernel
theorem dX6_gather_25 : decode cX6_gather 25 = .ok (.bastore, 1) := by decide +kernel
theorem dX6_gather_26 : decode cX6_gather 26 = .ok (.aload_n 0, 1) := by decide +kernel
theorem dX6_gather_27 : decode cX6_gather 27 = .ok (.getfield 15, 3) := by decide +kernel
theorem dX6_gather_30 : decode cX6_gather 30 = .ok (.iload_n 1, 1) := by decide +kernel
theorem dX6_gather_31 : decode cX6_gather 31 = .ok (.baload, 1) := by decide +kernel
theorem dX6_gather_32 : decode cX6_gather 32 = .ok (.ifCond .eq 23, 3) := by decide +kernel
theorem dX6_gather_35 : decode cX6_gather 35 = .ok (.aload_n 0, 1) := by decide +kernel
theorem dX6_gather_36 : decode cX6_gather 36 = .ok (.getfield 19, 3) := by decide +kernel
theorem dX6_gather_39 : decode cX6_gather 39 = .ok (.aload_n 0, 1) := by decide +kernel
theorem dX6_gather_40 : decode cX6_gather 40 = .ok (.getfield 32, 3) := by decide +kernel
theorem dX6_gather_43 : decode cX6_gather 43 = .ok (.iload_n 1, 1) := by decide +kernel
theorem dX6_gather_44 : decode cX6_gather 44 = .ok (.iastore, 1) := by decide +kernel
theorem dX6_gather_45 : decode cX6_gather 45 = .ok (.aload_n 0, 1) := by decide +kernel
theorem dX6_gather_46 : decode cX6_gather 46 = .ok (.dup, 1) := by decide +kernel
theorem dX6_gather_47 : decode cX6_gather 47 = .ok (.getfield 32, 3) := by decide +kernel
theorem dX6_gather_50 : decode cX6_gather 50 = .ok (.iconst 1, 1) := by decide +kernel
theorem dX6_gather_51 : decode cX6_gather 51 = .ok (.iadd, 1) := by decide +kernel
theorem dX6_gather_52 : decode cX6_gather 52 = .ok (.putfield 32, 3) := by decide +kernel
theorem dX6_gather_55 : decode cX6_gather 55 = .ok (.iinc 1 1, 3) := by decide +kernel
theorem dX6_gather_58 : decode cX6_gather 58 = .ok (.goto (-51), 3) := by decide +kernel
theorem dX6_gather_61 : decode cX6_gather 61 = .ok (.aload_n 0, 1) := by decide +kernel
theorem dX6_gather_62 : decode cX6_gather 62 = .ok (.iconst 1, 1) := by decide +kernel
theorem dX6_gather_63 : decode cX6_gather 63 = .ok (.putfield 39, 3) := by decide +kernel
theorem dX6_gather_66 : decode cX6_gather 66 = .ok (.return_, 1) := by decide +kernel
theorem dX6_holdsNeeds_0 : decode cX6_holdsNeeds 0 = .ok (.iconst 0, 1) := by decide +kernel
theorem dX6_holdsNeeds_1 : decode cX6_holdsNeeds 1 = .ok (.istore_n 2, 1) := by decide +kernel
theorem dX6_holdsNeeds_2 : decode cX6_holdsNeeds 2 = .ok (.iload_n 2, 1) := by decide +kernel
theorem dX6_holdsNeeds_3 : decode cX6_holdsNeeds 3 = .ok (.aload_n 0, 1) := by decide +kernel
theorem dX6_holdsNeeds_4 : decode cX6_holdsNeeds 4 = .ok (.getfield 25, 3) := by decide +kernel
theorem dX6_holdsNeeds_7 : decode cX6_holdsNeeds 7 = .ok (.if_icmp .ge 32, 3) := by decide +kernel
theorem dX6_holdsNeeds_10 : decode cX6_holdsNeeds 10 = .ok (.iload_n 1, 1) := by decide +kernel
theorem dX6_holdsNeeds_11 : decode cX6_holdsNeeds 11 = .ok (.iconst 1, 1) := by decide +kernel
theorem dX6_holdsNeeds_12 : decode cX6_holdsNeeds 12 = .ok (.iload_n 2, 1) := by decide +kernel
theorem dX6_holdsNeeds_13 : decode cX6_holdsNeeds 13 = .ok (.ishl, 1) := by decide +kernel
theorem dX6_holdsNeeds_14 : decode cX6_holdsNeeds 14 = .ok (.iand, 1) := by decide +kernel
theorem dX6_holdsNeeds_15 : decode cX6_holdsNeeds 15 = .ok (.ifCond .eq 18, 3) := by decide +kernel
theorem dX6_holdsNeeds_18 : decode cX6_holdsNeeds 18 = .ok (.aload_n 0, 1) := by decide +kernel
theorem dX6_holdsNeeds_19 : decode cX6_holdsNeeds 19 = .ok (.getfield 9, 3) := by decide +kernel
theorem dX6_holdsNeeds_22 : decode cX6_holdsNeeds 22 = .ok (.iload_n 2, 1) := by decide +kernel
theorem dX6_holdsNeeds_23 : decode cX6_holdsNeeds 23 = .ok (.iaload, 1) := by decide +kernel
theorem dX6_holdsNeeds_24 : decode cX6_holdsNeeds 24 = .ok (.iload_n 1, 1) := by decide +kernel
theorem dX6_holdsNeeds_25 : decode cX6_holdsNeeds 25 = .ok (.iconst (-1), 1) := by decide +kernel
theorem dX6_holdsNeeds_26 : decode cX6_holdsNeeds 26 = .ok (.ixor, 1) := by decide +kernel
theorem dX6_holdsNeeds_27 : decode cX6_holdsNeeds 27 = .ok (.iand, 1) := by decide +kernel
theorem dX6_holdsNeeds_28 : decode cX6_holdsNeeds 28 = .ok (.ifCond .eq 5, 3) := by decide +kernel
theorem dX6_holdsNeeds_31 : decode cX6_holdsNeeds 31 = .ok (.iconst 0, 1) := by decide +kernel
theorem dX6_holdsNeeds_32 : decode cX6_holdsNeeds 32 = .ok (.ireturn, 1) := by decide +kernel
theorem dX6_holdsNeeds_33 : decode cX6_holdsNeeds 33 = .ok (.iinc 2 1, 3) := by decide +kernel
theorem dX6_holdsNeeds_36 : decode cX6_holdsNeeds 36 = .ok (.goto (-34), 3) := by decide +kernel
theorem dX6_holdsNeeds_39 : decode cX6_holdsNeeds 39 = .ok (.iconst 1, 1) := by decide +kernel
theorem dX6_holdsNeeds_40 : decode cX6_holdsNeeds 40 = .ok (.ireturn, 1) := by decide +kernel
theorem dX6_neighbours_0 : decode cX6_neighbours 0 = .ok (.iconst 0, 1) := by decide +kernel
theorem dX6_neighbours_1 : decode cX6_neighbours 1 = .ok (.istore_n 2, 1) := by decide +kernel
theorem dX6_neighbours_2 : decode cX6_neighbours 2 = .ok (.iconst 0, 1) := by decide +kernel
theorem dX6_neighbours_3 : decode cX6_neighbours 3 = .ok (.istore_n 3, 1) := by decide +kernel
theorem dX6_neighbours_4 : decode cX6_neighbours 4 = .ok (.iload_n 3, 1) := by decide +kernel
theorem dX6_neighbours_5 : decode cX6_neighbours 5 = .ok (.aload_n 0, 1) := by decide +kernel
theorem dX6_neighbours_6 : decode cX6_neighbours 6 = .ok (.getfield 25, 3) := by decide +kernel
theorem dX6_neighbours_9 : decode cX6_neighbours 9 = .ok (.if_icmp .ge 32, 3) := by decide +kernel
theorem dX6_neighbours_12 : decode cX6_neighbours 12 = .ok (.iload_n 2, 1) := by decide +kernel
theorem dX6_neighbours_13 : decode cX6_neighbours 13 = .ok (.aload_n 0, 1) := by decide +kernel
theorem dX6_neighbours_14 : decode cX6_neighbours 14 = .ok (.getfield 15, 3) := by decide +kernel
theorem dX6_neighbours_17 : decode cX6_neighbours 17 = .ok (.iload_n 1, 1) := by decide +kernel
theorem dX6_neighbours_18 : decode cX6_neighbours 18 = .ok (.iconst 1, 1) := by decide +kernel
theorem dX6_neighbours_19 : decode cX6_neighbours 19 = .ok (.iload_n 3, 1) := by decide +kernel
theorem dX6_neighbours_20 : decode cX6_neighbours 20 = .ok (.ishl, 1) := by decide +kernel
theorem dX6_neighbours_21 : decode cX6_neighbours 21 = .ok (.ixor, 1) := by decide +kernel
theorem dX6_neighbours_22 : decode cX6_neighbours 22 = .ok (.baload, 1) := by decide +kernel
theorem dX6_neighbours_23 : decode cX6_neighbours 23 = .ok (.ifCond .eq 9, 3) := by decide +kernel
theorem dX6_neighbours_26 : decode cX6_neighbours 26 = .ok (.iconst 1, 1) := by decide +kernel
theorem dX6_neighbours_27 : decode cX6_neighbours 27 = .ok (.iload_n 3, 1) := by decide +kernel
theorem dX6_neighbours_28 : decode cX6_neighbours 28 = .ok (.ishl, 1) := by decide +kernel
theorem dX6_neighbours_29 : decode cX6_neighbours 29 = .ok (.goto 4, 3) := by decide +kernel
theorem dX6_neighbours_32 : decode cX6_neighbours 32 = .ok (.iconst 0, 1) := by decide +kernel
theorem dX6_neighbours_33 : decode cX6_neighbours 33 = .ok (.ior, 1) := by decide +kernel
theorem dX6_neighbours_34 : decode cX6_neighbours 34 = .ok (.istore_n 2, 1) := by decide +kernel
theorem dX6_neighbours_35 : decode cX6_neighbours 35 = .ok (.iinc 3 1, 3) := by decide +kernel
theorem dX6_neighbours_38 : decode cX6_neighbours 38 = .ok (.goto (-34), 3) := by decide +kernel
theorem dX6_neighbours_41 : decode cX6_neighbours 41 = .ok (.iload_n 2, 1) := by decide +kernel
theorem dX6_neighbours_42 : decode cX6_neighbours 42 = .ok (.ireturn, 1) := by decide +kernel
theorem dX6_waysToAll_0 : decode cX6_waysToAll 0 = .ok (.aload_n 0, 1) := by decide +kernel
theorem dX6_waysToAll_1 : decode cX6_waysToAll 1 = .ok (.getfield 22, 3) := by decide +kernel
theorem dX6_waysToAll_4 : decode cX6_waysToAll 4 = .ok (.iconst 0, 1) := by decide +kernel
theorem dX6_waysToAll_5 : decode cX6_waysToAll 5 = .ok (.iconst 1, 1) := by decide +kernel
theorem dX6_waysToAll_6 : decode cX6_waysToAll 6 = .ok (.iastore, 1) := by decide +kernel
theorem dX6_waysToAll_7 : decode cX6_waysToAll 7 = .ok (.iconst 1, 1) := by decide +kernel
theorem dX6_waysToAll_8 : decode cX6_waysToAll 8 = .ok (.istore_n 1, 1) := by decide +kernel
theorem dX6_waysToAll_9 : decode cX6_waysToAll 9 = .ok (.iload_n 1, 1) := by decide +kernel
theorem dX6_waysToAll_10 : decode cX6_waysToAll 10 = .ok (.aload_n 0, 1) := by decide +kernel
theorem dX6_waysToAll_11 : decode cX6_waysToAll 11 = .ok (.getfield 32, 3) := by decide +kernel
theorem dX6_waysToAll_14 : decode cX6_waysToAll 14 = .ok (.if_icmp .ge 78, 3) := by decide +kernel
theorem dX6_waysToAll_17 : decode cX6_waysToAll 17 = .ok (.aload_n 0, 1) := by decide +kernel
theorem dX6_waysToAll_18 : decode cX6_waysToAll 18 = .ok (.getfield 19, 3) := by decide +kernel
theorem dX6_waysToAll_21 : decode cX6_waysToAll 21 = .ok (.iload_n 1, 1) := by decide +kernel
theorem dX6_waysToAll_22 : decode cX6_waysToAll 22 = .ok (.iaload, 1) := by decide +kernel
theorem dX6_waysToAll_23 : decode cX6_waysToAll 23 = .ok (.istore_n 2, 1) := by decide +kernel
theorem dX6_waysToAll_24 : decode cX6_waysToAll 24 = .ok (.aload_n 0, 1) := by decide +kernel
theorem dX6_waysToAll_25 : decode cX6_waysToAll 25 = .ok (.iload_n 2, 1) := by decide +kernel
theorem dX6_waysToAll_26 : decode cX6_waysToAll 26 = .ok (.invokevirtual 43, 3) := by decide +kernel
theorem dX6_waysToAll_29 : decode cX6_waysToAll 29 = .ok (.iload_n 2, 1) := by decide +kernel
theorem dX6_waysToAll_30 : decode cX6_waysToAll 30 = .ok (.iand, 1) := by decide +kernel
theorem dX6_waysToAll_31 : decode cX6_waysToAll 31 = .ok (.istore_n 3, 1) := by decide +kernel
theorem dX6_waysToAll_32 : decode cX6_waysToAll 32 = .ok (.aload_n 0, 1) := by decide +kernel
theorem dX6_waysToAll_33 : decode cX6_waysToAll 33 = .ok (.getfield 22, 3) := by decide +kernel
theorem dX6_waysToAll_36 : decode cX6_waysToAll 36 = .ok (.iload_n 2, 1) := by decide +kernel
theorem dX6_waysToAll_37 : decode cX6_waysToAll 37 = .ok (.iconst 0, 1) := by decide +kernel
theorem dX6_waysToAll_38 : decode cX6_waysToAll 38 = .ok (.iastore, 1) := by decide +kernel
theorem dX6_waysToAll_39 : decode cX6_waysToAll 39 = .ok (.iconst 0, 1) := by decide +kernel
theorem dX6_waysToAll_40 : decode cX6_waysToAll 40 = .ok (.istore 4, 2) := by decide +kernel
theorem dX6_waysToAll_42 : decode cX6_waysToAll 42 = .ok (.iload 4, 2) := by decide +kernel
theorem dX6_waysToAll_44 : decode cX6_waysToAll 44 = .ok (.aload_n 0, 1) := by decide +kernel
theorem dX6_waysToAll_45 : decode cX6_waysToAll 45 = .ok (.getfield 25, 3) := by decide +kernel
theorem dX6_waysToAll_48 : decode cX6_waysToAll 48 = .ok (.if_icmp .ge 38, 3) := by decide +kernel
theorem dX6_waysToAll_51 : decode cX6_waysToAll 51 = .ok (.iload_n 3, 1) := by decide +kernel
theorem dX6_waysToAll_52 : decode cX6_waysToAll 52 = .ok (.iconst 1, 1) := by decide +kernel
theorem dX6_waysToAll_53 : decode cX6_waysToAll 53 = .ok (.iload 4, 2) := by decide +kernel
theorem dX6_waysToAll_55 : decode cX6_waysToAll 55 = .ok (.ishl, 1) := by decide +kernel
theorem dX6_waysToAll_56 : decode cX6_waysToAll 56 = .ok (.iand, 1) := by decide +kernel
theorem dX6_waysToAll_57 : decode cX6_waysToAll 57 = .ok (.ifCond .eq 23, 3) := by decide +kernel
theorem dX6_waysToAll_60 : decode cX6_waysToAll 60 = .ok (.aload_n 0, 1) := by decide +kernel
theorem dX6_waysToAll_61 : decode cX6_waysToAll 61 = .ok (.getfield 22, 3) := by decide +kernel
theorem dX6_waysToAll_64 : decode cX6_waysToAll 64 = .ok (.iload_n 2, 1) := by decide +kernel
theorem dX6_waysToAll_65 : decode cX6_waysToAll 65 = .ok (.dup2, 1) := by decide +kernel
theorem dX6_waysToAll_66 : decode cX6_waysToAll 66 = .ok (.iaload, 1) := by decide +kernel
theorem dX6_waysToAll_67 : decode cX6_waysToAll 67 = .ok (.aload_n 0, 1) := by decide +kernel
theorem dX6_waysToAll_68 : decode cX6_waysToAll 68 = .ok (.getfield 22, 3) := by decide +kernel
theorem dX6_waysToAll_71 : decode cX6_waysToAll 71 = .ok (.iload_n 2, 1) := by decide +kernel
theorem dX6_waysToAll_72 : decode cX6_waysToAll 72 = .ok (.iconst 1, 1) := by decide +kernel
theorem dX6_waysToAll_73 : decode cX6_waysToAll 73 = .ok (.iload 4, 2) := by decide +kernel
theorem dX6_waysToAll_75 : decode cX6_waysToAll 75 = .ok (.ishl, 1) := by decide +kernel
theorem dX6_waysToAll_76 : decode cX6_waysToAll 76 = .ok (.ixor, 1) := by decide +kernel
theorem dX6_waysToAll_77 : decode cX6_waysToAll 77 = .ok (.iaload, 1) := by decide +kernel
theorem dX6_waysToAll_78 : decode cX6_waysToAll 78 = .ok (.iadd, 1) := by decide +kernel
theorem dX6_waysToAll_79 : decode cX6_waysToAll 79 = .ok (.iastore, 1) := by decide +kernel
theorem dX6_waysToAll_80 : decode cX6_waysToAll 80 = .ok (.iinc 4 1, 3) := by decide +kernel
theorem dX6_waysToAll_83 : decode cX6_waysToAll 83 = .ok (.goto (-41), 3) := by decide +kernel
theorem dX6_waysToAll_86 : decode cX6_waysToAll 86 = .ok (.iinc 1 1, 3) := by decide +kernel
theorem dX6_waysToAll_89 : decode cX6_waysToAll 89 = .ok (.goto (-80), 3) := by decide +kernel
theorem dX6_waysToAll_92 : decode cX6_waysToAll 92 = .ok (.aload_n 0, 1) := by decide +kernel
theorem dX6_waysToAll_93 : decode cX6_waysToAll 93 = .ok (.getfield 22, 3) := by decide +kernel
theorem dX6_waysToAll_96 : decode cX6_waysToAll 96 = .ok (.aload_n 0, 1) := by decide +kernel
theorem dX6_waysToAll_97 : decode cX6_waysToAll 97 = .ok (.getfield 29, 3) := by decide +kernel
theorem dX6_waysToAll_100 : decode cX6_waysToAll 100 = .ok (.iaload, 1) := by decide +kernel
theorem dX6_waysToAll_101 : decode cX6_waysToAll 101 = .ok (.ireturn, 1) := by decide +kernel
theorem dX7_init_0 : decode cX7_init 0 = .ok (.aload_n 0, 1) := by decide +kernel
theorem dX7_init_1 : decode cX7_init 1 = .ok (.invokespecial 3, 3) := by decide +kernel
theorem dX7_init_4 : decode cX7_init 4 = .ok (.aload_n 0, 1) := by decide +kernel
theorem dX7_init_5 : decode cX7_init 5 = .ok (.iconst 4, 1) := by decide +kernel
theorem dX7_init_6 : decode cX7_init 6 = .ok (.newarray .int, 2) := by decide +kernel
theorem dX7_init_8 : decode cX7_init 8 = .ok (.dup, 1) := by decide +kernel
theorem dX7_init_9 : decode cX7_init 9 = .ok (.iconst 0, 1) := by decide +kernel
theorem dX7_init_10 : decode cX7_init 10 = .ok (.iconst 5, 1) := by decide +kernel
theorem dX7_init_11 : decode cX7_init 11 = .ok (.iastore, 1) := by decide +kernel
theorem dX7_init_12 : decode cX7_init 12 = .ok (.dup, 1) := by decide +kernel
theorem dX7_init_13 : decode cX7_init 13 = .ok (.iconst 1, 1) := by decide +kernel
theorem dX7_init_14 : decode cX7_init 14 = .ok (.sipush 999, 3) := by decide +kernel
theorem dX7_init_17 : decode cX7_init 17 = .ok (.iastore, 1) := by decide +kernel
theorem dX7_init_18 : decode cX7_init 18 = .ok (.dup, 1) := by decide +kernel
theorem dX7_init_19 : decode cX7_init 19 = .ok (.iconst 2, 1) := by decide +kernel
theorem dX7_init_20 : decode cX7_init 20 = .ok (.iconst 0, 1) := by decide +kernel
theorem dX7_init_21 : decode cX7_init 21 = .ok (.iastore, 1) := by decide +kernel
theorem dX7_init_22 : decode cX7_init 22 = .ok (.dup, 1) := by decide +kernel
theorem dX7_init_23 : decode cX7_init 23 = .ok (.iconst 3, 1) := by decide +kernel
theorem dX7_init_24 : decode cX7_init 24 = .ok (.iconst 0, 1) := by decide +kernel
theorem dX7_init_25 : decode cX7_init 25 = .ok (.iastore, 1) := by decide +kernel
theorem dX7_init_26 : decode cX7_init 26 = .ok (.putfield 9, 3) := by decide +kernel
theorem dX7_init_29 : decode cX7_init 29 = .ok (.aload_n 0, 1) := by decide +kernel
theorem dX7_init_30 : decode cX7_init 30 = .ok (.new 13, 3) := by decide +kernel
theorem dX7_init_33 : decode cX7_init 33 = .ok (.dup, 1) := by decide +kernel
theorem dX7_init_34 : decode cX7_init 34 = .ok (.invokespecial 15, 3) := by decide +kernel
theorem dX7_init_37 : decode cX7_init 37 = .ok (.putfield 16, 3) := by decide +kernel
theorem dX7_init_40 : decode cX7_init 40 = .ok (.aload_n 0, 1) := by decide +kernel
theorem dX7_init_41 : decode cX7_init 41 = .ok (.new 20, 3) := by decide +kernel
theorem dX7_init_44 : decode cX7_init 44 = .ok (.dup, 1) := by decide +kernel
theorem dX7_init_45 : decode cX7_init 45 = .ok (.invokespecial 22, 3) := by decide +kernel
theorem dX7_init_48 : decode cX7_init 48 = .ok (.putfield 23, 3) := by decide +kernel
theorem dX7_init_51 : decode cX7_init 51 = .ok (.aload_n 0, 1) := by decide +kernel
theorem dX7_init_52 : decode cX7_init 52 = .ok (.new 27, 3) := by decide +kernel
theorem dX7_init_55 : decode cX7_init 55 = .ok (.dup, 1) := by decide +kernel
theorem dX7_init_56 : decode cX7_init 56 = .ok (.invokespecial 29, 3) := by decide +kernel
theorem dX7_init_59 : decode cX7_init 59 = .ok (.putfield 30, 3) := by decide +kernel
theorem dX7_init_62 : decode cX7_init 62 = .ok (.aload_n 0, 1) := by decide +kernel
theorem dX7_init_63 : decode cX7_init 63 = .ok (.new 34, 3) := by decide +kernel
theorem dX7_init_66 : decode cX7_init 66 = .ok (.dup, 1) := by decide +kernel
theorem dX7_init_67 : decode cX7_init 67 = .ok (.invokespecial 36, 3) := by decide +kernel
theorem dX7_init_70 : decode cX7_init 70 = .ok (.putfield 37, 3) := by decide +kernel
theorem dX7_init_73 : decode cX7_init 73 = .ok (.aload_n 0, 1) := by decide +kernel
theorem dX7_init_74 : decode cX7_init 74 = .ok (.new 41, 3) := by decide +kernel
theorem dX7_init_77 : decode cX7_init 77 = .ok (.dup, 1) := by decide +kernel
theorem dX7_init_78 : decode cX7_init 78 = .ok (.invokespecial 43, 3) := by decide +kernel
theorem dX7_init_81 : decode cX7_init 81 = .ok (.putfield 44, 3) := by decide +kernel
theorem dX7_init_84 : decode cX7_init 84 = .ok (.aload_n 0, 1) := by decide +kernel
theorem dX7_init_85 : decode cX7_init 85 = .ok (.new 48, 3) := by decide +kernel
theorem dX7_init_88 : decode cX7_init 88 = .ok (.dup, 1) := by decide +kernel
theorem dX7_init_89 : decode cX7_init 89 = .ok (.invokespecial 50, 3) := by decide +kernel
theorem dX7_init_92 : decode cX7_init 92 = .ok (.putfield 51, 3) := by decide +kernel
theorem dX7_init_95 : decode cX7_init 95 = .ok (.aload_n 0, 1) := by decide +kernel
theorem dX7_init_96 : decode cX7_init 96 = .ok (.iconst 4, 1) := by decide +kernel
theorem dX7_init_97 : decode cX7_init 97 = .ok (.anewarray 55, 3) := by decide +kernel
theorem dX7_init_100 : decode cX7_init 100 = .ok (.putfield 57, 3) := by decide +kernel
theorem dX7_init_103 : decode cX7_init 103 = .ok (.iconst 0, 1) := by decide +kernel
theorem dX7_init_104 : decode cX7_init 104 = .ok (.istore_n 1, 1) := by decide +kernel
theorem dX7_init_105 : decode cX7_init 105 = .ok (.iload_n 1, 1) := by decide +kernel
theorem dX7_init_106 : decode cX7_init 106 = .ok (.iconst 4, 1) := by decide +kernel
theorem dX7_init_107 : decode cX7_init 107 = .ok (.if_icmp .ge 22, 3) := by decide +kernel
theorem dX7_init_110 : decode cX7_init 110 = .ok (.aload_n 0, 1) := by decide +kernel
theorem dX7_init_111 : decode cX7_init 111 = .ok (.getfield 57, 3) := by decide +kernel
theorem dX7_init_114 : decode cX7_init 114 = .ok (.iload_n 1, 1) := by decide +kernel
theorem dX7_init_115 : decode cX7_init 115 = .ok (.new 55, 3) := by decide +kernel
theorem dX7_init_118 : decode cX7_init 118 = .ok (.dup, 1) := by decide +kernel
theorem dX7_init_119 : decode cX7_init 119 = .ok (.invokespecial 61, 3) := by decide +kernel
theorem dX7_init_122 : decode cX7_init 122 = .ok (.aastore, 1) := by decide +kernel
theorem dX7_init_123 : decode cX7_init 123 = .ok (.iinc 1 1, 3) := by decide +kernel
theorem dX7_init_126 : decode cX7_init 126 = .ok (.goto (-21), 3) := by decide +kernel
theorem dX7_init_129 : decode cX7_init 129 = .ok (.return_, 1) := by decide +kernel
