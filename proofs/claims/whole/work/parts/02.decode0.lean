theorem dX0_init_0 : decode cX0_init 0 = .ok (.aload_n 0, 1) := by decide +kernel
theorem dX0_init_1 : decode cX0_init 1 = .ok (.invokespecial 3, 3) := by decide +kernel
theorem dX0_init_4 : decode cX0_init 4 = .ok (.aload_n 0, 1) := by decide +kernel
theorem dX0_init_5 : decode cX0_init 5 = .ok (.sipush 160, 3) := by decide +kernel
theorem dX0_init_8 : decode cX0_init 8 = .ok (.newarray .byte, 2) := by decide +kernel
theorem dX0_init_10 : decode cX0_init 10 = .ok (.putfield 9, 3) := by decide +kernel
theorem dX0_init_13 : decode cX0_init 13 = .ok (.aload_n 0, 1) := by decide +kernel
theorem dX0_init_14 : decode cX0_init 14 = .ok (.sipush 160, 3) := by decide +kernel
theorem dX0_init_17 : decode cX0_init 17 = .ok (.newarray .byte, 2) := by decide +kernel
theorem dX0_init_19 : decode cX0_init 19 = .ok (.putfield 15, 3) := by decide +kernel
theorem dX0_init_22 : decode cX0_init 22 = .ok (.aload_n 0, 1) := by decide +kernel
theorem dX0_init_23 : decode cX0_init 23 = .ok (.sipush 160, 3) := by decide +kernel
theorem dX0_init_26 : decode cX0_init 26 = .ok (.newarray .byte, 2) := by decide +kernel
theorem dX0_init_28 : decode cX0_init 28 = .ok (.putfield 18, 3) := by decide +kernel
theorem dX0_init_31 : decode cX0_init 31 = .ok (.aload_n 0, 1) := by decide +kernel
theorem dX0_init_32 : decode cX0_init 32 = .ok (.sipush 160, 3) := by decide +kernel
theorem dX0_init_35 : decode cX0_init 35 = .ok (.newarray .short, 2) := by decide +kernel
theorem dX0_init_37 : decode cX0_init 37 = .ok (.putfield 21, 3) := by decide +kernel
theorem dX0_init_40 : decode cX0_init 40 = .ok (.aload_n 0, 1) := by decide +kernel
theorem dX0_init_41 : decode cX0_init 41 = .ok (.bipush 12, 2) := by decide +kernel
theorem dX0_init_43 : decode cX0_init 43 = .ok (.newarray .int, 2) := by decide +kernel
theorem dX0_init_45 : decode cX0_init 45 = .ok (.putfield 25, 3) := by decide +kernel
theorem dX0_init_48 : decode cX0_init 48 = .ok (.aload_n 0, 1) := by decide +kernel
theorem dX0_init_49 : decode cX0_init 49 = .ok (.bipush 12, 2) := by decide +kernel
theorem dX0_init_51 : decode cX0_init 51 = .ok (.newarray .int, 2) := by decide +kernel
theorem dX0_init_53 : decode cX0_init 53 = .ok (.putfield 29, 3) := by decide +kernel
theorem dX0_init_56 : decode cX0_init 56 = .ok (.aload_n 0, 1) := by decide +kernel
theorem dX0_init_57 : decode cX0_init 57 = .ok (.bipush 7, 2) := by decide +kernel
theorem dX0_init_59 : decode cX0_init 59 = .ok (.newarray .int, 2) := by decide +kernel
theorem dX0_init_61 : decode cX0_init 61 = .ok (.putfield 32, 3) := by decide +kernel
theorem dX0_init_64 : decode cX0_init 64 = .ok (.aload_n 0, 1) := by decide +kernel
theorem dX0_init_65 : decode cX0_init 65 = .ok (.bipush 7, 2) := by decide +kernel
theorem dX0_init_67 : decode cX0_init 67 = .ok (.newarray .int, 2) := by decide +kernel
theorem dX0_init_69 : decode cX0_init 69 = .ok (.putfield 35, 3) := by decide +kernel
theorem dX0_init_72 : decode cX0_init 72 = .ok (.aload_n 0, 1) := by decide +kernel
theorem dX0_init_73 : decode cX0_init 73 = .ok (.iconst 5, 1) := by decide +kernel
theorem dX0_init_74 : decode cX0_init 74 = .ok (.putfield 38, 3) := by decide +kernel
theorem dX0_init_77 : decode cX0_init 77 = .ok (.aload_n 0, 1) := by decide +kernel
theorem dX0_init_78 : decode cX0_init 78 = .ok (.bipush 31, 2) := by decide +kernel
theorem dX0_init_80 : decode cX0_init 80 = .ok (.putfield 42, 3) := by decide +kernel
theorem dX0_init_83 : decode cX0_init 83 = .ok (.aload_n 0, 1) := by decide +kernel
theorem dX0_init_84 : decode cX0_init 84 = .ok (.sipush 999, 3) := by decide +kernel
theorem dX0_init_87 : decode cX0_init 87 = .ok (.putfield 45, 3) := by decide +kernel
theorem dX0_init_90 : decode cX0_init 90 = .ok (.return_, 1) := by decide +kernel
theorem dX0_isFull_0 : decode cX0_isFull 0 = .ok (.aload_n 0, 1) := by decide +kernel
theorem dX0_isFull_1 : decode cX0_isFull 1 = .ok (.getfield 48, 3) := by decide +kernel
theorem dX0_isFull_4 : decode cX0_isFull 4 = .ok (.sipush 160, 3) := by decide +kernel
theorem dX0_isFull_7 : decode cX0_isFull 7 = .ok (.if_icmp .lt 7, 3) := by decide +kernel
theorem dX0_isFull_10 : decode cX0_isFull 10 = .ok (.iconst 1, 1) := by decide +kernel
theorem dX0_isFull_11 : decode cX0_isFull 11 = .ok (.goto 4, 3) := by decide +kernel
theorem dX0_isFull_14 : decode cX0_isFull 14 = .ok (.iconst 0, 1) := by decide +kernel
theorem dX0_isFull_15 : decode cX0_isFull 15 = .ok (.ireturn, 1) := by decide +kernel
theorem dX0_timeFits_0 : decode cX0_timeFits 0 = .ok (.iload_n 1, 1) := by decide +kernel
theorem dX0_timeFits_1 : decode cX0_timeFits 1 = .ok (.ifCond .lt 36, 3) := by decide +kernel
theorem dX0_timeFits_4 : decode cX0_timeFits 4 = .ok (.iload_n 1, 1) := by decide +kernel
theorem dX0_timeFits_5 : decode cX0_timeFits 5 = .ok (.sipush 999, 3) := by decide +kernel
theorem dX0_timeFits_8 : decode cX0_timeFits 8 = .ok (.if_icmp .gt 29, 3) := by decide +kernel
theorem dX0_timeFits_11 : decode cX0_timeFits 11 = .ok (.aload_n 0, 1) := by decide +kernel
theorem dX0_timeFits_12 : decode cX0_timeFits 12 = .ok (.getfield 48, 3) := by decide +kernel
theorem dX0_timeFits_15 : decode cX0_timeFits 15 = .ok (.ifCond .eq 18, 3) := by decide +kernel
theorem dX0_timeFits_18 : decode cX0_timeFits 18 = .ok (.iload_n 1, 1) := by decide +kernel
theorem dX0_timeFits_19 : decode cX0_timeFits 19 = .ok (.aload_n 0, 1) := by decide +kernel
theorem dX0_timeFits_20 : decode cX0_timeFits 20 = .ok (.getfield 21, 3) := by decide +kernel
theorem dX0_timeFits_23 : decode cX0_timeFits 23 = .ok (.aload_n 0, 1) := by decide +kernel
theorem dX0_timeFits_24 : decode cX0_timeFits 24 = .ok (.getfield 48, 3) := by decide +kernel
theorem dX0_timeFits_27 : decode cX0_timeFits 27 = .ok (.iconst 1, 1) := by decide +kernel
theorem dX0_timeFits_28 : decode cX0_timeFits 28 = .ok (.isub, 1) := by decide +kernel
theorem dX0_timeFits_29 : decode cX0_timeFits 29 = .ok (.saload, 1) := by decide +kernel
theorem dX0_timeFits_30 : decode cX0_timeFits 30 = .ok (.if_icmp .lt 7, 3) := by decide +kernel
theorem dX0_timeFits_33 : decode cX0_timeFits 33 = .ok (.iconst 1, 1) := by decide +kernel
theorem dX0_timeFits_34 : decode cX0_timeFits 34 = .ok (.goto 4, 3) := by decide +kernel
theorem dX0_timeFits_37 : decode cX0_timeFits 37 = .ok (.iconst 0, 1) := by decide +kernel
theorem dX0_timeFits_38 : decode cX0_timeFits 38 = .ok (.ireturn, 1) := by decide +kernel
theorem dX0_tell_0 : decode cX0_tell 0 = .ok (.aload_n 0, 1) := by decide +kernel
theorem dX0_tell_1 : decode cX0_tell 1 = .ok (.invokevirtual 51, 3) := by decide +kernel
theorem dX0_tell_4 : decode cX0_tell 4 = .ok (.ifCond .eq 4, 3) := by decide +kernel
theorem dX0_tell_7 : decode cX0_tell 7 = .ok (.return_, 1) := by decide +kernel
theorem dX0_tell_8 : decode cX0_tell 8 = .ok (.aload_n 0, 1) := by decide +kernel
theorem dX0_tell_9 : decode cX0_tell 9 = .ok (.getfield 9, 3) := by decide +kernel
theorem dX0_tell_12 : decode cX0_tell 12 = .ok (.aload_n 0, 1) := by decide +kernel
theorem dX0_tell_13 : decode cX0_tell 13 = .ok (.getfield 48, 3) := by decide +kernel
theorem dX0_tell_16 : decode cX0_tell 16 = .ok (.iload_n 1, 1) := by decide +kernel
theorem dX0_tell_17 : decode cX0_tell 17 = .ok (.i2b, 1) := by decide +kernel
theorem dX0_tell_18 : decode cX0_tell 18 = .ok (.bastore, 1) := by decide +kernel
theorem dX0_tell_19 : decode cX0_tell 19 = .ok (.aload_n 0, 1) := by decide +kernel
theorem dX0_tell_20 : decode cX0_tell 20 = .ok (.getfield 15, 3) := by decide +kernel
theorem dX0_tell_23 : decode cX0_tell 23 = .ok (.aload_n 0, 1) := by decide +kernel
theorem dX0_tell_24 : decode cX0_tell 24 = .ok (.getfield 48, 3) := by decide +kernel
theorem dX0_tell_27 : decode cX0_tell 27 = .ok (.iload_n 2, 1) := by decide +kernel
theorem dX0_tell_28 : decode cX0_tell 28 = .ok (.i2b, 1) := by decide +kernel
theorem dX0_tell_29 : decode cX0_tell 29 = .ok (.bastore, 1) := by decide +kernel
theorem dX0_tell_30 : decode cX0_tell 30 = .ok (.aload_n 0, 1) := by decide +kernel
theorem dX0_tell_31 : decode cX0_tell 31 = .ok (.getfield 18, 3) := by decide +kernel
theorem dX0_tell_34 : decode cX0_tell 34 = .ok (.aload_n 0, 1) := by decide +kernel
theorem dX0_tell_35 : decode cX0_tell 35 = .ok (.getfield 48, 3) := by decide +kernel
theorem dX0_tell_38 : decode cX0_tell 38 = .ok (.iload_n 3, 1) := by decide +kernel
theorem dX0_tell_39 : decode cX0_tell 39 = .ok (.i2b, 1) := by decide +kernel
theorem dX0_tell_40 : decode cX0_tell 40 = .ok (.bastore, 1) := by decide +kernel
theorem dX0_tell_41 : decode cX0_tell 41 = .ok (.aload_n 0, 1) := by decide +kernel
theorem dX0_tell_42 : decode cX0_tell 42 = .ok (.getfield 21, 3) := by decide +kernel
theorem dX0_tell_45 : decode cX0_tell 45 = .ok (.aload_n 0, 1) := by decide +kernel
theorem dX0_tell_46 : decode cX0_tell 46 = .ok (.getfield 48, 3) := by decide +kernel
theorem dX0_tell_49 : decode cX0_tell 49 = .ok (.iload 4, 2) := by decide +kernel
theorem dX0_tell_51 : decode cX0_tell 51 = .ok (.i2s, 1) := by decide +kernel
theorem dX0_tell_52 : decode cX0_tell 52 = .ok (.sastore, 1) := by decide +kernel
theorem dX0_tell_53 : decode cX0_tell 53 = .ok (.aload_n 0, 1) := by decide +kernel
theorem dX0_tell_54 : decode cX0_tell 54 = .ok (.dup, 1) := by decide +kernel
theorem dX0_tell_55 : decode cX0_tell 55 = .ok (.getfield 48, 3) := by decide +kernel
theorem dX0_tell_58 : decode cX0_tell 58 = .ok (.iconst 1, 1) := by decide +kernel
theorem dX0_tell_59 : decode cX0_tell 59 = .ok (.iadd, 1) := by decide +kernel
theorem dX0_tell_60 : decode cX0_tell 60 = .ok (.putfield 48, 3) := by decide +kernel
theorem dX0_tell_63 : decode cX0_tell 63 = .ok (.iload 4, 2) := by decide +kernel
theorem dX0_tell_65 : decode cX0_tell 65 = .ok (.aload_n 0, 1) := by decide +kernel
theorem dX0_tell_66 : decode cX0_tell 66 = .ok (.getfield 45, 3) := by decide +kernel
theorem dX0_tell_69 : decode cX0_tell 69 = .ok (.if_icmp .gt 10, 3) := by decide +kernel
theorem dX0_tell_72 : decode cX0_tell 72 = .ok (.aload_n 0, 1) := by decide +kernel
theorem dX0_tell_73 : decode cX0_tell 73 = .ok (.iload_n 1, 1) := by decide +kernel
theorem dX0_tell_74 : decode cX0_tell 74 = .ok (.iload_n 2, 1) := by decide +kernel
theorem dX0_tell_75 : decode cX0_tell 75 = .ok (.iload_n 3, 1) := by decide +kernel
theorem dX0_tell_76 : decode cX0_tell 76 = .ok (.invokevirtual 55, 3) := by decide +kernel
theorem dX0_tell_79 : decode cX0_tell 79 = .ok (.return_, 1) := by decide +kernel
theorem dX0_countAnew_0 : decode cX0_countAnew 0 = .ok (.aload_n 0, 1) := by decide +kernel
theorem dX0_countAnew_1 : decode cX0_countAnew 1 = .ok (.iload_n 1, 1) := by decide +kernel
theorem dX0_countAnew_2 : decode cX0_countAnew 2 = .ok (.putfield 38, 3) := by decide +kernel
theorem dX0_countAnew_5 : decode cX0_countAnew 5 = .ok (.aload_n 0, 1) := by decide +kernel
theorem dX0_countAnew_6 : decode cX0_countAnew 6 = .ok (.iconst 1, 1) := by decide +kernel
theorem dX0_countAnew_7 : decode cX0_countAnew 7 = .ok (.aload_n 0, 1) := by decide +kernel
theorem dX0_countAnew_8 : decode cX0_countAnew 8 = .ok (.getfield 38, 3) := by decide +kernel
theorem dX0_countAnew_11 : decode cX0_countAnew 11 = .ok (.ishl, 1) := by decide +kernel
theorem dX0_countAnew_12 : decode cX0_countAnew 12 = .ok (.iconst 1, 1) := by decide +kernel
theorem dX0_countAnew_13 : decode cX0_countAnew 13 = .ok (.isub, 1) := by decide +kernel
theorem dX0_countAnew_14 : decode cX0_countAnew 14 = .ok (.putfield 42, 3) := by decide +kernel
theorem dX0_countAnew_17 : decode cX0_countAnew 17 = .ok (.aload_n 0, 1) := by decide +kernel
theorem dX0_countAnew_18 : decode cX0_countAnew 18 = .ok (.iload_n 2, 1) := by decide +kernel
theorem dX0_countAnew_19 : decode cX0_countAnew 19 = .ok (.putfield 45, 3) := by decide +kernel
theorem dX0_countAnew_22 : decode cX0_countAnew 22 = .ok (.aload_n 0, 1) := by decide +kernel
theorem dX0_countAnew_23 : decode cX0_countAnew 23 = .ok (.getfield 25, 3) := by decide +kernel
theorem dX0_countAnew_26 : decode cX0_countAnew 26 = .ok (.iconst 0, 1) := by decide +kernel
theorem dX0_countAnew_27 : decode cX0_countAnew 27 = .ok (.invokestatic 59, 3) := by decide +kernel
theorem dX0_countAnew_30 : decode cX0_countAnew 30 = .ok (.aload_n 0, 1) := by decide +kernel
theorem dX0_countAnew_31 : decode cX0_countAnew 31 = .ok (.getfield 29, 3) := by decide +kernel
theorem dX0_countAnew_34 : decode cX0_countAnew 34 = .ok (.iconst 0, 1) := by decide +kernel
theorem dX0_countAnew_35 : decode cX0_countAnew 35 = .ok (.invokestatic 59, 3) := by decide +kernel
theorem dX0_countAnew_38 : decode cX0_countAnew 38 = .ok (.aload_n 0, 1) := by decide +kernel
theorem dX0_countAnew_39 : decode cX0_countAnew 39 = .ok (.getfield 32, 3) := by decide +kernel
theorem dX0_countAnew_42 : decode cX0_countAnew 42 = .ok (.iconst 0, 1) := by decide +kernel
theorem dX0_countAnew_43 : decode cX0_countAnew 43 = .ok (.invokestatic 59, 3) := by decide +kernel
theorem dX0_countAnew_46 : decode cX0_countAnew 46 = .ok (.aload_n 0, 1) := by decide +kernel
theorem dX0_countAnew_47 : decode cX0_countAnew 47 = .ok (.getfield 35, 3) := by decide +kernel
theorem dX0_countAnew_50 : decode cX0_countAnew 50 = .ok (.iconst 0, 1) := by decide +kernel
theorem dX0_countAnew_51 : decode cX0_countAnew 51 = .ok (.invokestatic 59, 3) := by decide +kernel
theorem dX0_countAnew_54 : decode cX0_countAnew 54 = .ok (.iconst 0, 1) := by decide +kernel
theorem dX0_countAnew_55 : decode cX0_countAnew 55 = .ok (.istore_n 3, 1) := by decide +kernel
theorem dX0_countAnew_56 : decode cX0_countAnew 56 = .ok (.iload_n 3, 1) := by decide +kernel
theorem dX0_countAnew_57 : decode cX0_countAnew 57 = .ok (.aload_n 0, 1) := by decide +kernel
theorem dX0_countAnew_58 : decode cX0_countAnew 58 = .ok (.getfield 48, 3) := by decide +kernel
theorem dX0_countAnew_61 : decode cX0_countAnew 61 = .ok (.if_icmp .ge 44, 3) := by decide +kernel
theorem dX0_countAnew_64 : decode cX0_countAnew 64 = .ok (.aload_n 0, 1) := by decide +kernel
theorem dX0_countAnew_65 : decode cX0_countAnew 65 = .ok (.getfield 21, 3) := by decide +kernel
theorem dX0_countAnew_68 : decode cX0_countAnew 68 = .ok (.iload_n 3, 1) := by decide +kernel
theorem dX0_countAnew_69 : decode cX0_countAnew 69 = .ok (.saload, 1) := by decide +kernel
theorem dX0_countAnew_70 : decode cX0_countAnew 70 = .ok (.aload_n 0, 1) := by decide +kernel
theorem dX0_countAnew_71 : decode cX0_countAnew 71 = .ok (.getfield 45, 3) := by decide +kernel
theorem dX0_countAnew_74 : decode cX0_countAnew 74 = .ok (.if_icmp .gt 31, 3) := by decide +kernel
theorem dX0_countAnew_77 : decode cX0_countAnew 77 = .ok (.aload_n 0, 1) := by decide +kernel
theorem dX0_countAnew_78 : decode cX0_countAnew 78 = .ok (.aload_n 0, 1) := by decide +kernel
theorem dX0_countAnew_79 : decode cX0_countAnew 79 = .ok (.getfield 9, 3) := by decide +kernel
theorem dX0_countAnew_82 : decode cX0_countAnew 82 = .ok (.iload_n 3, 1) := by decide +kernel
theorem dX0_countAnew_83 : decode cX0_countAnew 83 = .ok (.baload, 1) := by decide +kernel
theorem dX0_countAnew_84 : decode cX0_countAnew 84 = .ok (.aload_n 0, 1) := by decide +kernel
theorem dX0_countAnew_85 : decode cX0_countAnew 85 = .ok (.getfield 15, 3) := by decide +kernel
theorem dX0_countAnew_88 : decode cX0_countAnew 88 = .ok (.iload_n 3, 1) := by decide +kernel
theorem dX0_countAnew_89 : decode cX0_countAnew 89 = .ok (.baload, 1) := by decide +kernel
theorem dX0_countAnew_90 : decode cX0_countAnew 90 = .ok (.aload_n 0, 1) := by decide +kernel
theorem dX0_countAnew_91 : decode cX0_countAnew 91 = .ok (.getfield 18, 3) := by decide +kernel
theorem dX0_countAnew_94 : decode cX0_countAnew 94 = .ok (.iload_n 3, 1) := by decide +kernel
theorem dX0_countAnew_95 : decode cX0_countAnew 95 = .ok (.baload, 1) := by decide +kernel
theorem dX0_countAnew_96 : decode cX0_countAnew 96 = .ok (.invokevirtual 55, 3) := by decide +kernel
theorem dX0_countAnew_99 : decode cX0_countAnew 99 = .ok (.iinc 3 1, 3) := by decide +kernel
theorem dX0_countAnew_102 : decode cX0_countAnew 102 = .ok (.goto (-46), 3) := by decide +kernel
theorem dX0_countAnew_105 : decode cX0_countAnew 105 = .ok (.return_, 1) := by decide +kernel
theorem dX0_hear_0 : decode cX0_hear 0 = .ok (.aload_n 0, 1) := by decide +kernel
theorem dX0_hear_1 : decode cX0_hear 1 = .ok (.getfield 25, 3) := by decide +kernel
theorem dX0_hear_4 : decode cX0_hear 4 = .ok (.iload_n 1, 1) := by decide +kernel
theorem dX0_hear_5 : decode cX0_hear 5 = .ok (.aload_n 0, 1) := by decide +kernel
theorem dX0_hear_6 : decode cX0_hear 6 = .ok (.getfield 25, 3) := by decide +kernel
theorem dX0_hear_9 : decode cX0_hear 9 = .ok (.iload_n 1, 1) := by decide +kernel
theorem dX0_hear_10 : decode cX0_hear 10 = .ok (.iaload, 1) := by decide +kernel
theorem dX0_hear_11 : decode cX0_hear 11 = .ok (.iload_n 2, 1) := by decide +kernel
theorem dX0_hear_12 : decode cX0_hear 12 = .ok (.iload_n 3, 1) := by decide +kernel
theorem dX0_hear_13 : decode cX0_hear 13 = .ok (.iconst 1, 1) := by decide +kernel
theorem dX0_hear_14 : decode cX0_hear 14 = .ok (.if_icmp .ne 7, 3) := by decide +kernel
theorem dX0_hear_17 : decode cX0_hear 17 = .ok (.iconst 1, 1) := by decide +kernel
theorem dX0_hear_18 : decode cX0_hear 18 = .ok (.goto 4, 3) := by decide +kernel
theorem dX0_hear_21 : decode cX0_hear 21 = .ok (.iconst 0, 1) := by decide +kernel
theorem dX0_hear_22 : decode cX0_hear 22 = .ok (.invokestatic 65, 3) := by decide +kernel
theorem dX0_hear_25 : decode cX0_hear 25 = .ok (.iastore, 1) := by decide +kernel
theorem dX0_hear_26 : decode cX0_hear 26 = .ok (.aload_n 0, 1) := by decide +kernel
theorem dX0_hear_27 : decode cX0_hear 27 = .ok (.getfield 29, 3) := by decide +kernel
theorem dX0_hear_30 : decode cX0_hear 30 = .ok (.iload_n 1, 1) := by decide +kernel
theorem dX0_hear_31 : decode cX0_hear 31 = .ok (.aload_n 0, 1) := by decide +kernel
theorem dX0_hear_32 : decode cX0_hear 32 = .ok (.getfield 29, 3) := by decide +kernel
theorem dX0_hear_35 : decode cX0_hear 35 = .ok (.iload_n 1, 1) := by decide +kernel
theorem dX0_hear_36 : decode cX0_hear 36 = .ok (.iaload, 1) := by decide +kernel
theorem dX0_hear_37 : decode cX0_hear 37 = .ok (.iload_n 2, 1) := by decide +kernel
theorem dX0_hear_38 : decode cX0_hear 38 = .ok (.iload_n 3, 1) := by decide +kernel
theorem dX0_hear_39 : decode cX0_hear 39 = .ok (.ifCond .ne 7, 3) := by decide +kernel
theorem dX0_hear_42 : decode cX0_hear 42 = .ok (.iconst 1, 1) := by decide +kernel
theorem dX0_hear_43 : decode cX0_hear 43 = .ok (.goto 4, 3) := by decide +kernel
theorem dX0_hear_46 : decode cX0_hear 46 = .ok (.iconst 0, 1) := by decide +kernel
theorem dX0_hear_47 : decode cX0_hear 47 = .ok (.invokestatic 65, 3) := by decide +kernel
theorem dX0_hear_50 : decode cX0_hear 50 = .ok (.iastore, 1) := by decide +kernel
theorem dX0_hear_51 : decode cX0_hear 51 = .ok (.aload_n 0, 1) := by decide +kernel
theorem dX0_hear_52 : decode cX0_hear 52 = .ok (.getfield 32, 3) := by decide +kernel
theorem dX0_hear_55 : decode cX0_hear 55 = .ok (.iload_n 2, 1) := by decide +kernel
theorem dX0_hear_56 : decode cX0_hear 56 = .ok (.aload_n 0, 1) := by decide +kernel
theorem dX0_hear_57 : decode cX0_hear 57 = .ok (.getfield 32, 3) := by decide +kernel
theorem dX0_hear_60 : decode cX0_hear 60 = .ok (.iload_n 2, 1) := by decide +kernel
theorem dX0_hear_61 : decode cX0_hear 61 = .ok (.iaload, 1) := by decide +kernel
theorem dX0_hear_62 : decode cX0_hear 62 = .ok (.iload_n 1, 1) := by decide +kernel
theorem dX0_hear_63 : decode cX0_hear 63 = .ok (.iload_n 3, 1) := by decide +kernel
theorem dX0_hear_64 : decode cX0_hear 64 = .ok (.iconst 1, 1) := by decide +kernel
theorem dX0_hear_65 : decode cX0_hear 65 = .ok (.if_icmp .ne 7, 3) := by decide +kernel
theorem dX0_hear_68 : decode cX0_hear 68 = .ok (.iconst 1, 1) := by decide +kernel
theorem dX0_hear_69 : decode cX0_hear 69 = .ok (.goto 4, 3) := by decide +kernel
theorem dX0_hear_72 : decode cX0_hear 72 = .ok (.iconst 0, 1) := by decide +kernel
theorem dX0_hear_73 : decode cX0_hear 73 = .ok (.invokestatic 65, 3) := by decide +kernel
theorem dX0_hear_76 : decode cX0_hear 76 = .ok (.iastore, 1) := by decide +kernel
theorem dX0_hear_77 : decode cX0_hear 77 = .ok (.aload_n 0, 1) := by decide +kernel
theorem dX0_hear_78 : decode cX0_hear 78 = .ok (.getfield 35, 3) := by decide +kernel
theorem dX0_hear_81 : decode cX0_hear 81 = .ok (.iload_n 2, 1) := by decide +kernel
theorem dX0_hear_82 : decode cX0_hear 82 = .ok (.aload_n 0, 1) := by decide +kernel
theorem dX0_hear_83 : decode cX0_hear 83 = .ok (.getfield 35, 3) := by decide +kernel
theorem dX0_hear_86 : decode cX0_hear 86 = .ok (.iload_n 2, 1) := by decide +kernel
theorem dX0_hear_87 : decode cX0_hear 87 = .ok (.iaload, 1) := by decide +kernel
theorem dX0_hear_88 : decode cX0_hear 88 = .ok (.iload_n 1, 1) := by decide +kernel
theorem dX0_hear_89 : decode cX0_hear 89 = .ok (.iload_n 3, 1) := by decide +kernel
theorem dX0_hear_90 : decode cX0_hear 90 = .ok (.ifCond .ne 7, 3) := by decide +kernel
theorem dX0_hear_93 : decode cX0_hear 93 = .ok (.iconst 1, 1) := by decide +kernel
theorem dX0_hear_94 : decode cX0_hear 94 = .ok (.goto 4, 3) := by decide +kernel
theorem dX0_hear_97 : decode cX0_hear 97 = .ok (.iconst 0, 1) := by decide +kernel
theorem dX0_hear_98 : decode cX0_hear 98 = .ok (.invokestatic 65, 3) := by decide +kernel
theorem dX0_hear_101 : decode cX0_hear 101 = .ok (.iastore, 1) := by decide +kernel
theorem dX0_hear_102 : decode cX0_hear 102 = .ok (.return_, 1) := by decide +kernel
theorem dX0_withBit_0 : decode cX0_withBit 0 = .ok (.iconst 1, 1) := by decide +kernel
theorem dX0_withBit_1 : decode cX0_withBit 1 = .ok (.iload_n 1, 1) := by decide +kernel
theorem dX0_withBit_2 : decode cX0_withBit 2 = .ok (.ishl, 1) := by decide +kernel
theorem dX0_withBit_3 : decode cX0_withBit 3 = .ok (.istore_n 3, 1) := by decide +kernel
theorem dX0_withBit_4 : decode cX0_withBit 4 = .ok (.iload_n 2, 1) := by decide +kernel
theorem dX0_withBit_5 : decode cX0_withBit 5 = .ok (.ifCond .eq 9, 3) := by decide +kernel
theorem dX0_withBit_8 : decode cX0_withBit 8 = .ok (.iload_n 0, 1) := by decide +kernel
theorem dX0_withBit_9 : decode cX0_withBit 9 = .ok (.iload_n 3, 1) := by decide +kernel
theorem dX0_withBit_10 : decode cX0_withBit 10 = .ok (.ior, 1) := by decide +kernel
theorem dX0_withBit_11 : decode cX0_withBit 11 = .ok (.goto 8, 3) := by decide +kernel
theorem dX0_withBit_14 : decode cX0_withBit 14 = .ok (.iload_n 0, 1) := by decide +kernel
theorem dX0_withBit_15 : decode cX0_withBit 15 = .ok (.iload_n 3, 1) := by decide +kernel
theorem dX0_withBit_16 : decode cX0_withBit 16 = .ok (.iconst (-1), 1) := by decide +kernel
theorem dX0_withBit_17 : decode cX0_withBit 17 = .ok (.ixor, 1) := by decide +kernel
theorem dX0_withBit_18 : decode cX0_withBit 18 = .ok (.iand, 1) := by decide +kernel
theorem dX0_withBit_19 : decode cX0_withBit 19 = .ok (.ireturn, 1) := by decide +kernel
theorem dX0_heard_0 : decode cX0_heard 0 = .ok (.iconst 1, 1) := by decide +kernel
theorem dX0_heard_1 : decode cX0_heard 1 = .ok (.iload_n 2, 1) := by decide +kernel
theorem dX0_heard_2 : decode cX0_heard 2 = .ok (.ishl, 1) := by decide +kernel
theorem dX0_heard_3 : decode cX0_heard 3 = .ok (.istore_n 3, 1) := by decide +kernel
theorem dX0_heard_4 : decode cX0_heard 4 = .ok (.aload_n 0, 1) := by decide +kernel
theorem dX0_heard_5 : decode cX0_heard 5 = .ok (.getfield 25, 3) := by decide +kernel
theorem dX0_heard_8 : decode cX0_heard 8 = .ok (.iload_n 1, 1) := by decide +kernel
theorem dX0_heard_9 : decode cX0_heard 9 = .ok (.iaload, 1) := by decide +kernel
theorem dX0_heard_10 : decode cX0_heard 10 = .ok (.iload_n 3, 1) := by decide +kernel
theorem dX0_heard_11 : decode cX0_heard 11 = .ok (.iand, 1) := by decide +kernel
theorem dX0_heard_12 : decode cX0_heard 12 = .ok (.ifCond .eq 5, 3) := by decide +kernel
theorem dX0_heard_15 : decode cX0_heard 15 = .ok (.iconst 1, 1) := by decide +kernel
theorem dX0_heard_16 : decode cX0_heard 16 = .ok (.ireturn, 1) := by decide +kernel
theorem dX0_heard_17 : decode cX0_heard 17 = .ok (.aload_n 0, 1) := by decide +kernel
theorem dX0_heard_18 : decode cX0_heard 18 = .ok (.getfield 29, 3) := by decide +kernel
theorem dX0_heard_21 : decode cX0_heard 21 = .ok (.iload_n 1, 1) := by decide +kernel
theorem dX0_heard_22 : decode cX0_heard 22 = .ok (.iaload, 1) := by decide +kernel
theorem dX0_heard_23 : decode cX0_heard 23 = .ok (.iload_n 3, 1) := by decide +kernel
theorem dX0_heard_24 : decode cX0_heard 24 = .ok (.iand, 1) := by decide +kernel
theorem dX0_heard_25 : decode cX0_heard 25 = .ok (.ifCond .eq 7, 3) := by decide +kernel
theorem dX0_heard_28 : decode cX0_heard 28 = .ok (.iconst 0, 1) := by decide +kernel
theorem dX0_heard_29 : decode cX0_heard 29 = .ok (.goto 4, 3) := by decide +kernel
theorem dX0_heard_32 : decode cX0_heard 32 = .ok (.iconst 2, 1) := by decide +kernel
theorem dX0_heard_33 : decode cX0_heard 33 = .ok (.ireturn, 1) := by decide +kernel
theorem dX0_yesOf_0 : decode cX0_yesOf 0 = .ok (.aload_n 0, 1) := by decide +kernel
theorem dX0_yesOf_1 : decode cX0_yesOf 1 = .ok (.getfield 25, 3) := by decide +kernel
theorem dX0_yesOf_4 : decode cX0_yesOf 4 = .ok (.iload_n 1, 1) := by decide +kernel
theorem dX0_yesOf_5 : decode cX0_yesOf 5 = .ok (.iaload, 1) := by decide +kernel
theorem dX0_yesOf_6 : decode cX0_yesOf 6 = .ok (.aload_n 0, 1) := by decide +kernel
theorem dX0_yesOf_7 : decode cX0_yesOf 7 = .ok (.getfield 42, 3) := by decide +kernel
theorem dX0_yesOf_10 : decode cX0_yesOf 10 = .ok (.iand, 1) := by decide +kernel
theorem dX0_yesOf_11 : decode cX0_yesOf 11 = .ok (.ireturn, 1) := by decide +kernel
theorem dX0_noOf_0 : decode cX0_noOf 0 = .ok (.aload_n 0, 1) := by decide +kernel
theorem dX0_noOf_1 : decode cX0_noOf 1 = .ok (.getfield 29, 3) := by decide +kernel
theorem dX0_noOf_4 : decode cX0_noOf 4 = .ok (.iload_n 1, 1) := by decide +kernel
theorem dX0_noOf_5 : decode cX0_noOf 5 = .ok (.iaload, 1) := by decide +kernel
theorem dX0_noOf_6 : decode cX0_noOf 6 = .ok (.aload_n 0, 1) := by decide +kernel
theorem dX0_noOf_7 : decode cX0_noOf 7 = .ok (.getfield 42, 3) := by decide +kernel
theorem dX0_noOf_10 : decode cX0_noOf 10 = .ok (.iand, 1) := by decide +kernel
theorem dX0_noOf_11 : decode cX0_noOf 11 = .ok (.ireturn, 1) := by decide +kernel
theorem dX0_given_0 : decode cX0_given 0 = .ok (.aload_n 0, 1) := by decide +kernel
theorem dX0_given_1 : decode cX0_given 1 = .ok (.iload_n 1, 1) := by decide +kernel
theorem dX0_given_2 : decode cX0_given 2 = .ok (.invokevirtual 69, 3) := by decide +kernel
theorem dX0_given_5 : decode cX0_given 5 = .ok (.aload_n 0, 1) := by decide +kernel
theorem dX0_given_6 : decode cX0_given 6 = .ok (.iload_n 1, 1) := by decide +kernel
theorem dX0_given_7 : decode cX0_given 7 = .ok (.invokevirtual 73, 3) := by decide +kernel
theorem dX0_given_10 : decode cX0_given 10 = .ok (.ior, 1) := by decide +kernel
theorem dX0_given_11 : decode cX0_given 11 = .ok (.invokestatic 76, 3) := by decide +kernel
theorem dX0_given_14 : decode cX0_given 14 = .ok (.ireturn, 1) := by decide +kernel
theorem dX0_givenByAll_0 : decode cX0_givenByAll 0 = .ok (.iconst 0, 1) := by decide +kernel
theorem dX0_givenByAll_1 : decode cX0_givenByAll 1 = .ok (.istore_n 1, 1) := by decide +kernel
theorem dX0_givenByAll_2 : decode cX0_givenByAll 2 = .ok (.iconst 0, 1) := by decide +kernel
theorem dX0_givenByAll_3 : decode cX0_givenByAll 3 = .ok (.istore_n 2, 1) := by decide +kernel
theorem dX0_givenByAll_4 : decode cX0_givenByAll 4 = .ok (.iload_n 2, 1) := by decide +kernel
theorem dX0_givenByAll_5 : decode cX0_givenByAll 5 = .ok (.bipush 12, 2) := by decide +kernel
theorem dX0_givenByAll_7 : decode cX0_givenByAll 7 = .ok (.if_icmp .ge 17, 3) := by decide +kernel
theorem dX0_givenByAll_10 : decode cX0_givenByAll 10 = .ok (.iload_n 1, 1) := by decide +kernel
theorem dX0_givenByAll_11 : decode cX0_givenByAll 11 = .ok (.aload_n 0, 1) := by decide +kernel
theorem dX0_givenByAll_12 : decode cX0_givenByAll 12 = .ok (.iload_n 2, 1) := by decide +kernel
theorem dX0_givenByAll_13 : decode cX0_givenByAll 13 = .ok (.invokevirtual 81, 3) := by decide +kernel
theorem dX0_givenByAll_16 : decode cX0_givenByAll 16 = .ok (.iadd, 1) := by decide +kernel
theorem dX0_givenByAll_17 : decode cX0_givenByAll 17 = .ok (.istore_n 1, 1) := by decide +kernel
theorem dX0_givenByAll_18 : decode cX0_givenByAll 18 = .ok (.iinc 2 1, 3) := by decide +kernel
theorem dX0_givenByAll_21 : decode cX0_givenByAll 21 = .ok (.goto (-17), 3) := by decide +kernel
theorem dX0_givenByAll_24 : decode cX0_givenByAll 24 = .ok (.iload_n 1, 1) := by decide +kernel
theorem dX0_givenByAll_25 : decode cX0_givenByAll 25 = .ok (.ireturn, 1) := by decide +kernel
theorem dX0_yesByAll_0 : decode cX0_yesByAll 0 = .ok (.iconst 0, 1) := by decide +kernel
theorem dX0_yesByAll_1 : decode cX0_yesByAll 1 = .ok (.istore_n 1, 1) := by decide +kernel
theorem dX0_yesByAll_2 : decode cX0_yesByAll 2 = .ok (.iconst 0, 1) := by decide +kernel
theorem dX0_yesByAll_3 : decode cX0_yesByAll 3 = .ok (.istore_n 2, 1) := by decide +kernel
theorem dX0_yesByAll_4 : decode cX0_yesByAll 4 = .ok (.iload_n 2, 1) := by decide +kernel
theorem dX0_yesByAll_5 : decode cX0_yesByAll 5 = .ok (.bipush 12, 2) := by decide +kernel
theorem dX0_yesByAll_7 : decode cX0_yesByAll 7 = .ok (.if_icmp .ge 20, 3) := by decide +kernel
theorem dX0_yesByAll_10 : decode cX0_yesByAll 10 = .ok (.iload_n 1, 1) := by decide +kernel
theorem dX0_yesByAll_11 : decode cX0_yesByAll 11 = .ok (.aload_n 0, 1) := by decide +kernel
theorem dX0_yesByAll_12 : decode cX0_yesByAll 12 = .ok (.iload_n 2, 1) := by decide +kernel
theorem dX0_yesByAll_13 : decode cX0_yesByAll 13 = .ok (.invokevirtual 69, 3) := by decide +kernel
theorem dX0_yesByAll_16 : decode cX0_yesByAll 16 = .ok (.invokestatic 76, 3) := by decide +kernel
theorem dX0_yesByAll_19 : decode cX0_yesByAll 19 = .ok (.iadd, 1) := by decide +kernel
theorem dX0_yesByAll_20 : decode cX0_yesByAll 20 = .ok (.istore_n 1, 1) := by decide +kernel
theorem dX0_yesByAll_21 : decode cX0_yesByAll 21 = .ok (.iinc 2 1, 3) := by decide +kernel
theorem dX0_yesByAll_24 : decode cX0_yesByAll 24 = .ok (.goto (-20), 3) := by decide +kernel
theorem dX0_yesByAll_27 : decode cX0_yesByAll 27 = .ok (.iload_n 1, 1) := by decide +kernel
theorem dX0_yesByAll_28 : decode cX0_yesByAll 28 = .ok (.ireturn, 1) := by decide +kernel
theorem dX0_pupilsWithSome_0 : decode cX0_pupilsWithSome 0 = .ok (.iconst 0, 1) := by decide +kernel
theorem dX0_pupilsWithSome_1 : decode cX0_pupilsWithSome 1 = .ok (.istore_n 1, 1) := by decide +kernel
theorem dX0_pupilsWithSome_2 : decode cX0_pupilsWithSome 2 = .ok (.iconst 0, 1) := by decide +kernel
theorem dX0_pupilsWithSome_3 : decode cX0_pupilsWithSome 3 = .ok (.istore_n 2, 1) := by decide +kernel
theorem dX0_pupilsWithSome_4 : decode cX0_pupilsWithSome 4 = .ok (.iload_n 2, 1) := by decide +kernel
theorem dX0_pupilsWithSome_5 : decode cX0_pupilsWithSome 5 = .ok (.bipush 12, 2) := by decide +kernel
theorem dX0_pupilsWithSome_7 : decode cX0_pupilsWithSome 7 = .ok (.if_icmp .ge 25, 3) := by decide +kernel
theorem dX0_pupilsWithSome_10 : decode cX0_pupilsWithSome 10 = .ok (.iload_n 1, 1) := by decide +kernel
theorem dX0_pupilsWithSome_11 : decode cX0_pupilsWithSome 11 = .ok (.aload_n 0, 1) := by decide +kernel
theorem dX0_pupilsWithSome_12 : decode cX0_pupilsWithSome 12 = .ok (.iload_n 2, 1) := by decide +kernel
theorem dX0_pupilsWithSome_13 : decode cX0_pupilsWithSome 13 = .ok (.invokevirtual 81, 3) := by decide +kernel
theorem dX0_pupilsWithSome_16 : decode cX0_pupilsWithSome 16 = .ok (.ifCond .le 7, 3) := by decide +kernel
theorem dX0_pupilsWithSome_19 : decode cX0_pupilsWithSome 19 = .ok (.iconst 1, 1) := by decide +kernel
theorem dX0_pupilsWithSome_20 : decode cX0_pupilsWithSome 20 = .ok (.goto 4, 3) := by decide +kernel
theorem dX0_pupilsWithSome_23 : decode cX0_pupilsWithSome 23 = .ok (.iconst 0, 1) := by decide +kernel
theorem dX0_pupilsWithSome_24 : decode cX0_pupilsWithSome 24 = .ok (.iadd, 1) := by decide +kernel
theorem dX0_pupilsWithSome_25 : decode cX0_pupilsWithSome 25 = .ok (.istore_n 1, 1) := by decide +kernel
theorem dX0_pupilsWithSome_26 : decode cX0_pupilsWithSome 26 = .ok (.iinc 2 1, 3) := by decide +kernel
theorem dX0_pupilsWithSome_29 : decode cX0_pupilsWithSome 29 = .ok (.goto (-25), 3) := by decide +kernel
theorem dX0_pupilsWithSome_32 : decode cX0_pupilsWithSome 32 = .ok (.iload_n 1, 1) := by decide +kernel
theorem dX0_pupilsWithSome_33 : decode cX0_pupilsWithSome 33 = .ok (.ireturn, 1) := by decide +kernel
theorem dX0_largerShares_0 : decode cX0_largerShares 0 = .ok (.iconst 0, 1) := by decide +kernel
theorem dX0_largerShares_1 : decode cX0_largerShares 1 = .ok (.istore_n 1, 1) := by decide +kernel
theorem dX0_largerShares_2 : decode cX0_largerShares 2 = .ok (.iconst 0, 1) := by decide +kernel
theorem dX0_largerShares_3 : decode cX0_largerShares 3 = .ok (.istore_n 2, 1) := by decide +kernel
theorem dX0_largerShares_4 : decode cX0_largerShares 4 = .ok (.iload_n 2, 1) := by decide +kernel
theorem dX0_largerShares_5 : decode cX0_largerShares 5 = .ok (.aload_n 0, 1) := by decide +kernel
theorem dX0_largerShares_6 : decode cX0_largerShares 6 = .ok (.getfield 38, 3) := by decide +kernel
theorem dX0_largerShares_9 : decode cX0_largerShares 9 = .ok (.if_icmp .ge 33, 3) := by decide +kernel
theorem dX0_largerShares_12 : decode cX0_largerShares 12 = .ok (.iload_n 1, 1) := by decide +kernel
theorem dX0_largerShares_13 : decode cX0_largerShares 13 = .ok (.aload_n 0, 1) := by decide +kernel
theorem dX0_largerShares_14 : decode cX0_largerShares 14 = .ok (.getfield 32, 3) := by decide +kernel
theorem dX0_largerShares_17 : decode cX0_largerShares 17 = .ok (.iload_n 2, 1) := by decide +kernel
theorem dX0_largerShares_18 : decode cX0_largerShares 18 = .ok (.iaload, 1) := by decide +kernel
theorem dX0_largerShares_19 : decode cX0_largerShares 19 = .ok (.invokestatic 76, 3) := by decide +kernel
theorem dX0_largerShares_22 : decode cX0_largerShares 22 = .ok (.aload_n 0, 1) := by decide +kernel
theorem dX0_largerShares_23 : decode cX0_largerShares 23 = .ok (.getfield 35, 3) := by decide +kernel
theorem dX0_largerShares_26 : decode cX0_largerShares 26 = .ok (.iload_n 2, 1) := by decide +kernel
theorem dX0_largerShares_27 : decode cX0_largerShares 27 = .ok (.iaload, 1) := by decide +kernel
theorem dX0_largerShares_28 : decode cX0_largerShares 28 = .ok (.invokestatic 76, 3) := by decide +kernel
theorem dX0_largerShares_31 : decode cX0_largerShares 31 = .ok (.invokestatic 84, 3) := by decide +kernel
theorem dX0_largerShares_34 : decode cX0_largerShares 34 = .ok (.iadd, 1) := by decide +kernel
theorem dX0_largerShares_35 : decode cX0_largerShares 35 = .ok (.istore_n 1, 1) := by decide +kernel
theorem dX0_largerShares_36 : decode cX0_largerShares 36 = .ok (.iinc 2 1, 3) := by decide +kernel
theorem dX0_largerShares_39 : decode cX0_largerShares 39 = .ok (.goto (-35), 3) := by decide +kernel
theorem dX0_largerShares_42 : decode cX0_largerShares 42 = .ok (.iload_n 1, 1) := by decide +kernel
theorem dX0_largerShares_43 : decode cX0_largerShares 43 = .ok (.ireturn, 1) := by decide +kernel
theorem dX0_foundFor_0 : decode cX0_foundFor 0 = .ok (.iconst 0, 1) := by decide +kernel
theorem dX0_foundFor_1 : decode cX0_foundFor 1 = .ok (.istore_n 3, 1) := by decide +kernel
theorem dX0_foundFor_2 : decode cX0_foundFor 2 = .ok (.iconst 0, 1) := by decide +kernel
theorem dX0_foundFor_3 : decode cX0_foundFor 3 = .ok (.istore 4, 2) := by decide +kernel
theorem dX0_foundFor_5 : decode cX0_foundFor 5 = .ok (.iload 4, 2) := by decide +kernel
theorem dX0_foundFor_7 : decode cX0_foundFor 7 = .ok (.aload_n 0, 1) := by decide +kernel
theorem dX0_foundFor_8 : decode cX0_foundFor 8 = .ok (.getfield 38, 3) := by decide +kernel
theorem dX0_foundFor_11 : decode cX0_foundFor 11 = .ok (.if_icmp .ge 73, 3) := by decide +kernel
theorem dX0_foundFor_14 : decode cX0_foundFor 14 = .ok (.aload_n 0, 1) := by decide +kernel
theorem dX0_foundFor_15 : decode cX0_foundFor 15 = .ok (.getfield 32, 3) := by decide +kernel
theorem dX0_foundFor_18 : decode cX0_foundFor 18 = .ok (.iload_n 1, 1) := by decide +kernel
theorem dX0_foundFor_19 : decode cX0_foundFor 19 = .ok (.iaload, 1) := by decide +kernel
theorem dX0_foundFor_20 : decode cX0_foundFor 20 = .ok (.aload_n 0, 1) := by decide +kernel
theorem dX0_foundFor_21 : decode cX0_foundFor 21 = .ok (.getfield 35, 3) := by decide +kernel
theorem dX0_foundFor_24 : decode cX0_foundFor 24 = .ok (.iload 4, 2) := by decide +kernel
theorem dX0_foundFor_26 : decode cX0_foundFor 26 = .ok (.iaload, 1) := by decide +kernel
theorem dX0_foundFor_27 : decode cX0_foundFor 27 = .ok (.iand, 1) := by decide +kernel
theorem dX0_foundFor_28 : decode cX0_foundFor 28 = .ok (.invokestatic 76, 3) := by decide +kernel
theorem dX0_foundFor_31 : decode cX0_foundFor 31 = .ok (.istore 5, 2) := by decide +kernel
theorem dX0_foundFor_33 : decode cX0_foundFor 33 = .ok (.aload_n 0, 1) := by decide +kernel
theorem dX0_foundFor_34 : decode cX0_foundFor 34 = .ok (.getfield 35, 3) := by decide +kernel
theorem dX0_foundFor_37 : decode cX0_foundFor 37 = .ok (.iload_n 1, 1) := by decide +kernel
theorem dX0_foundFor_38 : decode cX0_foundFor 38 = .ok (.iaload, 1) := by decide +kernel
theorem dX0_foundFor_39 : decode cX0_foundFor 39 = .ok (.aload_n 0, 1) := by decide +kernel
theorem dX0_foundFor_40 : decode cX0_foundFor 40 = .ok (.getfield 32, 3) := by decide +kernel
theorem dX0_foundFor_43 : decode cX0_foundFor 43 = .ok (.iload 4, 2) := by decide +kernel
theorem dX0_foundFor_45 : decode cX0_foundFor 45 = .ok (.iaload, 1) := by decide +kernel
theorem dX0_foundFor_46 : decode cX0_foundFor 46 = .ok (.iand, 1) := by decide +kernel
theorem dX0_foundFor_47 : decode cX0_foundFor 47 = .ok (.invokestatic 76, 3) := by decide +kernel
theorem dX0_foundFor_50 : decode cX0_foundFor 50 = .ok (.istore 6, 2) := by decide +kernel
theorem dX0_foundFor_52 : decode cX0_foundFor 52 = .ok (.iload 4, 2) := by decide +kernel
theorem dX0_foundFor_54 : decode cX0_foundFor 54 = .ok (.iload_n 1, 1) := by decide +kernel
theorem dX0_foundFor_55 : decode cX0_foundFor 55 = .ok (.if_icmp .eq 23, 3) := by decide +kernel
theorem dX0_foundFor_58 : decode cX0_foundFor 58 = .ok (.iload 5, 2) := by decide +kernel
theorem dX0_foundFor_60 : decode cX0_foundFor 60 = .ok (.iload_n 2, 1) := by decide +kernel
theorem dX0_foundFor_61 : decode cX0_foundFor 61 = .ok (.if_icmp .gt 17, 3) := by decide +kernel
theorem dX0_foundFor_64 : decode cX0_foundFor 64 = .ok (.iload 5, 2) := by decide +kernel
theorem dX0_foundFor_66 : decode cX0_foundFor 66 = .ok (.iload 6, 2) := by decide +kernel
theorem dX0_foundFor_68 : decode cX0_foundFor 68 = .ok (.if_icmp .ge 10, 3) := by decide +kernel
theorem dX0_foundFor_71 : decode cX0_foundFor 71 = .ok (.iload_n 3, 1) := by decide +kernel
theorem dX0_foundFor_72 : decode cX0_foundFor 72 = .ok (.iconst 1, 1) := by decide +kernel
theorem dX0_foundFor_73 : decode cX0_foundFor 73 = .ok (.iload 4, 2) := by decide +kernel
theorem dX0_foundFor_75 : decode cX0_foundFor 75 = .ok (.ishl, 1) := by decide +kernel
theorem dX0_foundFor_76 : decode cX0_foundFor 76 = .ok (.ior, 1) := by decide +kernel
theorem dX0_foundFor_77 : decode cX0_foundFor 77 = .ok (.istore_n 3, 1) := by decide +kernel
theorem dX0_foundFor_78 : decode cX0_foundFor 78 = .ok (.iinc 4 1, 3) := by decide +kernel
theorem dX0_foundFor_81 : decode cX0_foundFor 81 = .ok (.goto (-76), 3) := by decide +kernel
theorem dX0_foundFor_84 : decode cX0_foundFor 84 = .ok (.iload_n 3, 1) := by decide +kernel
theorem dX0_foundFor_85 : decode cX0_foundFor 85 = .ok (.ireturn, 1) := by decide +kernel
theorem dX0_errorsWith_0 : decode cX0_errorsWith 0 = .ok (.aload_n 0, 1) := by decide +kernel
theorem dX0_errorsWith_1 : decode cX0_errorsWith 1 = .ok (.iload_n 1, 1) := by decide +kernel
theorem dX0_errorsWith_2 : decode cX0_errorsWith 2 = .ok (.invokevirtual 69, 3) := by decide +kernel
theorem dX0_errorsWith_5 : decode cX0_errorsWith 5 = .ok (.iload_n 2, 1) := by decide +kernel
theorem dX0_errorsWith_6 : decode cX0_errorsWith 6 = .ok (.iconst (-1), 1) := by decide +kernel
theorem dX0_errorsWith_7 : decode cX0_errorsWith 7 = .ok (.ixor, 1) := by decide +kernel
theorem dX0_errorsWith_8 : decode cX0_errorsWith 8 = .ok (.iand, 1) := by decide +kernel
theorem dX0_errorsWith_9 : decode cX0_errorsWith 9 = .ok (.invokestatic 76, 3) := by decide +kernel
theorem dX0_errorsWith_12 : decode cX0_errorsWith 12 = .ok (.aload_n 0, 1) := by decide +kernel
theorem dX0_errorsWith_13 : decode cX0_errorsWith 13 = .ok (.iload_n 1, 1) := by decide +kernel
theorem dX0_errorsWith_14 : decode cX0_errorsWith 14 = .ok (.invokevirtual 73, 3) := by decide +kernel
theorem dX0_errorsWith_17 : decode cX0_errorsWith 17 = .ok (.iload_n 2, 1) := by decide +kernel
theorem dX0_errorsWith_18 : decode cX0_errorsWith 18 = .ok (.iand, 1) := by decide +kernel
theorem dX0_errorsWith_19 : decode cX0_errorsWith 19 = .ok (.invokestatic 76, 3) := by decide +kernel
theorem dX0_errorsWith_22 : decode cX0_errorsWith 22 = .ok (.iadd, 1) := by decide +kernel
theorem dX0_errorsWith_23 : decode cX0_errorsWith 23 = .ok (.ireturn, 1) := by decide +kernel
theorem dX0_offIn_0 : decode cX0_offIn 0 = .ok (.aload_n 0, 1) := by decide +kernel
theorem dX0_offIn_1 : decode cX0_offIn 1 = .ok (.iload_n 1, 1) := by decide +kernel
theorem dX0_offIn_2 : decode cX0_offIn 2 = .ok (.aload_n 2, 1) := by decide +kernel
theorem dX0_offIn_3 : decode cX0_offIn 3 = .ok (.invokevirtual 90, 3) := by decide +kernel
theorem dX0_offIn_6 : decode cX0_offIn 6 = .ok (.iconst 3, 1) := by decide +kernel
theorem dX0_offIn_7 : decode cX0_offIn 7 = .ok (.ishr, 1) := by decide +kernel
theorem dX0_offIn_8 : decode cX0_offIn 8 = .ok (.ireturn, 1) := by decide +kernel
theorem dX0_stepIn_0 : decode cX0_stepIn 0 = .ok (.aload_n 0, 1) := by decide +kernel
theorem dX0_stepIn_1 : decode cX0_stepIn 1 = .ok (.iload_n 1, 1) := by decide +kernel
theorem dX0_stepIn_2 : decode cX0_stepIn 2 = .ok (.aload_n 2, 1) := by decide +kernel
theorem dX0_stepIn_3 : decode cX0_stepIn 3 = .ok (.invokevirtual 90, 3) := by decide +kernel
theorem dX0_stepIn_6 : decode cX0_stepIn 6 = .ok (.bipush 7, 2) := by decide +kernel
theorem dX0_stepIn_8 : decode cX0_stepIn 8 = .ok (.iand, 1) := by decide +kernel
theorem dX0_stepIn_9 : decode cX0_stepIn 9 = .ok (.ireturn, 1) := by decide +kernel
theorem dX0_standing_0 : decode cX0_standing 0 = .ok (.iconst 0, 1) := by decide +kernel
theorem dX0_standing_1 : decode cX0_standing 1 = .ok (.istore_n 3, 1) := by decide +kernel
theorem dX0_standing_2 : decode cX0_standing 2 = .ok (.aload_n 0, 1) := by decide +kernel
theorem dX0_standing_3 : decode cX0_standing 3 = .ok (.iload_n 1, 1) := by decide +kernel
theorem dX0_standing_4 : decode cX0_standing 4 = .ok (.iload_n 3, 1) := by decide +kernel
theorem dX0_standing_5 : decode cX0_standing 5 = .ok (.invokevirtual 94, 3) := by decide +kernel
theorem dX0_standing_8 : decode cX0_standing 8 = .ok (.iconst 3, 1) := by decide +kernel
theorem dX0_standing_9 : decode cX0_standing 9 = .ok (.ishl, 1) := by decide +kernel
theorem dX0_standing_10 : decode cX0_standing 10 = .ok (.istore 4, 2) := by decide +kernel
theorem dX0_standing_12 : decode cX0_standing 12 = .ok (.iconst 0, 1) := by decide +kernel
theorem dX0_standing_13 : decode cX0_standing 13 = .ok (.istore 5, 2) := by decide +kernel
theorem dX0_standing_15 : decode cX0_standing 15 = .ok (.iload 5, 2) := by decide +kernel
theorem dX0_standing_17 : decode cX0_standing 17 = .ok (.aload_n 0, 1) := by decide +kernel
theorem dX0_standing_18 : decode cX0_standing 18 = .ok (.getfield 38, 3) := by decide +kernel
theorem dX0_standing_21 : decode cX0_standing 21 = .ok (.if_icmp .ge 45, 3) := by decide +kernel
theorem dX0_standing_24 : decode cX0_standing 24 = .ok (.iload 5, 2) := by decide +kernel
theorem dX0_standing_26 : decode cX0_standing 26 = .ok (.aload_n 2, 1) := by decide +kernel
theorem dX0_standing_27 : decode cX0_standing 27 = .ok (.arraylength, 1) := by decide +kernel
theorem dX0_standing_28 : decode cX0_standing 28 = .ok (.if_icmp .ge 38, 3) := by decide +kernel
theorem dX0_standing_31 : decode cX0_standing 31 = .ok (.iload_n 3, 1) := by decide +kernel
theorem dX0_standing_32 : decode cX0_standing 32 = .ok (.iconst 1, 1) := by decide +kernel
theorem dX0_standing_33 : decode cX0_standing 33 = .ok (.aload_n 2, 1) := by decide +kernel
theorem dX0_standing_34 : decode cX0_standing 34 = .ok (.iload 5, 2) := by decide +kernel
theorem dX0_standing_36 : decode cX0_standing 36 = .ok (.iaload, 1) := by decide +kernel
theorem dX0_standing_37 : decode cX0_standing 37 = .ok (.ishl, 1) := by decide +kernel
theorem dX0_standing_38 : decode cX0_standing 38 = .ok (.ior, 1) := by decide +kernel
theorem dX0_standing_39 : decode cX0_standing 39 = .ok (.istore_n 3, 1) := by decide +kernel
theorem dX0_standing_40 : decode cX0_standing 40 = .ok (.iload 4, 2) := by decide +kernel
theorem dX0_standing_42 : decode cX0_standing 42 = .ok (.aload_n 0, 1) := by decide +kernel
theorem dX0_standing_43 : decode cX0_standing 43 = .ok (.iload_n 1, 1) := by decide +kernel
theorem dX0_standing_44 : decode cX0_standing 44 = .ok (.iload_n 3, 1) := by decide +kernel
theorem dX0_standing_45 : decode cX0_standing 45 = .ok (.invokevirtual 94, 3) := by decide +kernel
theorem dX0_standing_48 : decode cX0_standing 48 = .ok (.iconst 3, 1) := by decide +kernel
theorem dX0_standing_49 : decode cX0_standing 49 = .ok (.ishl, 1) := by decide +kernel
theorem dX0_standing_50 : decode cX0_standing 50 = .ok (.iload 5, 2) := by decide +kernel
theorem dX0_standing_52 : decode cX0_standing 52 = .ok (.iconst 1, 1) := by decide +kernel
theorem dX0_standing_53 : decode cX0_standing 53 = .ok (.iadd, 1) := by decide +kernel
theorem dX0_standing_54 : decode cX0_standing 54 = .ok (.ior, 1) := by decide +kernel
theorem dX0_standing_55 : decode cX0_standing 55 = .ok (.invokestatic 97, 3) := by decide +kernel
theorem dX0_standing_58 : decode cX0_standing 58 = .ok (.istore 4, 2) := by decide +kernel
theorem dX0_standing_60 : decode cX0_standing 60 = .ok (.iinc 5 1, 3) := by decide +kernel
theorem dX0_standing_63 : decode cX0_standing 63 = .ok (.goto (-48), 3) := by decide +kernel
theorem dX0_standing_66 : decode cX0_standing 66 = .ok (.iload 4, 2) := by decide +kernel
theorem dX0_standing_68 : decode cX0_standing 68 = .ok (.ireturn, 1) := by decide +kernel
theorem dX0_chanceAbove_0 : decode cX0_chanceAbove 0 = .ok (.aload_n 0, 1) := by decide +kernel
theorem dX0_chanceAbove_1 : decode cX0_chanceAbove 1 = .ok (.iload_n 1, 1) := by decide +kernel
theorem dX0_chanceAbove_2 : decode cX0_chanceAbove 2 = .ok (.invokevirtual 69, 3) := by decide +kernel
theorem dX0_chanceAbove_5 : decode cX0_chanceAbove 5 = .ok (.istore 5, 2) := by decide +kernel
theorem dX0_chanceAbove_7 : decode cX0_chanceAbove 7 = .ok (.aload_n 0, 1) := by decide +kernel
theorem dX0_chanceAbove_8 : decode cX0_chanceAbove 8 = .ok (.iload_n 1, 1) := by decide +kernel
theorem dX0_chanceAbove_9 : decode cX0_chanceAbove 9 = .ok (.invokevirtual 73, 3) := by decide +kernel
theorem dX0_chanceAbove_12 : decode cX0_chanceAbove 12 = .ok (.istore 6, 2) := by decide +kernel
theorem dX0_chanceAbove_14 : decode cX0_chanceAbove 14 = .ok (.bipush 16, 2) := by decide +kernel
theorem dX0_chanceAbove_16 : decode cX0_chanceAbove 16 = .ok (.iload_n 3, 1) := by decide +kernel
theorem dX0_chanceAbove_17 : decode cX0_chanceAbove 17 = .ok (.isub, 1) := by decide +kernel
theorem dX0_chanceAbove_18 : decode cX0_chanceAbove 18 = .ok (.i2l, 1) := by decide +kernel
theorem dX0_chanceAbove_19 : decode cX0_chanceAbove 19 = .ok (.iload 5, 2) := by decide +kernel
theorem dX0_chanceAbove_21 : decode cX0_chanceAbove 21 = .ok (.iload_n 2, 1) := by decide +kernel
theorem dX0_chanceAbove_22 : decode cX0_chanceAbove 22 = .ok (.iand, 1) := by decide +kernel
theorem dX0_chanceAbove_23 : decode cX0_chanceAbove 23 = .ok (.invokestatic 76, 3) := by decide +kernel
theorem dX0_chanceAbove_26 : decode cX0_chanceAbove 26 = .ok (.invokestatic 100, 3) := by decide +kernel
theorem dX0_chanceAbove_29 : decode cX0_chanceAbove 29 = .ok (.iload_n 3, 1) := by decide +kernel
theorem dX0_chanceAbove_30 : decode cX0_chanceAbove 30 = .ok (.i2l, 1) := by decide +kernel
theorem dX0_chanceAbove_31 : decode cX0_chanceAbove 31 = .ok (.iload 6, 2) := by decide +kernel
theorem dX0_chanceAbove_33 : decode cX0_chanceAbove 33 = .ok (.iload_n 2, 1) := by decide +kernel
theorem dX0_chanceAbove_34 : decode cX0_chanceAbove 34 = .ok (.iand, 1) := by decide +kernel
theorem dX0_chanceAbove_35 : decode cX0_chanceAbove 35 = .ok (.invokestatic 76, 3) := by decide +kernel
theorem dX0_chanceAbove_38 : decode cX0_chanceAbove 38 = .ok (.invokestatic 100, 3) := by decide +kernel
theorem dX0_chanceAbove_41 : decode cX0_chanceAbove 41 = .ok (.lmul, 1) := by decide +kernel
theorem dX0_chanceAbove_42 : decode cX0_chanceAbove 42 = .ok (.iload 4, 2) := by decide +kernel
theorem dX0_chanceAbove_44 : decode cX0_chanceAbove 44 = .ok (.i2l, 1) := by decide +kernel
theorem dX0_chanceAbove_45 : decode cX0_chanceAbove 45 = .ok (.iload 5, 2) := by decide +kernel
theorem dX0_chanceAbove_47 : decode cX0_chanceAbove 47 = .ok (.iload_n 2, 1) := by decide +kernel
theorem dX0_chanceAbove_48 : decode cX0_chanceAbove 48 = .ok (.iconst (-1), 1) := by decide +kernel
theorem dX0_chanceAbove_49 : decode cX0_chanceAbove 49 = .ok (.ixor, 1) := by decide +kernel
theorem dX0_chanceAbove_50 : decode cX0_chanceAbove 50 = .ok (.iand, 1) := by decide +kernel
theorem dX0_chanceAbove_51 : decode cX0_chanceAbove 51 = .ok (.invokestatic 76, 3) := by decide +kernel
theorem dX0_chanceAbove_54 : decode cX0_chanceAbove 54 = .ok (.invokestatic 100, 3) := by decide +kernel
theorem dX0_chanceAbove_57 : decode cX0_chanceAbove 57 = .ok (.lmul, 1) := by decide +kernel
theorem dX0_chanceAbove_58 : decode cX0_chanceAbove 58 = .ok (.bipush 16, 2) := by decide +kernel
theorem dX0_chanceAbove_60 : decode cX0_chanceAbove 60 = .ok (.iload 4, 2) := by decide +kernel
theorem dX0_chanceAbove_62 : decode cX0_chanceAbove 62 = .ok (.isub, 1) := by decide +kernel
theorem dX0_chanceAbove_63 : decode cX0_chanceAbove 63 = .ok (.i2l, 1) := by decide +kernel
theorem dX0_chanceAbove_64 : decode cX0_chanceAbove 64 = .ok (.iload 6, 2) := by decide +kernel
theorem dX0_chanceAbove_66 : decode cX0_chanceAbove 66 = .ok (.iload_n 2, 1) := by decide +kernel
theorem dX0_chanceAbove_67 : decode cX0_chanceAbove 67 = .ok (.iconst (-1), 1) := by decide +kernel
theorem dX0_chanceAbove_68 : decode cX0_chanceAbove 68 = .ok (.ixor, 1) := by decide +kernel
theorem dX0_chanceAbove_69 : decode cX0_chanceAbove 69 = .ok (.iand, 1) := by decide +kernel
theorem dX0_chanceAbove_70 : decode cX0_chanceAbove 70 = .ok (.invokestatic 76, 3) := by decide +kernel
theorem dX0_chanceAbove_73 : decode cX0_chanceAbove 73 = .ok (.invokestatic 100, 3) := by decide +kernel
theorem dX0_chanceAbove_76 : decode cX0_chanceAbove 76 = .ok (.lmul, 1) := by decide +kernel
theorem dX0_chanceAbove_77 : decode cX0_chanceAbove 77 = .ok (.lreturn, 1) := by decide +kernel
theorem dX0_chanceBelow_0 : decode cX0_chanceBelow 0 = .ok (.ldc2_w 104, 3) := by decide +kernel
theorem dX0_chanceBelow_3 : decode cX0_chanceBelow 3 = .ok (.aload_n 0, 1) := by decide +kernel
theorem dX0_chanceBelow_4 : decode cX0_chanceBelow 4 = .ok (.iload_n 1, 1) := by decide +kernel
theorem dX0_chanceBelow_5 : decode cX0_chanceBelow 5 = .ok (.invokevirtual 81, 3) := by decide +kernel
theorem dX0_chanceBelow_8 : decode cX0_chanceBelow 8 = .ok (.invokestatic 100, 3) := by decide +kernel
theorem dX0_chanceBelow_11 : decode cX0_chanceBelow 11 = .ok (.lreturn, 1) := by decide +kernel
theorem dX0_power_0 : decode cX0_power 0 = .ok (.lconst 1, 1) := by decide +kernel
theorem dX0_power_1 : decode cX0_power 1 = .ok (.lstore_n 3, 1) := by decide +kernel
theorem dX0_power_2 : decode cX0_power 2 = .ok (.iconst 0, 1) := by decide +kernel
theorem dX0_power_3 : decode cX0_power 3 = .ok (.istore 5, 2) := by decide +kernel
theorem dX0_power_5 : decode cX0_power 5 = .ok (.iload 5, 2) := by decide +kernel
theorem dX0_power_7 : decode cX0_power 7 = .ok (.iload_n 2, 1) := by decide +kernel
theorem dX0_power_8 : decode cX0_power 8 = .ok (.if_icmp .ge 13, 3) := by decide +kernel
theorem dX0_power_11 : decode cX0_power 11 = .ok (.lload_n 3, 1) := by decide +kernel
theorem dX0_power_12 : decode cX0_power 12 = .ok (.lload_n 0, 1) := by decide +kernel
theorem dX0_power_13 : decode cX0_power 13 = .ok (.lmul, 1) := by decide +kernel
theorem dX0_power_14 : decode cX0_power 14 = .ok (.lstore_n 3, 1) := by decide +kernel
theorem dX0_power_15 : decode cX0_power 15 = .ok (.iinc 5 1, 3) := by decide +kernel
theorem dX0_power_18 : decode cX0_power 18 = .ok (.goto (-13), 3) := by decide +kernel
theorem dX0_power_21 : decode cX0_power 21 = .ok (.lload_n 3, 1) := by decide +kernel
theorem dX0_power_22 : decode cX0_power 22 = .ok (.lreturn, 1) := by decide +kernel
theorem dX1_init_0 : decode cX1_init 0 = .ok (.aload_n 0, 1) := by decide +kernel
theorem dX1_init_1 : decode cX1_init 1 = .ok (.invokespecial 3, 3) := by decide +kernel
theorem dX1_init_4 : decode cX1_init 4 = .ok (.aload_n 0, 1) := by decide +kernel
theorem dX1_init_5 : decode cX1_init 5 = .ok (.bipush 7, 2) := by decide +kernel
theorem dX1_init_7 : decode cX1_init 7 = .ok (.newarray .int, 2) := by decide +kernel
theorem dX1_init_9 : decode cX1_init 9 = .ok (.putfield 9, 3) := by decide +kernel
theorem dX1_init_12 : decode cX1_init 12 = .ok (.return_, 1) := by decide +kernel
theorem dX1_begin_0 : decode cX1_begin 0 = .ok (.aload_n 0, 1) := by decide +kernel
theorem dX1_begin_1 : decode cX1_begin 1 = .ok (.aload_n 1, 1) := by decide +kernel
theorem dX1_begin_2 : decode cX1_begin 2 = .ok (.getfield 15, 3) := by decide +kernel
theorem dX1_begin_5 : decode cX1_begin 5 = .ok (.putfield 21, 3) := by decide +kernel
theorem dX1_begin_8 : decode cX1_begin 8 = .ok (.aload_n 0, 1) := by decide +kernel
theorem dX1_begin_9 : decode cX1_begin 9 = .ok (.getfield 9, 3) := by decide +kernel
theorem dX1_begin_12 : decode cX1_begin 12 = .ok (.iconst 0, 1) := by decide +kernel
theorem dX1_begin_13 : decode cX1_begin 13 = .ok (.invokestatic 22, 3) := by decide +kernel
theorem dX1_begin_16 : decode cX1_begin 16 = .ok (.iconst 0, 1) := by decide +kernel
theorem dX1_begin_17 : decode cX1_begin 17 = .ok (.istore 4, 2) := by decide +kernel
theorem dX1_begin_19 : decode cX1_begin 19 = .ok (.iconst 0, 1) := by decide +kernel
theorem dX1_begin_20 : decode cX1_begin 20 = .ok (.istore 5, 2) := by decide +kernel
theorem dX1_begin_22 : decode cX1_begin 22 = .ok (.iload 5, 2) := by decide +kernel
theorem dX1_begin_24 : decode cX1_begin 24 = .ok (.aload_n 1, 1) := by decide +kernel
theorem dX1_begin_25 : decode cX1_begin 25 = .ok (.getfield 28, 3) := by decide +kernel
theorem dX1_begin_28 : decode cX1_begin 28 = .ok (.if_icmp .ge 51, 3) := by decide +kernel
theorem dX1_begin_31 : decode cX1_begin 31 = .ok (.aload_n 1, 1) := by decide +kernel
theorem dX1_begin_32 : decode cX1_begin 32 = .ok (.getfield 31, 3) := by decide +kernel
theorem dX1_begin_35 : decode cX1_begin 35 = .ok (.iload 5, 2) := by decide +kernel
theorem dX1_begin_37 : decode cX1_begin 37 = .ok (.iaload, 1) := by decide +kernel
theorem dX1_begin_38 : decode cX1_begin 38 = .ok (.istore 6, 2) := by decide +kernel
theorem dX1_begin_40 : decode cX1_begin 40 = .ok (.iload 6, 2) := by decide +kernel
theorem dX1_begin_42 : decode cX1_begin 42 = .ok (.iload_n 2, 1) := by decide +kernel
theorem dX1_begin_43 : decode cX1_begin 43 = .ok (.iand, 1) := by decide +kernel
theorem dX1_begin_44 : decode cX1_begin 44 = .ok (.iload_n 2, 1) := by decide +kernel
theorem dX1_begin_45 : decode cX1_begin 45 = .ok (.if_icmp .ne 28, 3) := by decide +kernel
theorem dX1_begin_48 : decode cX1_begin 48 = .ok (.iload 6, 2) := by decide +kernel
theorem dX1_begin_50 : decode cX1_begin 50 = .ok (.iload_n 3, 1) := by decide +kernel
theorem dX1_begin_51 : decode cX1_begin 51 = .ok (.iand, 1) := by decide +kernel
theorem dX1_begin_52 : decode cX1_begin 52 = .ok (.ifCond .ne 21, 3) := by decide +kernel
theorem dX1_begin_55 : decode cX1_begin 55 = .ok (.iload 4, 2) := by decide +kernel
theorem dX1_begin_57 : decode cX1_begin 57 = .ok (.bipush 14, 2) := by decide +kernel
theorem dX1_begin_59 : decode cX1_begin 59 = .ok (.if_icmp .ge 11, 3) := by decide +kernel
theorem dX1_begin_62 : decode cX1_begin 62 = .ok (.aload_n 0, 1) := by decide +kernel
theorem dX1_begin_63 : decode cX1_begin 63 = .ok (.iload 4, 2) := by decide +kernel
theorem dX1_begin_65 : decode cX1_begin 65 = .ok (.iload 6, 2) := by decide +kernel
theorem dX1_begin_67 : decode cX1_begin 67 = .ok (.invokevirtual 34, 3) := by decide +kernel
theorem dX1_begin_70 : decode cX1_begin 70 = .ok (.iinc 4 1, 3) := by decide +kernel
theorem dX1_begin_73 : decode cX1_begin 73 = .ok (.iinc 5 1, 3) := by decide +kernel
theorem dX1_begin_76 : decode cX1_begin 76 = .ok (.goto (-54), 3) := by decide +kernel
theorem dX1_begin_79 : decode cX1_begin 79 = .ok (.aload_n 0, 1) := by decide +kernel
theorem dX1_begin_80 : decode cX1_begin 80 = .ok (.iconst 1, 1) := by decide +kernel
theorem dX1_begin_81 : decode cX1_begin 81 = .ok (.iload 4, 2) := by decide +kernel
theorem dX1_begin_83 : decode cX1_begin 83 = .ok (.bipush 14, 2) := by decide +kernel
theorem dX1_begin_85 : decode cX1_begin 85 = .ok (.invokestatic 38, 3) := by decide +kernel
theorem dX1_begin_88 : decode cX1_begin 88 = .ok (.ishl, 1) := by decide +kernel
theorem dX1_begin_89 : decode cX1_begin 89 = .ok (.iconst 1, 1) := by decide +kernel
theorem dX1_begin_90 : decode cX1_begin 90 = .ok (.isub, 1) := by decide +kernel
theorem dX1_begin_91 : decode cX1_begin 91 = .ok (.putfield 44, 3) := by decide +kernel
theorem dX1_begin_94 : decode cX1_begin 94 = .ok (.iload 4, 2) := by decide +kernel
theorem dX1_begin_96 : decode cX1_begin 96 = .ok (.ireturn, 1) := by decide +kernel
theorem dX1_note_0 : decode cX1_note 0 = .ok (.iconst 0, 1) := by decide +kernel
theorem dX1_note_1 : decode cX1_note 1 = .ok (.istore_n 3, 1) := by decide +kernel
theorem dX1_note_2 : decode cX1_note 2 = .ok (.iload_n 3, 1) := by decide +kernel
theorem dX1_note_3 : decode cX1_note 3 = .ok (.aload_n 0, 1) := by decide +kernel
theorem dX1_note_4 : decode cX1_note 4 = .ok (.getfield 21, 3) := by decide +kernel
theorem dX1_note_7 : decode cX1_note 7 = .ok (.if_icmp .ge 25, 3) := by decide +kernel
theorem dX1_note_10 : decode cX1_note 10 = .ok (.aload_n 0, 1) := by decide +kernel
theorem dX1_note_11 : decode cX1_note 11 = .ok (.getfield 9, 3) := by decide +kernel
theorem dX1_note_14 : decode cX1_note 14 = .ok (.iload_n 3, 1) := by decide +kernel
theorem dX1_note_15 : decode cX1_note 15 = .ok (.dup2, 1) := by decide +kernel
theorem dX1_note_16 : decode cX1_note 16 = .ok (.iaload, 1) := by decide +kernel
theorem dX1_note_17 : decode cX1_note 17 = .ok (.iload_n 2, 1) := by decide +kernel
theorem dX1_note_18 : decode cX1_note 18 = .ok (.iload_n 3, 1) := by decide +kernel
theorem dX1_note_19 : decode cX1_note 19 = .ok (.ishr, 1) := by decide +kernel
theorem dX1_note_20 : decode cX1_note 20 = .ok (.iconst 1, 1) := by decide +kernel
theorem dX1_note_21 : decode cX1_note 21 = .ok (.iand, 1) := by decide +kernel
theorem dX1_note_22 : decode cX1_note 22 = .ok (.iload_n 1, 1) := by decide +kernel
theorem dX1_note_23 : decode cX1_note 23 = .ok (.ishl, 1) := by decide +kernel
theorem dX1_note_24 : decode cX1_note 24 = .ok (.ior, 1) := by decide +kernel
theorem dX1_note_25 : decode cX1_note 25 = .ok (.iastore, 1) := by decide +kernel
theorem dX1_note_26 : decode cX1_note 26 = .ok (.iinc 3 1, 3) := by decide +kernel
theorem dX1_note_29 : decode cX1_note 29 = .ok (.goto (-27), 3) := by decide +kernel
theorem dX1_note_32 : decode cX1_note 32 = .ok (.return_, 1) := by decide +kernel
theorem dX1_fewest_0 : decode cX1_fewest 0 = .ok (.iconst 0, 1) := by decide +kernel
theorem dX1_fewest_1 : decode cX1_fewest 1 = .ok (.istore_n 1, 1) := by decide +kernel
theorem dX1_fewest_2 : decode cX1_fewest 2 = .ok (.iload_n 1, 1) := by decide +kernel
theorem dX1_fewest_3 : decode cX1_fewest 3 = .ok (.aload_n 0, 1) := by decide +kernel
theorem dX1_fewest_4 : decode cX1_fewest 4 = .ok (.getfield 21, 3) := by decide +kernel
theorem dX1_fewest_7 : decode cX1_fewest 7 = .ok (.if_icmp .ge 23, 3) := by decide +kernel
theorem dX1_fewest_10 : decode cX1_fewest 10 = .ok (.aload_n 0, 1) := by decide +kernel
theorem dX1_fewest_11 : decode cX1_fewest 11 = .ok (.iload_n 1, 1) := by decide +kernel
theorem dX1_fewest_12 : decode cX1_fewest 12 = .ok (.aload_n 0, 1) := by decide +kernel
theorem dX1_fewest_13 : decode cX1_fewest 13 = .ok (.getfield 44, 3) := by decide +kernel
theorem dX1_fewest_16 : decode cX1_fewest 16 = .ok (.invokevirtual 47, 3) := by decide +kernel
theorem dX1_fewest_19 : decode cX1_fewest 19 = .ok (.ifCond .eq 5, 3) := by decide +kernel
theorem dX1_fewest_22 : decode cX1_fewest 22 = .ok (.iload_n 1, 1) := by decide +kernel
theorem dX1_fewest_23 : decode cX1_fewest 23 = .ok (.ireturn, 1) := by decide +kernel
theorem dX1_fewest_24 : decode cX1_fewest 24 = .ok (.iinc 1 1, 3) := by decide +kernel
theorem dX1_fewest_27 : decode cX1_fewest 27 = .ok (.goto (-25), 3) := by decide +kernel
theorem dX1_fewest_30 : decode cX1_fewest 30 = .ok (.aload_n 0, 1) := by decide +kernel
theorem dX1_fewest_31 : decode cX1_fewest 31 = .ok (.getfield 21, 3) := by decide +kernel
theorem dX1_fewest_34 : decode cX1_fewest 34 = .ok (.ireturn, 1) := by decide +kernel
theorem dX1_first_0 : decode cX1_first 0 = .ok (.iconst 0, 1) := by decide +kernel
theorem dX1_first_1 : decode cX1_first 1 = .ok (.istore_n 2, 1) := by decide +kernel
theorem dX1_first_2 : decode cX1_first 2 = .ok (.iload_n 2, 1) := by decide +kernel
theorem dX1_first_3 : decode cX1_first 3 = .ok (.aload_n 0, 1) := by decide +kernel
theorem dX1_first_4 : decode cX1_first 4 = .ok (.getfield 21, 3) := by decide +kernel
theorem dX1_first_7 : decode cX1_first 7 = .ok (.if_icmp .ge 28, 3) := by decide +kernel
theorem dX1_first_10 : decode cX1_first 10 = .ok (.iload_n 1, 1) := by decide +kernel
theorem dX1_first_11 : decode cX1_first 11 = .ok (.ifCond .le 24, 3) := by decide +kernel
theorem dX1_first_14 : decode cX1_first 14 = .ok (.aload_n 0, 1) := by decide +kernel
theorem dX1_first_15 : decode cX1_first 15 = .ok (.iload_n 2, 1) := by decide +kernel
theorem dX1_first_16 : decode cX1_first 16 = .ok (.iload_n 1, 1) := by decide +kernel
theorem dX1_first_17 : decode cX1_first 17 = .ok (.aload_n 0, 1) := by decide +kernel
theorem dX1_first_18 : decode cX1_first 18 = .ok (.getfield 44, 3) := by decide +kernel
theorem dX1_first_21 : decode cX1_first 21 = .ok (.invokevirtual 51, 3) := by decide +kernel
theorem dX1_first_24 : decode cX1_first 24 = .ok (.ifCond .eq 5, 3) := by decide +kernel
theorem dX1_first_27 : decode cX1_first 27 = .ok (.iload_n 2, 1) := by decide +kernel
theorem dX1_first_28 : decode cX1_first 28 = .ok (.ireturn, 1) := by decide +kernel
theorem dX1_first_29 : decode cX1_first 29 = .ok (.iinc 2 1, 3) := by decide +kernel
theorem dX1_first_32 : decode cX1_first 32 = .ok (.goto (-30), 3) := by decide +kernel
theorem dX1_first_35 : decode cX1_first 35 = .ok (.iconst (-1), 1) := by decide +kernel
theorem dX1_first_36 : decode cX1_first 36 = .ok (.ireturn, 1) := by decide +kernel
theorem dX1_suffices_0 : decode cX1_suffices 0 = .ok (.iload_n 2, 1) := by decide +kernel
theorem dX1_suffices_1 : decode cX1_suffices 1 = .ok (.invokestatic 55, 3) := by decide +kernel
theorem dX1_suffices_4 : decode cX1_suffices 4 = .ok (.istore_n 3, 1) := by decide +kernel
theorem dX1_suffices_5 : decode cX1_suffices 5 = .ok (.iload_n 3, 1) := by decide +kernel
theorem dX1_suffices_6 : decode cX1_suffices 6 = .ok (.iconst 1, 1) := by decide +kernel
theorem dX1_suffices_7 : decode cX1_suffices 7 = .ok (.if_icmp .gt 5, 3) := by decide +kernel
theorem dX1_suffices_10 : decode cX1_suffices 10 = .ok (.iconst 1, 1) := by decide +kernel
theorem dX1_suffices_11 : decode cX1_suffices 11 = .ok (.ireturn, 1) := by decide +kernel
theorem dX1_suffices_12 : decode cX1_suffices 12 = .ok (.iload_n 1, 1) := by decide +kernel
theorem dX1_suffices_13 : decode cX1_suffices 13 = .ok (.ifCond .le 10, 3) := by decide +kernel
theorem dX1_suffices_16 : decode cX1_suffices 16 = .ok (.iload_n 3, 1) := by decide +kernel
theorem dX1_suffices_17 : decode cX1_suffices 17 = .ok (.iconst 1, 1) := by decide +kernel
theorem dX1_suffices_18 : decode cX1_suffices 18 = .ok (.iload_n 1, 1) := by decide +kernel
theorem dX1_suffices_19 : decode cX1_suffices 19 = .ok (.ishl, 1) := by decide +kernel
theorem dX1_suffices_20 : decode cX1_suffices 20 = .ok (.if_icmp .le 5, 3) := by decide +kernel
theorem dX1_suffices_23 : decode cX1_suffices 23 = .ok (.iconst 0, 1) := by decide +kernel
theorem dX1_suffices_24 : decode cX1_suffices 24 = .ok (.ireturn, 1) := by decide +kernel
theorem dX1_suffices_25 : decode cX1_suffices 25 = .ok (.iconst 0, 1) := by decide +kernel
theorem dX1_suffices_26 : decode cX1_suffices 26 = .ok (.istore 4, 2) := by decide +kernel
theorem dX1_suffices_28 : decode cX1_suffices 28 = .ok (.iload 4, 2) := by decide +kernel
theorem dX1_suffices_30 : decode cX1_suffices 30 = .ok (.aload_n 0, 1) := by decide +kernel
theorem dX1_suffices_31 : decode cX1_suffices 31 = .ok (.getfield 21, 3) := by decide +kernel
theorem dX1_suffices_34 : decode cX1_suffices 34 = .ok (.if_icmp .ge 22, 3) := by decide +kernel
theorem dX1_suffices_37 : decode cX1_suffices 37 = .ok (.aload_n 0, 1) := by decide +kernel
theorem dX1_suffices_38 : decode cX1_suffices 38 = .ok (.iload 4, 2) := by decide +kernel
theorem dX1_suffices_40 : decode cX1_suffices 40 = .ok (.iload_n 1, 1) := by decide +kernel
theorem dX1_suffices_41 : decode cX1_suffices 41 = .ok (.iload_n 2, 1) := by decide +kernel
theorem dX1_suffices_42 : decode cX1_suffices 42 = .ok (.invokevirtual 51, 3) := by decide +kernel
theorem dX1_suffices_45 : decode cX1_suffices 45 = .ok (.ifCond .eq 5, 3) := by decide +kernel
theorem dX1_suffices_48 : decode cX1_suffices 48 = .ok (.iconst 1, 1) := by decide +kernel
theorem dX1_suffices_49 : decode cX1_suffices 49 = .ok (.ireturn, 1) := by decide +kernel
theorem dX1_suffices_50 : decode cX1_suffices 50 = .ok (.iinc 4 1, 3) := by decide +kernel
theorem dX1_suffices_53 : decode cX1_suffices 53 = .ok (.goto (-25), 3) := by decide +kernel
theorem dX1_suffices_56 : decode cX1_suffices 56 = .ok (.iconst 0, 1) := by decide +kernel
theorem dX1_suffices_57 : decode cX1_suffices 57 = .ok (.ireturn, 1) := by decide +kernel
theorem dX1_splitsWell_0 : decode cX1_splitsWell 0 = .ok (.iload_n 3, 1) := by decide +kernel
theorem dX1_splitsWell_1 : decode cX1_splitsWell 1 = .ok (.aload_n 0, 1) := by decide +kernel
theorem dX1_splitsWell_2 : decode cX1_splitsWell 2 = .ok (.getfield 9, 3) := by decide +kernel
theorem dX1_splitsWell_5 : decode cX1_splitsWell 5 = .ok (.iload_n 1, 1) := by decide +kernel
theorem dX1_splitsWell_6 : decode cX1_splitsWell 6 = .ok (.iaload, 1) := by decide +kernel
theorem dX1_splitsWell_7 : decode cX1_splitsWell 7 = .ok (.iand, 1) := by decide +kernel
theorem dX1_splitsWell_8 : decode cX1_splitsWell 8 = .ok (.istore 4, 2) := by decide +kernel
theorem dX1_splitsWell_10 : decode cX1_splitsWell 10 = .ok (.iload_n 3, 1) := by decide +kernel
theorem dX1_splitsWell_11 : decode cX1_splitsWell 11 = .ok (.aload_n 0, 1) := by decide +kernel
theorem dX1_splitsWell_12 : decode cX1_splitsWell 12 = .ok (.getfield 9, 3) := by decide +kernel
theorem dX1_splitsWell_15 : decode cX1_splitsWell 15 = .ok (.iload_n 1, 1) := by decide +kernel
theorem dX1_splitsWell_16 : decode cX1_splitsWell 16 = .ok (.iaload, 1) := by decide +kernel
theorem dX1_splitsWell_17 : decode cX1_splitsWell 17 = .ok (.iconst (-1), 1) := by decide +kernel
theorem dX1_splitsWell_18 : decode cX1_splitsWell 18 = .ok (.ixor, 1) := by decide +kernel
theorem dX1_splitsWell_19 : decode cX1_splitsWell 19 = .ok (.iand, 1) := by decide +kernel
theorem dX1_splitsWell_20 : decode cX1_splitsWell 20 = .ok (.istore 5, 2) := by decide +kernel
theorem dX1_splitsWell_22 : decode cX1_splitsWell 22 = .ok (.iload 4, 2) := by decide +kernel
theorem dX1_splitsWell_24 : decode cX1_splitsWell 24 = .ok (.ifCond .eq 36, 3) := by decide +kernel
theorem dX1_splitsWell_27 : decode cX1_splitsWell 27 = .ok (.iload 5, 2) := by decide +kernel
theorem dX1_splitsWell_29 : decode cX1_splitsWell 29 = .ok (.ifCond .eq 31, 3) := by decide +kernel
theorem dX1_splitsWell_32 : decode cX1_splitsWell 32 = .ok (.aload_n 0, 1) := by decide +kernel
theorem dX1_splitsWell_33 : decode cX1_splitsWell 33 = .ok (.iload_n 2, 1) := by decide +kernel
theorem dX1_splitsWell_34 : decode cX1_splitsWell 34 = .ok (.iconst 1, 1) := by decide +kernel
theorem dX1_splitsWell_35 : decode cX1_splitsWell 35 = .ok (.isub, 1) := by decide +kernel
theorem dX1_splitsWell_36 : decode cX1_splitsWell 36 = .ok (.iload 4, 2) := by decide +kernel
theorem dX1_splitsWell_38 : decode cX1_splitsWell 38 = .ok (.invokevirtual 47, 3) := by decide +kernel
theorem dX1_splitsWell_41 : decode cX1_splitsWell 41 = .ok (.ifCond .eq 19, 3) := by decide +kernel
theorem dX1_splitsWell_44 : decode cX1_splitsWell 44 = .ok (.aload_n 0, 1) := by decide +kernel
theorem dX1_splitsWell_45 : decode cX1_splitsWell 45 = .ok (.iload_n 2, 1) := by decide +kernel
theorem dX1_splitsWell_46 : decode cX1_splitsWell 46 = .ok (.iconst 1, 1) := by decide +kernel
theorem dX1_splitsWell_47 : decode cX1_splitsWell 47 = .ok (.isub, 1) := by decide +kernel
theorem dX1_splitsWell_48 : decode cX1_splitsWell 48 = .ok (.iload 5, 2) := by decide +kernel
theorem dX1_splitsWell_50 : decode cX1_splitsWell 50 = .ok (.invokevirtual 47, 3) := by decide +kernel
theorem dX1_splitsWell_53 : decode cX1_splitsWell 53 = .ok (.ifCond .eq 7, 3) := by decide +kernel
theorem dX1_splitsWell_56 : decode cX1_splitsWell 56 = .ok (.iconst 1, 1) := by decide +kernel
theorem dX1_splitsWell_57 : decode cX1_splitsWell 57 = .ok (.goto 4, 3) := by decide +kernel
theorem dX1_splitsWell_60 : decode cX1_splitsWell 60 = .ok (.iconst 0, 1) := by decide +kernel
theorem dX1_splitsWell_61 : decode cX1_splitsWell 61 = .ok (.ireturn, 1) := by decide +kernel
theorem dX2_init_0 : decode cX2_init 0 = .ok (.aload_n 0, 1) := by decide +kernel
theorem dX2_init_1 : decode cX2_init 1 = .ok (.invokespecial 3, 3) := by decide +kernel
theorem dX2_init_4 : decode cX2_init 4 = .ok (.aload_n 0, 1) := by decide +kernel
theorem dX2_init_5 : decode cX2_init 5 = .ok (.bipush 60, 2) := by decide +kernel
theorem dX2_init_7 : decode cX2_init 7 = .ok (.newarray .int, 2) := by decide +kernel
theorem dX2_init_9 : decode cX2_init 9 = .ok (.putfield 9, 3) := by decide +kernel
theorem dX2_init_12 : decode cX2_init 12 = .ok (.aload_n 0, 1) := by decide +kernel
theorem dX2_init_13 : decode cX2_init 13 = .ok (.bipush 7, 2) := by decide +kernel
theorem dX2_init_15 : decode cX2_init 15 = .ok (.newarray .int, 2) := by decide +kernel
theorem dX2_init_17 : decode cX2_init 17 = .ok (.putfield 15, 3) := by decide +kernel
theorem dX2_init_20 : decode cX2_init 20 = .ok (.aload_n 0, 1) := by decide +kernel
theorem dX2_init_21 : decode cX2_init 21 = .ok (.bipush 7, 2) := by decide +kernel
theorem dX2_init_23 : decode cX2_init 23 = .ok (.newarray .int, 2) := by decide +kernel
theorem dX2_init_25 : decode cX2_init 25 = .ok (.putfield 18, 3) := by decide +kernel
theorem dX2_init_28 : decode cX2_init 28 = .ok (.aload_n 0, 1) := by decide +kernel
theorem dX2_init_29 : decode cX2_init 29 = .ok (.iconst (-1), 1) := by decide +kernel
theorem dX2_init_30 : decode cX2_init 30 = .ok (.putfield 21, 3) := by decide +kernel
theorem dX2_init_33 : decode cX2_init 33 = .ok (.return_, 1) := by decide +kernel
theorem dX2_append_0 : decode cX2_append 0 = .ok (.aload_n 0, 1) := by decide +kernel
theorem dX2_append_1 : decode cX2_append 1 = .ok (.getfield 25, 3) := by decide +kernel
theorem dX2_append_4 : decode cX2_append 4 = .ok (.bipush 60, 2) := by decide +kernel
theorem dX2_append_6 : decode cX2_append 6 = .ok (.if_icmp .ge 27, 3) := by decide +kernel
theorem dX2_append_9 : decode cX2_append 9 = .ok (.aload_n 0, 1) := by decide +kernel
theorem dX2_append_10 : decode cX2_append 10 = .ok (.getfield 9, 3) := by decide +kernel
theorem dX2_append_13 : decode cX2_append 13 = .ok (.aload_n 0, 1) := by decide +kernel
theorem dX2_append_14 : decode cX2_append 14 = .ok (.getfield 25, 3) := by decide +kernel
theorem dX2_append_17 : decode cX2_append 17 = .ok (.iload_n 1, 1) := by decide +kernel
theorem dX2_append_18 : decode cX2_append 18 = .ok (.iastore, 1) := by decide +kernel
theorem dX2_append_19 : decode cX2_append 19 = .ok (.aload_n 0, 1) := by decide +kernel
theorem dX2_append_20 : decode cX2_append 20 = .ok (.dup, 1) := by decide +kernel
theorem dX2_append_21 : decode cX2_append 21 = .ok (.getfield 25, 3) := by decide +kernel
theorem dX2_append_24 : decode cX2_append 24 = .ok (.iconst 1, 1) := by decide +kernel
theorem dX2_append_25 : decode cX2_append 25 = .ok (.iadd, 1) := by decide +kernel
theorem dX2_append_26 : decode cX2_append 26 = .ok (.putfield 25, 3) := by decide +kernel
theorem dX2_append_29 : decode cX2_append 29 = .ok (.aload_n 0, 1) := by decide +kernel
theorem dX2_append_30 : decode cX2_append 30 = .ok (.invokevirtual 28, 3) := by decide +kernel
theorem dX2_append_33 : decode cX2_append 33 = .ok (.return_, 1) := by decide +kernel
theorem dX2_clear_0 : decode cX2_clear 0 = .ok (.aload_n 0, 1) := by decide +kernel
theorem dX2_clear_1 : decode cX2_clear 1 = .ok (.iconst 0, 1) := by decide +kernel
theorem dX2_clear_2 : decode cX2_clear 2 = .ok (.putfield 25, 3) := by decide +kernel
theorem dX2_clear_5 : decode cX2_clear 5 = .ok (.aload_n 0, 1) := by decide +kernel
theorem dX2_clear_6 : decode cX2_clear 6 = .ok (.invokevirtual 28, 3) := by decide +kernel
theorem dX2_clear_9 : decode cX2_clear 9 = .ok (.return_, 1) := by decide +kernel
theorem dX2_readParts_0 : decode cX2_readParts 0 = .ok (.aload_n 0, 1) := by decide +kernel
theorem dX2_readParts_1 : decode cX2_readParts 1 = .ok (.invokevirtual 31, 3) := by decide +kernel
theorem dX2_readParts_4 : decode cX2_readParts 4 = .ok (.aload_n 0, 1) := by decide +kernel
theorem dX2_readParts_5 : decode cX2_readParts 5 = .ok (.aload_n 0, 1) := by decide +kernel
theorem dX2_readParts_6 : decode cX2_readParts 6 = .ok (.getfield 25, 3) := by decide +kernel
theorem dX2_readParts_9 : decode cX2_readParts 9 = .ok (.ifCond .ne 7, 3) := by decide +kernel
theorem dX2_readParts_12 : decode cX2_readParts 12 = .ok (.iconst (-1), 1) := by decide +kernel
theorem dX2_readParts_13 : decode cX2_readParts 13 = .ok (.goto 7, 3) := by decide +kernel
theorem dX2_readParts_16 : decode cX2_readParts 16 = .ok (.aload_n 0, 1) := by decide +kernel
theorem dX2_readParts_17 : decode cX2_readParts 17 = .ok (.invokevirtual 34, 3) := by decide +kernel
theorem dX2_readParts_20 : decode cX2_readParts 20 = .ok (.putfield 21, 3) := by decide +kernel
theorem dX2_readParts_23 : decode cX2_readParts 23 = .ok (.aload_n 0, 1) := by decide +kernel
theorem dX2_readParts_24 : decode cX2_readParts 24 = .ok (.getfield 21, 3) := by decide +kernel
theorem dX2_readParts_27 : decode cX2_readParts 27 = .ok (.iconst (-1), 1) := by decide +kernel
theorem dX2_readParts_28 : decode cX2_readParts 28 = .ok (.if_icmp .eq 7, 3) := by decide +kernel
theorem dX2_readParts_31 : decode cX2_readParts 31 = .ok (.aload_n 0, 1) := by decide +kernel
theorem dX2_readParts_32 : decode cX2_readParts 32 = .ok (.invokevirtual 31, 3) := by decide +kernel
theorem dX2_readParts_35 : decode cX2_readParts 35 = .ok (.return_, 1) := by decide +kernel
theorem dX2_forgetParts_0 : decode cX2_forgetParts 0 = .ok (.aload_n 0, 1) := by decide +kernel
theorem dX2_forgetParts_1 : decode cX2_forgetParts 1 = .ok (.getfield 15, 3) := by decide +kernel
theorem dX2_forgetParts_4 : decode cX2_forgetParts 4 = .ok (.iconst 0, 1) := by decide +kernel
theorem dX2_forgetParts_5 : decode cX2_forgetParts 5 = .ok (.invokestatic 38, 3) := by decide +kernel
theorem dX2_forgetParts_8 : decode cX2_forgetParts 8 = .ok (.aload_n 0, 1) := by decide +kernel
theorem dX2_forgetParts_9 : decode cX2_forgetParts 9 = .ok (.getfield 18, 3) := by decide +kernel
theorem dX2_forgetParts_12 : decode cX2_forgetParts 12 = .ok (.iconst 0, 1) := by decide +kernel
theorem dX2_forgetParts_13 : decode cX2_forgetParts 13 = .ok (.invokestatic 38, 3) := by decide +kernel
theorem dX2_forgetParts_16 : decode cX2_forgetParts 16 = .ok (.aload_n 0, 1) := by decide +kernel
theorem dX2_forgetParts_17 : decode cX2_forgetParts 17 = .ok (.iconst 0, 1) := by decide +kernel
theorem dX2_forgetParts_18 : decode cX2_forgetParts 18 = .ok (.putfield 44, 3) := by decide +kernel
theorem dX2_forgetParts_21 : decode cX2_forgetParts 21 = .ok (.return_, 1) := by decide +kernel
theorem dX2_firstFault_0 : decode cX2_firstFault 0 = .ok (.iconst 0, 1) := by decide +kernel
theorem dX2_firstFault_1 : decode cX2_firstFault 1 = .ok (.istore_n 1, 1) := by decide +kernel
theorem dX2_firstFault_2 : decode cX2_firstFault 2 = .ok (.iload_n 1, 1) := by decide +kernel
theorem dX2_firstFault_3 : decode cX2_firstFault 3 = .ok (.aload_n 0, 1) := by decide +kernel
theorem dX2_firstFault_4 : decode cX2_firstFault 4 = .ok (.getfield 25, 3) := by decide +kernel
theorem dX2_firstFault_7 : decode cX2_firstFault 7 = .ok (.if_icmp .gt 65, 3) := by decide +kernel
theorem dX2_firstFault_10 : decode cX2_firstFault 10 = .ok (.aload_n 0, 1) := by decide +kernel
theorem dX2_firstFault_11 : decode cX2_firstFault 11 = .ok (.iload_n 1, 1) := by decide +kernel
theorem dX2_firstFault_12 : decode cX2_firstFault 12 = .ok (.invokevirtual 47, 3) := by decide +kernel
theorem dX2_firstFault_15 : decode cX2_firstFault 15 = .ok (.istore_n 2, 1) := by decide +kernel
theorem dX2_firstFault_16 : decode cX2_firstFault 16 = .ok (.iload_n 2, 1) := by decide +kernel
theorem dX2_firstFault_17 : decode cX2_firstFault 17 = .ok (.iconst (-1), 1) := by decide +kernel
theorem dX2_firstFault_18 : decode cX2_firstFault 18 = .ok (.if_icmp .eq 5, 3) := by decide +kernel
theorem dX2_firstFault_21 : decode cX2_firstFault 21 = .ok (.iload_n 2, 1) := by decide +kernel
theorem dX2_firstFault_22 : decode cX2_firstFault 22 = .ok (.ireturn, 1) := by decide +kernel
theorem dX2_firstFault_23 : decode cX2_firstFault 23 = .ok (.aload_n 0, 1) := by decide +kernel
theorem dX2_firstFault_24 : decode cX2_firstFault 24 = .ok (.aload_n 0, 1) := by decide +kernel
theorem dX2_firstFault_25 : decode cX2_firstFault 25 = .ok (.iload_n 1, 1) := by decide +kernel
theorem dX2_firstFault_26 : decode cX2_firstFault 26 = .ok (.invokevirtual 51, 3) := by decide +kernel
theorem dX2_firstFault_29 : decode cX2_firstFault 29 = .ok (.aload_n 0, 1) := by decide +kernel
theorem dX2_firstFault_30 : decode cX2_firstFault 30 = .ok (.iload_n 1, 1) := by decide +kernel
theorem dX2_firstFault_31 : decode cX2_firstFault 31 = .ok (.iconst 2, 1) := by decide +kernel
theorem dX2_firstFault_32 : decode cX2_firstFault 32 = .ok (.iadd, 1) := by decide +kernel
theorem dX2_firstFault_33 : decode cX2_firstFault 33 = .ok (.invokevirtual 51, 3) := by decide +kernel
theorem dX2_firstFault_36 : decode cX2_firstFault 36 = .ok (.invokevirtual 54, 3) := by decide +kernel
theorem dX2_firstFault_39 : decode cX2_firstFault 39 = .ok (.iload_n 1, 1) := by decide +kernel
theorem dX2_firstFault_40 : decode cX2_firstFault 40 = .ok (.iconst 3, 1) := by decide +kernel
theorem dX2_firstFault_41 : decode cX2_firstFault 41 = .ok (.iadd, 1) := by decide +kernel
theorem dX2_firstFault_42 : decode cX2_firstFault 42 = .ok (.istore_n 3, 1) := by decide +kernel
theorem dX2_firstFault_43 : decode cX2_firstFault 43 = .ok (.iload_n 3, 1) := by decide +kernel
theorem dX2_firstFault_44 : decode cX2_firstFault 44 = .ok (.aload_n 0, 1) := by decide +kernel
theorem dX2_firstFault_45 : decode cX2_firstFault 45 = .ok (.getfield 25, 3) := by decide +kernel
theorem dX2_firstFault_48 : decode cX2_firstFault 48 = .ok (.if_icmp .lt 5, 3) := by decide +kernel
theorem dX2_firstFault_51 : decode cX2_firstFault 51 = .ok (.iconst (-1), 1) := by decide +kernel
theorem dX2_firstFault_52 : decode cX2_firstFault 52 = .ok (.ireturn, 1) := by decide +kernel
theorem dX2_firstFault_53 : decode cX2_firstFault 53 = .ok (.aload_n 0, 1) := by decide +kernel
theorem dX2_firstFault_54 : decode cX2_firstFault 54 = .ok (.getfield 9, 3) := by decide +kernel
theorem dX2_firstFault_57 : decode cX2_firstFault 57 = .ok (.iload_n 3, 1) := by decide +kernel
theorem dX2_firstFault_58 : decode cX2_firstFault 58 = .ok (.iaload, 1) := by decide +kernel
theorem dX2_firstFault_59 : decode cX2_firstFault 59 = .ok (.bipush 59, 2) := by decide +kernel
theorem dX2_firstFault_61 : decode cX2_firstFault 61 = .ok (.if_icmp .eq 5, 3) := by decide +kernel
theorem dX2_firstFault_64 : decode cX2_firstFault 64 = .ok (.iload_n 3, 1) := by decide +kernel
theorem dX2_firstFault_65 : decode cX2_firstFault 65 = .ok (.ireturn, 1) := by decide +kernel
theorem dX2_firstFault_66 : decode cX2_firstFault 66 = .ok (.iinc 1 4, 3) := by decide +kernel
theorem dX2_firstFault_69 : decode cX2_firstFault 69 = .ok (.goto (-67), 3) := by decide +kernel
theorem dX2_firstFault_72 : decode cX2_firstFault 72 = .ok (.aload_n 0, 1) := by decide +kernel
theorem dX2_firstFault_73 : decode cX2_firstFault 73 = .ok (.getfield 25, 3) := by decide +kernel
theorem dX2_firstFault_76 : decode cX2_firstFault 76 = .ok (.ireturn, 1) := by decide +kernel
theorem dX2_faultOfPart_0 : decode cX2_faultOfPart 0 = .ok (.aload_n 0, 1) := by decide +kernel
theorem dX2_faultOfPart_1 : decode cX2_faultOfPart 1 = .ok (.iload_n 1, 1) := by decide +kernel
theorem dX2_faultOfPart_2 : decode cX2_faultOfPart 2 = .ok (.invokevirtual 51, 3) := by decide +kernel
theorem dX2_faultOfPart_5 : decode cX2_faultOfPart 5 = .ok (.iconst (-1), 1) := by decide +kernel
theorem dX2_faultOfPart_6 : decode cX2_faultOfPart 6 = .ok (.if_icmp .ne 5, 3) := by decide +kernel
theorem dX2_faultOfPart_9 : decode cX2_faultOfPart 9 = .ok (.iload_n 1, 1) := by decide +kernel
theorem dX2_faultOfPart_10 : decode cX2_faultOfPart 10 = .ok (.ireturn, 1) := by decide +kernel
theorem dX2_faultOfPart_11 : decode cX2_faultOfPart 11 = .ok (.iload_n 1, 1) := by decide +kernel
theorem dX2_faultOfPart_12 : decode cX2_faultOfPart 12 = .ok (.iconst 1, 1) := by decide +kernel
theorem dX2_faultOfPart_13 : decode cX2_faultOfPart 13 = .ok (.iadd, 1) := by decide +kernel
theorem dX2_faultOfPart_14 : decode cX2_faultOfPart 14 = .ok (.aload_n 0, 1) := by decide +kernel
theorem dX2_faultOfPart_15 : decode cX2_faultOfPart 15 = .ok (.getfield 25, 3) := by decide +kernel
theorem dX2_faultOfPart_18 : decode cX2_faultOfPart 18 = .ok (.if_icmp .ge 16, 3) := by decide +kernel
theorem dX2_faultOfPart_21 : decode cX2_faultOfPart 21 = .ok (.aload_n 0, 1) := by decide +kernel
theorem dX2_faultOfPart_22 : decode cX2_faultOfPart 22 = .ok (.getfield 9, 3) := by decide +kernel
theorem dX2_faultOfPart_25 : decode cX2_faultOfPart 25 = .ok (.iload_n 1, 1) := by decide +kernel
theorem dX2_faultOfPart_26 : decode cX2_faultOfPart 26 = .ok (.iconst 1, 1) := by decide +kernel
theorem dX2_faultOfPart_27 : decode cX2_faultOfPart 27 = .ok (.iadd, 1) := by decide +kernel
theorem dX2_faultOfPart_28 : decode cX2_faultOfPart 28 = .ok (.iaload, 1) := by decide +kernel
theorem dX2_faultOfPart_29 : decode cX2_faultOfPart 29 = .ok (.bipush 60, 2) := by decide +kernel
theorem dX2_faultOfPart_31 : decode cX2_faultOfPart 31 = .ok (.if_icmp .eq 7, 3) := by decide +kernel
theorem dX2_faultOfPart_34 : decode cX2_faultOfPart 34 = .ok (.iload_n 1, 1) := by decide +kernel
theorem dX2_faultOfPart_35 : decode cX2_faultOfPart 35 = .ok (.iconst 1, 1) := by decide +kernel
theorem dX2_faultOfPart_36 : decode cX2_faultOfPart 36 = .ok (.iadd, 1) := by decide +kernel
theorem dX2_faultOfPart_37 : decode cX2_faultOfPart 37 = .ok (.ireturn, 1) := by decide +kernel
theorem dX2_faultOfPart_38 : decode cX2_faultOfPart 38 = .ok (.aload_n 0, 1) := by decide +kernel
theorem dX2_faultOfPart_39 : decode cX2_faultOfPart 39 = .ok (.iload_n 1, 1) := by decide +kernel
theorem dX2_faultOfPart_40 : decode cX2_faultOfPart 40 = .ok (.iconst 2, 1) := by decide +kernel
theorem dX2_faultOfPart_41 : decode cX2_faultOfPart 41 = .ok (.iadd, 1) := by decide +kernel
theorem dX2_faultOfPart_42 : decode cX2_faultOfPart 42 = .ok (.invokevirtual 51, 3) := by decide +kernel
theorem dX2_faultOfPart_45 : decode cX2_faultOfPart 45 = .ok (.iconst (-1), 1) := by decide +kernel
theorem dX2_faultOfPart_46 : decode cX2_faultOfPart 46 = .ok (.if_icmp .eq 22, 3) := by decide +kernel
theorem dX2_faultOfPart_49 : decode cX2_faultOfPart 49 = .ok (.aload_n 0, 1) := by decide +kernel
theorem dX2_faultOfPart_50 : decode cX2_faultOfPart 50 = .ok (.aload_n 0, 1) := by decide +kernel
theorem dX2_faultOfPart_51 : decode cX2_faultOfPart 51 = .ok (.iload_n 1, 1) := by decide +kernel
theorem dX2_faultOfPart_52 : decode cX2_faultOfPart 52 = .ok (.invokevirtual 51, 3) := by decide +kernel
theorem dX2_faultOfPart_55 : decode cX2_faultOfPart 55 = .ok (.aload_n 0, 1) := by decide +kernel
theorem dX2_faultOfPart_56 : decode cX2_faultOfPart 56 = .ok (.iload_n 1, 1) := by decide +kernel
theorem dX2_faultOfPart_57 : decode cX2_faultOfPart 57 = .ok (.iconst 2, 1) := by decide +kernel
theorem dX2_faultOfPart_58 : decode cX2_faultOfPart 58 = .ok (.iadd, 1) := by decide +kernel
theorem dX2_faultOfPart_59 : decode cX2_faultOfPart 59 = .ok (.invokevirtual 51, 3) := by decide +kernel
theorem dX2_faultOfPart_62 : decode cX2_faultOfPart 62 = .ok (.invokevirtual 58, 3) := by decide +kernel
theorem dX2_faultOfPart_65 : decode cX2_faultOfPart 65 = .ok (.ifCond .eq 7, 3) := by decide +kernel
theorem dX2_faultOfPart_68 : decode cX2_faultOfPart 68 = .ok (.iload_n 1, 1) := by decide +kernel
theorem dX2_faultOfPart_69 : decode cX2_faultOfPart 69 = .ok (.iconst 2, 1) := by decide +kernel
theorem dX2_faultOfPart_70 : decode cX2_faultOfPart 70 = .ok (.iadd, 1) := by decide +kernel
theorem dX2_faultOfPart_71 : decode cX2_faultOfPart 71 = .ok (.ireturn, 1) := by decide +kernel
theorem dX2_faultOfPart_72 : decode cX2_faultOfPart 72 = .ok (.iconst (-1), 1) := by decide +kernel
theorem dX2_faultOfPart_73 : decode cX2_faultOfPart 73 = .ok (.ireturn, 1) := by decide +kernel
theorem dX2_letterAt_0 : decode cX2_letterAt 0 = .ok (.iload_n 1, 1) := by decide +kernel
theorem dX2_letterAt_1 : decode cX2_letterAt 1 = .ok (.aload_n 0, 1) := by decide +kernel
theorem dX2_letterAt_2 : decode cX2_letterAt 2 = .ok (.getfield 25, 3) := by decide +kernel
theorem dX2_letterAt_5 : decode cX2_letterAt 5 = .ok (.if_icmp .ge 25, 3) := by decide +kernel
theorem dX2_letterAt_8 : decode cX2_letterAt 8 = .ok (.aload_n 0, 1) := by decide +kernel
theorem dX2_letterAt_9 : decode cX2_letterAt 9 = .ok (.getfield 9, 3) := by decide +kernel
theorem dX2_letterAt_12 : decode cX2_letterAt 12 = .ok (.iload_n 1, 1) := by decide +kernel
theorem dX2_letterAt_13 : decode cX2_letterAt 13 = .ok (.iaload, 1) := by decide +kernel
theorem dX2_letterAt_14 : decode cX2_letterAt 14 = .ok (.bipush 97, 2) := by decide +kernel
theorem dX2_letterAt_16 : decode cX2_letterAt 16 = .ok (.if_icmp .lt 14, 3) := by decide +kernel
theorem dX2_letterAt_19 : decode cX2_letterAt 19 = .ok (.aload_n 0, 1) := by decide +kernel
theorem dX2_letterAt_20 : decode cX2_letterAt 20 = .ok (.getfield 9, 3) := by decide +kernel
theorem dX2_letterAt_23 : decode cX2_letterAt 23 = .ok (.iload_n 1, 1) := by decide +kernel
theorem dX2_letterAt_24 : decode cX2_letterAt 24 = .ok (.iaload, 1) := by decide +kernel
theorem dX2_letterAt_25 : decode cX2_letterAt 25 = .ok (.bipush 103, 2) := by decide +kernel
theorem dX2_letterAt_27 : decode cX2_letterAt 27 = .ok (.if_icmp .le 5, 3) := by decide +kernel
theorem dX2_letterAt_30 : decode cX2_letterAt 30 = .ok (.iconst (-1), 1) := by decide +kernel
theorem dX2_letterAt_31 : decode cX2_letterAt 31 = .ok (.ireturn, 1) := by decide +kernel
theorem dX2_letterAt_32 : decode cX2_letterAt 32 = .ok (.aload_n 0, 1) := by decide +kernel
theorem dX2_letterAt_33 : decode cX2_letterAt 33 = .ok (.getfield 9, 3) := by decide +kernel
theorem dX2_letterAt_36 : decode cX2_letterAt 36 = .ok (.iload_n 1, 1) := by decide +kernel
theorem dX2_letterAt_37 : decode cX2_letterAt 37 = .ok (.iaload, 1) := by decide +kernel
theorem dX2_letterAt_38 : decode cX2_letterAt 38 = .ok (.bipush 97, 2) := by decide +kernel
theorem dX2_letterAt_40 : decode cX2_letterAt 40 = .ok (.isub, 1) := by decide +kernel
theorem dX2_letterAt_41 : decode cX2_letterAt 41 = .ok (.ireturn, 1) := by decide +kernel
theorem dX2_closesCircle_0 : decode cX2_closesCircle 0 = .ok (.iload_n 1, 1) := by decide +kernel
theorem dX2_closesCircle_1 : decode cX2_closesCircle 1 = .ok (.iload_n 2, 1) := by decide +kernel
theorem dX2_closesCircle_2 : decode cX2_closesCircle 2 = .ok (.if_icmp .eq 16, 3) := by decide +kernel
theorem dX2_closesCircle_5 : decode cX2_closesCircle 5 = .ok (.aload_n 0, 1) := by decide +kernel
theorem dX2_closesCircle_6 : decode cX2_closesCircle 6 = .ok (.getfield 18, 3) := by decide +kernel
theorem dX2_closesCircle_9 : decode cX2_closesCircle 9 = .ok (.iload_n 1, 1) := by decide +kernel
theorem dX2_closesCircle_10 : decode cX2_closesCircle 10 = .ok (.iaload, 1) := by decide +kernel
theorem dX2_closesCircle_11 : decode cX2_closesCircle 11 = .ok (.iconst 1, 1) := by decide +kernel
theorem dX2_closesCircle_12 : decode cX2_closesCircle 12 = .ok (.iload_n 2, 1) := by decide +kernel
theorem dX2_closesCircle_13 : decode cX2_closesCircle 13 = .ok (.ishl, 1) := by decide +kernel
theorem dX2_closesCircle_14 : decode cX2_closesCircle 14 = .ok (.iand, 1) := by decide +kernel
theorem dX2_closesCircle_15 : decode cX2_closesCircle 15 = .ok (.ifCond .eq 7, 3) := by decide +kernel
theorem dX2_closesCircle_18 : decode cX2_closesCircle 18 = .ok (.iconst 1, 1) := by decide +kernel
theorem dX2_closesCircle_19 : decode cX2_closesCircle 19 = .ok (.goto 4, 3) := by decide +kernel
theorem dX2_closesCircle_22 : decode cX2_closesCircle 22 = .ok (.iconst 0, 1) := by decide +kernel
theorem dX2_closesCircle_23 : decode cX2_closesCircle 23 = .ok (.ireturn, 1) := by decide +kernel
theorem dX2_tellPart_0 : decode cX2_tellPart 0 = .ok (.iload_n 1, 1) := by decide +kernel
theorem dX2_tellPart_1 : decode cX2_tellPart 1 = .ok (.ifCond .lt 7, 3) := by decide +kernel
theorem dX2_tellPart_4 : decode cX2_tellPart 4 = .ok (.iload_n 2, 1) := by decide +kernel
theorem dX2_tellPart_5 : decode cX2_tellPart 5 = .ok (.ifCond .ge 4, 3) := by decide +kernel
theorem dX2_tellPart_8 : decode cX2_tellPart 8 = .ok (.return_, 1) := by decide +kernel
theorem dX2_tellPart_9 : decode cX2_tellPart 9 = .ok (.aload_n 0, 1) := by decide +kernel
theorem dX2_tellPart_10 : decode cX2_tellPart 10 = .ok (.getfield 15, 3) := by decide +kernel
theorem dX2_tellPart_13 : decode cX2_tellPart 13 = .ok (.iload_n 2, 1) := by decide +kernel
theorem dX2_tellPart_14 : decode cX2_tellPart 14 = .ok (.dup2, 1) := by decide +kernel
theorem dX2_tellPart_15 : decode cX2_tellPart 15 = .ok (.iaload, 1) := by decide +kernel
theorem dX2_tellPart_16 : decode cX2_tellPart 16 = .ok (.iconst 1, 1) := by decide +kernel
theorem dX2_tellPart_17 : decode cX2_tellPart 17 = .ok (.iload_n 1, 1) := by decide +kernel
theorem dX2_tellPart_18 : decode cX2_tellPart 18 = .ok (.ishl, 1) := by decide +kernel
theorem dX2_tellPart_19 : decode cX2_tellPart 19 = .ok (.ior, 1) := by decide +kernel
theorem dX2_tellPart_20 : decode cX2_tellPart 20 = .ok (.iastore, 1) := by decide +kernel
theorem dX2_tellPart_21 : decode cX2_tellPart 21 = .ok (.aload_n 0, 1) := by decide +kernel
theorem dX2_tellPart_22 : decode cX2_tellPart 22 = .ok (.getfield 18, 3) := by decide +kernel
theorem dX2_tellPart_25 : decode cX2_tellPart 25 = .ok (.iload_n 1, 1) := by decide +kernel
theorem dX2_tellPart_26 : decode cX2_tellPart 26 = .ok (.iaload, 1) := by decide +kernel
theorem dX2_tellPart_27 : decode cX2_tellPart 27 = .ok (.iconst 1, 1) := by decide +kernel
theorem dX2_tellPart_28 : decode cX2_tellPart 28 = .ok (.iload_n 1, 1) := by decide +kernel
theorem dX2_tellPart_29 : decode cX2_tellPart 29 = .ok (.ishl, 1) := by decide +kernel
theorem dX2_tellPart_30 : decode cX2_tellPart 30 = .ok (.ior, 1) := by decide +kernel
theorem dX2_tellPart_31 : decode cX2_tellPart 31 = .ok (.istore_n 3, 1) := by decide +kernel
theorem dX2_tellPart_32 : decode cX2_tellPart 32 = .ok (.iconst 0, 1) := by decide +kernel
theorem dX2_tellPart_33 : decode cX2_tellPart 33 = .ok (.istore 4, 2) := by decide +kernel
theorem dX2_tellPart_35 : decode cX2_tellPart 35 = .ok (.iload 4, 2) := by decide +kernel
theorem dX2_tellPart_37 : decode cX2_tellPart 37 = .ok (.bipush 7, 2) := by decide +kernel
theorem dX2_tellPart_39 : decode cX2_tellPart 39 = .ok (.if_icmp .ge 40, 3) := by decide +kernel
theorem dX2_tellPart_42 : decode cX2_tellPart 42 = .ok (.iload 4, 2) := by decide +kernel
theorem dX2_tellPart_44 : decode cX2_tellPart 44 = .ok (.iload_n 2, 1) := by decide +kernel
theorem dX2_tellPart_45 : decode cX2_tellPart 45 = .ok (.if_icmp .eq 17, 3) := by decide +kernel
theorem dX2_tellPart_48 : decode cX2_tellPart 48 = .ok (.aload_n 0, 1) := by decide +kernel
theorem dX2_tellPart_49 : decode cX2_tellPart 49 = .ok (.getfield 18, 3) := by decide +kernel
theorem dX2_tellPart_52 : decode cX2_tellPart 52 = .ok (.iload 4, 2) := by decide +kernel
theorem dX2_tellPart_54 : decode cX2_tellPart 54 = .ok (.iaload, 1) := by decide +kernel
theorem dX2_tellPart_55 : decode cX2_tellPart 55 = .ok (.iconst 1, 1) := by decide +kernel
theorem dX2_tellPart_56 : decode cX2_tellPart 56 = .ok (.iload_n 2, 1) := by decide +kernel
theorem dX2_tellPart_57 : decode cX2_tellPart 57 = .ok (.ishl, 1) := by decide +kernel
theorem dX2_tellPart_58 : decode cX2_tellPart 58 = .ok (.iand, 1) := by decide +kernel
theorem dX2_tellPart_59 : decode cX2_tellPart 59 = .ok (.ifCond .eq 14, 3) := by decide +kernel
theorem dX2_tellPart_62 : decode cX2_tellPart 62 = .ok (.aload_n 0, 1) := by decide +kernel
