theorem dX7_set_0 : decode cX7_set 0 = .ok (.iload_n 1, 1) := by decide +kernel
theorem dX7_set_1 : decode cX7_set 1 = .ok (.iconst 4, 1) := by decide +kernel
theorem dX7_set_2 : decode cX7_set 2 = .ok (.invokestatic 62, 3) := by decide +kernel
theorem dX7_set_5 : decode cX7_set 5 = .ok (.ifCond .eq 21, 3) := by decide +kernel
theorem dX7_set_8 : decode cX7_set 8 = .ok (.iload_n 2, 1) := by decide +kernel
theorem dX7_set_9 : decode cX7_set 9 = .ok (.getstatic 66, 3) := by decide +kernel
theorem dX7_set_12 : decode cX7_set 12 = .ok (.iload_n 1, 1) := by decide +kernel
theorem dX7_set_13 : decode cX7_set 13 = .ok (.iaload, 1) := by decide +kernel
theorem dX7_set_14 : decode cX7_set 14 = .ok (.if_icmp .lt 12, 3) := by decide +kernel
theorem dX7_set_17 : decode cX7_set 17 = .ok (.iload_n 2, 1) := by decide +kernel
theorem dX7_set_18 : decode cX7_set 18 = .ok (.getstatic 69, 3) := by decide +kernel
theorem dX7_set_21 : decode cX7_set 21 = .ok (.iload_n 1, 1) := by decide +kernel
theorem dX7_set_22 : decode cX7_set 22 = .ok (.iaload, 1) := by decide +kernel
theorem dX7_set_23 : decode cX7_set 23 = .ok (.if_icmp .le 6, 3) := by decide +kernel
theorem dX7_set_26 : decode cX7_set 26 = .ok (.bipush (-2), 2) := by decide +kernel
theorem dX7_set_28 : decode cX7_set 28 = .ok (.ireturn, 1) := by decide +kernel
theorem dX7_set_29 : decode cX7_set 29 = .ok (.aload_n 0, 1) := by decide +kernel
theorem dX7_set_30 : decode cX7_set 30 = .ok (.getfield 9, 3) := by decide +kernel
theorem dX7_set_33 : decode cX7_set 33 = .ok (.iload_n 1, 1) := by decide +kernel
theorem dX7_set_34 : decode cX7_set 34 = .ok (.iaload, 1) := by decide +kernel
theorem dX7_set_35 : decode cX7_set 35 = .ok (.istore_n 3, 1) := by decide +kernel
theorem dX7_set_36 : decode cX7_set 36 = .ok (.aload_n 0, 1) := by decide +kernel
theorem dX7_set_37 : decode cX7_set 37 = .ok (.getfield 9, 3) := by decide +kernel
theorem dX7_set_40 : decode cX7_set 40 = .ok (.iload_n 1, 1) := by decide +kernel
theorem dX7_set_41 : decode cX7_set 41 = .ok (.iload_n 2, 1) := by decide +kernel
theorem dX7_set_42 : decode cX7_set 42 = .ok (.iastore, 1) := by decide +kernel
theorem dX7_set_43 : decode cX7_set 43 = .ok (.iload_n 1, 1) := by decide +kernel
theorem dX7_set_44 : decode cX7_set 44 = .ok (.ifCond .eq 8, 3) := by decide +kernel
theorem dX7_set_47 : decode cX7_set 47 = .ok (.iload_n 1, 1) := by decide +kernel
theorem dX7_set_48 : decode cX7_set 48 = .ok (.iconst 1, 1) := by decide +kernel
theorem dX7_set_49 : decode cX7_set 49 = .ok (.if_icmp .ne 30, 3) := by decide +kernel
theorem dX7_set_52 : decode cX7_set 52 = .ok (.aload_n 0, 1) := by decide +kernel
theorem dX7_set_53 : decode cX7_set 53 = .ok (.getfield 16, 3) := by decide +kernel
theorem dX7_set_56 : decode cX7_set 56 = .ok (.aload_n 0, 1) := by decide +kernel
theorem dX7_set_57 : decode cX7_set 57 = .ok (.getfield 9, 3) := by decide +kernel
theorem dX7_set_60 : decode cX7_set 60 = .ok (.iconst 0, 1) := by decide +kernel
theorem dX7_set_61 : decode cX7_set 61 = .ok (.iaload, 1) := by decide +kernel
theorem dX7_set_62 : decode cX7_set 62 = .ok (.aload_n 0, 1) := by decide +kernel
theorem dX7_set_63 : decode cX7_set 63 = .ok (.getfield 9, 3) := by decide +kernel
theorem dX7_set_66 : decode cX7_set 66 = .ok (.iconst 1, 1) := by decide +kernel
theorem dX7_set_67 : decode cX7_set 67 = .ok (.iaload, 1) := by decide +kernel
theorem dX7_set_68 : decode cX7_set 68 = .ok (.invokevirtual 72, 3) := by decide +kernel
theorem dX7_set_71 : decode cX7_set 71 = .ok (.aload_n 0, 1) := by decide +kernel
theorem dX7_set_72 : decode cX7_set 72 = .ok (.getfield 30, 3) := by decide +kernel
theorem dX7_set_75 : decode cX7_set 75 = .ok (.iconst 0, 1) := by decide +kernel
theorem dX7_set_76 : decode cX7_set 76 = .ok (.putfield 76, 3) := by decide +kernel
theorem dX7_set_79 : decode cX7_set 79 = .ok (.aload_n 0, 1) := by decide +kernel
theorem dX7_set_80 : decode cX7_set 80 = .ok (.getfield 37, 3) := by decide +kernel
theorem dX7_set_83 : decode cX7_set 83 = .ok (.iconst 0, 1) := by decide +kernel
theorem dX7_set_84 : decode cX7_set 84 = .ok (.putfield 80, 3) := by decide +kernel
theorem dX7_set_87 : decode cX7_set 87 = .ok (.iload_n 3, 1) := by decide +kernel
theorem dX7_set_88 : decode cX7_set 88 = .ok (.ireturn, 1) := by decide +kernel
theorem dX7_answer_0 : decode cX7_answer 0 = .ok (.iload_n 1, 1) := by decide +kernel
theorem dX7_answer_1 : decode cX7_answer 1 = .ok (.bipush 12, 2) := by decide +kernel
theorem dX7_answer_3 : decode cX7_answer 3 = .ok (.invokestatic 62, 3) := by decide +kernel
theorem dX7_answer_6 : decode cX7_answer 6 = .ok (.ifCond .eq 32, 3) := by decide +kernel
theorem dX7_answer_9 : decode cX7_answer 9 = .ok (.iload_n 2, 1) := by decide +kernel
theorem dX7_answer_10 : decode cX7_answer 10 = .ok (.bipush 7, 2) := by decide +kernel
theorem dX7_answer_12 : decode cX7_answer 12 = .ok (.invokestatic 62, 3) := by decide +kernel
theorem dX7_answer_15 : decode cX7_answer 15 = .ok (.ifCond .eq 23, 3) := by decide +kernel
theorem dX7_answer_18 : decode cX7_answer 18 = .ok (.iload_n 3, 1) := by decide +kernel
theorem dX7_answer_19 : decode cX7_answer 19 = .ok (.iconst 3, 1) := by decide +kernel
theorem dX7_answer_20 : decode cX7_answer 20 = .ok (.invokestatic 62, 3) := by decide +kernel
theorem dX7_answer_23 : decode cX7_answer 23 = .ok (.ifCond .eq 15, 3) := by decide +kernel
theorem dX7_answer_26 : decode cX7_answer 26 = .ok (.aload_n 0, 1) := by decide +kernel
theorem dX7_answer_27 : decode cX7_answer 27 = .ok (.getfield 16, 3) := by decide +kernel
theorem dX7_answer_30 : decode cX7_answer 30 = .ok (.iload 4, 2) := by decide +kernel
theorem dX7_answer_32 : decode cX7_answer 32 = .ok (.invokevirtual 81, 3) := by decide +kernel
theorem dX7_answer_35 : decode cX7_answer 35 = .ok (.ifCond .ne 6, 3) := by decide +kernel
theorem dX7_answer_38 : decode cX7_answer 38 = .ok (.bipush (-2), 2) := by decide +kernel
theorem dX7_answer_40 : decode cX7_answer 40 = .ok (.ireturn, 1) := by decide +kernel
theorem dX7_answer_41 : decode cX7_answer 41 = .ok (.aload_n 0, 1) := by decide +kernel
theorem dX7_answer_42 : decode cX7_answer 42 = .ok (.getfield 16, 3) := by decide +kernel
theorem dX7_answer_45 : decode cX7_answer 45 = .ok (.invokevirtual 85, 3) := by decide +kernel
theorem dX7_answer_48 : decode cX7_answer 48 = .ok (.ifCond .eq 6, 3) := by decide +kernel
theorem dX7_answer_51 : decode cX7_answer 51 = .ok (.bipush (-4), 2) := by decide +kernel
theorem dX7_answer_53 : decode cX7_answer 53 = .ok (.ireturn, 1) := by decide +kernel
theorem dX7_answer_54 : decode cX7_answer 54 = .ok (.aload_n 0, 1) := by decide +kernel
theorem dX7_answer_55 : decode cX7_answer 55 = .ok (.iload_n 1, 1) := by decide +kernel
theorem dX7_answer_56 : decode cX7_answer 56 = .ok (.iload_n 2, 1) := by decide +kernel
theorem dX7_answer_57 : decode cX7_answer 57 = .ok (.iload_n 3, 1) := by decide +kernel
theorem dX7_answer_58 : decode cX7_answer 58 = .ok (.iload 4, 2) := by decide +kernel
theorem dX7_answer_60 : decode cX7_answer 60 = .ok (.invokevirtual 89, 3) := by decide +kernel
theorem dX7_answer_63 : decode cX7_answer 63 = .ok (.aload_n 0, 1) := by decide +kernel
theorem dX7_answer_64 : decode cX7_answer 64 = .ok (.getfield 16, 3) := by decide +kernel
theorem dX7_answer_67 : decode cX7_answer 67 = .ok (.getfield 93, 3) := by decide +kernel
theorem dX7_answer_70 : decode cX7_answer 70 = .ok (.ireturn, 1) := by decide +kernel
theorem dX7_read_0 : decode cX7_read 0 = .ok (.iload_n 1, 1) := by decide +kernel
theorem dX7_read_1 : decode cX7_read 1 = .ok (.iconst 4, 1) := by decide +kernel
theorem dX7_read_2 : decode cX7_read 2 = .ok (.invokestatic 62, 3) := by decide +kernel
theorem dX7_read_5 : decode cX7_read 5 = .ok (.ifCond .eq 23, 3) := by decide +kernel
theorem dX7_read_8 : decode cX7_read 8 = .ok (.iload_n 2, 1) := by decide +kernel
theorem dX7_read_9 : decode cX7_read 9 = .ok (.bipush 12, 2) := by decide +kernel
theorem dX7_read_11 : decode cX7_read 11 = .ok (.invokestatic 62, 3) := by decide +kernel
theorem dX7_read_14 : decode cX7_read 14 = .ok (.ifCond .eq 14, 3) := by decide +kernel
theorem dX7_read_17 : decode cX7_read 17 = .ok (.aload_n 0, 1) := by decide +kernel
theorem dX7_read_18 : decode cX7_read 18 = .ok (.getfield 16, 3) := by decide +kernel
theorem dX7_read_21 : decode cX7_read 21 = .ok (.iload_n 3, 1) := by decide +kernel
theorem dX7_read_22 : decode cX7_read 22 = .ok (.invokevirtual 81, 3) := by decide +kernel
theorem dX7_read_25 : decode cX7_read 25 = .ok (.ifCond .ne 6, 3) := by decide +kernel
theorem dX7_read_28 : decode cX7_read 28 = .ok (.bipush (-2), 2) := by decide +kernel
theorem dX7_read_30 : decode cX7_read 30 = .ok (.ireturn, 1) := by decide +kernel
theorem dX7_read_31 : decode cX7_read 31 = .ok (.aload_n 0, 1) := by decide +kernel
theorem dX7_read_32 : decode cX7_read 32 = .ok (.getfield 57, 3) := by decide +kernel
theorem dX7_read_35 : decode cX7_read 35 = .ok (.iload_n 1, 1) := by decide +kernel
theorem dX7_read_36 : decode cX7_read 36 = .ok (.aaload, 1) := by decide +kernel
theorem dX7_read_37 : decode cX7_read 37 = .ok (.astore 4, 2) := by decide +kernel
theorem dX7_read_39 : decode cX7_read 39 = .ok (.aload 4, 2) := by decide +kernel
theorem dX7_read_41 : decode cX7_read 41 = .ok (.getfield 97, 3) := by decide +kernel
theorem dX7_read_44 : decode cX7_read 44 = .ok (.ifCond .eq 9, 3) := by decide +kernel
theorem dX7_read_47 : decode cX7_read 47 = .ok (.aload_n 0, 1) := by decide +kernel
theorem dX7_read_48 : decode cX7_read 48 = .ok (.iconst 1, 1) := by decide +kernel
theorem dX7_read_49 : decode cX7_read 49 = .ok (.invokevirtual 100, 3) := by decide +kernel
theorem dX7_read_52 : decode cX7_read 52 = .ok (.ireturn, 1) := by decide +kernel
theorem dX7_read_53 : decode cX7_read 53 = .ok (.bipush 7, 2) := by decide +kernel
theorem dX7_read_55 : decode cX7_read 55 = .ok (.aload 4, 2) := by decide +kernel
theorem dX7_read_57 : decode cX7_read 57 = .ok (.getfield 104, 3) := by decide +kernel
theorem dX7_read_60 : decode cX7_read 60 = .ok (.invokestatic 107, 3) := by decide +kernel
theorem dX7_read_63 : decode cX7_read 63 = .ok (.istore 5, 2) := by decide +kernel
theorem dX7_read_65 : decode cX7_read 65 = .ok (.iconst 0, 1) := by decide +kernel
theorem dX7_read_66 : decode cX7_read 66 = .ok (.istore 6, 2) := by decide +kernel
theorem dX7_read_68 : decode cX7_read 68 = .ok (.iload 6, 2) := by decide +kernel
theorem dX7_read_70 : decode cX7_read 70 = .ok (.iload 5, 2) := by decide +kernel
theorem dX7_read_72 : decode cX7_read 72 = .ok (.if_icmp .ge 51, 3) := by decide +kernel
theorem dX7_read_75 : decode cX7_read 75 = .ok (.aload 4, 2) := by decide +kernel
theorem dX7_read_77 : decode cX7_read 77 = .ok (.getfield 113, 3) := by decide +kernel
theorem dX7_read_80 : decode cX7_read 80 = .ok (.iload 6, 2) := by decide +kernel
theorem dX7_read_82 : decode cX7_read 82 = .ok (.iaload, 1) := by decide +kernel
theorem dX7_read_83 : decode cX7_read 83 = .ok (.istore 7, 2) := by decide +kernel
theorem dX7_read_85 : decode cX7_read 85 = .ok (.iload 7, 2) := by decide +kernel
theorem dX7_read_87 : decode cX7_read 87 = .ok (.iconst 3, 1) := by decide +kernel
theorem dX7_read_88 : decode cX7_read 88 = .ok (.invokestatic 62, 3) := by decide +kernel
theorem dX7_read_91 : decode cX7_read 91 = .ok (.ifCond .eq 13, 3) := by decide +kernel
theorem dX7_read_94 : decode cX7_read 94 = .ok (.aload_n 0, 1) := by decide +kernel
theorem dX7_read_95 : decode cX7_read 95 = .ok (.getfield 16, 3) := by decide +kernel
theorem dX7_read_98 : decode cX7_read 98 = .ok (.invokevirtual 85, 3) := by decide +kernel
theorem dX7_read_101 : decode cX7_read 101 = .ok (.ifCond .eq 6, 3) := by decide +kernel
theorem dX7_read_104 : decode cX7_read 104 = .ok (.iload 6, 2) := by decide +kernel
theorem dX7_read_106 : decode cX7_read 106 = .ok (.ireturn, 1) := by decide +kernel
theorem dX7_read_107 : decode cX7_read 107 = .ok (.aload_n 0, 1) := by decide +kernel
theorem dX7_read_108 : decode cX7_read 108 = .ok (.iload_n 2, 1) := by decide +kernel
theorem dX7_read_109 : decode cX7_read 109 = .ok (.iload 6, 2) := by decide +kernel
theorem dX7_read_111 : decode cX7_read 111 = .ok (.iload 7, 2) := by decide +kernel
theorem dX7_read_113 : decode cX7_read 113 = .ok (.iload_n 3, 1) := by decide +kernel
theorem dX7_read_114 : decode cX7_read 114 = .ok (.invokevirtual 89, 3) := by decide +kernel
theorem dX7_read_117 : decode cX7_read 117 = .ok (.iinc 6 1, 3) := by decide +kernel
theorem dX7_read_120 : decode cX7_read 120 = .ok (.goto (-52), 3) := by decide +kernel
theorem dX7_read_123 : decode cX7_read 123 = .ok (.iload 5, 2) := by decide +kernel
theorem dX7_read_125 : decode cX7_read 125 = .ok (.ireturn, 1) := by decide +kernel
theorem dX7_said_0 : decode cX7_said 0 = .ok (.iload_n 1, 1) := by decide +kernel
theorem dX7_said_1 : decode cX7_said 1 = .ok (.bipush 12, 2) := by decide +kernel
theorem dX7_said_3 : decode cX7_said 3 = .ok (.invokestatic 62, 3) := by decide +kernel
theorem dX7_said_6 : decode cX7_said 6 = .ok (.ifCond .eq 12, 3) := by decide +kernel
theorem dX7_said_9 : decode cX7_said 9 = .ok (.iload_n 2, 1) := by decide +kernel
theorem dX7_said_10 : decode cX7_said 10 = .ok (.bipush 7, 2) := by decide +kernel
theorem dX7_said_12 : decode cX7_said 12 = .ok (.invokestatic 62, 3) := by decide +kernel
theorem dX7_said_15 : decode cX7_said 15 = .ok (.ifCond .ne 6, 3) := by decide +kernel
theorem dX7_said_18 : decode cX7_said 18 = .ok (.bipush (-2), 2) := by decide +kernel
theorem dX7_said_20 : decode cX7_said 20 = .ok (.ireturn, 1) := by decide +kernel
theorem dX7_said_21 : decode cX7_said 21 = .ok (.aload_n 0, 1) := by decide +kernel
theorem dX7_said_22 : decode cX7_said 22 = .ok (.getfield 16, 3) := by decide +kernel
theorem dX7_said_25 : decode cX7_said 25 = .ok (.iload_n 1, 1) := by decide +kernel
theorem dX7_said_26 : decode cX7_said 26 = .ok (.iload_n 2, 1) := by decide +kernel
theorem dX7_said_27 : decode cX7_said 27 = .ok (.invokevirtual 116, 3) := by decide +kernel
theorem dX7_said_30 : decode cX7_said 30 = .ok (.ireturn, 1) := by decide +kernel
theorem dX7_type_0 : decode cX7_type 0 = .ok (.iload_n 1, 1) := by decide +kernel
theorem dX7_type_1 : decode cX7_type 1 = .ok (.sipush 256, 3) := by decide +kernel
theorem dX7_type_4 : decode cX7_type 4 = .ok (.invokestatic 62, 3) := by decide +kernel
theorem dX7_type_7 : decode cX7_type 7 = .ok (.ifCond .ne 6, 3) := by decide +kernel
theorem dX7_type_10 : decode cX7_type 10 = .ok (.bipush (-2), 2) := by decide +kernel
theorem dX7_type_12 : decode cX7_type 12 = .ok (.ireturn, 1) := by decide +kernel
theorem dX7_type_13 : decode cX7_type 13 = .ok (.aload_n 0, 1) := by decide +kernel
theorem dX7_type_14 : decode cX7_type 14 = .ok (.getfield 23, 3) := by decide +kernel
theorem dX7_type_17 : decode cX7_type 17 = .ok (.getfield 119, 3) := by decide +kernel
theorem dX7_type_20 : decode cX7_type 20 = .ok (.bipush 60, 2) := by decide +kernel
theorem dX7_type_22 : decode cX7_type 22 = .ok (.if_icmp .lt 6, 3) := by decide +kernel
theorem dX7_type_25 : decode cX7_type 25 = .ok (.bipush (-4), 2) := by decide +kernel
theorem dX7_type_27 : decode cX7_type 27 = .ok (.ireturn, 1) := by decide +kernel
theorem dX7_type_28 : decode cX7_type 28 = .ok (.aload_n 0, 1) := by decide +kernel
theorem dX7_type_29 : decode cX7_type 29 = .ok (.getfield 23, 3) := by decide +kernel
theorem dX7_type_32 : decode cX7_type 32 = .ok (.iload_n 1, 1) := by decide +kernel
theorem dX7_type_33 : decode cX7_type 33 = .ok (.invokevirtual 122, 3) := by decide +kernel
theorem dX7_type_36 : decode cX7_type 36 = .ok (.aload_n 0, 1) := by decide +kernel
theorem dX7_type_37 : decode cX7_type 37 = .ok (.getfield 37, 3) := by decide +kernel
theorem dX7_type_40 : decode cX7_type 40 = .ok (.iconst 0, 1) := by decide +kernel
theorem dX7_type_41 : decode cX7_type 41 = .ok (.putfield 80, 3) := by decide +kernel
theorem dX7_type_44 : decode cX7_type 44 = .ok (.aload_n 0, 1) := by decide +kernel
theorem dX7_type_45 : decode cX7_type 45 = .ok (.getfield 23, 3) := by decide +kernel
theorem dX7_type_48 : decode cX7_type 48 = .ok (.getfield 119, 3) := by decide +kernel
theorem dX7_type_51 : decode cX7_type 51 = .ok (.ireturn, 1) := by decide +kernel
theorem dX7_wipe_0 : decode cX7_wipe 0 = .ok (.aload_n 0, 1) := by decide +kernel
theorem dX7_wipe_1 : decode cX7_wipe 1 = .ok (.getfield 23, 3) := by decide +kernel
theorem dX7_wipe_4 : decode cX7_wipe 4 = .ok (.getfield 119, 3) := by decide +kernel
theorem dX7_wipe_7 : decode cX7_wipe 7 = .ok (.istore_n 1, 1) := by decide +kernel
theorem dX7_wipe_8 : decode cX7_wipe 8 = .ok (.aload_n 0, 1) := by decide +kernel
theorem dX7_wipe_9 : decode cX7_wipe 9 = .ok (.getfield 23, 3) := by decide +kernel
theorem dX7_wipe_12 : decode cX7_wipe 12 = .ok (.invokevirtual 126, 3) := by decide +kernel
theorem dX7_wipe_15 : decode cX7_wipe 15 = .ok (.aload_n 0, 1) := by decide +kernel
theorem dX7_wipe_16 : decode cX7_wipe 16 = .ok (.getfield 37, 3) := by decide +kernel
theorem dX7_wipe_19 : decode cX7_wipe 19 = .ok (.iconst 0, 1) := by decide +kernel
theorem dX7_wipe_20 : decode cX7_wipe 20 = .ok (.putfield 80, 3) := by decide +kernel
theorem dX7_wipe_23 : decode cX7_wipe 23 = .ok (.iload_n 1, 1) := by decide +kernel
theorem dX7_wipe_24 : decode cX7_wipe 24 = .ok (.ireturn, 1) := by decide +kernel
theorem dX7_fault_0 : decode cX7_fault 0 = .ok (.aload_n 0, 1) := by decide +kernel
theorem dX7_fault_1 : decode cX7_fault 1 = .ok (.getfield 23, 3) := by decide +kernel
theorem dX7_fault_4 : decode cX7_fault 4 = .ok (.getfield 129, 3) := by decide +kernel
theorem dX7_fault_7 : decode cX7_fault 7 = .ok (.ireturn, 1) := by decide +kernel
theorem dX7_needed_0 : decode cX7_needed 0 = .ok (.aload_n 0, 1) := by decide +kernel
theorem dX7_needed_1 : decode cX7_needed 1 = .ok (.iload_n 1, 1) := by decide +kernel
theorem dX7_needed_2 : decode cX7_needed 2 = .ok (.invokevirtual 132, 3) := by decide +kernel
theorem dX7_needed_5 : decode cX7_needed 5 = .ok (.ifCond .eq 24, 3) := by decide +kernel
theorem dX7_needed_8 : decode cX7_needed 8 = .ok (.aload_n 0, 1) := by decide +kernel
theorem dX7_needed_9 : decode cX7_needed 9 = .ok (.iload_n 2, 1) := by decide +kernel
theorem dX7_needed_10 : decode cX7_needed 10 = .ok (.invokevirtual 132, 3) := by decide +kernel
theorem dX7_needed_13 : decode cX7_needed 13 = .ok (.ifCond .eq 16, 3) := by decide +kernel
theorem dX7_needed_16 : decode cX7_needed 16 = .ok (.iload_n 1, 1) := by decide +kernel
theorem dX7_needed_17 : decode cX7_needed 17 = .ok (.iload_n 2, 1) := by decide +kernel
theorem dX7_needed_18 : decode cX7_needed 18 = .ok (.if_icmp .eq 11, 3) := by decide +kernel
theorem dX7_needed_21 : decode cX7_needed 21 = .ok (.iload_n 3, 1) := by decide +kernel
theorem dX7_needed_22 : decode cX7_needed 22 = .ok (.iconst 2, 1) := by decide +kernel
theorem dX7_needed_23 : decode cX7_needed 23 = .ok (.invokestatic 62, 3) := by decide +kernel
theorem dX7_needed_26 : decode cX7_needed 26 = .ok (.ifCond .ne 6, 3) := by decide +kernel
theorem dX7_needed_29 : decode cX7_needed 29 = .ok (.bipush (-2), 2) := by decide +kernel
theorem dX7_needed_31 : decode cX7_needed 31 = .ok (.ireturn, 1) := by decide +kernel
theorem dX7_needed_32 : decode cX7_needed 32 = .ok (.aload_n 0, 1) := by decide +kernel
theorem dX7_needed_33 : decode cX7_needed 33 = .ok (.iload_n 2, 1) := by decide +kernel
theorem dX7_needed_34 : decode cX7_needed 34 = .ok (.iload_n 3, 1) := by decide +kernel
theorem dX7_needed_35 : decode cX7_needed 35 = .ok (.invokevirtual 135, 3) := by decide +kernel
theorem dX7_needed_38 : decode cX7_needed 38 = .ok (.iconst 1, 1) := by decide +kernel
theorem dX7_needed_39 : decode cX7_needed 39 = .ok (.iload_n 1, 1) := by decide +kernel
theorem dX7_needed_40 : decode cX7_needed 40 = .ok (.ishl, 1) := by decide +kernel
theorem dX7_needed_41 : decode cX7_needed 41 = .ok (.iand, 1) := by decide +kernel
theorem dX7_needed_42 : decode cX7_needed 42 = .ok (.ifCond .eq 7, 3) := by decide +kernel
theorem dX7_needed_45 : decode cX7_needed 45 = .ok (.iconst 1, 1) := by decide +kernel
theorem dX7_needed_46 : decode cX7_needed 46 = .ok (.goto 4, 3) := by decide +kernel
theorem dX7_needed_49 : decode cX7_needed 49 = .ok (.iconst 0, 1) := by decide +kernel
theorem dX7_needed_50 : decode cX7_needed 50 = .ok (.ireturn, 1) := by decide +kernel
theorem dX7_errors_0 : decode cX7_errors 0 = .ok (.iload_n 1, 1) := by decide +kernel
theorem dX7_errors_1 : decode cX7_errors 1 = .ok (.bipush 12, 2) := by decide +kernel
theorem dX7_errors_3 : decode cX7_errors 3 = .ok (.invokestatic 62, 3) := by decide +kernel
theorem dX7_errors_6 : decode cX7_errors 6 = .ok (.ifCond .eq 13, 3) := by decide +kernel
theorem dX7_errors_9 : decode cX7_errors 9 = .ok (.iload_n 2, 1) := by decide +kernel
theorem dX7_errors_10 : decode cX7_errors 10 = .ok (.sipush 128, 3) := by decide +kernel
theorem dX7_errors_13 : decode cX7_errors 13 = .ok (.invokestatic 62, 3) := by decide +kernel
theorem dX7_errors_16 : decode cX7_errors 16 = .ok (.ifCond .ne 6, 3) := by decide +kernel
theorem dX7_errors_19 : decode cX7_errors 19 = .ok (.bipush (-2), 2) := by decide +kernel
theorem dX7_errors_21 : decode cX7_errors 21 = .ok (.ireturn, 1) := by decide +kernel
theorem dX7_errors_22 : decode cX7_errors 22 = .ok (.aload_n 0, 1) := by decide +kernel
theorem dX7_errors_23 : decode cX7_errors 23 = .ok (.getfield 16, 3) := by decide +kernel
theorem dX7_errors_26 : decode cX7_errors 26 = .ok (.iload_n 1, 1) := by decide +kernel
theorem dX7_errors_27 : decode cX7_errors 27 = .ok (.iload_n 2, 1) := by decide +kernel
theorem dX7_errors_28 : decode cX7_errors 28 = .ok (.invokevirtual 138, 3) := by decide +kernel
theorem dX7_errors_31 : decode cX7_errors 31 = .ok (.ireturn, 1) := by decide +kernel
theorem dX7_off_0 : decode cX7_off 0 = .ok (.iload_n 1, 1) := by decide +kernel
theorem dX7_off_1 : decode cX7_off 1 = .ok (.iconst 2, 1) := by decide +kernel
theorem dX7_off_2 : decode cX7_off 2 = .ok (.invokestatic 62, 3) := by decide +kernel
theorem dX7_off_5 : decode cX7_off 5 = .ok (.ifCond .ne 6, 3) := by decide +kernel
theorem dX7_off_8 : decode cX7_off 8 = .ok (.bipush (-2), 2) := by decide +kernel
theorem dX7_off_10 : decode cX7_off 10 = .ok (.ireturn, 1) := by decide +kernel
theorem dX7_off_11 : decode cX7_off 11 = .ok (.aload_n 0, 1) := by decide +kernel
theorem dX7_off_12 : decode cX7_off 12 = .ok (.getfield 30, 3) := by decide +kernel
theorem dX7_off_15 : decode cX7_off 15 = .ok (.aload_n 0, 1) := by decide +kernel
theorem dX7_off_16 : decode cX7_off 16 = .ok (.getfield 16, 3) := by decide +kernel
theorem dX7_off_19 : decode cX7_off 19 = .ok (.invokevirtual 141, 3) := by decide +kernel
theorem dX7_off_22 : decode cX7_off 22 = .ok (.iload_n 1, 1) := by decide +kernel
theorem dX7_off_23 : decode cX7_off 23 = .ok (.ifCond .ne 13, 3) := by decide +kernel
theorem dX7_off_26 : decode cX7_off 26 = .ok (.aload_n 0, 1) := by decide +kernel
theorem dX7_off_27 : decode cX7_off 27 = .ok (.getfield 30, 3) := by decide +kernel
theorem dX7_off_30 : decode cX7_off 30 = .ok (.getfield 145, 3) := by decide +kernel
theorem dX7_off_33 : decode cX7_off 33 = .ok (.goto 10, 3) := by decide +kernel
theorem dX7_off_36 : decode cX7_off 36 = .ok (.aload_n 0, 1) := by decide +kernel
theorem dX7_off_37 : decode cX7_off 37 = .ok (.getfield 30, 3) := by decide +kernel
theorem dX7_off_40 : decode cX7_off 40 = .ok (.getfield 148, 3) := by decide +kernel
theorem dX7_off_43 : decode cX7_off 43 = .ok (.ireturn, 1) := by decide +kernel
theorem dX7_row_0 : decode cX7_row 0 = .ok (.aload_n 0, 1) := by decide +kernel
theorem dX7_row_1 : decode cX7_row 1 = .ok (.iload_n 1, 1) := by decide +kernel
theorem dX7_row_2 : decode cX7_row 2 = .ok (.invokevirtual 132, 3) := by decide +kernel
theorem dX7_row_5 : decode cX7_row 5 = .ok (.ifCond .ne 6, 3) := by decide +kernel
theorem dX7_row_8 : decode cX7_row 8 = .ok (.bipush (-2), 2) := by decide +kernel
theorem dX7_row_10 : decode cX7_row 10 = .ok (.ireturn, 1) := by decide +kernel
theorem dX7_row_11 : decode cX7_row 11 = .ok (.aload_n 0, 1) := by decide +kernel
theorem dX7_row_12 : decode cX7_row 12 = .ok (.getfield 30, 3) := by decide +kernel
theorem dX7_row_15 : decode cX7_row 15 = .ok (.aload_n 0, 1) := by decide +kernel
theorem dX7_row_16 : decode cX7_row 16 = .ok (.getfield 16, 3) := by decide +kernel
theorem dX7_row_19 : decode cX7_row 19 = .ok (.invokevirtual 141, 3) := by decide +kernel
theorem dX7_row_22 : decode cX7_row 22 = .ok (.aload_n 0, 1) := by decide +kernel
theorem dX7_row_23 : decode cX7_row 23 = .ok (.getfield 30, 3) := by decide +kernel
theorem dX7_row_26 : decode cX7_row 26 = .ok (.getfield 151, 3) := by decide +kernel
theorem dX7_row_29 : decode cX7_row 29 = .ok (.iload_n 1, 1) := by decide +kernel
theorem dX7_row_30 : decode cX7_row 30 = .ok (.iaload, 1) := by decide +kernel
theorem dX7_row_31 : decode cX7_row 31 = .ok (.ireturn, 1) := by decide +kernel
theorem dX7_step_0 : decode cX7_step 0 = .ok (.iload_n 1, 1) := by decide +kernel
theorem dX7_step_1 : decode cX7_step 1 = .ok (.bipush 12, 2) := by decide +kernel
theorem dX7_step_3 : decode cX7_step 3 = .ok (.invokestatic 62, 3) := by decide +kernel
theorem dX7_step_6 : decode cX7_step 6 = .ok (.ifCond .eq 11, 3) := by decide +kernel
theorem dX7_step_9 : decode cX7_step 9 = .ok (.iload_n 2, 1) := by decide +kernel
theorem dX7_step_10 : decode cX7_step 10 = .ok (.iconst 2, 1) := by decide +kernel
theorem dX7_step_11 : decode cX7_step 11 = .ok (.invokestatic 62, 3) := by decide +kernel
theorem dX7_step_14 : decode cX7_step 14 = .ok (.ifCond .ne 6, 3) := by decide +kernel
theorem dX7_step_17 : decode cX7_step 17 = .ok (.bipush (-2), 2) := by decide +kernel
theorem dX7_step_19 : decode cX7_step 19 = .ok (.ireturn, 1) := by decide +kernel
theorem dX7_step_20 : decode cX7_step 20 = .ok (.aload_n 0, 1) := by decide +kernel
theorem dX7_step_21 : decode cX7_step 21 = .ok (.getfield 30, 3) := by decide +kernel
theorem dX7_step_24 : decode cX7_step 24 = .ok (.aload_n 0, 1) := by decide +kernel
theorem dX7_step_25 : decode cX7_step 25 = .ok (.getfield 16, 3) := by decide +kernel
theorem dX7_step_28 : decode cX7_step 28 = .ok (.invokevirtual 141, 3) := by decide +kernel
theorem dX7_step_31 : decode cX7_step 31 = .ok (.iload_n 2, 1) := by decide +kernel
theorem dX7_step_32 : decode cX7_step 32 = .ok (.ifCond .ne 21, 3) := by decide +kernel
theorem dX7_step_35 : decode cX7_step 35 = .ok (.aload_n 0, 1) := by decide +kernel
theorem dX7_step_36 : decode cX7_step 36 = .ok (.getfield 16, 3) := by decide +kernel
theorem dX7_step_39 : decode cX7_step 39 = .ok (.iload_n 1, 1) := by decide +kernel
theorem dX7_step_40 : decode cX7_step 40 = .ok (.aload_n 0, 1) := by decide +kernel
theorem dX7_step_41 : decode cX7_step 41 = .ok (.getfield 30, 3) := by decide +kernel
theorem dX7_step_44 : decode cX7_step 44 = .ok (.getfield 151, 3) := by decide +kernel
theorem dX7_step_47 : decode cX7_step 47 = .ok (.invokevirtual 154, 3) := by decide +kernel
theorem dX7_step_50 : decode cX7_step 50 = .ok (.goto 18, 3) := by decide +kernel
theorem dX7_step_53 : decode cX7_step 53 = .ok (.aload_n 0, 1) := by decide +kernel
theorem dX7_step_54 : decode cX7_step 54 = .ok (.getfield 16, 3) := by decide +kernel
theorem dX7_step_57 : decode cX7_step 57 = .ok (.iload_n 1, 1) := by decide +kernel
theorem dX7_step_58 : decode cX7_step 58 = .ok (.aload_n 0, 1) := by decide +kernel
theorem dX7_step_59 : decode cX7_step 59 = .ok (.getfield 30, 3) := by decide +kernel
theorem dX7_step_62 : decode cX7_step 62 = .ok (.getfield 151, 3) := by decide +kernel
theorem dX7_step_65 : decode cX7_step 65 = .ok (.invokevirtual 158, 3) := by decide +kernel
theorem dX7_step_68 : decode cX7_step 68 = .ok (.ireturn, 1) := by decide +kernel
theorem dX7_offBy_0 : decode cX7_offBy 0 = .ok (.iload_n 1, 1) := by decide +kernel
theorem dX7_offBy_1 : decode cX7_offBy 1 = .ok (.iconst 4, 1) := by decide +kernel
theorem dX7_offBy_2 : decode cX7_offBy 2 = .ok (.invokestatic 62, 3) := by decide +kernel
theorem dX7_offBy_5 : decode cX7_offBy 5 = .ok (.ifCond .ne 6, 3) := by decide +kernel
theorem dX7_offBy_8 : decode cX7_offBy 8 = .ok (.bipush (-2), 2) := by decide +kernel
theorem dX7_offBy_10 : decode cX7_offBy 10 = .ok (.ireturn, 1) := by decide +kernel
theorem dX7_offBy_11 : decode cX7_offBy 11 = .ok (.aload_n 0, 1) := by decide +kernel
theorem dX7_offBy_12 : decode cX7_offBy 12 = .ok (.getfield 57, 3) := by decide +kernel
theorem dX7_offBy_15 : decode cX7_offBy 15 = .ok (.iload_n 1, 1) := by decide +kernel
theorem dX7_offBy_16 : decode cX7_offBy 16 = .ok (.aaload, 1) := by decide +kernel
theorem dX7_offBy_17 : decode cX7_offBy 17 = .ok (.astore_n 2, 1) := by decide +kernel
theorem dX7_offBy_18 : decode cX7_offBy 18 = .ok (.aload_n 2, 1) := by decide +kernel
theorem dX7_offBy_19 : decode cX7_offBy 19 = .ok (.getfield 97, 3) := by decide +kernel
theorem dX7_offBy_22 : decode cX7_offBy 22 = .ok (.ifCond .eq 9, 3) := by decide +kernel
theorem dX7_offBy_25 : decode cX7_offBy 25 = .ok (.aload_n 0, 1) := by decide +kernel
theorem dX7_offBy_26 : decode cX7_offBy 26 = .ok (.iconst 1, 1) := by decide +kernel
theorem dX7_offBy_27 : decode cX7_offBy 27 = .ok (.invokevirtual 100, 3) := by decide +kernel
theorem dX7_offBy_30 : decode cX7_offBy 30 = .ok (.ireturn, 1) := by decide +kernel
theorem dX7_offBy_31 : decode cX7_offBy 31 = .ok (.aload_n 0, 1) := by decide +kernel
theorem dX7_offBy_32 : decode cX7_offBy 32 = .ok (.aload_n 2, 1) := by decide +kernel
theorem dX7_offBy_33 : decode cX7_offBy 33 = .ok (.invokevirtual 161, 3) := by decide +kernel
theorem dX7_offBy_36 : decode cX7_offBy 36 = .ok (.ifCond .ne 6, 3) := by decide +kernel
theorem dX7_offBy_39 : decode cX7_offBy 39 = .ok (.bipush (-3), 2) := by decide +kernel
theorem dX7_offBy_41 : decode cX7_offBy 41 = .ok (.ireturn, 1) := by decide +kernel
theorem dX7_offBy_42 : decode cX7_offBy 42 = .ok (.iconst 0, 1) := by decide +kernel
theorem dX7_offBy_43 : decode cX7_offBy 43 = .ok (.istore_n 3, 1) := by decide +kernel
theorem dX7_offBy_44 : decode cX7_offBy 44 = .ok (.iconst 0, 1) := by decide +kernel
theorem dX7_offBy_45 : decode cX7_offBy 45 = .ok (.istore 4, 2) := by decide +kernel
theorem dX7_offBy_47 : decode cX7_offBy 47 = .ok (.iload 4, 2) := by decide +kernel
theorem dX7_offBy_49 : decode cX7_offBy 49 = .ok (.bipush 12, 2) := by decide +kernel
theorem dX7_offBy_51 : decode cX7_offBy 51 = .ok (.if_icmp .ge 25, 3) := by decide +kernel
theorem dX7_offBy_54 : decode cX7_offBy 54 = .ok (.iload_n 3, 1) := by decide +kernel
theorem dX7_offBy_55 : decode cX7_offBy 55 = .ok (.aload_n 0, 1) := by decide +kernel
theorem dX7_offBy_56 : decode cX7_offBy 56 = .ok (.getfield 16, 3) := by decide +kernel
theorem dX7_offBy_59 : decode cX7_offBy 59 = .ok (.iload 4, 2) := by decide +kernel
theorem dX7_offBy_61 : decode cX7_offBy 61 = .ok (.aload_n 2, 1) := by decide +kernel
theorem dX7_offBy_62 : decode cX7_offBy 62 = .ok (.getfield 113, 3) := by decide +kernel
theorem dX7_offBy_65 : decode cX7_offBy 65 = .ok (.invokevirtual 158, 3) := by decide +kernel
theorem dX7_offBy_68 : decode cX7_offBy 68 = .ok (.iadd, 1) := by decide +kernel
theorem dX7_offBy_69 : decode cX7_offBy 69 = .ok (.istore_n 3, 1) := by decide +kernel
theorem dX7_offBy_70 : decode cX7_offBy 70 = .ok (.iinc 4 1, 3) := by decide +kernel
theorem dX7_offBy_73 : decode cX7_offBy 73 = .ok (.goto (-26), 3) := by decide +kernel
theorem dX7_offBy_76 : decode cX7_offBy 76 = .ok (.iload_n 3, 1) := by decide +kernel
theorem dX7_offBy_77 : decode cX7_offBy 77 = .ok (.ireturn, 1) := by decide +kernel
theorem dX7_fit_0 : decode cX7_fit 0 = .ok (.iload_n 1, 1) := by decide +kernel
theorem dX7_fit_1 : decode cX7_fit 1 = .ok (.iconst 2, 1) := by decide +kernel
theorem dX7_fit_2 : decode cX7_fit 2 = .ok (.invokestatic 62, 3) := by decide +kernel
theorem dX7_fit_5 : decode cX7_fit 5 = .ok (.ifCond .eq 11, 3) := by decide +kernel
theorem dX7_fit_8 : decode cX7_fit 8 = .ok (.iload_n 2, 1) := by decide +kernel
theorem dX7_fit_9 : decode cX7_fit 9 = .ok (.iconst 2, 1) := by decide +kernel
theorem dX7_fit_10 : decode cX7_fit 10 = .ok (.invokestatic 62, 3) := by decide +kernel
theorem dX7_fit_13 : decode cX7_fit 13 = .ok (.ifCond .ne 9, 3) := by decide +kernel
theorem dX7_fit_16 : decode cX7_fit 16 = .ok (.bipush (-2), 2) := by decide +kernel
theorem dX7_fit_18 : decode cX7_fit 18 = .ok (.invokestatic 165, 3) := by decide +kernel
theorem dX7_fit_21 : decode cX7_fit 21 = .ok (.lreturn, 1) := by decide +kernel
theorem dX7_fit_22 : decode cX7_fit 22 = .ok (.aload_n 0, 1) := by decide +kernel
theorem dX7_fit_23 : decode cX7_fit 23 = .ok (.getfield 16, 3) := by decide +kernel
theorem dX7_fit_26 : decode cX7_fit 26 = .ok (.invokevirtual 169, 3) := by decide +kernel
theorem dX7_fit_29 : decode cX7_fit 29 = .ok (.istore_n 3, 1) := by decide +kernel
theorem dX7_fit_30 : decode cX7_fit 30 = .ok (.iload_n 3, 1) := by decide +kernel
theorem dX7_fit_31 : decode cX7_fit 31 = .ok (.ifCond .ne 9, 3) := by decide +kernel
theorem dX7_fit_34 : decode cX7_fit 34 = .ok (.bipush (-3), 2) := by decide +kernel
theorem dX7_fit_36 : decode cX7_fit 36 = .ok (.invokestatic 165, 3) := by decide +kernel
theorem dX7_fit_39 : decode cX7_fit 39 = .ok (.lreturn, 1) := by decide +kernel
theorem dX7_fit_40 : decode cX7_fit 40 = .ok (.aload_n 0, 1) := by decide +kernel
theorem dX7_fit_41 : decode cX7_fit 41 = .ok (.getfield 30, 3) := by decide +kernel
theorem dX7_fit_44 : decode cX7_fit 44 = .ok (.aload_n 0, 1) := by decide +kernel
theorem dX7_fit_45 : decode cX7_fit 45 = .ok (.getfield 16, 3) := by decide +kernel
theorem dX7_fit_48 : decode cX7_fit 48 = .ok (.invokevirtual 141, 3) := by decide +kernel
theorem dX7_fit_51 : decode cX7_fit 51 = .ok (.iload_n 1, 1) := by decide +kernel
theorem dX7_fit_52 : decode cX7_fit 52 = .ok (.ifCond .ne 15, 3) := by decide +kernel
theorem dX7_fit_55 : decode cX7_fit 55 = .ok (.iload_n 3, 1) := by decide +kernel
theorem dX7_fit_56 : decode cX7_fit 56 = .ok (.aload_n 0, 1) := by decide +kernel
theorem dX7_fit_57 : decode cX7_fit 57 = .ok (.getfield 30, 3) := by decide +kernel
theorem dX7_fit_60 : decode cX7_fit 60 = .ok (.getfield 145, 3) := by decide +kernel
theorem dX7_fit_63 : decode cX7_fit 63 = .ok (.isub, 1) := by decide +kernel
theorem dX7_fit_64 : decode cX7_fit 64 = .ok (.goto 10, 3) := by decide +kernel
theorem dX7_fit_67 : decode cX7_fit 67 = .ok (.aload_n 0, 1) := by decide +kernel
theorem dX7_fit_68 : decode cX7_fit 68 = .ok (.getfield 16, 3) := by decide +kernel
theorem dX7_fit_71 : decode cX7_fit 71 = .ok (.invokevirtual 173, 3) := by decide +kernel
theorem dX7_fit_74 : decode cX7_fit 74 = .ok (.istore 4, 2) := by decide +kernel
theorem dX7_fit_76 : decode cX7_fit 76 = .ok (.iload 4, 2) := by decide +kernel
theorem dX7_fit_78 : decode cX7_fit 78 = .ok (.i2l, 1) := by decide +kernel
theorem dX7_fit_79 : decode cX7_fit 79 = .ok (.iload_n 3, 1) := by decide +kernel
theorem dX7_fit_80 : decode cX7_fit 80 = .ok (.i2l, 1) := by decide +kernel
theorem dX7_fit_81 : decode cX7_fit 81 = .ok (.iload_n 2, 1) := by decide +kernel
theorem dX7_fit_82 : decode cX7_fit 82 = .ok (.invokestatic 176, 3) := by decide +kernel
theorem dX7_fit_85 : decode cX7_fit 85 = .ok (.lreturn, 1) := by decide +kernel
theorem dX7_odd_0 : decode cX7_odd 0 = .ok (.aload_n 0, 1) := by decide +kernel
theorem dX7_odd_1 : decode cX7_odd 1 = .ok (.getfield 30, 3) := by decide +kernel
theorem dX7_odd_4 : decode cX7_odd 4 = .ok (.aload_n 0, 1) := by decide +kernel
theorem dX7_odd_5 : decode cX7_odd 5 = .ok (.getfield 16, 3) := by decide +kernel
theorem dX7_odd_8 : decode cX7_odd 8 = .ok (.invokevirtual 141, 3) := by decide +kernel
theorem dX7_odd_11 : decode cX7_odd 11 = .ok (.iconst (-1), 1) := by decide +kernel
theorem dX7_odd_12 : decode cX7_odd 12 = .ok (.istore_n 1, 1) := by decide +kernel
theorem dX7_odd_13 : decode cX7_odd 13 = .ok (.iconst 0, 1) := by decide +kernel
theorem dX7_odd_14 : decode cX7_odd 14 = .ok (.istore_n 2, 1) := by decide +kernel
theorem dX7_odd_15 : decode cX7_odd 15 = .ok (.iconst 0, 1) := by decide +kernel
theorem dX7_odd_16 : decode cX7_odd 16 = .ok (.istore_n 3, 1) := by decide +kernel
theorem dX7_odd_17 : decode cX7_odd 17 = .ok (.iload_n 3, 1) := by decide +kernel
theorem dX7_odd_18 : decode cX7_odd 18 = .ok (.bipush 12, 2) := by decide +kernel
theorem dX7_odd_20 : decode cX7_odd 20 = .ok (.if_icmp .ge 37, 3) := by decide +kernel
theorem dX7_odd_23 : decode cX7_odd 23 = .ok (.aload_n 0, 1) := by decide +kernel
theorem dX7_odd_24 : decode cX7_odd 24 = .ok (.getfield 16, 3) := by decide +kernel
theorem dX7_odd_27 : decode cX7_odd 27 = .ok (.iload_n 3, 1) := by decide +kernel
theorem dX7_odd_28 : decode cX7_odd 28 = .ok (.aload_n 0, 1) := by decide +kernel
theorem dX7_odd_29 : decode cX7_odd 29 = .ok (.getfield 30, 3) := by decide +kernel
theorem dX7_odd_32 : decode cX7_odd 32 = .ok (.getfield 151, 3) := by decide +kernel
theorem dX7_odd_35 : decode cX7_odd 35 = .ok (.invokevirtual 158, 3) := by decide +kernel
theorem dX7_odd_38 : decode cX7_odd 38 = .ok (.istore 4, 2) := by decide +kernel
theorem dX7_odd_40 : decode cX7_odd 40 = .ok (.iload 4, 2) := by decide +kernel
theorem dX7_odd_42 : decode cX7_odd 42 = .ok (.iload_n 2, 1) := by decide +kernel
theorem dX7_odd_43 : decode cX7_odd 43 = .ok (.if_icmp .le 8, 3) := by decide +kernel
theorem dX7_odd_46 : decode cX7_odd 46 = .ok (.iload 4, 2) := by decide +kernel
theorem dX7_odd_48 : decode cX7_odd 48 = .ok (.istore_n 2, 1) := by decide +kernel
theorem dX7_odd_49 : decode cX7_odd 49 = .ok (.iload_n 3, 1) := by decide +kernel
theorem dX7_odd_50 : decode cX7_odd 50 = .ok (.istore_n 1, 1) := by decide +kernel
theorem dX7_odd_51 : decode cX7_odd 51 = .ok (.iinc 3 1, 3) := by decide +kernel
theorem dX7_odd_54 : decode cX7_odd 54 = .ok (.goto (-37), 3) := by decide +kernel
theorem dX7_odd_57 : decode cX7_odd 57 = .ok (.iload_n 1, 1) := by decide +kernel
theorem dX7_odd_58 : decode cX7_odd 58 = .ok (.ireturn, 1) := by decide +kernel
theorem dX7_without_0 : decode cX7_without 0 = .ok (.aload_n 0, 1) := by decide +kernel
theorem dX7_without_1 : decode cX7_without 1 = .ok (.iload_n 1, 1) := by decide +kernel
theorem dX7_without_2 : decode cX7_without 2 = .ok (.invokevirtual 132, 3) := by decide +kernel
theorem dX7_without_5 : decode cX7_without 5 = .ok (.ifCond .eq 11, 3) := by decide +kernel
theorem dX7_without_8 : decode cX7_without 8 = .ok (.iload_n 2, 1) := by decide +kernel
theorem dX7_without_9 : decode cX7_without 9 = .ok (.iconst 2, 1) := by decide +kernel
theorem dX7_without_10 : decode cX7_without 10 = .ok (.invokestatic 62, 3) := by decide +kernel
theorem dX7_without_13 : decode cX7_without 13 = .ok (.ifCond .ne 6, 3) := by decide +kernel
theorem dX7_without_16 : decode cX7_without 16 = .ok (.bipush (-2), 2) := by decide +kernel
theorem dX7_without_18 : decode cX7_without 18 = .ok (.ireturn, 1) := by decide +kernel
theorem dX7_without_19 : decode cX7_without 19 = .ok (.aload_n 0, 1) := by decide +kernel
theorem dX7_without_20 : decode cX7_without 20 = .ok (.getfield 30, 3) := by decide +kernel
theorem dX7_without_23 : decode cX7_without 23 = .ok (.aload_n 0, 1) := by decide +kernel
theorem dX7_without_24 : decode cX7_without 24 = .ok (.getfield 16, 3) := by decide +kernel
theorem dX7_without_27 : decode cX7_without 27 = .ok (.invokevirtual 141, 3) := by decide +kernel
theorem dX7_without_30 : decode cX7_without 30 = .ok (.aload_n 0, 1) := by decide +kernel
theorem dX7_without_31 : decode cX7_without 31 = .ok (.getfield 30, 3) := by decide +kernel
theorem dX7_without_34 : decode cX7_without 34 = .ok (.iload_n 1, 1) := by decide +kernel
theorem dX7_without_35 : decode cX7_without 35 = .ok (.iload_n 2, 1) := by decide +kernel
theorem dX7_without_36 : decode cX7_without 36 = .ok (.invokevirtual 180, 3) := by decide +kernel
theorem dX7_without_39 : decode cX7_without 39 = .ok (.ireturn, 1) := by decide +kernel
theorem dX7_worst_0 : decode cX7_worst 0 = .ok (.iload_n 1, 1) := by decide +kernel
theorem dX7_worst_1 : decode cX7_worst 1 = .ok (.iconst 2, 1) := by decide +kernel
theorem dX7_worst_2 : decode cX7_worst 2 = .ok (.invokestatic 62, 3) := by decide +kernel
theorem dX7_worst_5 : decode cX7_worst 5 = .ok (.ifCond .ne 6, 3) := by decide +kernel
theorem dX7_worst_8 : decode cX7_worst 8 = .ok (.bipush (-2), 2) := by decide +kernel
theorem dX7_worst_10 : decode cX7_worst 10 = .ok (.ireturn, 1) := by decide +kernel
theorem dX7_worst_11 : decode cX7_worst 11 = .ok (.aload_n 0, 1) := by decide +kernel
theorem dX7_worst_12 : decode cX7_worst 12 = .ok (.getfield 30, 3) := by decide +kernel
theorem dX7_worst_15 : decode cX7_worst 15 = .ok (.aload_n 0, 1) := by decide +kernel
theorem dX7_worst_16 : decode cX7_worst 16 = .ok (.getfield 16, 3) := by decide +kernel
theorem dX7_worst_19 : decode cX7_worst 19 = .ok (.invokevirtual 141, 3) := by decide +kernel
theorem dX7_worst_22 : decode cX7_worst 22 = .ok (.iconst 0, 1) := by decide +kernel
theorem dX7_worst_23 : decode cX7_worst 23 = .ok (.istore_n 2, 1) := by decide +kernel
theorem dX7_worst_24 : decode cX7_worst 24 = .ok (.iconst 1, 1) := by decide +kernel
theorem dX7_worst_25 : decode cX7_worst 25 = .ok (.istore_n 3, 1) := by decide +kernel
theorem dX7_worst_26 : decode cX7_worst 26 = .ok (.iload_n 3, 1) := by decide +kernel
theorem dX7_worst_27 : decode cX7_worst 27 = .ok (.aload_n 0, 1) := by decide +kernel
theorem dX7_worst_28 : decode cX7_worst 28 = .ok (.getfield 16, 3) := by decide +kernel
theorem dX7_worst_31 : decode cX7_worst 31 = .ok (.getfield 183, 3) := by decide +kernel
theorem dX7_worst_34 : decode cX7_worst 34 = .ok (.if_icmp .ge 32, 3) := by decide +kernel
theorem dX7_worst_37 : decode cX7_worst 37 = .ok (.aload_n 0, 1) := by decide +kernel
theorem dX7_worst_38 : decode cX7_worst 38 = .ok (.getfield 30, 3) := by decide +kernel
theorem dX7_worst_41 : decode cX7_worst 41 = .ok (.iload_n 3, 1) := by decide +kernel
theorem dX7_worst_42 : decode cX7_worst 42 = .ok (.iload_n 1, 1) := by decide +kernel
theorem dX7_worst_43 : decode cX7_worst 43 = .ok (.invokevirtual 180, 3) := by decide +kernel
theorem dX7_worst_46 : decode cX7_worst 46 = .ok (.aload_n 0, 1) := by decide +kernel
theorem dX7_worst_47 : decode cX7_worst 47 = .ok (.getfield 30, 3) := by decide +kernel
theorem dX7_worst_50 : decode cX7_worst 50 = .ok (.iload_n 2, 1) := by decide +kernel
theorem dX7_worst_51 : decode cX7_worst 51 = .ok (.iload_n 1, 1) := by decide +kernel
theorem dX7_worst_52 : decode cX7_worst 52 = .ok (.invokevirtual 180, 3) := by decide +kernel
theorem dX7_worst_55 : decode cX7_worst 55 = .ok (.if_icmp .ge 5, 3) := by decide +kernel
theorem dX7_worst_58 : decode cX7_worst 58 = .ok (.iload_n 3, 1) := by decide +kernel
theorem dX7_worst_59 : decode cX7_worst 59 = .ok (.istore_n 2, 1) := by decide +kernel
theorem dX7_worst_60 : decode cX7_worst 60 = .ok (.iinc 3 1, 3) := by decide +kernel
theorem dX7_worst_63 : decode cX7_worst 63 = .ok (.goto (-37), 3) := by decide +kernel
theorem dX7_worst_66 : decode cX7_worst 66 = .ok (.iload_n 2, 1) := by decide +kernel
theorem dX7_worst_67 : decode cX7_worst 67 = .ok (.ireturn, 1) := by decide +kernel
theorem dX7_states_0 : decode cX7_states 0 = .ok (.iload_n 1, 1) := by decide +kernel
theorem dX7_states_1 : decode cX7_states 1 = .ok (.iconst (-1), 1) := by decide +kernel
theorem dX7_states_2 : decode cX7_states 2 = .ok (.if_icmp .ge 6, 3) := by decide +kernel
theorem dX7_states_5 : decode cX7_states 5 = .ok (.bipush (-2), 2) := by decide +kernel
theorem dX7_states_7 : decode cX7_states 7 = .ok (.ireturn, 1) := by decide +kernel
theorem dX7_states_8 : decode cX7_states 8 = .ok (.aload_n 0, 1) := by decide +kernel
theorem dX7_states_9 : decode cX7_states 9 = .ok (.invokevirtual 186, 3) := by decide +kernel
theorem dX7_states_12 : decode cX7_states 12 = .ok (.iload_n 1, 1) := by decide +kernel
theorem dX7_states_13 : decode cX7_states 13 = .ok (.iconst (-1), 1) := by decide +kernel
theorem dX7_states_14 : decode cX7_states 14 = .ok (.if_icmp .ne 11, 3) := by decide +kernel
theorem dX7_states_17 : decode cX7_states 17 = .ok (.aload_n 0, 1) := by decide +kernel
theorem dX7_states_18 : decode cX7_states 18 = .ok (.getfield 37, 3) := by decide +kernel
theorem dX7_states_21 : decode cX7_states 21 = .ok (.getfield 189, 3) := by decide +kernel
theorem dX7_states_24 : decode cX7_states 24 = .ok (.ireturn, 1) := by decide +kernel
theorem dX7_states_25 : decode cX7_states 25 = .ok (.iload_n 1, 1) := by decide +kernel
theorem dX7_states_26 : decode cX7_states 26 = .ok (.aload_n 0, 1) := by decide +kernel
theorem dX7_states_27 : decode cX7_states 27 = .ok (.getfield 37, 3) := by decide +kernel
theorem dX7_states_30 : decode cX7_states 30 = .ok (.getfield 189, 3) := by decide +kernel
theorem dX7_states_33 : decode cX7_states 33 = .ok (.if_icmp .ge 15, 3) := by decide +kernel
theorem dX7_states_36 : decode cX7_states 36 = .ok (.aload_n 0, 1) := by decide +kernel
theorem dX7_states_37 : decode cX7_states 37 = .ok (.getfield 37, 3) := by decide +kernel
theorem dX7_states_40 : decode cX7_states 40 = .ok (.getfield 190, 3) := by decide +kernel
theorem dX7_states_43 : decode cX7_states 43 = .ok (.iload_n 1, 1) := by decide +kernel
theorem dX7_states_44 : decode cX7_states 44 = .ok (.iaload, 1) := by decide +kernel
theorem dX7_states_45 : decode cX7_states 45 = .ok (.goto 4, 3) := by decide +kernel
theorem dX7_states_48 : decode cX7_states 48 = .ok (.iconst (-1), 1) := by decide +kernel
theorem dX7_states_49 : decode cX7_states 49 = .ok (.ireturn, 1) := by decide +kernel
theorem dX7_belongs_0 : decode cX7_belongs 0 = .ok (.iload_n 1, 1) := by decide +kernel
theorem dX7_belongs_1 : decode cX7_belongs 1 = .ok (.bipush 12, 2) := by decide +kernel
theorem dX7_belongs_3 : decode cX7_belongs 3 = .ok (.invokestatic 62, 3) := by decide +kernel
theorem dX7_belongs_6 : decode cX7_belongs 6 = .ok (.ifCond .eq 11, 3) := by decide +kernel
theorem dX7_belongs_9 : decode cX7_belongs 9 = .ok (.iload_n 2, 1) := by decide +kernel
theorem dX7_belongs_10 : decode cX7_belongs 10 = .ok (.iconst 3, 1) := by decide +kernel
theorem dX7_belongs_11 : decode cX7_belongs 11 = .ok (.invokestatic 62, 3) := by decide +kernel
theorem dX7_belongs_14 : decode cX7_belongs 14 = .ok (.ifCond .ne 6, 3) := by decide +kernel
theorem dX7_belongs_17 : decode cX7_belongs 17 = .ok (.bipush (-2), 2) := by decide +kernel
theorem dX7_belongs_19 : decode cX7_belongs 19 = .ok (.ireturn, 1) := by decide +kernel
theorem dX7_belongs_20 : decode cX7_belongs 20 = .ok (.aload_n 0, 1) := by decide +kernel
theorem dX7_belongs_21 : decode cX7_belongs 21 = .ok (.invokevirtual 186, 3) := by decide +kernel
theorem dX7_belongs_24 : decode cX7_belongs 24 = .ok (.aload_n 0, 1) := by decide +kernel
theorem dX7_belongs_25 : decode cX7_belongs 25 = .ok (.iload_n 1, 1) := by decide +kernel
theorem dX7_belongs_26 : decode cX7_belongs 26 = .ok (.invokevirtual 193, 3) := by decide +kernel
theorem dX7_belongs_29 : decode cX7_belongs 29 = .ok (.istore_n 3, 1) := by decide +kernel
theorem dX7_belongs_30 : decode cX7_belongs 30 = .ok (.iload_n 2, 1) := by decide +kernel
theorem dX7_belongs_31 : decode cX7_belongs 31 = .ok (.ifCond .ne 5, 3) := by decide +kernel
theorem dX7_belongs_34 : decode cX7_belongs 34 = .ok (.iload_n 3, 1) := by decide +kernel
theorem dX7_belongs_35 : decode cX7_belongs 35 = .ok (.ireturn, 1) := by decide +kernel
theorem dX7_belongs_36 : decode cX7_belongs 36 = .ok (.aload_n 0, 1) := by decide +kernel
theorem dX7_belongs_37 : decode cX7_belongs 37 = .ok (.getfield 16, 3) := by decide +kernel
theorem dX7_belongs_40 : decode cX7_belongs 40 = .ok (.iload_n 1, 1) := by decide +kernel
theorem dX7_belongs_41 : decode cX7_belongs 41 = .ok (.iload_n 3, 1) := by decide +kernel
theorem dX7_belongs_42 : decode cX7_belongs 42 = .ok (.invokevirtual 138, 3) := by decide +kernel
theorem dX7_belongs_45 : decode cX7_belongs 45 = .ok (.istore 4, 2) := by decide +kernel
theorem dX7_belongs_47 : decode cX7_belongs 47 = .ok (.iload_n 2, 1) := by decide +kernel
theorem dX7_belongs_48 : decode cX7_belongs 48 = .ok (.iconst 1, 1) := by decide +kernel
theorem dX7_belongs_49 : decode cX7_belongs 49 = .ok (.if_icmp .ne 8, 3) := by decide +kernel
theorem dX7_belongs_52 : decode cX7_belongs 52 = .ok (.iload 4, 2) := by decide +kernel
theorem dX7_belongs_54 : decode cX7_belongs 54 = .ok (.goto 10, 3) := by decide +kernel
theorem dX7_belongs_57 : decode cX7_belongs 57 = .ok (.aload_n 0, 1) := by decide +kernel
theorem dX7_belongs_58 : decode cX7_belongs 58 = .ok (.iload_n 1, 1) := by decide +kernel
theorem dX7_belongs_59 : decode cX7_belongs 59 = .ok (.iload 4, 2) := by decide +kernel
theorem dX7_belongs_61 : decode cX7_belongs 61 = .ok (.invokevirtual 196, 3) := by decide +kernel
theorem dX7_belongs_64 : decode cX7_belongs 64 = .ok (.ireturn, 1) := by decide +kernel
theorem dX7_next_0 : decode cX7_next 0 = .ok (.iload_n 1, 1) := by decide +kernel
theorem dX7_next_1 : decode cX7_next 1 = .ok (.sipush 128, 3) := by decide +kernel
theorem dX7_next_4 : decode cX7_next 4 = .ok (.invokestatic 62, 3) := by decide +kernel
theorem dX7_next_7 : decode cX7_next 7 = .ok (.ifCond .eq 11, 3) := by decide +kernel
theorem dX7_next_10 : decode cX7_next 10 = .ok (.iload_n 2, 1) := by decide +kernel
theorem dX7_next_11 : decode cX7_next 11 = .ok (.iconst 3, 1) := by decide +kernel
theorem dX7_next_12 : decode cX7_next 12 = .ok (.invokestatic 62, 3) := by decide +kernel
theorem dX7_next_15 : decode cX7_next 15 = .ok (.ifCond .ne 6, 3) := by decide +kernel
theorem dX7_next_18 : decode cX7_next 18 = .ok (.bipush (-2), 2) := by decide +kernel
theorem dX7_next_20 : decode cX7_next 20 = .ok (.ireturn, 1) := by decide +kernel
theorem dX7_next_21 : decode cX7_next 21 = .ok (.aload_n 0, 1) := by decide +kernel
theorem dX7_next_22 : decode cX7_next 22 = .ok (.invokevirtual 186, 3) := by decide +kernel
theorem dX7_next_25 : decode cX7_next 25 = .ok (.iload_n 1, 1) := by decide +kernel
theorem dX7_next_26 : decode cX7_next 26 = .ok (.aload_n 0, 1) := by decide +kernel
theorem dX7_next_27 : decode cX7_next 27 = .ok (.getfield 37, 3) := by decide +kernel
theorem dX7_next_30 : decode cX7_next 30 = .ok (.getfield 199, 3) := by decide +kernel
theorem dX7_next_33 : decode cX7_next 33 = .ok (.iand, 1) := by decide +kernel
theorem dX7_next_34 : decode cX7_next 34 = .ok (.istore_n 3, 1) := by decide +kernel
theorem dX7_next_35 : decode cX7_next 35 = .ok (.iload_n 2, 1) := by decide +kernel
theorem dX7_next_36 : decode cX7_next 36 = .ok (.iconst 2, 1) := by decide +kernel
theorem dX7_next_37 : decode cX7_next 37 = .ok (.if_icmp .ne 21, 3) := by decide +kernel
theorem dX7_next_40 : decode cX7_next 40 = .ok (.aload_n 0, 1) := by decide +kernel
theorem dX7_next_41 : decode cX7_next 41 = .ok (.getfield 37, 3) := by decide +kernel
theorem dX7_next_44 : decode cX7_next 44 = .ok (.getfield 202, 3) := by decide +kernel
theorem dX7_next_47 : decode cX7_next 47 = .ok (.iload_n 3, 1) := by decide +kernel
theorem dX7_next_48 : decode cX7_next 48 = .ok (.baload, 1) := by decide +kernel
theorem dX7_next_49 : decode cX7_next 49 = .ok (.ifCond .eq 7, 3) := by decide +kernel
theorem dX7_next_52 : decode cX7_next 52 = .ok (.iconst 1, 1) := by decide +kernel
theorem dX7_next_53 : decode cX7_next 53 = .ok (.goto 4, 3) := by decide +kernel
theorem dX7_next_56 : decode cX7_next 56 = .ok (.iconst 0, 1) := by decide +kernel
theorem dX7_next_57 : decode cX7_next 57 = .ok (.ireturn, 1) := by decide +kernel
theorem dX7_next_58 : decode cX7_next 58 = .ok (.aload_n 0, 1) := by decide +kernel
theorem dX7_next_59 : decode cX7_next 59 = .ok (.getfield 37, 3) := by decide +kernel
theorem dX7_next_62 : decode cX7_next 62 = .ok (.iload_n 3, 1) := by decide +kernel
theorem dX7_next_63 : decode cX7_next 63 = .ok (.invokevirtual 206, 3) := by decide +kernel
theorem dX7_next_66 : decode cX7_next 66 = .ok (.iload_n 2, 1) := by decide +kernel
theorem dX7_next_67 : decode cX7_next 67 = .ok (.ifCond .ne 9, 3) := by decide +kernel
theorem dX7_next_70 : decode cX7_next 70 = .ok (.iload_n 3, 1) := by decide +kernel
theorem dX7_next_71 : decode cX7_next 71 = .ok (.iconst (-1), 1) := by decide +kernel
theorem dX7_next_72 : decode cX7_next 72 = .ok (.ixor, 1) := by decide +kernel
theorem dX7_next_73 : decode cX7_next 73 = .ok (.goto 4, 3) := by decide +kernel
theorem dX7_next_76 : decode cX7_next 76 = .ok (.iload_n 3, 1) := by decide +kernel
theorem dX7_next_77 : decode cX7_next 77 = .ok (.iand, 1) := by decide +kernel
theorem dX7_next_78 : decode cX7_next 78 = .ok (.ireturn, 1) := by decide +kernel
theorem dX7_paths_0 : decode cX7_paths 0 = .ok (.aload_n 0, 1) := by decide +kernel
theorem dX7_paths_1 : decode cX7_paths 1 = .ok (.invokevirtual 186, 3) := by decide +kernel
theorem dX7_paths_4 : decode cX7_paths 4 = .ok (.aload_n 0, 1) := by decide +kernel
theorem dX7_paths_5 : decode cX7_paths 5 = .ok (.getfield 37, 3) := by decide +kernel
theorem dX7_paths_8 : decode cX7_paths 8 = .ok (.invokevirtual 209, 3) := by decide +kernel
theorem dX7_paths_11 : decode cX7_paths 11 = .ok (.ireturn, 1) := by decide +kernel
theorem dX7_deep_0 : decode cX7_deep 0 = .ok (.aload_n 0, 1) := by decide +kernel
theorem dX7_deep_1 : decode cX7_deep 1 = .ok (.iload_n 1, 1) := by decide +kernel
theorem dX7_deep_2 : decode cX7_deep 2 = .ok (.invokevirtual 132, 3) := by decide +kernel
theorem dX7_deep_5 : decode cX7_deep 5 = .ok (.ifCond .ne 6, 3) := by decide +kernel
theorem dX7_deep_8 : decode cX7_deep 8 = .ok (.bipush (-2), 2) := by decide +kernel
theorem dX7_deep_10 : decode cX7_deep 10 = .ok (.ireturn, 1) := by decide +kernel
theorem dX7_deep_11 : decode cX7_deep 11 = .ok (.aload_n 0, 1) := by decide +kernel
theorem dX7_deep_12 : decode cX7_deep 12 = .ok (.invokevirtual 186, 3) := by decide +kernel
theorem dX7_deep_15 : decode cX7_deep 15 = .ok (.aload_n 0, 1) := by decide +kernel
theorem dX7_deep_16 : decode cX7_deep 16 = .ok (.getfield 16, 3) := by decide +kernel
theorem dX7_deep_19 : decode cX7_deep 19 = .ok (.getfield 183, 3) := by decide +kernel
theorem dX7_deep_22 : decode cX7_deep 22 = .ok (.istore_n 2, 1) := by decide +kernel
theorem dX7_deep_23 : decode cX7_deep 23 = .ok (.iconst 0, 1) := by decide +kernel
theorem dX7_deep_24 : decode cX7_deep 24 = .ok (.istore_n 3, 1) := by decide +kernel
theorem dX7_deep_25 : decode cX7_deep 25 = .ok (.iload_n 3, 1) := by decide +kernel
theorem dX7_deep_26 : decode cX7_deep 26 = .ok (.aload_n 0, 1) := by decide +kernel
theorem dX7_deep_27 : decode cX7_deep 27 = .ok (.getfield 37, 3) := by decide +kernel
theorem dX7_deep_30 : decode cX7_deep 30 = .ok (.getfield 189, 3) := by decide +kernel
theorem dX7_deep_33 : decode cX7_deep 33 = .ok (.if_icmp .ge 42, 3) := by decide +kernel
theorem dX7_deep_36 : decode cX7_deep 36 = .ok (.aload_n 0, 1) := by decide +kernel
theorem dX7_deep_37 : decode cX7_deep 37 = .ok (.getfield 37, 3) := by decide +kernel
theorem dX7_deep_40 : decode cX7_deep 40 = .ok (.getfield 190, 3) := by decide +kernel
theorem dX7_deep_43 : decode cX7_deep 43 = .ok (.iload_n 3, 1) := by decide +kernel
theorem dX7_deep_44 : decode cX7_deep 44 = .ok (.iaload, 1) := by decide +kernel
theorem dX7_deep_45 : decode cX7_deep 45 = .ok (.iconst 1, 1) := by decide +kernel
theorem dX7_deep_46 : decode cX7_deep 46 = .ok (.iload_n 1, 1) := by decide +kernel
theorem dX7_deep_47 : decode cX7_deep 47 = .ok (.ishl, 1) := by decide +kernel
theorem dX7_deep_48 : decode cX7_deep 48 = .ok (.iand, 1) := by decide +kernel
theorem dX7_deep_49 : decode cX7_deep 49 = .ok (.ifCond .eq 20, 3) := by decide +kernel
theorem dX7_deep_52 : decode cX7_deep 52 = .ok (.iload_n 2, 1) := by decide +kernel
theorem dX7_deep_53 : decode cX7_deep 53 = .ok (.aload_n 0, 1) := by decide +kernel
theorem dX7_deep_54 : decode cX7_deep 54 = .ok (.getfield 37, 3) := by decide +kernel
theorem dX7_deep_57 : decode cX7_deep 57 = .ok (.getfield 190, 3) := by decide +kernel
theorem dX7_deep_60 : decode cX7_deep 60 = .ok (.iload_n 3, 1) := by decide +kernel
theorem dX7_deep_61 : decode cX7_deep 61 = .ok (.iaload, 1) := by decide +kernel
theorem dX7_deep_62 : decode cX7_deep 62 = .ok (.invokestatic 212, 3) := by decide +kernel
theorem dX7_deep_65 : decode cX7_deep 65 = .ok (.invokestatic 107, 3) := by decide +kernel
theorem dX7_deep_68 : decode cX7_deep 68 = .ok (.istore_n 2, 1) := by decide +kernel
theorem dX7_deep_69 : decode cX7_deep 69 = .ok (.iinc 3 1, 3) := by decide +kernel
theorem dX7_deep_72 : decode cX7_deep 72 = .ok (.goto (-47), 3) := by decide +kernel
theorem dX7_deep_75 : decode cX7_deep 75 = .ok (.iload_n 2, 1) := by decide +kernel
theorem dX7_deep_76 : decode cX7_deep 76 = .ok (.ireturn, 1) := by decide +kernel
theorem dX7_sure_0 : decode cX7_sure 0 = .ok (.iload_n 1, 1) := by decide +kernel
theorem dX7_sure_1 : decode cX7_sure 1 = .ok (.sipush 128, 3) := by decide +kernel
theorem dX7_sure_4 : decode cX7_sure 4 = .ok (.invokestatic 62, 3) := by decide +kernel
theorem dX7_sure_7 : decode cX7_sure 7 = .ok (.ifCond .eq 21, 3) := by decide +kernel
theorem dX7_sure_10 : decode cX7_sure 10 = .ok (.iload_n 2, 1) := by decide +kernel
theorem dX7_sure_11 : decode cX7_sure 11 = .ok (.sipush 128, 3) := by decide +kernel
theorem dX7_sure_14 : decode cX7_sure 14 = .ok (.invokestatic 62, 3) := by decide +kernel
theorem dX7_sure_17 : decode cX7_sure 17 = .ok (.ifCond .eq 11, 3) := by decide +kernel
theorem dX7_sure_20 : decode cX7_sure 20 = .ok (.iload_n 3, 1) := by decide +kernel
theorem dX7_sure_21 : decode cX7_sure 21 = .ok (.iconst 2, 1) := by decide +kernel
theorem dX7_sure_22 : decode cX7_sure 22 = .ok (.invokestatic 62, 3) := by decide +kernel
theorem dX7_sure_25 : decode cX7_sure 25 = .ok (.ifCond .ne 6, 3) := by decide +kernel
theorem dX7_sure_28 : decode cX7_sure 28 = .ok (.bipush (-2), 2) := by decide +kernel
theorem dX7_sure_30 : decode cX7_sure 30 = .ok (.ireturn, 1) := by decide +kernel
theorem dX7_sure_31 : decode cX7_sure 31 = .ok (.aload_n 0, 1) := by decide +kernel
theorem dX7_sure_32 : decode cX7_sure 32 = .ok (.invokevirtual 186, 3) := by decide +kernel
theorem dX7_sure_35 : decode cX7_sure 35 = .ok (.aload_n 0, 1) := by decide +kernel
theorem dX7_sure_36 : decode cX7_sure 36 = .ok (.getfield 44, 3) := by decide +kernel
theorem dX7_sure_39 : decode cX7_sure 39 = .ok (.aload_n 0, 1) := by decide +kernel
theorem dX7_sure_40 : decode cX7_sure 40 = .ok (.getfield 37, 3) := by decide +kernel
theorem dX7_sure_43 : decode cX7_sure 43 = .ok (.iload_n 1, 1) := by decide +kernel
theorem dX7_sure_44 : decode cX7_sure 44 = .ok (.aload_n 0, 1) := by decide +kernel
theorem dX7_sure_45 : decode cX7_sure 45 = .ok (.getfield 37, 3) := by decide +kernel
theorem dX7_sure_48 : decode cX7_sure 48 = .ok (.getfield 199, 3) := by decide +kernel
theorem dX7_sure_51 : decode cX7_sure 51 = .ok (.iand, 1) := by decide +kernel
theorem dX7_sure_52 : decode cX7_sure 52 = .ok (.iload_n 2, 1) := by decide +kernel
theorem dX7_sure_53 : decode cX7_sure 53 = .ok (.aload_n 0, 1) := by decide +kernel
theorem dX7_sure_54 : decode cX7_sure 54 = .ok (.getfield 37, 3) := by decide +kernel
theorem dX7_sure_57 : decode cX7_sure 57 = .ok (.getfield 199, 3) := by decide +kernel
theorem dX7_sure_60 : decode cX7_sure 60 = .ok (.iand, 1) := by decide +kernel
theorem dX7_sure_61 : decode cX7_sure 61 = .ok (.invokevirtual 217, 3) := by decide +kernel
theorem dX7_sure_64 : decode cX7_sure 64 = .ok (.istore 4, 2) := by decide +kernel
theorem dX7_sure_66 : decode cX7_sure 66 = .ok (.iload 4, 2) := by decide +kernel
theorem dX7_sure_68 : decode cX7_sure 68 = .ok (.ifCond .ne 6, 3) := by decide +kernel
theorem dX7_sure_71 : decode cX7_sure 71 = .ok (.bipush (-3), 2) := by decide +kernel
theorem dX7_sure_73 : decode cX7_sure 73 = .ok (.ireturn, 1) := by decide +kernel
theorem dX7_sure_74 : decode cX7_sure 74 = .ok (.iload 4, 2) := by decide +kernel
theorem dX7_sure_76 : decode cX7_sure 76 = .ok (.bipush 14, 2) := by decide +kernel
theorem dX7_sure_78 : decode cX7_sure 78 = .ok (.if_icmp .le 6, 3) := by decide +kernel
theorem dX7_sure_81 : decode cX7_sure 81 = .ok (.bipush (-4), 2) := by decide +kernel
theorem dX7_sure_83 : decode cX7_sure 83 = .ok (.ireturn, 1) := by decide +kernel
theorem dX7_sure_84 : decode cX7_sure 84 = .ok (.aload_n 0, 1) := by decide +kernel
theorem dX7_sure_85 : decode cX7_sure 85 = .ok (.getfield 44, 3) := by decide +kernel
theorem dX7_sure_88 : decode cX7_sure 88 = .ok (.invokevirtual 221, 3) := by decide +kernel
theorem dX7_sure_91 : decode cX7_sure 91 = .ok (.istore 5, 2) := by decide +kernel
theorem dX7_sure_93 : decode cX7_sure 93 = .ok (.iload_n 3, 1) := by decide +kernel
theorem dX7_sure_94 : decode cX7_sure 94 = .ok (.ifCond .ne 8, 3) := by decide +kernel
theorem dX7_sure_97 : decode cX7_sure 97 = .ok (.iload 5, 2) := by decide +kernel
theorem dX7_sure_99 : decode cX7_sure 99 = .ok (.goto 12, 3) := by decide +kernel
theorem dX7_sure_102 : decode cX7_sure 102 = .ok (.aload_n 0, 1) := by decide +kernel
theorem dX7_sure_103 : decode cX7_sure 103 = .ok (.getfield 44, 3) := by decide +kernel
theorem dX7_sure_106 : decode cX7_sure 106 = .ok (.iload 5, 2) := by decide +kernel
theorem dX7_sure_108 : decode cX7_sure 108 = .ok (.invokevirtual 224, 3) := by decide +kernel
theorem dX7_sure_111 : decode cX7_sure 111 = .ok (.ireturn, 1) := by decide +kernel
theorem dX7_chance_0 : decode cX7_chance 0 = .ok (.iload_n 1, 1) := by decide +kernel
theorem dX7_chance_1 : decode cX7_chance 1 = .ok (.iload_n 2, 1) := by decide +kernel
theorem dX7_chance_2 : decode cX7_chance 2 = .ok (.iload_n 3, 1) := by decide +kernel
theorem dX7_chance_3 : decode cX7_chance 3 = .ok (.iload 4, 2) := by decide +kernel
theorem dX7_chance_5 : decode cX7_chance 5 = .ok (.invokestatic 227, 3) := by decide +kernel
theorem dX7_chance_8 : decode cX7_chance 8 = .ok (.ifCond .eq 12, 3) := by decide +kernel
theorem dX7_chance_11 : decode cX7_chance 11 = .ok (.iload 5, 2) := by decide +kernel
theorem dX7_chance_13 : decode cX7_chance 13 = .ok (.iconst 2, 1) := by decide +kernel
theorem dX7_chance_14 : decode cX7_chance 14 = .ok (.invokestatic 62, 3) := by decide +kernel
theorem dX7_chance_17 : decode cX7_chance 17 = .ok (.ifCond .ne 9, 3) := by decide +kernel
theorem dX7_chance_20 : decode cX7_chance 20 = .ok (.bipush (-2), 2) := by decide +kernel
theorem dX7_chance_22 : decode cX7_chance 22 = .ok (.invokestatic 165, 3) := by decide +kernel
theorem dX7_chance_25 : decode cX7_chance 25 = .ok (.lreturn, 1) := by decide +kernel
theorem dX7_chance_26 : decode cX7_chance 26 = .ok (.aload_n 0, 1) := by decide +kernel
theorem dX7_chance_27 : decode cX7_chance 27 = .ok (.getfield 16, 3) := by decide +kernel
theorem dX7_chance_30 : decode cX7_chance 30 = .ok (.iload_n 1, 1) := by decide +kernel
theorem dX7_chance_31 : decode cX7_chance 31 = .ok (.iload_n 2, 1) := by decide +kernel
theorem dX7_chance_32 : decode cX7_chance 32 = .ok (.iload_n 3, 1) := by decide +kernel
theorem dX7_chance_33 : decode cX7_chance 33 = .ok (.iload 4, 2) := by decide +kernel
theorem dX7_chance_35 : decode cX7_chance 35 = .ok (.invokevirtual 231, 3) := by decide +kernel
theorem dX7_chance_38 : decode cX7_chance 38 = .ok (.aload_n 0, 1) := by decide +kernel
theorem dX7_chance_39 : decode cX7_chance 39 = .ok (.getfield 16, 3) := by decide +kernel
theorem dX7_chance_42 : decode cX7_chance 42 = .ok (.iload_n 1, 1) := by decide +kernel
theorem dX7_chance_43 : decode cX7_chance 43 = .ok (.invokevirtual 235, 3) := by decide +kernel
theorem dX7_chance_46 : decode cX7_chance 46 = .ok (.iload 5, 2) := by decide +kernel
theorem dX7_chance_48 : decode cX7_chance 48 = .ok (.invokestatic 176, 3) := by decide +kernel
theorem dX7_chance_51 : decode cX7_chance 51 = .ok (.lreturn, 1) := by decide +kernel
theorem dX7_share_0 : decode cX7_share 0 = .ok (.iload_n 1, 1) := by decide +kernel
theorem dX7_share_1 : decode cX7_share 1 = .ok (.iload_n 2, 1) := by decide +kernel
theorem dX7_share_2 : decode cX7_share 2 = .ok (.iload_n 3, 1) := by decide +kernel
theorem dX7_share_3 : decode cX7_share 3 = .ok (.iload 4, 2) := by decide +kernel
theorem dX7_share_5 : decode cX7_share 5 = .ok (.invokestatic 227, 3) := by decide +kernel
theorem dX7_share_8 : decode cX7_share 8 = .ok (.ifCond .eq 12, 3) := by decide +kernel
theorem dX7_share_11 : decode cX7_share 11 = .ok (.iload 5, 2) := by decide +kernel
theorem dX7_share_13 : decode cX7_share 13 = .ok (.iconst 2, 1) := by decide +kernel
theorem dX7_share_14 : decode cX7_share 14 = .ok (.invokestatic 62, 3) := by decide +kernel
theorem dX7_share_17 : decode cX7_share 17 = .ok (.ifCond .ne 9, 3) := by decide +kernel
theorem dX7_share_20 : decode cX7_share 20 = .ok (.bipush (-2), 2) := by decide +kernel
theorem dX7_share_22 : decode cX7_share 22 = .ok (.invokestatic 165, 3) := by decide +kernel
theorem dX7_share_25 : decode cX7_share 25 = .ok (.lreturn, 1) := by decide +kernel
theorem dX7_share_26 : decode cX7_share 26 = .ok (.aload_n 0, 1) := by decide +kernel
theorem dX7_share_27 : decode cX7_share 27 = .ok (.invokevirtual 186, 3) := by decide +kernel
theorem dX7_share_30 : decode cX7_share 30 = .ok (.iload_n 2, 1) := by decide +kernel
theorem dX7_share_31 : decode cX7_share 31 = .ok (.aload_n 0, 1) := by decide +kernel
theorem dX7_share_32 : decode cX7_share 32 = .ok (.getfield 37, 3) := by decide +kernel
theorem dX7_share_35 : decode cX7_share 35 = .ok (.getfield 199, 3) := by decide +kernel
theorem dX7_share_38 : decode cX7_share 38 = .ok (.iand, 1) := by decide +kernel
theorem dX7_share_39 : decode cX7_share 39 = .ok (.istore 6, 2) := by decide +kernel
theorem dX7_share_41 : decode cX7_share 41 = .ok (.aload_n 0, 1) := by decide +kernel
theorem dX7_share_42 : decode cX7_share 42 = .ok (.getfield 37, 3) := by decide +kernel
theorem dX7_share_45 : decode cX7_share 45 = .ok (.getfield 202, 3) := by decide +kernel
theorem dX7_share_48 : decode cX7_share 48 = .ok (.iload 6, 2) := by decide +kernel
theorem dX7_share_50 : decode cX7_share 50 = .ok (.baload, 1) := by decide +kernel
theorem dX7_share_51 : decode cX7_share 51 = .ok (.ifCond .ne 9, 3) := by decide +kernel
theorem dX7_share_54 : decode cX7_share 54 = .ok (.bipush (-2), 2) := by decide +kernel
theorem dX7_share_56 : decode cX7_share 56 = .ok (.invokestatic 165, 3) := by decide +kernel
theorem dX7_share_59 : decode cX7_share 59 = .ok (.lreturn, 1) := by decide +kernel
theorem dX7_share_60 : decode cX7_share 60 = .ok (.lconst 0, 1) := by decide +kernel
theorem dX7_share_61 : decode cX7_share 61 = .ok (.lstore 7, 2) := by decide +kernel
theorem dX7_share_63 : decode cX7_share 63 = .ok (.iconst 0, 1) := by decide +kernel
theorem dX7_share_64 : decode cX7_share 64 = .ok (.istore 9, 2) := by decide +kernel
theorem dX7_share_66 : decode cX7_share 66 = .ok (.iload 9, 2) := by decide +kernel
theorem dX7_share_68 : decode cX7_share 68 = .ok (.aload_n 0, 1) := by decide +kernel
theorem dX7_share_69 : decode cX7_share 69 = .ok (.getfield 37, 3) := by decide +kernel
theorem dX7_share_72 : decode cX7_share 72 = .ok (.getfield 189, 3) := by decide +kernel
theorem dX7_share_75 : decode cX7_share 75 = .ok (.if_icmp .ge 35, 3) := by decide +kernel
theorem dX7_share_78 : decode cX7_share 78 = .ok (.lload 7, 2) := by decide +kernel
theorem dX7_share_80 : decode cX7_share 80 = .ok (.aload_n 0, 1) := by decide +kernel
theorem dX7_share_81 : decode cX7_share 81 = .ok (.getfield 16, 3) := by decide +kernel
theorem dX7_share_84 : decode cX7_share 84 = .ok (.iload_n 1, 1) := by decide +kernel
theorem dX7_share_85 : decode cX7_share 85 = .ok (.aload_n 0, 1) := by decide +kernel
theorem dX7_share_86 : decode cX7_share 86 = .ok (.getfield 37, 3) := by decide +kernel
theorem dX7_share_89 : decode cX7_share 89 = .ok (.getfield 190, 3) := by decide +kernel
theorem dX7_share_92 : decode cX7_share 92 = .ok (.iload 9, 2) := by decide +kernel
theorem dX7_share_94 : decode cX7_share 94 = .ok (.iaload, 1) := by decide +kernel
theorem dX7_share_95 : decode cX7_share 95 = .ok (.iload_n 3, 1) := by decide +kernel
theorem dX7_share_96 : decode cX7_share 96 = .ok (.iload 4, 2) := by decide +kernel
theorem dX7_share_98 : decode cX7_share 98 = .ok (.invokevirtual 231, 3) := by decide +kernel
theorem dX7_share_101 : decode cX7_share 101 = .ok (.ladd, 1) := by decide +kernel
theorem dX7_share_102 : decode cX7_share 102 = .ok (.lstore 7, 2) := by decide +kernel
theorem dX7_share_104 : decode cX7_share 104 = .ok (.iinc 9 1, 3) := by decide +kernel
theorem dX7_share_107 : decode cX7_share 107 = .ok (.goto (-41), 3) := by decide +kernel
theorem dX7_share_110 : decode cX7_share 110 = .ok (.lload 7, 2) := by decide +kernel
theorem dX7_share_112 : decode cX7_share 112 = .ok (.lconst 0, 1) := by decide +kernel
theorem dX7_share_113 : decode cX7_share 113 = .ok (.lcmp, 1) := by decide +kernel
theorem dX7_share_114 : decode cX7_share 114 = .ok (.ifCond .ne 9, 3) := by decide +kernel
theorem dX7_share_117 : decode cX7_share 117 = .ok (.bipush (-3), 2) := by decide +kernel
theorem dX7_share_119 : decode cX7_share 119 = .ok (.invokestatic 165, 3) := by decide +kernel
theorem dX7_share_122 : decode cX7_share 122 = .ok (.lreturn, 1) := by decide +kernel
theorem dX7_share_123 : decode cX7_share 123 = .ok (.aload_n 0, 1) := by decide +kernel
theorem dX7_share_124 : decode cX7_share 124 = .ok (.getfield 16, 3) := by decide +kernel
theorem dX7_share_127 : decode cX7_share 127 = .ok (.iload_n 1, 1) := by decide +kernel
theorem dX7_share_128 : decode cX7_share 128 = .ok (.iload 6, 2) := by decide +kernel
theorem dX7_share_130 : decode cX7_share 130 = .ok (.iload_n 3, 1) := by decide +kernel
theorem dX7_share_131 : decode cX7_share 131 = .ok (.iload 4, 2) := by decide +kernel
theorem dX7_share_133 : decode cX7_share 133 = .ok (.invokevirtual 231, 3) := by decide +kernel
theorem dX7_share_136 : decode cX7_share 136 = .ok (.lload 7, 2) := by decide +kernel
theorem dX7_share_138 : decode cX7_share 138 = .ok (.iload 5, 2) := by decide +kernel
theorem dX7_share_140 : decode cX7_share 140 = .ok (.invokestatic 176, 3) := by decide +kernel
theorem dX7_share_143 : decode cX7_share 143 = .ok (.lreturn, 1) := by decide +kernel
theorem dX7_likeliest_0 : decode cX7_likeliest 0 = .ok (.iload_n 1, 1) := by decide +kernel
theorem dX7_likeliest_1 : decode cX7_likeliest 1 = .ok (.iconst 0, 1) := by decide +kernel
theorem dX7_likeliest_2 : decode cX7_likeliest 2 = .ok (.iload_n 2, 1) := by decide +kernel
theorem dX7_likeliest_3 : decode cX7_likeliest 3 = .ok (.iload_n 3, 1) := by decide +kernel
theorem dX7_likeliest_4 : decode cX7_likeliest 4 = .ok (.invokestatic 227, 3) := by decide +kernel
theorem dX7_likeliest_7 : decode cX7_likeliest 7 = .ok (.ifCond .ne 6, 3) := by decide +kernel
theorem dX7_likeliest_10 : decode cX7_likeliest 10 = .ok (.bipush (-2), 2) := by decide +kernel
theorem dX7_likeliest_12 : decode cX7_likeliest 12 = .ok (.ireturn, 1) := by decide +kernel
theorem dX7_likeliest_13 : decode cX7_likeliest 13 = .ok (.aload_n 0, 1) := by decide +kernel
theorem dX7_likeliest_14 : decode cX7_likeliest 14 = .ok (.invokevirtual 186, 3) := by decide +kernel
theorem dX7_likeliest_17 : decode cX7_likeliest 17 = .ok (.iconst 0, 1) := by decide +kernel
theorem dX7_likeliest_18 : decode cX7_likeliest 18 = .ok (.istore 4, 2) := by decide +kernel
theorem dX7_likeliest_20 : decode cX7_likeliest 20 = .ok (.ldc2_w 238, 3) := by decide +kernel
theorem dX7_likeliest_23 : decode cX7_likeliest 23 = .ok (.lstore 5, 2) := by decide +kernel
theorem dX7_likeliest_25 : decode cX7_likeliest 25 = .ok (.iconst 0, 1) := by decide +kernel
theorem dX7_likeliest_26 : decode cX7_likeliest 26 = .ok (.istore 7, 2) := by decide +kernel
theorem dX7_likeliest_28 : decode cX7_likeliest 28 = .ok (.iload 7, 2) := by decide +kernel
theorem dX7_likeliest_30 : decode cX7_likeliest 30 = .ok (.aload_n 0, 1) := by decide +kernel
theorem dX7_likeliest_31 : decode cX7_likeliest 31 = .ok (.getfield 37, 3) := by decide +kernel
theorem dX7_likeliest_34 : decode cX7_likeliest 34 = .ok (.getfield 189, 3) := by decide +kernel
theorem dX7_likeliest_37 : decode cX7_likeliest 37 = .ok (.if_icmp .ge 55, 3) := by decide +kernel
theorem dX7_likeliest_40 : decode cX7_likeliest 40 = .ok (.aload_n 0, 1) := by decide +kernel
theorem dX7_likeliest_41 : decode cX7_likeliest 41 = .ok (.getfield 16, 3) := by decide +kernel
theorem dX7_likeliest_44 : decode cX7_likeliest 44 = .ok (.iload_n 1, 1) := by decide +kernel
theorem dX7_likeliest_45 : decode cX7_likeliest 45 = .ok (.aload_n 0, 1) := by decide +kernel
theorem dX7_likeliest_46 : decode cX7_likeliest 46 = .ok (.getfield 37, 3) := by decide +kernel
theorem dX7_likeliest_49 : decode cX7_likeliest 49 = .ok (.getfield 190, 3) := by decide +kernel
theorem dX7_likeliest_52 : decode cX7_likeliest 52 = .ok (.iload 7, 2) := by decide +kernel
theorem dX7_likeliest_54 : decode cX7_likeliest 54 = .ok (.iaload, 1) := by decide +kernel
theorem dX7_likeliest_55 : decode cX7_likeliest 55 = .ok (.iload_n 2, 1) := by decide +kernel
theorem dX7_likeliest_56 : decode cX7_likeliest 56 = .ok (.iload_n 3, 1) := by decide +kernel
theorem dX7_likeliest_57 : decode cX7_likeliest 57 = .ok (.invokevirtual 231, 3) := by decide +kernel
theorem dX7_likeliest_60 : decode cX7_likeliest 60 = .ok (.lstore 8, 2) := by decide +kernel
theorem dX7_likeliest_62 : decode cX7_likeliest 62 = .ok (.lload 8, 2) := by decide +kernel
theorem dX7_likeliest_64 : decode cX7_likeliest 64 = .ok (.lload 5, 2) := by decide +kernel
theorem dX7_likeliest_66 : decode cX7_likeliest 66 = .ok (.lcmp, 1) := by decide +kernel
theorem dX7_likeliest_67 : decode cX7_likeliest 67 = .ok (.ifCond .le 19, 3) := by decide +kernel
theorem dX7_likeliest_70 : decode cX7_likeliest 70 = .ok (.lload 8, 2) := by decide +kernel
theorem dX7_likeliest_72 : decode cX7_likeliest 72 = .ok (.lstore 5, 2) := by decide +kernel
theorem dX7_likeliest_74 : decode cX7_likeliest 74 = .ok (.aload_n 0, 1) := by decide +kernel
theorem dX7_likeliest_75 : decode cX7_likeliest 75 = .ok (.getfield 37, 3) := by decide +kernel
theorem dX7_likeliest_78 : decode cX7_likeliest 78 = .ok (.getfield 190, 3) := by decide +kernel
theorem dX7_likeliest_81 : decode cX7_likeliest 81 = .ok (.iload 7, 2) := by decide +kernel
theorem dX7_likeliest_83 : decode cX7_likeliest 83 = .ok (.iaload, 1) := by decide +kernel
theorem dX7_likeliest_84 : decode cX7_likeliest 84 = .ok (.istore 4, 2) := by decide +kernel
theorem dX7_likeliest_86 : decode cX7_likeliest 86 = .ok (.iinc 7 1, 3) := by decide +kernel
theorem dX7_likeliest_89 : decode cX7_likeliest 89 = .ok (.goto (-61), 3) := by decide +kernel
theorem dX7_likeliest_92 : decode cX7_likeliest 92 = .ok (.iload 4, 2) := by decide +kernel
theorem dX7_likeliest_94 : decode cX7_likeliest 94 = .ok (.ireturn, 1) := by decide +kernel
theorem dX7_lessons_0 : decode cX7_lessons 0 = .ok (.iload_n 1, 1) := by decide +kernel
theorem dX7_lessons_1 : decode cX7_lessons 1 = .ok (.iconst 5, 1) := by decide +kernel
theorem dX7_lessons_2 : decode cX7_lessons 2 = .ok (.invokestatic 62, 3) := by decide +kernel
theorem dX7_lessons_5 : decode cX7_lessons 5 = .ok (.ifCond .eq 13, 3) := by decide +kernel
theorem dX7_lessons_8 : decode cX7_lessons 8 = .ok (.iload_n 2, 1) := by decide +kernel
theorem dX7_lessons_9 : decode cX7_lessons 9 = .ok (.iconst (-1), 1) := by decide +kernel
theorem dX7_lessons_10 : decode cX7_lessons 10 = .ok (.if_icmp .lt 8, 3) := by decide +kernel
theorem dX7_lessons_13 : decode cX7_lessons 13 = .ok (.iload_n 2, 1) := by decide +kernel
theorem dX7_lessons_14 : decode cX7_lessons 14 = .ok (.iload_n 1, 1) := by decide +kernel
theorem dX7_lessons_15 : decode cX7_lessons 15 = .ok (.if_icmp .lt 6, 3) := by decide +kernel
theorem dX7_lessons_18 : decode cX7_lessons 18 = .ok (.bipush (-2), 2) := by decide +kernel
theorem dX7_lessons_20 : decode cX7_lessons 20 = .ok (.ireturn, 1) := by decide +kernel
theorem dX7_lessons_21 : decode cX7_lessons 21 = .ok (.aload_n 0, 1) := by decide +kernel
theorem dX7_lessons_22 : decode cX7_lessons 22 = .ok (.invokevirtual 186, 3) := by decide +kernel
theorem dX7_lessons_25 : decode cX7_lessons 25 = .ok (.aload_n 0, 1) := by decide +kernel
theorem dX7_lessons_26 : decode cX7_lessons 26 = .ok (.getfield 51, 3) := by decide +kernel
theorem dX7_lessons_29 : decode cX7_lessons 29 = .ok (.invokevirtual 240, 3) := by decide +kernel
theorem dX7_lessons_32 : decode cX7_lessons 32 = .ok (.iconst 0, 1) := by decide +kernel
theorem dX7_lessons_33 : decode cX7_lessons 33 = .ok (.istore_n 3, 1) := by decide +kernel
theorem dX7_lessons_34 : decode cX7_lessons 34 = .ok (.iload_n 3, 1) := by decide +kernel
theorem dX7_lessons_35 : decode cX7_lessons 35 = .ok (.bipush 12, 2) := by decide +kernel
theorem dX7_lessons_37 : decode cX7_lessons 37 = .ok (.if_icmp .ge 32, 3) := by decide +kernel
theorem dX7_lessons_40 : decode cX7_lessons 40 = .ok (.aload_n 0, 1) := by decide +kernel
theorem dX7_lessons_41 : decode cX7_lessons 41 = .ok (.getfield 16, 3) := by decide +kernel
theorem dX7_lessons_44 : decode cX7_lessons 44 = .ok (.iload_n 3, 1) := by decide +kernel
theorem dX7_lessons_45 : decode cX7_lessons 45 = .ok (.invokevirtual 242, 3) := by decide +kernel
theorem dX7_lessons_48 : decode cX7_lessons 48 = .ok (.ifCond .le 15, 3) := by decide +kernel
theorem dX7_lessons_51 : decode cX7_lessons 51 = .ok (.aload_n 0, 1) := by decide +kernel
theorem dX7_lessons_52 : decode cX7_lessons 52 = .ok (.getfield 51, 3) := by decide +kernel
theorem dX7_lessons_55 : decode cX7_lessons 55 = .ok (.aload_n 0, 1) := by decide +kernel
theorem dX7_lessons_56 : decode cX7_lessons 56 = .ok (.iload_n 3, 1) := by decide +kernel
theorem dX7_lessons_57 : decode cX7_lessons 57 = .ok (.invokevirtual 193, 3) := by decide +kernel
theorem dX7_lessons_60 : decode cX7_lessons 60 = .ok (.invokevirtual 245, 3) := by decide +kernel
theorem dX7_lessons_63 : decode cX7_lessons 63 = .ok (.iinc 3 1, 3) := by decide +kernel
theorem dX7_lessons_66 : decode cX7_lessons 66 = .ok (.goto (-32), 3) := by decide +kernel
theorem dX7_lessons_69 : decode cX7_lessons 69 = .ok (.aload_n 0, 1) := by decide +kernel
theorem dX7_lessons_70 : decode cX7_lessons 70 = .ok (.getfield 51, 3) := by decide +kernel
theorem dX7_lessons_73 : decode cX7_lessons 73 = .ok (.iload_n 1, 1) := by decide +kernel
theorem dX7_lessons_74 : decode cX7_lessons 74 = .ok (.aload_n 0, 1) := by decide +kernel
theorem dX7_lessons_75 : decode cX7_lessons 75 = .ok (.getfield 37, 3) := by decide +kernel
theorem dX7_lessons_78 : decode cX7_lessons 78 = .ok (.invokevirtual 248, 3) := by decide +kernel
theorem dX7_lessons_81 : decode cX7_lessons 81 = .ok (.iload_n 2, 1) := by decide +kernel
theorem dX7_lessons_82 : decode cX7_lessons 82 = .ok (.iconst (-1), 1) := by decide +kernel
theorem dX7_lessons_83 : decode cX7_lessons 83 = .ok (.if_icmp .ne 13, 3) := by decide +kernel
theorem dX7_lessons_86 : decode cX7_lessons 86 = .ok (.aload_n 0, 1) := by decide +kernel
theorem dX7_lessons_87 : decode cX7_lessons 87 = .ok (.getfield 51, 3) := by decide +kernel
theorem dX7_lessons_90 : decode cX7_lessons 90 = .ok (.getfield 252, 3) := by decide +kernel
theorem dX7_lessons_93 : decode cX7_lessons 93 = .ok (.goto 12, 3) := by decide +kernel
theorem dX7_lessons_96 : decode cX7_lessons 96 = .ok (.aload_n 0, 1) := by decide +kernel
theorem dX7_lessons_97 : decode cX7_lessons 97 = .ok (.getfield 51, 3) := by decide +kernel
theorem dX7_lessons_100 : decode cX7_lessons 100 = .ok (.getfield 255, 3) := by decide +kernel
theorem dX7_lessons_103 : decode cX7_lessons 103 = .ok (.iload_n 2, 1) := by decide +kernel
theorem dX7_lessons_104 : decode cX7_lessons 104 = .ok (.iaload, 1) := by decide +kernel
theorem dX7_lessons_105 : decode cX7_lessons 105 = .ok (.ireturn, 1) := by decide +kernel
theorem dX7_sheet_0 : decode cX7_sheet 0 = .ok (.iload_n 1, 1) := by decide +kernel
theorem dX7_sheet_1 : decode cX7_sheet 1 = .ok (.iconst 4, 1) := by decide +kernel
theorem dX7_sheet_2 : decode cX7_sheet 2 = .ok (.invokestatic 62, 3) := by decide +kernel
theorem dX7_sheet_5 : decode cX7_sheet 5 = .ok (.ifCond .eq 17, 3) := by decide +kernel
theorem dX7_sheet_8 : decode cX7_sheet 8 = .ok (.iload_n 2, 1) := by decide +kernel
theorem dX7_sheet_9 : decode cX7_sheet 9 = .ok (.iconst 3, 1) := by decide +kernel
theorem dX7_sheet_10 : decode cX7_sheet 10 = .ok (.invokestatic 62, 3) := by decide +kernel
theorem dX7_sheet_13 : decode cX7_sheet 13 = .ok (.ifCond .eq 9, 3) := by decide +kernel
theorem dX7_sheet_16 : decode cX7_sheet 16 = .ok (.iload_n 3, 1) := by decide +kernel
theorem dX7_sheet_17 : decode cX7_sheet 17 = .ok (.bipush 60, 2) := by decide +kernel
theorem dX7_sheet_19 : decode cX7_sheet 19 = .ok (.if_icmp .le 6, 3) := by decide +kernel
theorem dX7_sheet_22 : decode cX7_sheet 22 = .ok (.bipush (-2), 2) := by decide +kernel
theorem dX7_sheet_24 : decode cX7_sheet 24 = .ok (.ireturn, 1) := by decide +kernel
theorem dX7_sheet_25 : decode cX7_sheet 25 = .ok (.iload_n 3, 1) := by decide +kernel
theorem dX7_sheet_26 : decode cX7_sheet 26 = .ok (.ifCond .ge 9, 3) := by decide +kernel
theorem dX7_sheet_29 : decode cX7_sheet 29 = .ok (.aload_n 0, 1) := by decide +kernel
theorem dX7_sheet_30 : decode cX7_sheet 30 = .ok (.iconst 5, 1) := by decide +kernel
theorem dX7_sheet_31 : decode cX7_sheet 31 = .ok (.invokevirtual 100, 3) := by decide +kernel
theorem dX7_sheet_34 : decode cX7_sheet 34 = .ok (.ireturn, 1) := by decide +kernel
theorem dX7_sheet_35 : decode cX7_sheet 35 = .ok (.aload_n 0, 1) := by decide +kernel
theorem dX7_sheet_36 : decode cX7_sheet 36 = .ok (.getfield 57, 3) := by decide +kernel
theorem dX7_sheet_39 : decode cX7_sheet 39 = .ok (.iload_n 1, 1) := by decide +kernel
theorem dX7_sheet_40 : decode cX7_sheet 40 = .ok (.aaload, 1) := by decide +kernel
theorem dX7_sheet_41 : decode cX7_sheet 41 = .ok (.iload_n 2, 1) := by decide +kernel
theorem dX7_sheet_42 : decode cX7_sheet 42 = .ok (.iload_n 3, 1) := by decide +kernel
theorem dX7_sheet_43 : decode cX7_sheet 43 = .ok (.invokevirtual 256, 3) := by decide +kernel
theorem dX7_sheet_46 : decode cX7_sheet 46 = .ok (.iload_n 3, 1) := by decide +kernel
theorem dX7_sheet_47 : decode cX7_sheet 47 = .ok (.ireturn, 1) := by decide +kernel
theorem dX7_lose_0 : decode cX7_lose 0 = .ok (.iload_n 1, 1) := by decide +kernel
theorem dX7_lose_1 : decode cX7_lose 1 = .ok (.iconst 4, 1) := by decide +kernel
theorem dX7_lose_2 : decode cX7_lose 2 = .ok (.invokestatic 62, 3) := by decide +kernel
theorem dX7_lose_5 : decode cX7_lose 5 = .ok (.ifCond .ne 6, 3) := by decide +kernel
theorem dX7_lose_8 : decode cX7_lose 8 = .ok (.bipush (-2), 2) := by decide +kernel
theorem dX7_lose_10 : decode cX7_lose 10 = .ok (.ireturn, 1) := by decide +kernel
theorem dX7_lose_11 : decode cX7_lose 11 = .ok (.aload_n 0, 1) := by decide +kernel
theorem dX7_lose_12 : decode cX7_lose 12 = .ok (.getfield 57, 3) := by decide +kernel
theorem dX7_lose_15 : decode cX7_lose 15 = .ok (.iload_n 1, 1) := by decide +kernel
theorem dX7_lose_16 : decode cX7_lose 16 = .ok (.aaload, 1) := by decide +kernel
theorem dX7_lose_17 : decode cX7_lose 17 = .ok (.getfield 97, 3) := by decide +kernel
theorem dX7_lose_20 : decode cX7_lose 20 = .ok (.ifCond .eq 9, 3) := by decide +kernel
theorem dX7_lose_23 : decode cX7_lose 23 = .ok (.aload_n 0, 1) := by decide +kernel
theorem dX7_lose_24 : decode cX7_lose 24 = .ok (.iconst 1, 1) := by decide +kernel
theorem dX7_lose_25 : decode cX7_lose 25 = .ok (.invokevirtual 100, 3) := by decide +kernel
theorem dX7_lose_28 : decode cX7_lose 28 = .ok (.ireturn, 1) := by decide +kernel
theorem dX7_lose_29 : decode cX7_lose 29 = .ok (.aload_n 0, 1) := by decide +kernel
theorem dX7_lose_30 : decode cX7_lose 30 = .ok (.getfield 57, 3) := by decide +kernel
theorem dX7_lose_33 : decode cX7_lose 33 = .ok (.iload_n 1, 1) := by decide +kernel
theorem dX7_lose_34 : decode cX7_lose 34 = .ok (.aaload, 1) := by decide +kernel
theorem dX7_lose_35 : decode cX7_lose 35 = .ok (.iconst 1, 1) := by decide +kernel
theorem dX7_lose_36 : decode cX7_lose 36 = .ok (.putfield 97, 3) := by decide +kernel
theorem dX7_lose_39 : decode cX7_lose 39 = .ok (.aload_n 0, 1) := by decide +kernel
theorem dX7_lose_40 : decode cX7_lose 40 = .ok (.getfield 57, 3) := by decide +kernel
theorem dX7_lose_43 : decode cX7_lose 43 = .ok (.iload_n 1, 1) := by decide +kernel
theorem dX7_lose_44 : decode cX7_lose 44 = .ok (.aaload, 1) := by decide +kernel
theorem dX7_lose_45 : decode cX7_lose 45 = .ok (.getfield 104, 3) := by decide +kernel
theorem dX7_lose_48 : decode cX7_lose 48 = .ok (.ireturn, 1) := by decide +kernel
theorem dX7_lay_0 : decode cX7_lay 0 = .ok (.iload_n 1, 1) := by decide +kernel
theorem dX7_lay_1 : decode cX7_lay 1 = .ok (.iconst 4, 1) := by decide +kernel
theorem dX7_lay_2 : decode cX7_lay 2 = .ok (.invokestatic 62, 3) := by decide +kernel
theorem dX7_lay_5 : decode cX7_lay 5 = .ok (.ifCond .eq 11, 3) := by decide +kernel
theorem dX7_lay_8 : decode cX7_lay 8 = .ok (.iload_n 2, 1) := by decide +kernel
theorem dX7_lay_9 : decode cX7_lay 9 = .ok (.iconst 3, 1) := by decide +kernel
theorem dX7_lay_10 : decode cX7_lay 10 = .ok (.invokestatic 62, 3) := by decide +kernel
theorem dX7_lay_13 : decode cX7_lay 13 = .ok (.ifCond .ne 6, 3) := by decide +kernel
theorem dX7_lay_16 : decode cX7_lay 16 = .ok (.bipush (-2), 2) := by decide +kernel
theorem dX7_lay_18 : decode cX7_lay 18 = .ok (.ireturn, 1) := by decide +kernel
theorem dX7_lay_19 : decode cX7_lay 19 = .ok (.aload_n 0, 1) := by decide +kernel
theorem dX7_lay_20 : decode cX7_lay 20 = .ok (.getfield 57, 3) := by decide +kernel
theorem dX7_lay_23 : decode cX7_lay 23 = .ok (.iload_n 1, 1) := by decide +kernel
theorem dX7_lay_24 : decode cX7_lay 24 = .ok (.aaload, 1) := by decide +kernel
theorem dX7_lay_25 : decode cX7_lay 25 = .ok (.iload_n 2, 1) := by decide +kernel
theorem dX7_lay_26 : decode cX7_lay 26 = .ok (.iload_n 3, 1) := by decide +kernel
theorem dX7_lay_27 : decode cX7_lay 27 = .ok (.invokevirtual 259, 3) := by decide +kernel
theorem dX7_lay_30 : decode cX7_lay 30 = .ok (.istore 5, 2) := by decide +kernel
theorem dX7_lay_32 : decode cX7_lay 32 = .ok (.iload 5, 2) := by decide +kernel
theorem dX7_lay_34 : decode cX7_lay 34 = .ok (.ifCond .eq 10, 3) := by decide +kernel
theorem dX7_lay_37 : decode cX7_lay 37 = .ok (.aload_n 0, 1) := by decide +kernel
theorem dX7_lay_38 : decode cX7_lay 38 = .ok (.iload 5, 2) := by decide +kernel
theorem dX7_lay_40 : decode cX7_lay 40 = .ok (.invokevirtual 100, 3) := by decide +kernel
theorem dX7_lay_43 : decode cX7_lay 43 = .ok (.ireturn, 1) := by decide +kernel
theorem dX7_lay_44 : decode cX7_lay 44 = .ok (.aload_n 0, 1) := by decide +kernel
theorem dX7_lay_45 : decode cX7_lay 45 = .ok (.getfield 57, 3) := by decide +kernel
theorem dX7_lay_48 : decode cX7_lay 48 = .ok (.iload_n 1, 1) := by decide +kernel
theorem dX7_lay_49 : decode cX7_lay 49 = .ok (.aaload, 1) := by decide +kernel
theorem dX7_lay_50 : decode cX7_lay 50 = .ok (.iload_n 3, 1) := by decide +kernel
theorem dX7_lay_51 : decode cX7_lay 51 = .ok (.iload 4, 2) := by decide +kernel
theorem dX7_lay_53 : decode cX7_lay 53 = .ok (.invokevirtual 262, 3) := by decide +kernel
theorem dX7_lay_56 : decode cX7_lay 56 = .ok (.iconst 1, 1) := by decide +kernel
theorem dX7_lay_57 : decode cX7_lay 57 = .ok (.ireturn, 1) := by decide +kernel
theorem dX7_get_0 : decode cX7_get 0 = .ok (.iload_n 1, 1) := by decide +kernel
theorem dX7_get_1 : decode cX7_get 1 = .ok (.iconst 4, 1) := by decide +kernel
theorem dX7_get_2 : decode cX7_get 2 = .ok (.invokestatic 62, 3) := by decide +kernel
theorem dX7_get_5 : decode cX7_get 5 = .ok (.ifCond .eq 11, 3) := by decide +kernel
theorem dX7_get_8 : decode cX7_get 8 = .ok (.iload_n 2, 1) := by decide +kernel
theorem dX7_get_9 : decode cX7_get 9 = .ok (.iconst 3, 1) := by decide +kernel
theorem dX7_get_10 : decode cX7_get 10 = .ok (.invokestatic 62, 3) := by decide +kernel
theorem dX7_get_13 : decode cX7_get 13 = .ok (.ifCond .ne 7, 3) := by decide +kernel
theorem dX7_get_16 : decode cX7_get 16 = .ok (.ldc_w 265, 3) := by decide +kernel
theorem dX7_get_19 : decode cX7_get 19 = .ok (.ireturn, 1) := by decide +kernel
theorem dX7_get_20 : decode cX7_get 20 = .ok (.aload_n 0, 1) := by decide +kernel
theorem dX7_get_21 : decode cX7_get 21 = .ok (.getfield 57, 3) := by decide +kernel
theorem dX7_get_24 : decode cX7_get 24 = .ok (.iload_n 1, 1) := by decide +kernel
theorem dX7_get_25 : decode cX7_get 25 = .ok (.aaload, 1) := by decide +kernel
theorem dX7_get_26 : decode cX7_get 26 = .ok (.iload_n 2, 1) := by decide +kernel
theorem dX7_get_27 : decode cX7_get 27 = .ok (.iload_n 3, 1) := by decide +kernel
theorem dX7_get_28 : decode cX7_get 28 = .ok (.invokevirtual 259, 3) := by decide +kernel
theorem dX7_get_31 : decode cX7_get 31 = .ok (.istore 4, 2) := by decide +kernel
theorem dX7_get_33 : decode cX7_get 33 = .ok (.iload 4, 2) := by decide +kernel
theorem dX7_get_35 : decode cX7_get 35 = .ok (.ifCond .eq 13, 3) := by decide +kernel
theorem dX7_get_38 : decode cX7_get 38 = .ok (.aload_n 0, 1) := by decide +kernel
theorem dX7_get_39 : decode cX7_get 39 = .ok (.iload 4, 2) := by decide +kernel
theorem dX7_get_41 : decode cX7_get 41 = .ok (.putfield 266, 3) := by decide +kernel
theorem dX7_get_44 : decode cX7_get 44 = .ok (.ldc_w 265, 3) := by decide +kernel
theorem dX7_get_47 : decode cX7_get 47 = .ok (.ireturn, 1) := by decide +kernel
theorem dX7_get_48 : decode cX7_get 48 = .ok (.aload_n 0, 1) := by decide +kernel
