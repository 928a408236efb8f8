theorem dX7_get_49 : decode cX7_get 49 = .ok (.getfield 57, 3) := by decide +kernel
theorem dX7_get_52 : decode cX7_get 52 = .ok (.iload_n 1, 1) := by decide +kernel
theorem dX7_get_53 : decode cX7_get 53 = .ok (.aaload, 1) := by decide +kernel
theorem dX7_get_54 : decode cX7_get 54 = .ok (.getfield 113, 3) := by decide +kernel
theorem dX7_get_57 : decode cX7_get 57 = .ok (.iload_n 3, 1) := by decide +kernel
theorem dX7_get_58 : decode cX7_get 58 = .ok (.iaload, 1) := by decide +kernel
theorem dX7_get_59 : decode cX7_get 59 = .ok (.ireturn, 1) := by decide +kernel
theorem dX7_copy_0 : decode cX7_copy 0 = .ok (.iload_n 1, 1) := by decide +kernel
theorem dX7_copy_1 : decode cX7_copy 1 = .ok (.iconst 4, 1) := by decide +kernel
theorem dX7_copy_2 : decode cX7_copy 2 = .ok (.invokestatic 62, 3) := by decide +kernel
theorem dX7_copy_5 : decode cX7_copy 5 = .ok (.ifCond .eq 11, 3) := by decide +kernel
theorem dX7_copy_8 : decode cX7_copy 8 = .ok (.iload_n 3, 1) := by decide +kernel
theorem dX7_copy_9 : decode cX7_copy 9 = .ok (.iconst 4, 1) := by decide +kernel
theorem dX7_copy_10 : decode cX7_copy 10 = .ok (.invokestatic 62, 3) := by decide +kernel
theorem dX7_copy_13 : decode cX7_copy 13 = .ok (.ifCond .ne 6, 3) := by decide +kernel
theorem dX7_copy_16 : decode cX7_copy 16 = .ok (.bipush (-2), 2) := by decide +kernel
theorem dX7_copy_18 : decode cX7_copy 18 = .ok (.ireturn, 1) := by decide +kernel
theorem dX7_copy_19 : decode cX7_copy 19 = .ok (.aload_n 0, 1) := by decide +kernel
theorem dX7_copy_20 : decode cX7_copy 20 = .ok (.getfield 57, 3) := by decide +kernel
theorem dX7_copy_23 : decode cX7_copy 23 = .ok (.iload_n 1, 1) := by decide +kernel
theorem dX7_copy_24 : decode cX7_copy 24 = .ok (.aaload, 1) := by decide +kernel
theorem dX7_copy_25 : decode cX7_copy 25 = .ok (.astore 6, 2) := by decide +kernel
theorem dX7_copy_27 : decode cX7_copy 27 = .ok (.aload_n 0, 1) := by decide +kernel
theorem dX7_copy_28 : decode cX7_copy 28 = .ok (.getfield 57, 3) := by decide +kernel
theorem dX7_copy_31 : decode cX7_copy 31 = .ok (.iload_n 3, 1) := by decide +kernel
theorem dX7_copy_32 : decode cX7_copy 32 = .ok (.aaload, 1) := by decide +kernel
theorem dX7_copy_33 : decode cX7_copy 33 = .ok (.astore 7, 2) := by decide +kernel
theorem dX7_copy_35 : decode cX7_copy 35 = .ok (.aload 6, 2) := by decide +kernel
theorem dX7_copy_37 : decode cX7_copy 37 = .ok (.getfield 97, 3) := by decide +kernel
theorem dX7_copy_40 : decode cX7_copy 40 = .ok (.ifCond .ne 11, 3) := by decide +kernel
theorem dX7_copy_43 : decode cX7_copy 43 = .ok (.aload 7, 2) := by decide +kernel
theorem dX7_copy_45 : decode cX7_copy 45 = .ok (.getfield 97, 3) := by decide +kernel
theorem dX7_copy_48 : decode cX7_copy 48 = .ok (.ifCond .eq 9, 3) := by decide +kernel
theorem dX7_copy_51 : decode cX7_copy 51 = .ok (.aload_n 0, 1) := by decide +kernel
theorem dX7_copy_52 : decode cX7_copy 52 = .ok (.iconst 1, 1) := by decide +kernel
theorem dX7_copy_53 : decode cX7_copy 53 = .ok (.invokevirtual 100, 3) := by decide +kernel
theorem dX7_copy_56 : decode cX7_copy 56 = .ok (.ireturn, 1) := by decide +kernel
theorem dX7_copy_57 : decode cX7_copy 57 = .ok (.aload 6, 2) := by decide +kernel
theorem dX7_copy_59 : decode cX7_copy 59 = .ok (.getfield 269, 3) := by decide +kernel
theorem dX7_copy_62 : decode cX7_copy 62 = .ok (.aload 7, 2) := by decide +kernel
theorem dX7_copy_64 : decode cX7_copy 64 = .ok (.getfield 269, 3) := by decide +kernel
theorem dX7_copy_67 : decode cX7_copy 67 = .ok (.if_icmp .eq 9, 3) := by decide +kernel
theorem dX7_copy_70 : decode cX7_copy 70 = .ok (.aload_n 0, 1) := by decide +kernel
theorem dX7_copy_71 : decode cX7_copy 71 = .ok (.iconst 4, 1) := by decide +kernel
theorem dX7_copy_72 : decode cX7_copy 72 = .ok (.invokevirtual 100, 3) := by decide +kernel
theorem dX7_copy_75 : decode cX7_copy 75 = .ok (.ireturn, 1) := by decide +kernel
theorem dX7_copy_76 : decode cX7_copy 76 = .ok (.aload 6, 2) := by decide +kernel
theorem dX7_copy_78 : decode cX7_copy 78 = .ok (.iload_n 2, 1) := by decide +kernel
theorem dX7_copy_79 : decode cX7_copy 79 = .ok (.iload 5, 2) := by decide +kernel
theorem dX7_copy_81 : decode cX7_copy 81 = .ok (.invokevirtual 272, 3) := by decide +kernel
theorem dX7_copy_84 : decode cX7_copy 84 = .ok (.ifCond .eq 15, 3) := by decide +kernel
theorem dX7_copy_87 : decode cX7_copy 87 = .ok (.aload 7, 2) := by decide +kernel
theorem dX7_copy_89 : decode cX7_copy 89 = .ok (.iload 4, 2) := by decide +kernel
theorem dX7_copy_91 : decode cX7_copy 91 = .ok (.iload 5, 2) := by decide +kernel
theorem dX7_copy_93 : decode cX7_copy 93 = .ok (.invokevirtual 272, 3) := by decide +kernel
theorem dX7_copy_96 : decode cX7_copy 96 = .ok (.ifCond .ne 9, 3) := by decide +kernel
theorem dX7_copy_99 : decode cX7_copy 99 = .ok (.aload_n 0, 1) := by decide +kernel
theorem dX7_copy_100 : decode cX7_copy 100 = .ok (.iconst 2, 1) := by decide +kernel
theorem dX7_copy_101 : decode cX7_copy 101 = .ok (.invokevirtual 100, 3) := by decide +kernel
theorem dX7_copy_104 : decode cX7_copy 104 = .ok (.ireturn, 1) := by decide +kernel
theorem dX7_copy_105 : decode cX7_copy 105 = .ok (.aload 6, 2) := by decide +kernel
theorem dX7_copy_107 : decode cX7_copy 107 = .ok (.getfield 113, 3) := by decide +kernel
theorem dX7_copy_110 : decode cX7_copy 110 = .ok (.iload_n 2, 1) := by decide +kernel
theorem dX7_copy_111 : decode cX7_copy 111 = .ok (.aload 7, 2) := by decide +kernel
theorem dX7_copy_113 : decode cX7_copy 113 = .ok (.getfield 113, 3) := by decide +kernel
theorem dX7_copy_116 : decode cX7_copy 116 = .ok (.iload 4, 2) := by decide +kernel
theorem dX7_copy_118 : decode cX7_copy 118 = .ok (.iload 5, 2) := by decide +kernel
theorem dX7_copy_120 : decode cX7_copy 120 = .ok (.invokestatic 275, 3) := by decide +kernel
theorem dX7_copy_123 : decode cX7_copy 123 = .ok (.iconst 1, 1) := by decide +kernel
theorem dX7_copy_124 : decode cX7_copy 124 = .ok (.ireturn, 1) := by decide +kernel
theorem dX7_write_0 : decode cX7_write 0 = .ok (.iload_n 1, 1) := by decide +kernel
theorem dX7_write_1 : decode cX7_write 1 = .ok (.iconst 4, 1) := by decide +kernel
theorem dX7_write_2 : decode cX7_write 2 = .ok (.invokestatic 62, 3) := by decide +kernel
theorem dX7_write_5 : decode cX7_write 5 = .ok (.ifCond .ne 6, 3) := by decide +kernel
theorem dX7_write_8 : decode cX7_write 8 = .ok (.bipush (-2), 2) := by decide +kernel
theorem dX7_write_10 : decode cX7_write 10 = .ok (.ireturn, 1) := by decide +kernel
theorem dX7_write_11 : decode cX7_write 11 = .ok (.aload_n 0, 1) := by decide +kernel
theorem dX7_write_12 : decode cX7_write 12 = .ok (.getfield 57, 3) := by decide +kernel
theorem dX7_write_15 : decode cX7_write 15 = .ok (.iload_n 1, 1) := by decide +kernel
theorem dX7_write_16 : decode cX7_write 16 = .ok (.aaload, 1) := by decide +kernel
theorem dX7_write_17 : decode cX7_write 17 = .ok (.astore_n 2, 1) := by decide +kernel
theorem dX7_write_18 : decode cX7_write 18 = .ok (.aload_n 2, 1) := by decide +kernel
theorem dX7_write_19 : decode cX7_write 19 = .ok (.getfield 97, 3) := by decide +kernel
theorem dX7_write_22 : decode cX7_write 22 = .ok (.ifCond .eq 9, 3) := by decide +kernel
theorem dX7_write_25 : decode cX7_write 25 = .ok (.aload_n 0, 1) := by decide +kernel
theorem dX7_write_26 : decode cX7_write 26 = .ok (.iconst 1, 1) := by decide +kernel
theorem dX7_write_27 : decode cX7_write 27 = .ok (.invokevirtual 100, 3) := by decide +kernel
theorem dX7_write_30 : decode cX7_write 30 = .ok (.ireturn, 1) := by decide +kernel
theorem dX7_write_31 : decode cX7_write 31 = .ok (.aload_n 0, 1) := by decide +kernel
theorem dX7_write_32 : decode cX7_write 32 = .ok (.invokevirtual 186, 3) := by decide +kernel
theorem dX7_write_35 : decode cX7_write 35 = .ok (.bipush 12, 2) := by decide +kernel
theorem dX7_write_37 : decode cX7_write 37 = .ok (.aload_n 2, 1) := by decide +kernel
theorem dX7_write_38 : decode cX7_write 38 = .ok (.getfield 104, 3) := by decide +kernel
theorem dX7_write_41 : decode cX7_write 41 = .ok (.invokestatic 107, 3) := by decide +kernel
theorem dX7_write_44 : decode cX7_write 44 = .ok (.istore_n 3, 1) := by decide +kernel
theorem dX7_write_45 : decode cX7_write 45 = .ok (.iconst 0, 1) := by decide +kernel
theorem dX7_write_46 : decode cX7_write 46 = .ok (.istore 4, 2) := by decide +kernel
theorem dX7_write_48 : decode cX7_write 48 = .ok (.iload 4, 2) := by decide +kernel
theorem dX7_write_50 : decode cX7_write 50 = .ok (.iload_n 3, 1) := by decide +kernel
theorem dX7_write_51 : decode cX7_write 51 = .ok (.if_icmp .ge 21, 3) := by decide +kernel
theorem dX7_write_54 : decode cX7_write 54 = .ok (.aload_n 2, 1) := by decide +kernel
theorem dX7_write_55 : decode cX7_write 55 = .ok (.iload 4, 2) := by decide +kernel
theorem dX7_write_57 : decode cX7_write 57 = .ok (.aload_n 0, 1) := by decide +kernel
theorem dX7_write_58 : decode cX7_write 58 = .ok (.iload 4, 2) := by decide +kernel
theorem dX7_write_60 : decode cX7_write 60 = .ok (.invokevirtual 193, 3) := by decide +kernel
theorem dX7_write_63 : decode cX7_write 63 = .ok (.invokevirtual 262, 3) := by decide +kernel
theorem dX7_write_66 : decode cX7_write 66 = .ok (.iinc 4 1, 3) := by decide +kernel
theorem dX7_write_69 : decode cX7_write 69 = .ok (.goto (-21), 3) := by decide +kernel
theorem dX7_write_72 : decode cX7_write 72 = .ok (.iload_n 3, 1) := by decide +kernel
theorem dX7_write_73 : decode cX7_write 73 = .ok (.ireturn, 1) := by decide +kernel
theorem dX7_count_0 : decode cX7_count 0 = .ok (.iload_n 1, 1) := by decide +kernel
theorem dX7_count_1 : decode cX7_count 1 = .ok (.tableswitch 119 0 8 #[51, 59, 67, 75, 83, 91, 99, 107, 114], 51) := by decide +kernel
theorem dX7_count_52 : decode cX7_count 52 = .ok (.aload_n 0, 1) := by decide +kernel
theorem dX7_count_53 : decode cX7_count 53 = .ok (.getfield 16, 3) := by decide +kernel
theorem dX7_count_56 : decode cX7_count 56 = .ok (.getfield 183, 3) := by decide +kernel
theorem dX7_count_59 : decode cX7_count 59 = .ok (.ireturn, 1) := by decide +kernel
theorem dX7_count_60 : decode cX7_count 60 = .ok (.aload_n 0, 1) := by decide +kernel
theorem dX7_count_61 : decode cX7_count 61 = .ok (.getfield 16, 3) := by decide +kernel
theorem dX7_count_64 : decode cX7_count 64 = .ok (.getfield 93, 3) := by decide +kernel
theorem dX7_count_67 : decode cX7_count 67 = .ok (.ireturn, 1) := by decide +kernel
theorem dX7_count_68 : decode cX7_count 68 = .ok (.aload_n 0, 1) := by decide +kernel
theorem dX7_count_69 : decode cX7_count 69 = .ok (.getfield 16, 3) := by decide +kernel
theorem dX7_count_72 : decode cX7_count 72 = .ok (.invokevirtual 169, 3) := by decide +kernel
theorem dX7_count_75 : decode cX7_count 75 = .ok (.ireturn, 1) := by decide +kernel
theorem dX7_count_76 : decode cX7_count 76 = .ok (.aload_n 0, 1) := by decide +kernel
theorem dX7_count_77 : decode cX7_count 77 = .ok (.getfield 16, 3) := by decide +kernel
theorem dX7_count_80 : decode cX7_count 80 = .ok (.invokevirtual 281, 3) := by decide +kernel
theorem dX7_count_83 : decode cX7_count 83 = .ok (.ireturn, 1) := by decide +kernel
theorem dX7_count_84 : decode cX7_count 84 = .ok (.aload_n 0, 1) := by decide +kernel
theorem dX7_count_85 : decode cX7_count 85 = .ok (.getfield 16, 3) := by decide +kernel
theorem dX7_count_88 : decode cX7_count 88 = .ok (.invokevirtual 284, 3) := by decide +kernel
theorem dX7_count_91 : decode cX7_count 91 = .ok (.ireturn, 1) := by decide +kernel
theorem dX7_count_92 : decode cX7_count 92 = .ok (.aload_n 0, 1) := by decide +kernel
theorem dX7_count_93 : decode cX7_count 93 = .ok (.getfield 23, 3) := by decide +kernel
theorem dX7_count_96 : decode cX7_count 96 = .ok (.getfield 119, 3) := by decide +kernel
theorem dX7_count_99 : decode cX7_count 99 = .ok (.ireturn, 1) := by decide +kernel
theorem dX7_count_100 : decode cX7_count 100 = .ok (.aload_n 0, 1) := by decide +kernel
theorem dX7_count_101 : decode cX7_count 101 = .ok (.getfield 23, 3) := by decide +kernel
theorem dX7_count_104 : decode cX7_count 104 = .ok (.getfield 287, 3) := by decide +kernel
theorem dX7_count_107 : decode cX7_count 107 = .ok (.ireturn, 1) := by decide +kernel
theorem dX7_count_108 : decode cX7_count 108 = .ok (.aload_n 0, 1) := by decide +kernel
theorem dX7_count_109 : decode cX7_count 109 = .ok (.getfield 9, 3) := by decide +kernel
theorem dX7_count_112 : decode cX7_count 112 = .ok (.iconst 2, 1) := by decide +kernel
theorem dX7_count_113 : decode cX7_count 113 = .ok (.iaload, 1) := by decide +kernel
theorem dX7_count_114 : decode cX7_count 114 = .ok (.ireturn, 1) := by decide +kernel
theorem dX7_count_115 : decode cX7_count 115 = .ok (.aload_n 0, 1) := by decide +kernel
theorem dX7_count_116 : decode cX7_count 116 = .ok (.getfield 266, 3) := by decide +kernel
theorem dX7_count_119 : decode cX7_count 119 = .ok (.ireturn, 1) := by decide +kernel
theorem dX7_count_120 : decode cX7_count 120 = .ok (.bipush (-2), 2) := by decide +kernel
theorem dX7_count_122 : decode cX7_count 122 = .ok (.ireturn, 1) := by decide +kernel
theorem dX7_digest_0 : decode cX7_digest 0 = .ok (.ldc2_w 290, 3) := by decide +kernel
theorem dX7_digest_3 : decode cX7_digest 3 = .ok (.lstore_n 1, 1) := by decide +kernel
theorem dX7_digest_4 : decode cX7_digest 4 = .ok (.iconst 0, 1) := by decide +kernel
theorem dX7_digest_5 : decode cX7_digest 5 = .ok (.istore_n 3, 1) := by decide +kernel
theorem dX7_digest_6 : decode cX7_digest 6 = .ok (.iload_n 3, 1) := by decide +kernel
theorem dX7_digest_7 : decode cX7_digest 7 = .ok (.bipush 7, 2) := by decide +kernel
theorem dX7_digest_9 : decode cX7_digest 9 = .ok (.if_icmp .gt 20, 3) := by decide +kernel
theorem dX7_digest_12 : decode cX7_digest 12 = .ok (.lload_n 1, 1) := by decide +kernel
theorem dX7_digest_13 : decode cX7_digest 13 = .ok (.aload_n 0, 1) := by decide +kernel
theorem dX7_digest_14 : decode cX7_digest 14 = .ok (.iload_n 3, 1) := by decide +kernel
theorem dX7_digest_15 : decode cX7_digest 15 = .ok (.invokevirtual 292, 3) := by decide +kernel
theorem dX7_digest_18 : decode cX7_digest 18 = .ok (.i2l, 1) := by decide +kernel
theorem dX7_digest_19 : decode cX7_digest 19 = .ok (.invokestatic 295, 3) := by decide +kernel
theorem dX7_digest_22 : decode cX7_digest 22 = .ok (.lstore_n 1, 1) := by decide +kernel
theorem dX7_digest_23 : decode cX7_digest 23 = .ok (.iinc 3 1, 3) := by decide +kernel
theorem dX7_digest_26 : decode cX7_digest 26 = .ok (.goto (-20), 3) := by decide +kernel
theorem dX7_digest_29 : decode cX7_digest 29 = .ok (.lload_n 1, 1) := by decide +kernel
theorem dX7_digest_30 : decode cX7_digest 30 = .ok (.aload_n 0, 1) := by decide +kernel
theorem dX7_digest_31 : decode cX7_digest 31 = .ok (.invokevirtual 299, 3) := by decide +kernel
theorem dX7_digest_34 : decode cX7_digest 34 = .ok (.i2l, 1) := by decide +kernel
theorem dX7_digest_35 : decode cX7_digest 35 = .ok (.invokestatic 295, 3) := by decide +kernel
theorem dX7_digest_38 : decode cX7_digest 38 = .ok (.lstore_n 1, 1) := by decide +kernel
theorem dX7_digest_39 : decode cX7_digest 39 = .ok (.iconst 0, 1) := by decide +kernel
theorem dX7_digest_40 : decode cX7_digest 40 = .ok (.istore_n 3, 1) := by decide +kernel
theorem dX7_digest_41 : decode cX7_digest 41 = .ok (.iload_n 3, 1) := by decide +kernel
theorem dX7_digest_42 : decode cX7_digest 42 = .ok (.bipush 12, 2) := by decide +kernel
theorem dX7_digest_44 : decode cX7_digest 44 = .ok (.if_icmp .ge 16, 3) := by decide +kernel
theorem dX7_digest_47 : decode cX7_digest 47 = .ok (.aload_n 0, 1) := by decide +kernel
theorem dX7_digest_48 : decode cX7_digest 48 = .ok (.lload_n 1, 1) := by decide +kernel
theorem dX7_digest_49 : decode cX7_digest 49 = .ok (.iload_n 3, 1) := by decide +kernel
theorem dX7_digest_50 : decode cX7_digest 50 = .ok (.invokevirtual 302, 3) := by decide +kernel
theorem dX7_digest_53 : decode cX7_digest 53 = .ok (.lstore_n 1, 1) := by decide +kernel
theorem dX7_digest_54 : decode cX7_digest 54 = .ok (.iinc 3 1, 3) := by decide +kernel
theorem dX7_digest_57 : decode cX7_digest 57 = .ok (.goto (-16), 3) := by decide +kernel
theorem dX7_digest_60 : decode cX7_digest 60 = .ok (.lload_n 1, 1) := by decide +kernel
theorem dX7_digest_61 : decode cX7_digest 61 = .ok (.aload_n 0, 1) := by decide +kernel
theorem dX7_digest_62 : decode cX7_digest 62 = .ok (.iconst 0, 1) := by decide +kernel
theorem dX7_digest_63 : decode cX7_digest 63 = .ok (.invokevirtual 306, 3) := by decide +kernel
theorem dX7_digest_66 : decode cX7_digest 66 = .ok (.i2l, 1) := by decide +kernel
theorem dX7_digest_67 : decode cX7_digest 67 = .ok (.invokestatic 295, 3) := by decide +kernel
theorem dX7_digest_70 : decode cX7_digest 70 = .ok (.aload_n 0, 1) := by decide +kernel
theorem dX7_digest_71 : decode cX7_digest 71 = .ok (.iconst 1, 1) := by decide +kernel
theorem dX7_digest_72 : decode cX7_digest 72 = .ok (.invokevirtual 306, 3) := by decide +kernel
theorem dX7_digest_75 : decode cX7_digest 75 = .ok (.i2l, 1) := by decide +kernel
theorem dX7_digest_76 : decode cX7_digest 76 = .ok (.invokestatic 295, 3) := by decide +kernel
theorem dX7_digest_79 : decode cX7_digest 79 = .ok (.lstore_n 1, 1) := by decide +kernel
theorem dX7_digest_80 : decode cX7_digest 80 = .ok (.iconst 0, 1) := by decide +kernel
theorem dX7_digest_81 : decode cX7_digest 81 = .ok (.istore_n 3, 1) := by decide +kernel
theorem dX7_digest_82 : decode cX7_digest 82 = .ok (.iload_n 3, 1) := by decide +kernel
theorem dX7_digest_83 : decode cX7_digest 83 = .ok (.aload_n 0, 1) := by decide +kernel
theorem dX7_digest_84 : decode cX7_digest 84 = .ok (.getfield 16, 3) := by decide +kernel
theorem dX7_digest_87 : decode cX7_digest 87 = .ok (.getfield 183, 3) := by decide +kernel
theorem dX7_digest_90 : decode cX7_digest 90 = .ok (.if_icmp .ge 16, 3) := by decide +kernel
theorem dX7_digest_93 : decode cX7_digest 93 = .ok (.aload_n 0, 1) := by decide +kernel
theorem dX7_digest_94 : decode cX7_digest 94 = .ok (.lload_n 1, 1) := by decide +kernel
theorem dX7_digest_95 : decode cX7_digest 95 = .ok (.iload_n 3, 1) := by decide +kernel
theorem dX7_digest_96 : decode cX7_digest 96 = .ok (.invokevirtual 309, 3) := by decide +kernel
theorem dX7_digest_99 : decode cX7_digest 99 = .ok (.lstore_n 1, 1) := by decide +kernel
theorem dX7_digest_100 : decode cX7_digest 100 = .ok (.iinc 3 1, 3) := by decide +kernel
theorem dX7_digest_103 : decode cX7_digest 103 = .ok (.goto (-21), 3) := by decide +kernel
theorem dX7_digest_106 : decode cX7_digest 106 = .ok (.iconst 0, 1) := by decide +kernel
theorem dX7_digest_107 : decode cX7_digest 107 = .ok (.istore_n 3, 1) := by decide +kernel
theorem dX7_digest_108 : decode cX7_digest 108 = .ok (.iload_n 3, 1) := by decide +kernel
theorem dX7_digest_109 : decode cX7_digest 109 = .ok (.iconst 2, 1) := by decide +kernel
theorem dX7_digest_110 : decode cX7_digest 110 = .ok (.if_icmp .ge 29, 3) := by decide +kernel
theorem dX7_digest_113 : decode cX7_digest 113 = .ok (.lload_n 1, 1) := by decide +kernel
theorem dX7_digest_114 : decode cX7_digest 114 = .ok (.aload_n 0, 1) := by decide +kernel
theorem dX7_digest_115 : decode cX7_digest 115 = .ok (.iload_n 3, 1) := by decide +kernel
theorem dX7_digest_116 : decode cX7_digest 116 = .ok (.iconst 0, 1) := by decide +kernel
theorem dX7_digest_117 : decode cX7_digest 117 = .ok (.invokevirtual 312, 3) := by decide +kernel
theorem dX7_digest_120 : decode cX7_digest 120 = .ok (.invokestatic 295, 3) := by decide +kernel
theorem dX7_digest_123 : decode cX7_digest 123 = .ok (.aload_n 0, 1) := by decide +kernel
theorem dX7_digest_124 : decode cX7_digest 124 = .ok (.iload_n 3, 1) := by decide +kernel
theorem dX7_digest_125 : decode cX7_digest 125 = .ok (.iconst 1, 1) := by decide +kernel
theorem dX7_digest_126 : decode cX7_digest 126 = .ok (.invokevirtual 312, 3) := by decide +kernel
theorem dX7_digest_129 : decode cX7_digest 129 = .ok (.invokestatic 295, 3) := by decide +kernel
theorem dX7_digest_132 : decode cX7_digest 132 = .ok (.lstore_n 1, 1) := by decide +kernel
theorem dX7_digest_133 : decode cX7_digest 133 = .ok (.iinc 3 1, 3) := by decide +kernel
theorem dX7_digest_136 : decode cX7_digest 136 = .ok (.goto (-28), 3) := by decide +kernel
theorem dX7_digest_139 : decode cX7_digest 139 = .ok (.lload_n 1, 1) := by decide +kernel
theorem dX7_digest_140 : decode cX7_digest 140 = .ok (.aload_n 0, 1) := by decide +kernel
theorem dX7_digest_141 : decode cX7_digest 141 = .ok (.invokevirtual 316, 3) := by decide +kernel
theorem dX7_digest_144 : decode cX7_digest 144 = .ok (.i2l, 1) := by decide +kernel
theorem dX7_digest_145 : decode cX7_digest 145 = .ok (.invokestatic 295, 3) := by decide +kernel
theorem dX7_digest_148 : decode cX7_digest 148 = .ok (.aload_n 0, 1) := by decide +kernel
theorem dX7_digest_149 : decode cX7_digest 149 = .ok (.iconst 0, 1) := by decide +kernel
theorem dX7_digest_150 : decode cX7_digest 150 = .ok (.invokevirtual 319, 3) := by decide +kernel
theorem dX7_digest_153 : decode cX7_digest 153 = .ok (.i2l, 1) := by decide +kernel
theorem dX7_digest_154 : decode cX7_digest 154 = .ok (.invokestatic 295, 3) := by decide +kernel
theorem dX7_digest_157 : decode cX7_digest 157 = .ok (.aload_n 0, 1) := by decide +kernel
theorem dX7_digest_158 : decode cX7_digest 158 = .ok (.iconst 1, 1) := by decide +kernel
theorem dX7_digest_159 : decode cX7_digest 159 = .ok (.invokevirtual 319, 3) := by decide +kernel
theorem dX7_digest_162 : decode cX7_digest 162 = .ok (.i2l, 1) := by decide +kernel
theorem dX7_digest_163 : decode cX7_digest 163 = .ok (.invokestatic 295, 3) := by decide +kernel
theorem dX7_digest_166 : decode cX7_digest 166 = .ok (.lstore_n 1, 1) := by decide +kernel
theorem dX7_digest_167 : decode cX7_digest 167 = .ok (.lload_n 1, 1) := by decide +kernel
theorem dX7_digest_168 : decode cX7_digest 168 = .ok (.aload_n 0, 1) := by decide +kernel
theorem dX7_digest_169 : decode cX7_digest 169 = .ok (.iconst (-1), 1) := by decide +kernel
theorem dX7_digest_170 : decode cX7_digest 170 = .ok (.invokevirtual 322, 3) := by decide +kernel
theorem dX7_digest_173 : decode cX7_digest 173 = .ok (.i2l, 1) := by decide +kernel
theorem dX7_digest_174 : decode cX7_digest 174 = .ok (.invokestatic 295, 3) := by decide +kernel
theorem dX7_digest_177 : decode cX7_digest 177 = .ok (.aload_n 0, 1) := by decide +kernel
theorem dX7_digest_178 : decode cX7_digest 178 = .ok (.invokevirtual 325, 3) := by decide +kernel
theorem dX7_digest_181 : decode cX7_digest 181 = .ok (.i2l, 1) := by decide +kernel
theorem dX7_digest_182 : decode cX7_digest 182 = .ok (.invokestatic 295, 3) := by decide +kernel
theorem dX7_digest_185 : decode cX7_digest 185 = .ok (.lstore_n 1, 1) := by decide +kernel
theorem dX7_digest_186 : decode cX7_digest 186 = .ok (.lload_n 1, 1) := by decide +kernel
theorem dX7_digest_187 : decode cX7_digest 187 = .ok (.aload_n 0, 1) := by decide +kernel
theorem dX7_digest_188 : decode cX7_digest 188 = .ok (.iconst 0, 1) := by decide +kernel
theorem dX7_digest_189 : decode cX7_digest 189 = .ok (.iconst 0, 1) := by decide +kernel
theorem dX7_digest_190 : decode cX7_digest 190 = .ok (.iconst 0, 1) := by decide +kernel
theorem dX7_digest_191 : decode cX7_digest 191 = .ok (.invokevirtual 328, 3) := by decide +kernel
theorem dX7_digest_194 : decode cX7_digest 194 = .ok (.i2l, 1) := by decide +kernel
theorem dX7_digest_195 : decode cX7_digest 195 = .ok (.invokestatic 295, 3) := by decide +kernel
theorem dX7_digest_198 : decode cX7_digest 198 = .ok (.aload_n 0, 1) := by decide +kernel
theorem dX7_digest_199 : decode cX7_digest 199 = .ok (.iconst 0, 1) := by decide +kernel
theorem dX7_digest_200 : decode cX7_digest 200 = .ok (.iconst 0, 1) := by decide +kernel
theorem dX7_digest_201 : decode cX7_digest 201 = .ok (.iconst 1, 1) := by decide +kernel
theorem dX7_digest_202 : decode cX7_digest 202 = .ok (.invokevirtual 328, 3) := by decide +kernel
theorem dX7_digest_205 : decode cX7_digest 205 = .ok (.i2l, 1) := by decide +kernel
theorem dX7_digest_206 : decode cX7_digest 206 = .ok (.invokestatic 295, 3) := by decide +kernel
theorem dX7_digest_209 : decode cX7_digest 209 = .ok (.lstore_n 1, 1) := by decide +kernel
theorem dX7_digest_210 : decode cX7_digest 210 = .ok (.lload_n 1, 1) := by decide +kernel
theorem dX7_digest_211 : decode cX7_digest 211 = .ok (.aload_n 0, 1) := by decide +kernel
theorem dX7_digest_212 : decode cX7_digest 212 = .ok (.iconst 2, 1) := by decide +kernel
theorem dX7_digest_213 : decode cX7_digest 213 = .ok (.iconst (-1), 1) := by decide +kernel
theorem dX7_digest_214 : decode cX7_digest 214 = .ok (.invokevirtual 332, 3) := by decide +kernel
theorem dX7_digest_217 : decode cX7_digest 217 = .ok (.i2l, 1) := by decide +kernel
theorem dX7_digest_218 : decode cX7_digest 218 = .ok (.invokestatic 295, 3) := by decide +kernel
theorem dX7_digest_221 : decode cX7_digest 221 = .ok (.lreturn, 1) := by decide +kernel
theorem dX7_join_0 : decode cX7_join 0 = .ok (.ldc2_w 335, 3) := by decide +kernel
theorem dX7_join_3 : decode cX7_join 3 = .ok (.lload_n 0, 1) := by decide +kernel
theorem dX7_join_4 : decode cX7_join 4 = .ok (.lmul, 1) := by decide +kernel
theorem dX7_join_5 : decode cX7_join 5 = .ok (.lload_n 2, 1) := by decide +kernel
theorem dX7_join_6 : decode cX7_join 6 = .ok (.ladd, 1) := by decide +kernel
theorem dX7_join_7 : decode cX7_join 7 = .ok (.lreturn, 1) := by decide +kernel
theorem dX7_joinPupil_0 : decode cX7_joinPupil 0 = .ok (.lload_n 1, 1) := by decide +kernel
theorem dX7_joinPupil_1 : decode cX7_joinPupil 1 = .ok (.aload_n 0, 1) := by decide +kernel
theorem dX7_joinPupil_2 : decode cX7_joinPupil 2 = .ok (.iload_n 3, 1) := by decide +kernel
theorem dX7_joinPupil_3 : decode cX7_joinPupil 3 = .ok (.iconst 0, 1) := by decide +kernel
theorem dX7_joinPupil_4 : decode cX7_joinPupil 4 = .ok (.invokevirtual 337, 3) := by decide +kernel
theorem dX7_joinPupil_7 : decode cX7_joinPupil 7 = .ok (.i2l, 1) := by decide +kernel
theorem dX7_joinPupil_8 : decode cX7_joinPupil 8 = .ok (.invokestatic 295, 3) := by decide +kernel
theorem dX7_joinPupil_11 : decode cX7_joinPupil 11 = .ok (.aload_n 0, 1) := by decide +kernel
theorem dX7_joinPupil_12 : decode cX7_joinPupil 12 = .ok (.iload_n 3, 1) := by decide +kernel
theorem dX7_joinPupil_13 : decode cX7_joinPupil 13 = .ok (.iconst 1, 1) := by decide +kernel
theorem dX7_joinPupil_14 : decode cX7_joinPupil 14 = .ok (.invokevirtual 337, 3) := by decide +kernel
theorem dX7_joinPupil_17 : decode cX7_joinPupil 17 = .ok (.i2l, 1) := by decide +kernel
theorem dX7_joinPupil_18 : decode cX7_joinPupil 18 = .ok (.invokestatic 295, 3) := by decide +kernel
theorem dX7_joinPupil_21 : decode cX7_joinPupil 21 = .ok (.lstore 4, 2) := by decide +kernel
theorem dX7_joinPupil_23 : decode cX7_joinPupil 23 = .ok (.iconst 0, 1) := by decide +kernel
theorem dX7_joinPupil_24 : decode cX7_joinPupil 24 = .ok (.istore 6, 2) := by decide +kernel
theorem dX7_joinPupil_26 : decode cX7_joinPupil 26 = .ok (.iload 6, 2) := by decide +kernel
theorem dX7_joinPupil_28 : decode cX7_joinPupil 28 = .ok (.iconst 3, 1) := by decide +kernel
theorem dX7_joinPupil_29 : decode cX7_joinPupil 29 = .ok (.if_icmp .ge 24, 3) := by decide +kernel
theorem dX7_joinPupil_32 : decode cX7_joinPupil 32 = .ok (.lload 4, 2) := by decide +kernel
theorem dX7_joinPupil_34 : decode cX7_joinPupil 34 = .ok (.aload_n 0, 1) := by decide +kernel
theorem dX7_joinPupil_35 : decode cX7_joinPupil 35 = .ok (.iload_n 3, 1) := by decide +kernel
theorem dX7_joinPupil_36 : decode cX7_joinPupil 36 = .ok (.iload 6, 2) := by decide +kernel
theorem dX7_joinPupil_38 : decode cX7_joinPupil 38 = .ok (.invokevirtual 340, 3) := by decide +kernel
theorem dX7_joinPupil_41 : decode cX7_joinPupil 41 = .ok (.i2l, 1) := by decide +kernel
theorem dX7_joinPupil_42 : decode cX7_joinPupil 42 = .ok (.invokestatic 295, 3) := by decide +kernel
theorem dX7_joinPupil_45 : decode cX7_joinPupil 45 = .ok (.lstore 4, 2) := by decide +kernel
theorem dX7_joinPupil_47 : decode cX7_joinPupil 47 = .ok (.iinc 6 1, 3) := by decide +kernel
theorem dX7_joinPupil_50 : decode cX7_joinPupil 50 = .ok (.goto (-24), 3) := by decide +kernel
theorem dX7_joinPupil_53 : decode cX7_joinPupil 53 = .ok (.lload 4, 2) := by decide +kernel
theorem dX7_joinPupil_55 : decode cX7_joinPupil 55 = .ok (.aload_n 0, 1) := by decide +kernel
theorem dX7_joinPupil_56 : decode cX7_joinPupil 56 = .ok (.iload_n 3, 1) := by decide +kernel
theorem dX7_joinPupil_57 : decode cX7_joinPupil 57 = .ok (.iconst 2, 1) := by decide +kernel
theorem dX7_joinPupil_58 : decode cX7_joinPupil 58 = .ok (.iconst 3, 1) := by decide +kernel
theorem dX7_joinPupil_59 : decode cX7_joinPupil 59 = .ok (.invokevirtual 343, 3) := by decide +kernel
theorem dX7_joinPupil_62 : decode cX7_joinPupil 62 = .ok (.i2l, 1) := by decide +kernel
theorem dX7_joinPupil_63 : decode cX7_joinPupil 63 = .ok (.invokestatic 295, 3) := by decide +kernel
theorem dX7_joinPupil_66 : decode cX7_joinPupil 66 = .ok (.lreturn, 1) := by decide +kernel
theorem dX7_joinQuestion_0 : decode cX7_joinQuestion 0 = .ok (.iload_n 3, 1) := by decide +kernel
theorem dX7_joinQuestion_1 : decode cX7_joinQuestion 1 = .ok (.iconst 1, 1) := by decide +kernel
theorem dX7_joinQuestion_2 : decode cX7_joinQuestion 2 = .ok (.iadd, 1) := by decide +kernel
theorem dX7_joinQuestion_3 : decode cX7_joinQuestion 3 = .ok (.aload_n 0, 1) := by decide +kernel
theorem dX7_joinQuestion_4 : decode cX7_joinQuestion 4 = .ok (.getfield 16, 3) := by decide +kernel
theorem dX7_joinQuestion_7 : decode cX7_joinQuestion 7 = .ok (.getfield 183, 3) := by decide +kernel
theorem dX7_joinQuestion_10 : decode cX7_joinQuestion 10 = .ok (.if_icmp .ge 9, 3) := by decide +kernel
theorem dX7_joinQuestion_13 : decode cX7_joinQuestion 13 = .ok (.iload_n 3, 1) := by decide +kernel
theorem dX7_joinQuestion_14 : decode cX7_joinQuestion 14 = .ok (.iconst 1, 1) := by decide +kernel
theorem dX7_joinQuestion_15 : decode cX7_joinQuestion 15 = .ok (.iadd, 1) := by decide +kernel
theorem dX7_joinQuestion_16 : decode cX7_joinQuestion 16 = .ok (.goto 4, 3) := by decide +kernel
theorem dX7_joinQuestion_19 : decode cX7_joinQuestion 19 = .ok (.iconst 0, 1) := by decide +kernel
theorem dX7_joinQuestion_20 : decode cX7_joinQuestion 20 = .ok (.istore 4, 2) := by decide +kernel
theorem dX7_joinQuestion_22 : decode cX7_joinQuestion 22 = .ok (.lload_n 1, 1) := by decide +kernel
theorem dX7_joinQuestion_23 : decode cX7_joinQuestion 23 = .ok (.aload_n 0, 1) := by decide +kernel
theorem dX7_joinQuestion_24 : decode cX7_joinQuestion 24 = .ok (.iload_n 3, 1) := by decide +kernel
theorem dX7_joinQuestion_25 : decode cX7_joinQuestion 25 = .ok (.invokevirtual 346, 3) := by decide +kernel
theorem dX7_joinQuestion_28 : decode cX7_joinQuestion 28 = .ok (.i2l, 1) := by decide +kernel
theorem dX7_joinQuestion_29 : decode cX7_joinQuestion 29 = .ok (.invokestatic 295, 3) := by decide +kernel
theorem dX7_joinQuestion_32 : decode cX7_joinQuestion 32 = .ok (.lstore 5, 2) := by decide +kernel
theorem dX7_joinQuestion_34 : decode cX7_joinQuestion 34 = .ok (.lload 5, 2) := by decide +kernel
theorem dX7_joinQuestion_36 : decode cX7_joinQuestion 36 = .ok (.aload_n 0, 1) := by decide +kernel
theorem dX7_joinQuestion_37 : decode cX7_joinQuestion 37 = .ok (.iload_n 3, 1) := by decide +kernel
theorem dX7_joinQuestion_38 : decode cX7_joinQuestion 38 = .ok (.iconst 0, 1) := by decide +kernel
theorem dX7_joinQuestion_39 : decode cX7_joinQuestion 39 = .ok (.invokevirtual 349, 3) := by decide +kernel
theorem dX7_joinQuestion_42 : decode cX7_joinQuestion 42 = .ok (.i2l, 1) := by decide +kernel
theorem dX7_joinQuestion_43 : decode cX7_joinQuestion 43 = .ok (.invokestatic 295, 3) := by decide +kernel
theorem dX7_joinQuestion_46 : decode cX7_joinQuestion 46 = .ok (.aload_n 0, 1) := by decide +kernel
theorem dX7_joinQuestion_47 : decode cX7_joinQuestion 47 = .ok (.iload_n 3, 1) := by decide +kernel
theorem dX7_joinQuestion_48 : decode cX7_joinQuestion 48 = .ok (.iconst 1, 1) := by decide +kernel
theorem dX7_joinQuestion_49 : decode cX7_joinQuestion 49 = .ok (.invokevirtual 349, 3) := by decide +kernel
theorem dX7_joinQuestion_52 : decode cX7_joinQuestion 52 = .ok (.i2l, 1) := by decide +kernel
theorem dX7_joinQuestion_53 : decode cX7_joinQuestion 53 = .ok (.invokestatic 295, 3) := by decide +kernel
theorem dX7_joinQuestion_56 : decode cX7_joinQuestion 56 = .ok (.lstore 5, 2) := by decide +kernel
theorem dX7_joinQuestion_58 : decode cX7_joinQuestion 58 = .ok (.lload 5, 2) := by decide +kernel
theorem dX7_joinQuestion_60 : decode cX7_joinQuestion 60 = .ok (.aload_n 0, 1) := by decide +kernel
theorem dX7_joinQuestion_61 : decode cX7_joinQuestion 61 = .ok (.iload_n 3, 1) := by decide +kernel
theorem dX7_joinQuestion_62 : decode cX7_joinQuestion 62 = .ok (.invokevirtual 352, 3) := by decide +kernel
theorem dX7_joinQuestion_65 : decode cX7_joinQuestion 65 = .ok (.i2l, 1) := by decide +kernel
theorem dX7_joinQuestion_66 : decode cX7_joinQuestion 66 = .ok (.invokestatic 295, 3) := by decide +kernel
theorem dX7_joinQuestion_69 : decode cX7_joinQuestion 69 = .ok (.lstore 5, 2) := by decide +kernel
theorem dX7_joinQuestion_71 : decode cX7_joinQuestion 71 = .ok (.lload 5, 2) := by decide +kernel
theorem dX7_joinQuestion_73 : decode cX7_joinQuestion 73 = .ok (.aload_n 0, 1) := by decide +kernel
theorem dX7_joinQuestion_74 : decode cX7_joinQuestion 74 = .ok (.iload_n 3, 1) := by decide +kernel
theorem dX7_joinQuestion_75 : decode cX7_joinQuestion 75 = .ok (.iload 4, 2) := by decide +kernel
theorem dX7_joinQuestion_77 : decode cX7_joinQuestion 77 = .ok (.iconst 0, 1) := by decide +kernel
theorem dX7_joinQuestion_78 : decode cX7_joinQuestion 78 = .ok (.invokevirtual 355, 3) := by decide +kernel
theorem dX7_joinQuestion_81 : decode cX7_joinQuestion 81 = .ok (.i2l, 1) := by decide +kernel
theorem dX7_joinQuestion_82 : decode cX7_joinQuestion 82 = .ok (.invokestatic 295, 3) := by decide +kernel
theorem dX7_joinQuestion_85 : decode cX7_joinQuestion 85 = .ok (.aload_n 0, 1) := by decide +kernel
theorem dX7_joinQuestion_86 : decode cX7_joinQuestion 86 = .ok (.iload_n 3, 1) := by decide +kernel
theorem dX7_joinQuestion_87 : decode cX7_joinQuestion 87 = .ok (.iload 4, 2) := by decide +kernel
theorem dX7_joinQuestion_89 : decode cX7_joinQuestion 89 = .ok (.iconst 1, 1) := by decide +kernel
theorem dX7_joinQuestion_90 : decode cX7_joinQuestion 90 = .ok (.invokevirtual 355, 3) := by decide +kernel
theorem dX7_joinQuestion_93 : decode cX7_joinQuestion 93 = .ok (.i2l, 1) := by decide +kernel
theorem dX7_joinQuestion_94 : decode cX7_joinQuestion 94 = .ok (.invokestatic 295, 3) := by decide +kernel
theorem dX7_joinQuestion_97 : decode cX7_joinQuestion 97 = .ok (.lreturn, 1) := by decide +kernel
theorem dX7_within_0 : decode cX7_within 0 = .ok (.iload_n 0, 1) := by decide +kernel
theorem dX7_within_1 : decode cX7_within 1 = .ok (.ifCond .lt 12, 3) := by decide +kernel
theorem dX7_within_4 : decode cX7_within 4 = .ok (.iload_n 0, 1) := by decide +kernel
theorem dX7_within_5 : decode cX7_within 5 = .ok (.iload_n 1, 1) := by decide +kernel
theorem dX7_within_6 : decode cX7_within 6 = .ok (.if_icmp .ge 7, 3) := by decide +kernel
theorem dX7_within_9 : decode cX7_within 9 = .ok (.iconst 1, 1) := by decide +kernel
theorem dX7_within_10 : decode cX7_within 10 = .ok (.goto 4, 3) := by decide +kernel
theorem dX7_within_13 : decode cX7_within 13 = .ok (.iconst 0, 1) := by decide +kernel
theorem dX7_within_14 : decode cX7_within 14 = .ok (.ireturn, 1) := by decide +kernel
theorem dX7_isQuestion_0 : decode cX7_isQuestion 0 = .ok (.iload_n 1, 1) := by decide +kernel
theorem dX7_isQuestion_1 : decode cX7_isQuestion 1 = .ok (.aload_n 0, 1) := by decide +kernel
theorem dX7_isQuestion_2 : decode cX7_isQuestion 2 = .ok (.getfield 16, 3) := by decide +kernel
theorem dX7_isQuestion_5 : decode cX7_isQuestion 5 = .ok (.getfield 183, 3) := by decide +kernel
theorem dX7_isQuestion_8 : decode cX7_isQuestion 8 = .ok (.invokestatic 62, 3) := by decide +kernel
theorem dX7_isQuestion_11 : decode cX7_isQuestion 11 = .ok (.ireturn, 1) := by decide +kernel
theorem dX7_chanceFits_0 : decode cX7_chanceFits 0 = .ok (.iload_n 0, 1) := by decide +kernel
theorem dX7_chanceFits_1 : decode cX7_chanceFits 1 = .ok (.bipush 12, 2) := by decide +kernel
theorem dX7_chanceFits_3 : decode cX7_chanceFits 3 = .ok (.invokestatic 62, 3) := by decide +kernel
theorem dX7_chanceFits_6 : decode cX7_chanceFits 6 = .ok (.ifCond .eq 35, 3) := by decide +kernel
theorem dX7_chanceFits_9 : decode cX7_chanceFits 9 = .ok (.iload_n 1, 1) := by decide +kernel
theorem dX7_chanceFits_10 : decode cX7_chanceFits 10 = .ok (.sipush 128, 3) := by decide +kernel
theorem dX7_chanceFits_13 : decode cX7_chanceFits 13 = .ok (.invokestatic 62, 3) := by decide +kernel
theorem dX7_chanceFits_16 : decode cX7_chanceFits 16 = .ok (.ifCond .eq 25, 3) := by decide +kernel
theorem dX7_chanceFits_19 : decode cX7_chanceFits 19 = .ok (.iload_n 2, 1) := by decide +kernel
theorem dX7_chanceFits_20 : decode cX7_chanceFits 20 = .ok (.bipush 17, 2) := by decide +kernel
theorem dX7_chanceFits_22 : decode cX7_chanceFits 22 = .ok (.invokestatic 62, 3) := by decide +kernel
theorem dX7_chanceFits_25 : decode cX7_chanceFits 25 = .ok (.ifCond .eq 16, 3) := by decide +kernel
theorem dX7_chanceFits_28 : decode cX7_chanceFits 28 = .ok (.iload_n 3, 1) := by decide +kernel
theorem dX7_chanceFits_29 : decode cX7_chanceFits 29 = .ok (.bipush 17, 2) := by decide +kernel
theorem dX7_chanceFits_31 : decode cX7_chanceFits 31 = .ok (.invokestatic 62, 3) := by decide +kernel
theorem dX7_chanceFits_34 : decode cX7_chanceFits 34 = .ok (.ifCond .eq 7, 3) := by decide +kernel
theorem dX7_chanceFits_37 : decode cX7_chanceFits 37 = .ok (.iconst 1, 1) := by decide +kernel
theorem dX7_chanceFits_38 : decode cX7_chanceFits 38 = .ok (.goto 4, 3) := by decide +kernel
theorem dX7_chanceFits_41 : decode cX7_chanceFits 41 = .ok (.iconst 0, 1) := by decide +kernel
theorem dX7_chanceFits_42 : decode cX7_chanceFits 42 = .ok (.ireturn, 1) := by decide +kernel
theorem dX7_refusal_0 : decode cX7_refusal 0 = .ok (.ldc2_w 360, 3) := by decide +kernel
theorem dX7_refusal_3 : decode cX7_refusal 3 = .ok (.iload_n 0, 1) := by decide +kernel
theorem dX7_refusal_4 : decode cX7_refusal 4 = .ok (.i2l, 1) := by decide +kernel
theorem dX7_refusal_5 : decode cX7_refusal 5 = .ok (.lsub, 1) := by decide +kernel
theorem dX7_refusal_6 : decode cX7_refusal 6 = .ok (.lreturn, 1) := by decide +kernel
theorem dX7_tellFinding_0 : decode cX7_tellFinding 0 = .ok (.aload_n 0, 1) := by decide +kernel
theorem dX7_tellFinding_1 : decode cX7_tellFinding 1 = .ok (.iload_n 1, 1) := by decide +kernel
theorem dX7_tellFinding_2 : decode cX7_tellFinding 2 = .ok (.putfield 266, 3) := by decide +kernel
theorem dX7_tellFinding_5 : decode cX7_tellFinding 5 = .ok (.bipush (-10), 2) := by decide +kernel
theorem dX7_tellFinding_7 : decode cX7_tellFinding 7 = .ok (.iload_n 1, 1) := by decide +kernel
theorem dX7_tellFinding_8 : decode cX7_tellFinding 8 = .ok (.isub, 1) := by decide +kernel
theorem dX7_tellFinding_9 : decode cX7_tellFinding 9 = .ok (.ireturn, 1) := by decide +kernel
theorem dX7_tellOne_0 : decode cX7_tellOne 0 = .ok (.aload_n 0, 1) := by decide +kernel
theorem dX7_tellOne_1 : decode cX7_tellOne 1 = .ok (.getfield 16, 3) := by decide +kernel
theorem dX7_tellOne_4 : decode cX7_tellOne 4 = .ok (.iload_n 1, 1) := by decide +kernel
theorem dX7_tellOne_5 : decode cX7_tellOne 5 = .ok (.iload_n 2, 1) := by decide +kernel
theorem dX7_tellOne_6 : decode cX7_tellOne 6 = .ok (.iload_n 3, 1) := by decide +kernel
theorem dX7_tellOne_7 : decode cX7_tellOne 7 = .ok (.iload 4, 2) := by decide +kernel
theorem dX7_tellOne_9 : decode cX7_tellOne 9 = .ok (.invokevirtual 362, 3) := by decide +kernel
theorem dX7_tellOne_12 : decode cX7_tellOne 12 = .ok (.aload_n 0, 1) := by decide +kernel
theorem dX7_tellOne_13 : decode cX7_tellOne 13 = .ok (.getfield 30, 3) := by decide +kernel
theorem dX7_tellOne_16 : decode cX7_tellOne 16 = .ok (.iconst 0, 1) := by decide +kernel
theorem dX7_tellOne_17 : decode cX7_tellOne 17 = .ok (.putfield 76, 3) := by decide +kernel
theorem dX7_tellOne_20 : decode cX7_tellOne 20 = .ok (.aload_n 0, 1) := by decide +kernel
theorem dX7_tellOne_21 : decode cX7_tellOne 21 = .ok (.getfield 37, 3) := by decide +kernel
theorem dX7_tellOne_24 : decode cX7_tellOne 24 = .ok (.iconst 0, 1) := by decide +kernel
theorem dX7_tellOne_25 : decode cX7_tellOne 25 = .ok (.putfield 80, 3) := by decide +kernel
theorem dX7_tellOne_28 : decode cX7_tellOne 28 = .ok (.return_, 1) := by decide +kernel
theorem dX7_isRow_0 : decode cX7_isRow 0 = .ok (.aload_n 1, 1) := by decide +kernel
theorem dX7_isRow_1 : decode cX7_isRow 1 = .ok (.getfield 104, 3) := by decide +kernel
theorem dX7_isRow_4 : decode cX7_isRow 4 = .ok (.aload_n 0, 1) := by decide +kernel
theorem dX7_isRow_5 : decode cX7_isRow 5 = .ok (.getfield 16, 3) := by decide +kernel
theorem dX7_isRow_8 : decode cX7_isRow 8 = .ok (.getfield 183, 3) := by decide +kernel
theorem dX7_isRow_11 : decode cX7_isRow 11 = .ok (.if_icmp .ge 5, 3) := by decide +kernel
theorem dX7_isRow_14 : decode cX7_isRow 14 = .ok (.iconst 0, 1) := by decide +kernel
theorem dX7_isRow_15 : decode cX7_isRow 15 = .ok (.ireturn, 1) := by decide +kernel
theorem dX7_isRow_16 : decode cX7_isRow 16 = .ok (.iconst 0, 1) := by decide +kernel
theorem dX7_isRow_17 : decode cX7_isRow 17 = .ok (.istore_n 2, 1) := by decide +kernel
theorem dX7_isRow_18 : decode cX7_isRow 18 = .ok (.iconst 0, 1) := by decide +kernel
theorem dX7_isRow_19 : decode cX7_isRow 19 = .ok (.istore_n 3, 1) := by decide +kernel
theorem dX7_isRow_20 : decode cX7_isRow 20 = .ok (.iload_n 3, 1) := by decide +kernel
theorem dX7_isRow_21 : decode cX7_isRow 21 = .ok (.aload_n 0, 1) := by decide +kernel
theorem dX7_isRow_22 : decode cX7_isRow 22 = .ok (.getfield 16, 3) := by decide +kernel
theorem dX7_isRow_25 : decode cX7_isRow 25 = .ok (.getfield 183, 3) := by decide +kernel
theorem dX7_isRow_28 : decode cX7_isRow 28 = .ok (.if_icmp .ge 35, 3) := by decide +kernel
theorem dX7_isRow_31 : decode cX7_isRow 31 = .ok (.aload_n 0, 1) := by decide +kernel
theorem dX7_isRow_32 : decode cX7_isRow 32 = .ok (.aload_n 1, 1) := by decide +kernel
theorem dX7_isRow_33 : decode cX7_isRow 33 = .ok (.getfield 113, 3) := by decide +kernel
theorem dX7_isRow_36 : decode cX7_isRow 36 = .ok (.iload_n 3, 1) := by decide +kernel
theorem dX7_isRow_37 : decode cX7_isRow 37 = .ok (.iaload, 1) := by decide +kernel
theorem dX7_isRow_38 : decode cX7_isRow 38 = .ok (.invokevirtual 132, 3) := by decide +kernel
theorem dX7_isRow_41 : decode cX7_isRow 41 = .ok (.ifCond .ne 5, 3) := by decide +kernel
theorem dX7_isRow_44 : decode cX7_isRow 44 = .ok (.iconst 0, 1) := by decide +kernel
theorem dX7_isRow_45 : decode cX7_isRow 45 = .ok (.ireturn, 1) := by decide +kernel
theorem dX7_isRow_46 : decode cX7_isRow 46 = .ok (.iload_n 2, 1) := by decide +kernel
theorem dX7_isRow_47 : decode cX7_isRow 47 = .ok (.iconst 1, 1) := by decide +kernel
theorem dX7_isRow_48 : decode cX7_isRow 48 = .ok (.aload_n 1, 1) := by decide +kernel
theorem dX7_isRow_49 : decode cX7_isRow 49 = .ok (.getfield 113, 3) := by decide +kernel
theorem dX7_isRow_52 : decode cX7_isRow 52 = .ok (.iload_n 3, 1) := by decide +kernel
theorem dX7_isRow_53 : decode cX7_isRow 53 = .ok (.iaload, 1) := by decide +kernel
theorem dX7_isRow_54 : decode cX7_isRow 54 = .ok (.ishl, 1) := by decide +kernel
theorem dX7_isRow_55 : decode cX7_isRow 55 = .ok (.ior, 1) := by decide +kernel
theorem dX7_isRow_56 : decode cX7_isRow 56 = .ok (.istore_n 2, 1) := by decide +kernel
theorem dX7_isRow_57 : decode cX7_isRow 57 = .ok (.iinc 3 1, 3) := by decide +kernel
theorem dX7_isRow_60 : decode cX7_isRow 60 = .ok (.goto (-40), 3) := by decide +kernel
theorem dX7_isRow_63 : decode cX7_isRow 63 = .ok (.iload_n 2, 1) := by decide +kernel
theorem dX7_isRow_64 : decode cX7_isRow 64 = .ok (.aload_n 0, 1) := by decide +kernel
theorem dX7_isRow_65 : decode cX7_isRow 65 = .ok (.getfield 16, 3) := by decide +kernel
theorem dX7_isRow_68 : decode cX7_isRow 68 = .ok (.getfield 365, 3) := by decide +kernel
theorem dX7_isRow_71 : decode cX7_isRow 71 = .ok (.if_icmp .ne 7, 3) := by decide +kernel
theorem dX7_isRow_74 : decode cX7_isRow 74 = .ok (.iconst 1, 1) := by decide +kernel
theorem dX7_isRow_75 : decode cX7_isRow 75 = .ok (.goto 4, 3) := by decide +kernel
theorem dX7_isRow_78 : decode cX7_isRow 78 = .ok (.iconst 0, 1) := by decide +kernel
theorem dX7_isRow_79 : decode cX7_isRow 79 = .ok (.ireturn, 1) := by decide +kernel
theorem dX7_needsOf_0 : decode cX7_needsOf 0 = .ok (.iload_n 2, 1) := by decide +kernel
theorem dX7_needsOf_1 : decode cX7_needsOf 1 = .ok (.iconst 1, 1) := by decide +kernel
theorem dX7_needsOf_2 : decode cX7_needsOf 2 = .ok (.if_icmp .ne 18, 3) := by decide +kernel
theorem dX7_needsOf_5 : decode cX7_needsOf 5 = .ok (.aload_n 0, 1) := by decide +kernel
theorem dX7_needsOf_6 : decode cX7_needsOf 6 = .ok (.getfield 16, 3) := by decide +kernel
theorem dX7_needsOf_9 : decode cX7_needsOf 9 = .ok (.iload_n 1, 1) := by decide +kernel
theorem dX7_needsOf_10 : decode cX7_needsOf 10 = .ok (.aload_n 0, 1) := by decide +kernel
theorem dX7_needsOf_11 : decode cX7_needsOf 11 = .ok (.getfield 9, 3) := by decide +kernel
theorem dX7_needsOf_14 : decode cX7_needsOf 14 = .ok (.iconst 2, 1) := by decide +kernel
theorem dX7_needsOf_15 : decode cX7_needsOf 15 = .ok (.iaload, 1) := by decide +kernel
theorem dX7_needsOf_16 : decode cX7_needsOf 16 = .ok (.invokevirtual 366, 3) := by decide +kernel
theorem dX7_needsOf_19 : decode cX7_needsOf 19 = .ok (.ireturn, 1) := by decide +kernel
theorem dX7_needsOf_20 : decode cX7_needsOf 20 = .ok (.aload_n 0, 1) := by decide +kernel
theorem dX7_needsOf_21 : decode cX7_needsOf 21 = .ok (.getfield 23, 3) := by decide +kernel
theorem dX7_needsOf_24 : decode cX7_needsOf 24 = .ok (.getfield 369, 3) := by decide +kernel
theorem dX7_needsOf_27 : decode cX7_needsOf 27 = .ok (.iload_n 1, 1) := by decide +kernel
theorem dX7_needsOf_28 : decode cX7_needsOf 28 = .ok (.iaload, 1) := by decide +kernel
theorem dX7_needsOf_29 : decode cX7_needsOf 29 = .ok (.aload_n 0, 1) := by decide +kernel
theorem dX7_needsOf_30 : decode cX7_needsOf 30 = .ok (.getfield 16, 3) := by decide +kernel
theorem dX7_needsOf_33 : decode cX7_needsOf 33 = .ok (.getfield 365, 3) := by decide +kernel
theorem dX7_needsOf_36 : decode cX7_needsOf 36 = .ok (.iand, 1) := by decide +kernel
theorem dX7_needsOf_37 : decode cX7_needsOf 37 = .ok (.ireturn, 1) := by decide +kernel
theorem dX7_findStates_0 : decode cX7_findStates 0 = .ok (.aload_n 0, 1) := by decide +kernel
theorem dX7_findStates_1 : decode cX7_findStates 1 = .ok (.getfield 37, 3) := by decide +kernel
theorem dX7_findStates_4 : decode cX7_findStates 4 = .ok (.getfield 80, 3) := by decide +kernel
theorem dX7_findStates_7 : decode cX7_findStates 7 = .ok (.ifCond .eq 4, 3) := by decide +kernel
theorem dX7_findStates_10 : decode cX7_findStates 10 = .ok (.return_, 1) := by decide +kernel
theorem dX7_findStates_11 : decode cX7_findStates 11 = .ok (.aload_n 0, 1) := by decide +kernel
theorem dX7_findStates_12 : decode cX7_findStates 12 = .ok (.getfield 37, 3) := by decide +kernel
theorem dX7_findStates_15 : decode cX7_findStates 15 = .ok (.aload_n 0, 1) := by decide +kernel
theorem dX7_findStates_16 : decode cX7_findStates 16 = .ok (.getfield 16, 3) := by decide +kernel
theorem dX7_findStates_19 : decode cX7_findStates 19 = .ok (.getfield 183, 3) := by decide +kernel
theorem dX7_findStates_22 : decode cX7_findStates 22 = .ok (.invokevirtual 372, 3) := by decide +kernel
theorem dX7_findStates_25 : decode cX7_findStates 25 = .ok (.iconst 0, 1) := by decide +kernel
theorem dX7_findStates_26 : decode cX7_findStates 26 = .ok (.istore_n 1, 1) := by decide +kernel
theorem dX7_findStates_27 : decode cX7_findStates 27 = .ok (.iload_n 1, 1) := by decide +kernel
theorem dX7_findStates_28 : decode cX7_findStates 28 = .ok (.aload_n 0, 1) := by decide +kernel
theorem dX7_findStates_29 : decode cX7_findStates 29 = .ok (.getfield 16, 3) := by decide +kernel
theorem dX7_findStates_32 : decode cX7_findStates 32 = .ok (.getfield 183, 3) := by decide +kernel
theorem dX7_findStates_35 : decode cX7_findStates 35 = .ok (.if_icmp .ge 29, 3) := by decide +kernel
theorem dX7_findStates_38 : decode cX7_findStates 38 = .ok (.aload_n 0, 1) := by decide +kernel
theorem dX7_findStates_39 : decode cX7_findStates 39 = .ok (.getfield 37, 3) := by decide +kernel
theorem dX7_findStates_42 : decode cX7_findStates 42 = .ok (.getfield 374, 3) := by decide +kernel
theorem dX7_findStates_45 : decode cX7_findStates 45 = .ok (.iload_n 1, 1) := by decide +kernel
theorem dX7_findStates_46 : decode cX7_findStates 46 = .ok (.aload_n 0, 1) := by decide +kernel
theorem dX7_findStates_47 : decode cX7_findStates 47 = .ok (.iload_n 1, 1) := by decide +kernel
theorem dX7_findStates_48 : decode cX7_findStates 48 = .ok (.aload_n 0, 1) := by decide +kernel
theorem dX7_findStates_49 : decode cX7_findStates 49 = .ok (.getfield 9, 3) := by decide +kernel
theorem dX7_findStates_52 : decode cX7_findStates 52 = .ok (.iconst 3, 1) := by decide +kernel
theorem dX7_findStates_53 : decode cX7_findStates 53 = .ok (.iaload, 1) := by decide +kernel
theorem dX7_findStates_54 : decode cX7_findStates 54 = .ok (.invokevirtual 135, 3) := by decide +kernel
theorem dX7_findStates_57 : decode cX7_findStates 57 = .ok (.iastore, 1) := by decide +kernel
theorem dX7_findStates_58 : decode cX7_findStates 58 = .ok (.iinc 1 1, 3) := by decide +kernel
theorem dX7_findStates_61 : decode cX7_findStates 61 = .ok (.goto (-34), 3) := by decide +kernel
theorem dX7_findStates_64 : decode cX7_findStates 64 = .ok (.aload_n 0, 1) := by decide +kernel
theorem dX7_findStates_65 : decode cX7_findStates 65 = .ok (.getfield 37, 3) := by decide +kernel
theorem dX7_findStates_68 : decode cX7_findStates 68 = .ok (.invokevirtual 375, 3) := by decide +kernel
theorem dX7_findStates_71 : decode cX7_findStates 71 = .ok (.return_, 1) := by decide +kernel
theorem dX7_stateOf_0 : decode cX7_stateOf 0 = .ok (.iconst 0, 1) := by decide +kernel
theorem dX7_stateOf_1 : decode cX7_stateOf 1 = .ok (.istore_n 2, 1) := by decide +kernel
theorem dX7_stateOf_2 : decode cX7_stateOf 2 = .ok (.bipush 8, 2) := by decide +kernel
theorem dX7_stateOf_4 : decode cX7_stateOf 4 = .ok (.istore_n 3, 1) := by decide +kernel
theorem dX7_stateOf_5 : decode cX7_stateOf 5 = .ok (.iconst 0, 1) := by decide +kernel
theorem dX7_stateOf_6 : decode cX7_stateOf 6 = .ok (.istore 4, 2) := by decide +kernel
theorem dX7_stateOf_8 : decode cX7_stateOf 8 = .ok (.iload 4, 2) := by decide +kernel
theorem dX7_stateOf_10 : decode cX7_stateOf 10 = .ok (.aload_n 0, 1) := by decide +kernel
theorem dX7_stateOf_11 : decode cX7_stateOf 11 = .ok (.getfield 37, 3) := by decide +kernel
theorem dX7_stateOf_14 : decode cX7_stateOf 14 = .ok (.getfield 189, 3) := by decide +kernel
theorem dX7_stateOf_17 : decode cX7_stateOf 17 = .ok (.if_icmp .ge 49, 3) := by decide +kernel
theorem dX7_stateOf_20 : decode cX7_stateOf 20 = .ok (.aload_n 0, 1) := by decide +kernel
theorem dX7_stateOf_21 : decode cX7_stateOf 21 = .ok (.getfield 16, 3) := by decide +kernel
theorem dX7_stateOf_24 : decode cX7_stateOf 24 = .ok (.iload_n 1, 1) := by decide +kernel
theorem dX7_stateOf_25 : decode cX7_stateOf 25 = .ok (.aload_n 0, 1) := by decide +kernel
theorem dX7_stateOf_26 : decode cX7_stateOf 26 = .ok (.getfield 37, 3) := by decide +kernel
theorem dX7_stateOf_29 : decode cX7_stateOf 29 = .ok (.getfield 190, 3) := by decide +kernel
theorem dX7_stateOf_32 : decode cX7_stateOf 32 = .ok (.iload 4, 2) := by decide +kernel
theorem dX7_stateOf_34 : decode cX7_stateOf 34 = .ok (.iaload, 1) := by decide +kernel
theorem dX7_stateOf_35 : decode cX7_stateOf 35 = .ok (.invokevirtual 138, 3) := by decide +kernel
theorem dX7_stateOf_38 : decode cX7_stateOf 38 = .ok (.istore 5, 2) := by decide +kernel
theorem dX7_stateOf_40 : decode cX7_stateOf 40 = .ok (.iload 5, 2) := by decide +kernel
theorem dX7_stateOf_42 : decode cX7_stateOf 42 = .ok (.iload_n 3, 1) := by decide +kernel
theorem dX7_stateOf_43 : decode cX7_stateOf 43 = .ok (.if_icmp .ge 17, 3) := by decide +kernel
theorem dX7_stateOf_46 : decode cX7_stateOf 46 = .ok (.iload 5, 2) := by decide +kernel
theorem dX7_stateOf_48 : decode cX7_stateOf 48 = .ok (.istore_n 3, 1) := by decide +kernel
theorem dX7_stateOf_49 : decode cX7_stateOf 49 = .ok (.aload_n 0, 1) := by decide +kernel
theorem dX7_stateOf_50 : decode cX7_stateOf 50 = .ok (.getfield 37, 3) := by decide +kernel
theorem dX7_stateOf_53 : decode cX7_stateOf 53 = .ok (.getfield 190, 3) := by decide +kernel
theorem dX7_stateOf_56 : decode cX7_stateOf 56 = .ok (.iload 4, 2) := by decide +kernel
theorem dX7_stateOf_58 : decode cX7_stateOf 58 = .ok (.iaload, 1) := by decide +kernel
theorem dX7_stateOf_59 : decode cX7_stateOf 59 = .ok (.istore_n 2, 1) := by decide +kernel
theorem dX7_stateOf_60 : decode cX7_stateOf 60 = .ok (.iinc 4 1, 3) := by decide +kernel
theorem dX7_stateOf_63 : decode cX7_stateOf 63 = .ok (.goto (-55), 3) := by decide +kernel
theorem dX7_stateOf_66 : decode cX7_stateOf 66 = .ok (.iload_n 2, 1) := by decide +kernel
theorem dX7_stateOf_67 : decode cX7_stateOf 67 = .ok (.ireturn, 1) := by decide +kernel
theorem dX7_statesWithErrors_0 : decode cX7_statesWithErrors 0 = .ok (.iconst 0, 1) := by decide +kernel
theorem dX7_statesWithErrors_1 : decode cX7_statesWithErrors 1 = .ok (.istore_n 3, 1) := by decide +kernel
theorem dX7_statesWithErrors_2 : decode cX7_statesWithErrors 2 = .ok (.iconst 0, 1) := by decide +kernel
theorem dX7_statesWithErrors_3 : decode cX7_statesWithErrors 3 = .ok (.istore 4, 2) := by decide +kernel
theorem dX7_statesWithErrors_5 : decode cX7_statesWithErrors 5 = .ok (.iload 4, 2) := by decide +kernel
theorem dX7_statesWithErrors_7 : decode cX7_statesWithErrors 7 = .ok (.aload_n 0, 1) := by decide +kernel
theorem dX7_statesWithErrors_8 : decode cX7_statesWithErrors 8 = .ok (.getfield 37, 3) := by decide +kernel
theorem dX7_statesWithErrors_11 : decode cX7_statesWithErrors 11 = .ok (.getfield 189, 3) := by decide +kernel
theorem dX7_statesWithErrors_14 : decode cX7_statesWithErrors 14 = .ok (.if_icmp .ge 34, 3) := by decide +kernel
theorem dX7_statesWithErrors_17 : decode cX7_statesWithErrors 17 = .ok (.aload_n 0, 1) := by decide +kernel
theorem dX7_statesWithErrors_18 : decode cX7_statesWithErrors 18 = .ok (.getfield 16, 3) := by decide +kernel
theorem dX7_statesWithErrors_21 : decode cX7_statesWithErrors 21 = .ok (.iload_n 1, 1) := by decide +kernel
theorem dX7_statesWithErrors_22 : decode cX7_statesWithErrors 22 = .ok (.aload_n 0, 1) := by decide +kernel
theorem dX7_statesWithErrors_23 : decode cX7_statesWithErrors 23 = .ok (.getfield 37, 3) := by decide +kernel
theorem dX7_statesWithErrors_26 : decode cX7_statesWithErrors 26 = .ok (.getfield 190, 3) := by decide +kernel
theorem dX7_statesWithErrors_29 : decode cX7_statesWithErrors 29 = .ok (.iload 4, 2) := by decide +kernel
theorem dX7_statesWithErrors_31 : decode cX7_statesWithErrors 31 = .ok (.iaload, 1) := by decide +kernel
theorem dX7_statesWithErrors_32 : decode cX7_statesWithErrors 32 = .ok (.invokevirtual 138, 3) := by decide +kernel
theorem dX7_statesWithErrors_35 : decode cX7_statesWithErrors 35 = .ok (.iload_n 2, 1) := by decide +kernel
theorem dX7_statesWithErrors_36 : decode cX7_statesWithErrors 36 = .ok (.if_icmp .ne 6, 3) := by decide +kernel
theorem dX7_statesWithErrors_39 : decode cX7_statesWithErrors 39 = .ok (.iinc 3 1, 3) := by decide +kernel
theorem dX7_statesWithErrors_42 : decode cX7_statesWithErrors 42 = .ok (.iinc 4 1, 3) := by decide +kernel
theorem dX7_statesWithErrors_45 : decode cX7_statesWithErrors 45 = .ok (.goto (-40), 3) := by decide +kernel
theorem dX7_statesWithErrors_48 : decode cX7_statesWithErrors 48 = .ok (.iload_n 3, 1) := by decide +kernel
theorem dX7_statesWithErrors_49 : decode cX7_statesWithErrors 49 = .ok (.ireturn, 1) := by decide +kernel
theorem dX7_lowestTerm_0 : decode cX7_lowestTerm 0 = .ok (.lload_n 0, 1) := by decide +kernel
theorem dX7_lowestTerm_1 : decode cX7_lowestTerm 1 = .ok (.lload_n 2, 1) := by decide +kernel
theorem dX7_lowestTerm_2 : decode cX7_lowestTerm 2 = .ok (.invokestatic 378, 3) := by decide +kernel
theorem dX7_lowestTerm_5 : decode cX7_lowestTerm 5 = .ok (.lstore 5, 2) := by decide +kernel
theorem dX7_lowestTerm_7 : decode cX7_lowestTerm 7 = .ok (.iload 4, 2) := by decide +kernel
theorem dX7_lowestTerm_9 : decode cX7_lowestTerm 9 = .ok (.ifCond .ne 7, 3) := by decide +kernel
theorem dX7_lowestTerm_12 : decode cX7_lowestTerm 12 = .ok (.lload_n 0, 1) := by decide +kernel
theorem dX7_lowestTerm_13 : decode cX7_lowestTerm 13 = .ok (.goto 4, 3) := by decide +kernel
theorem dX7_lowestTerm_16 : decode cX7_lowestTerm 16 = .ok (.lload_n 2, 1) := by decide +kernel
theorem dX7_lowestTerm_17 : decode cX7_lowestTerm 17 = .ok (.lstore 7, 2) := by decide +kernel
theorem dX7_lowestTerm_19 : decode cX7_lowestTerm 19 = .ok (.lload 5, 2) := by decide +kernel
theorem dX7_lowestTerm_21 : decode cX7_lowestTerm 21 = .ok (.lconst 0, 1) := by decide +kernel
theorem dX7_lowestTerm_22 : decode cX7_lowestTerm 22 = .ok (.lcmp, 1) := by decide +kernel
theorem dX7_lowestTerm_23 : decode cX7_lowestTerm 23 = .ok (.ifCond .le 11, 3) := by decide +kernel
theorem dX7_lowestTerm_26 : decode cX7_lowestTerm 26 = .ok (.lload 7, 2) := by decide +kernel
theorem dX7_lowestTerm_28 : decode cX7_lowestTerm 28 = .ok (.lload 5, 2) := by decide +kernel
theorem dX7_lowestTerm_30 : decode cX7_lowestTerm 30 = .ok (.ldiv, 1) := by decide +kernel
theorem dX7_lowestTerm_31 : decode cX7_lowestTerm 31 = .ok (.goto 5, 3) := by decide +kernel
theorem dX7_lowestTerm_34 : decode cX7_lowestTerm 34 = .ok (.lload 7, 2) := by decide +kernel
theorem dX7_lowestTerm_36 : decode cX7_lowestTerm 36 = .ok (.lreturn, 1) := by decide +kernel
theorem dX7_commonDivisor_0 : decode cX7_commonDivisor 0 = .ok (.lload_n 2, 1) := by decide +kernel
theorem dX7_commonDivisor_1 : decode cX7_commonDivisor 1 = .ok (.lstore 4, 2) := by decide +kernel
theorem dX7_commonDivisor_3 : decode cX7_commonDivisor 3 = .ok (.lload_n 0, 1) := by decide +kernel
theorem dX7_commonDivisor_4 : decode cX7_commonDivisor 4 = .ok (.lstore 6, 2) := by decide +kernel
theorem dX7_commonDivisor_6 : decode cX7_commonDivisor 6 = .ok (.iconst 0, 1) := by decide +kernel
theorem dX7_commonDivisor_7 : decode cX7_commonDivisor 7 = .ok (.istore 8, 2) := by decide +kernel
theorem dX7_commonDivisor_9 : decode cX7_commonDivisor 9 = .ok (.iload 8, 2) := by decide +kernel
theorem dX7_commonDivisor_11 : decode cX7_commonDivisor 11 = .ok (.sipush 130, 3) := by decide +kernel
theorem dX7_commonDivisor_14 : decode cX7_commonDivisor 14 = .ok (.if_icmp .ge 31, 3) := by decide +kernel
theorem dX7_commonDivisor_17 : decode cX7_commonDivisor 17 = .ok (.lload 6, 2) := by decide +kernel
theorem dX7_commonDivisor_19 : decode cX7_commonDivisor 19 = .ok (.lconst 0, 1) := by decide +kernel
theorem dX7_commonDivisor_20 : decode cX7_commonDivisor 20 = .ok (.lcmp, 1) := by decide +kernel
theorem dX7_commonDivisor_21 : decode cX7_commonDivisor 21 = .ok (.ifCond .eq 24, 3) := by decide +kernel
theorem dX7_commonDivisor_24 : decode cX7_commonDivisor 24 = .ok (.lload 4, 2) := by decide +kernel
theorem dX7_commonDivisor_26 : decode cX7_commonDivisor 26 = .ok (.lload 6, 2) := by decide +kernel
theorem dX7_commonDivisor_28 : decode cX7_commonDivisor 28 = .ok (.lrem, 1) := by decide +kernel
theorem dX7_commonDivisor_29 : decode cX7_commonDivisor 29 = .ok (.lstore 9, 2) := by decide +kernel
theorem dX7_commonDivisor_31 : decode cX7_commonDivisor 31 = .ok (.lload 6, 2) := by decide +kernel
theorem dX7_commonDivisor_33 : decode cX7_commonDivisor 33 = .ok (.lstore 4, 2) := by decide +kernel
theorem dX7_commonDivisor_35 : decode cX7_commonDivisor 35 = .ok (.lload 9, 2) := by decide +kernel
theorem dX7_commonDivisor_37 : decode cX7_commonDivisor 37 = .ok (.lstore 6, 2) := by decide +kernel
theorem dX7_commonDivisor_39 : decode cX7_commonDivisor 39 = .ok (.iinc 8 1, 3) := by decide +kernel
theorem dX7_commonDivisor_42 : decode cX7_commonDivisor 42 = .ok (.goto (-33), 3) := by decide +kernel
theorem dX7_commonDivisor_45 : decode cX7_commonDivisor 45 = .ok (.lload 4, 2) := by decide +kernel
theorem dX7_commonDivisor_47 : decode cX7_commonDivisor 47 = .ok (.lreturn, 1) := by decide +kernel
theorem dX8_init_0 : decode cX8_init 0 = .ok (.aload_n 0, 1) := by decide +kernel
theorem dX8_init_1 : decode cX8_init 1 = .ok (.invokespecial 1, 3) := by decide +kernel
theorem dX8_init_4 : decode cX8_init 4 = .ok (.aload_n 0, 1) := by decide +kernel
theorem dX8_init_5 : decode cX8_init 5 = .ok (.iconst 4, 1) := by decide +kernel
theorem dX8_init_6 : decode cX8_init 6 = .ok (.newarray .int, 2) := by decide +kernel
theorem dX8_init_8 : decode cX8_init 8 = .ok (.putfield 7, 3) := by decide +kernel
theorem dX8_init_11 : decode cX8_init 11 = .ok (.aload_n 0, 1) := by decide +kernel
theorem dX8_init_12 : decode cX8_init 12 = .ok (.iconst 4, 1) := by decide +kernel
theorem dX8_init_13 : decode cX8_init 13 = .ok (.newarray .int, 2) := by decide +kernel
theorem dX8_init_15 : decode cX8_init 15 = .ok (.putfield 13, 3) := by decide +kernel
theorem dX8_init_18 : decode cX8_init 18 = .ok (.aload_n 0, 1) := by decide +kernel
theorem dX8_init_19 : decode cX8_init 19 = .ok (.sipush 240, 3) := by decide +kernel
theorem dX8_init_22 : decode cX8_init 22 = .ok (.newarray .int, 2) := by decide +kernel
theorem dX8_init_24 : decode cX8_init 24 = .ok (.putfield 16, 3) := by decide +kernel
theorem dX8_init_27 : decode cX8_init 27 = .ok (.aload_n 0, 1) := by decide +kernel
theorem dX8_init_28 : decode cX8_init 28 = .ok (.bipush 60, 2) := by decide +kernel
theorem dX8_init_30 : decode cX8_init 30 = .ok (.newarray .int, 2) := by decide +kernel
theorem dX8_init_32 : decode cX8_init 32 = .ok (.putfield 19, 3) := by decide +kernel
theorem dX8_init_35 : decode cX8_init 35 = .ok (.aload_n 0, 1) := by decide +kernel
theorem dX8_init_36 : decode cX8_init 36 = .ok (.iconst 4, 1) := by decide +kernel
theorem dX8_init_37 : decode cX8_init 37 = .ok (.newarray .int, 2) := by decide +kernel
theorem dX8_init_39 : decode cX8_init 39 = .ok (.putfield 22, 3) := by decide +kernel
theorem dX8_init_42 : decode cX8_init 42 = .ok (.aload_n 0, 1) := by decide +kernel
theorem dX8_init_43 : decode cX8_init 43 = .ok (.sipush 160, 3) := by decide +kernel
theorem dX8_init_46 : decode cX8_init 46 = .ok (.newarray .int, 2) := by decide +kernel
theorem dX8_init_48 : decode cX8_init 48 = .ok (.putfield 25, 3) := by decide +kernel
theorem dX8_init_51 : decode cX8_init 51 = .ok (.aload_n 0, 1) := by decide +kernel
theorem dX8_init_52 : decode cX8_init 52 = .ok (.sipush 160, 3) := by decide +kernel
theorem dX8_init_55 : decode cX8_init 55 = .ok (.newarray .int, 2) := by decide +kernel
theorem dX8_init_57 : decode cX8_init 57 = .ok (.putfield 28, 3) := by decide +kernel
theorem dX8_init_60 : decode cX8_init 60 = .ok (.aload_n 0, 1) := by decide +kernel
theorem dX8_init_61 : decode cX8_init 61 = .ok (.sipush 160, 3) := by decide +kernel
theorem dX8_init_64 : decode cX8_init 64 = .ok (.newarray .int, 2) := by decide +kernel
theorem dX8_init_66 : decode cX8_init 66 = .ok (.putfield 31, 3) := by decide +kernel
theorem dX8_init_69 : decode cX8_init 69 = .ok (.aload_n 0, 1) := by decide +kernel
theorem dX8_init_70 : decode cX8_init 70 = .ok (.sipush 160, 3) := by decide +kernel
theorem dX8_init_73 : decode cX8_init 73 = .ok (.newarray .int, 2) := by decide +kernel
theorem dX8_init_75 : decode cX8_init 75 = .ok (.putfield 34, 3) := by decide +kernel
theorem dX8_init_78 : decode cX8_init 78 = .ok (.aload_n 0, 1) := by decide +kernel
theorem dX8_init_79 : decode cX8_init 79 = .ok (.bipush 84, 2) := by decide +kernel
theorem dX8_init_81 : decode cX8_init 81 = .ok (.newarray .int, 2) := by decide +kernel
theorem dX8_init_83 : decode cX8_init 83 = .ok (.putfield 37, 3) := by decide +kernel
theorem dX8_init_86 : decode cX8_init 86 = .ok (.aload_n 0, 1) := by decide +kernel
theorem dX8_init_87 : decode cX8_init 87 = .ok (.bipush 60, 2) := by decide +kernel
theorem dX8_init_89 : decode cX8_init 89 = .ok (.newarray .int, 2) := by decide +kernel
theorem dX8_init_91 : decode cX8_init 91 = .ok (.putfield 40, 3) := by decide +kernel
theorem dX8_init_94 : decode cX8_init 94 = .ok (.aload_n 0, 1) := by decide +kernel
theorem dX8_init_95 : decode cX8_init 95 = .ok (.bipush 7, 2) := by decide +kernel
theorem dX8_init_97 : decode cX8_init 97 = .ok (.newarray .int, 2) := by decide +kernel
theorem dX8_init_99 : decode cX8_init 99 = .ok (.putfield 43, 3) := by decide +kernel
theorem dX8_init_102 : decode cX8_init 102 = .ok (.aload_n 0, 1) := by decide +kernel
theorem dX8_init_103 : decode cX8_init 103 = .ok (.bipush 7, 2) := by decide +kernel
theorem dX8_init_105 : decode cX8_init 105 = .ok (.newarray .int, 2) := by decide +kernel
theorem dX8_init_107 : decode cX8_init 107 = .ok (.putfield 46, 3) := by decide +kernel
theorem dX8_init_110 : decode cX8_init 110 = .ok (.aload_n 0, 1) := by decide +kernel
theorem dX8_init_111 : decode cX8_init 111 = .ok (.sipush 1536, 3) := by decide +kernel
theorem dX8_init_114 : decode cX8_init 114 = .ok (.newarray .int, 2) := by decide +kernel
theorem dX8_init_116 : decode cX8_init 116 = .ok (.putfield 49, 3) := by decide +kernel
theorem dX8_init_119 : decode cX8_init 119 = .ok (.aload_n 0, 1) := by decide +kernel
theorem dX8_init_120 : decode cX8_init 120 = .ok (.bipush 7, 2) := by decide +kernel
theorem dX8_init_122 : decode cX8_init 122 = .ok (.newarray .int, 2) := by decide +kernel
theorem dX8_init_124 : decode cX8_init 124 = .ok (.putfield 52, 3) := by decide +kernel
theorem dX8_init_127 : decode cX8_init 127 = .ok (.aload_n 0, 1) := by decide +kernel
theorem dX8_init_128 : decode cX8_init 128 = .ok (.bipush 7, 2) := by decide +kernel
theorem dX8_init_130 : decode cX8_init 130 = .ok (.newarray .int, 2) := by decide +kernel
theorem dX8_init_132 : decode cX8_init 132 = .ok (.putfield 55, 3) := by decide +kernel
theorem dX8_init_135 : decode cX8_init 135 = .ok (.aload_n 0, 1) := by decide +kernel
theorem dX8_init_136 : decode cX8_init 136 = .ok (.sipush 128, 3) := by decide +kernel
theorem dX8_init_139 : decode cX8_init 139 = .ok (.newarray .int, 2) := by decide +kernel
theorem dX8_init_141 : decode cX8_init 141 = .ok (.putfield 58, 3) := by decide +kernel
theorem dX8_init_144 : decode cX8_init 144 = .ok (.aload_n 0, 1) := by decide +kernel
theorem dX8_init_145 : decode cX8_init 145 = .ok (.bipush 14, 2) := by decide +kernel
theorem dX8_init_147 : decode cX8_init 147 = .ok (.newarray .int, 2) := by decide +kernel
theorem dX8_init_149 : decode cX8_init 149 = .ok (.putfield 61, 3) := by decide +kernel
theorem dX8_init_152 : decode cX8_init 152 = .ok (.aload_n 0, 1) := by decide +kernel
theorem dX8_init_153 : decode cX8_init 153 = .ok (.bipush 7, 2) := by decide +kernel
theorem dX8_init_155 : decode cX8_init 155 = .ok (.newarray .int, 2) := by decide +kernel
theorem dX8_init_157 : decode cX8_init 157 = .ok (.putfield 64, 3) := by decide +kernel
theorem dX8_init_160 : decode cX8_init 160 = .ok (.aload_n 0, 1) := by decide +kernel
theorem dX8_init_161 : decode cX8_init 161 = .ok (.sipush 16384, 3) := by decide +kernel
theorem dX8_init_164 : decode cX8_init 164 = .ok (.newarray .int, 2) := by decide +kernel
theorem dX8_init_166 : decode cX8_init 166 = .ok (.putfield 67, 3) := by decide +kernel
theorem dX8_init_169 : decode cX8_init 169 = .ok (.aload_n 0, 1) := by decide +kernel
theorem dX8_init_170 : decode cX8_init 170 = .ok (.bipush 12, 2) := by decide +kernel
theorem dX8_init_172 : decode cX8_init 172 = .ok (.newarray .int, 2) := by decide +kernel
theorem dX8_init_174 : decode cX8_init 174 = .ok (.putfield 70, 3) := by decide +kernel
theorem dX8_init_177 : decode cX8_init 177 = .ok (.aload_n 0, 1) := by decide +kernel
theorem dX8_init_178 : decode cX8_init 178 = .ok (.bipush 7, 2) := by decide +kernel
theorem dX8_init_180 : decode cX8_init 180 = .ok (.newarray .int, 2) := by decide +kernel
theorem dX8_init_182 : decode cX8_init 182 = .ok (.putfield 73, 3) := by decide +kernel
theorem dX8_init_185 : decode cX8_init 185 = .ok (.iconst 0, 1) := by decide +kernel
theorem dX8_init_186 : decode cX8_init 186 = .ok (.istore_n 1, 1) := by decide +kernel
theorem dX8_init_187 : decode cX8_init 187 = .ok (.iload_n 1, 1) := by decide +kernel
theorem dX8_init_188 : decode cX8_init 188 = .ok (.iconst 4, 1) := by decide +kernel
theorem dX8_init_189 : decode cX8_init 189 = .ok (.if_icmp .ge 16, 3) := by decide +kernel
theorem dX8_init_192 : decode cX8_init 192 = .ok (.aload_n 0, 1) := by decide +kernel
theorem dX8_init_193 : decode cX8_init 193 = .ok (.getfield 7, 3) := by decide +kernel
theorem dX8_init_196 : decode cX8_init 196 = .ok (.iload_n 1, 1) := by decide +kernel
theorem dX8_init_197 : decode cX8_init 197 = .ok (.iconst (-1), 1) := by decide +kernel
theorem dX8_init_198 : decode cX8_init 198 = .ok (.iastore, 1) := by decide +kernel
theorem dX8_init_199 : decode cX8_init 199 = .ok (.iinc 1 1, 3) := by decide +kernel
theorem dX8_init_202 : decode cX8_init 202 = .ok (.goto (-15), 3) := by decide +kernel
theorem dX8_init_205 : decode cX8_init 205 = .ok (.aload_n 0, 1) := by decide +kernel
theorem dX8_init_206 : decode cX8_init 206 = .ok (.getfield 22, 3) := by decide +kernel
theorem dX8_init_209 : decode cX8_init 209 = .ok (.iconst 0, 1) := by decide +kernel
theorem dX8_init_210 : decode cX8_init 210 = .ok (.iconst 5, 1) := by decide +kernel
theorem dX8_init_211 : decode cX8_init 211 = .ok (.iastore, 1) := by decide +kernel
theorem dX8_init_212 : decode cX8_init 212 = .ok (.aload_n 0, 1) := by decide +kernel
theorem dX8_init_213 : decode cX8_init 213 = .ok (.getfield 22, 3) := by decide +kernel
theorem dX8_init_216 : decode cX8_init 216 = .ok (.iconst 1, 1) := by decide +kernel
theorem dX8_init_217 : decode cX8_init 217 = .ok (.sipush 999, 3) := by decide +kernel
theorem dX8_init_220 : decode cX8_init 220 = .ok (.iastore, 1) := by decide +kernel
theorem dX8_init_221 : decode cX8_init 221 = .ok (.return_, 1) := by decide +kernel
theorem dX8_in_0 : decode cX8_in 0 = .ok (.lload_n 0, 1) := by decide +kernel
theorem dX8_in_1 : decode cX8_in 1 = .ok (.lload_n 2, 1) := by decide +kernel
theorem dX8_in_2 : decode cX8_in 2 = .ok (.lcmp, 1) := by decide +kernel
theorem dX8_in_3 : decode cX8_in 3 = .ok (.ifCond .lt 14, 3) := by decide +kernel
theorem dX8_in_6 : decode cX8_in 6 = .ok (.lload_n 0, 1) := by decide +kernel
theorem dX8_in_7 : decode cX8_in 7 = .ok (.lload 4, 2) := by decide +kernel
theorem dX8_in_9 : decode cX8_in 9 = .ok (.lcmp, 1) := by decide +kernel
theorem dX8_in_10 : decode cX8_in 10 = .ok (.ifCond .gt 7, 3) := by decide +kernel
theorem dX8_in_13 : decode cX8_in 13 = .ok (.iconst 1, 1) := by decide +kernel
theorem dX8_in_14 : decode cX8_in 14 = .ok (.goto 4, 3) := by decide +kernel
theorem dX8_in_17 : decode cX8_in 17 = .ok (.iconst 0, 1) := by decide +kernel
theorem dX8_in_18 : decode cX8_in 18 = .ok (.ireturn, 1) := by decide +kernel
theorem dX8_no_0 : decode cX8_no 0 = .ok (.ldc2_w 76, 3) := by decide +kernel
theorem dX8_no_3 : decode cX8_no 3 = .ok (.iload_n 0, 1) := by decide +kernel
theorem dX8_no_4 : decode cX8_no 4 = .ok (.i2l, 1) := by decide +kernel
theorem dX8_no_5 : decode cX8_no 5 = .ok (.lsub, 1) := by decide +kernel
theorem dX8_no_6 : decode cX8_no 6 = .ok (.lreturn, 1) := by decide +kernel
theorem dX8_isTwo_0 : decode cX8_isTwo 0 = .ok (.iload_n 0, 1) := by decide +kernel
theorem dX8_isTwo_1 : decode cX8_isTwo 1 = .ok (.i2l, 1) := by decide +kernel
theorem dX8_isTwo_2 : decode cX8_isTwo 2 = .ok (.lconst 0, 1) := by decide +kernel
theorem dX8_isTwo_3 : decode cX8_isTwo 3 = .ok (.lconst 1, 1) := by decide +kernel
theorem dX8_isTwo_4 : decode cX8_isTwo 4 = .ok (.invokestatic 78, 3) := by decide +kernel
theorem dX8_isTwo_7 : decode cX8_isTwo 7 = .ok (.ireturn, 1) := by decide +kernel
theorem dX8_isIn_0 : decode cX8_isIn 0 = .ok (.iload_n 0, 1) := by decide +kernel
theorem dX8_isIn_1 : decode cX8_isIn 1 = .ok (.iload_n 1, 1) := by decide +kernel
theorem dX8_isIn_2 : decode cX8_isIn 2 = .ok (.ishr, 1) := by decide +kernel
theorem dX8_isIn_3 : decode cX8_isIn 3 = .ok (.iconst 1, 1) := by decide +kernel
theorem dX8_isIn_4 : decode cX8_isIn 4 = .ok (.iand, 1) := by decide +kernel
theorem dX8_isIn_5 : decode cX8_isIn 5 = .ok (.iconst 1, 1) := by decide +kernel
theorem dX8_isIn_6 : decode cX8_isIn 6 = .ok (.if_icmp .ne 7, 3) := by decide +kernel
theorem dX8_isIn_9 : decode cX8_isIn 9 = .ok (.iconst 1, 1) := by decide +kernel
theorem dX8_isIn_10 : decode cX8_isIn 10 = .ok (.goto 4, 3) := by decide +kernel
theorem dX8_isIn_13 : decode cX8_isIn 13 = .ok (.iconst 0, 1) := by decide +kernel
theorem dX8_isIn_14 : decode cX8_isIn 14 = .ok (.ireturn, 1) := by decide +kernel
theorem dX8_ones_0 : decode cX8_ones 0 = .ok (.iconst 0, 1) := by decide +kernel
theorem dX8_ones_1 : decode cX8_ones 1 = .ok (.istore_n 1, 1) := by decide +kernel
theorem dX8_ones_2 : decode cX8_ones 2 = .ok (.iload_n 0, 1) := by decide +kernel
theorem dX8_ones_3 : decode cX8_ones 3 = .ok (.istore_n 2, 1) := by decide +kernel
theorem dX8_ones_4 : decode cX8_ones 4 = .ok (.iload_n 2, 1) := by decide +kernel
theorem dX8_ones_5 : decode cX8_ones 5 = .ok (.ifCond .eq 15, 3) := by decide +kernel
theorem dX8_ones_8 : decode cX8_ones 8 = .ok (.iinc 1 1, 3) := by decide +kernel
theorem dX8_ones_11 : decode cX8_ones 11 = .ok (.iload_n 2, 1) := by decide +kernel
theorem dX8_ones_12 : decode cX8_ones 12 = .ok (.iload_n 2, 1) := by decide +kernel
theorem dX8_ones_13 : decode cX8_ones 13 = .ok (.iconst 1, 1) := by decide +kernel
theorem dX8_ones_14 : decode cX8_ones 14 = .ok (.isub, 1) := by decide +kernel
theorem dX8_ones_15 : decode cX8_ones 15 = .ok (.iand, 1) := by decide +kernel
theorem dX8_ones_16 : decode cX8_ones 16 = .ok (.istore_n 2, 1) := by decide +kernel
theorem dX8_ones_17 : decode cX8_ones 17 = .ok (.goto (-13), 3) := by decide +kernel
theorem dX8_ones_20 : decode cX8_ones 20 = .ok (.iload_n 1, 1) := by decide +kernel
theorem dX8_ones_21 : decode cX8_ones 21 = .ok (.ireturn, 1) := by decide +kernel
theorem dX8_met_0 : decode cX8_met 0 = .ok (.aload_n 0, 1) := by decide +kernel
theorem dX8_met_1 : decode cX8_met 1 = .ok (.iload_n 1, 1) := by decide +kernel
theorem dX8_met_2 : decode cX8_met 2 = .ok (.putfield 82, 3) := by decide +kernel
theorem dX8_met_5 : decode cX8_met 5 = .ok (.bipush (-10), 2) := by decide +kernel
theorem dX8_met_7 : decode cX8_met 7 = .ok (.iload_n 1, 1) := by decide +kernel
theorem dX8_met_8 : decode cX8_met 8 = .ok (.isub, 1) := by decide +kernel
theorem dX8_met_9 : decode cX8_met 9 = .ok (.ireturn, 1) := by decide +kernel
theorem dX8_isSheet_0 : decode cX8_isSheet 0 = .ok (.iload_n 0, 1) := by decide +kernel
theorem dX8_isSheet_1 : decode cX8_isSheet 1 = .ok (.i2l, 1) := by decide +kernel
theorem dX8_isSheet_2 : decode cX8_isSheet 2 = .ok (.lconst 0, 1) := by decide +kernel
theorem dX8_isSheet_3 : decode cX8_isSheet 3 = .ok (.ldc2_w 86, 3) := by decide +kernel
theorem dX8_isSheet_6 : decode cX8_isSheet 6 = .ok (.invokestatic 78, 3) := by decide +kernel
theorem dX8_isSheet_9 : decode cX8_isSheet 9 = .ok (.ireturn, 1) := by decide +kernel
theorem dX8_sheet_0 : decode cX8_sheet 0 = .ok (.iload_n 1, 1) := by decide +kernel
theorem dX8_sheet_1 : decode cX8_sheet 1 = .ok (.invokestatic 88, 3) := by decide +kernel
theorem dX8_sheet_4 : decode cX8_sheet 4 = .ok (.ifCond .eq 21, 3) := by decide +kernel
theorem dX8_sheet_7 : decode cX8_sheet 7 = .ok (.iload_n 2, 1) := by decide +kernel
theorem dX8_sheet_8 : decode cX8_sheet 8 = .ok (.i2l, 1) := by decide +kernel
theorem dX8_sheet_9 : decode cX8_sheet 9 = .ok (.lconst 0, 1) := by decide +kernel
theorem dX8_sheet_10 : decode cX8_sheet 10 = .ok (.ldc2_w 92, 3) := by decide +kernel
theorem dX8_sheet_13 : decode cX8_sheet 13 = .ok (.invokestatic 78, 3) := by decide +kernel
theorem dX8_sheet_16 : decode cX8_sheet 16 = .ok (.ifCond .eq 9, 3) := by decide +kernel
theorem dX8_sheet_19 : decode cX8_sheet 19 = .ok (.iload_n 3, 1) := by decide +kernel
theorem dX8_sheet_20 : decode cX8_sheet 20 = .ok (.bipush 60, 2) := by decide +kernel
theorem dX8_sheet_22 : decode cX8_sheet 22 = .ok (.if_icmp .le 6, 3) := by decide +kernel
theorem dX8_sheet_25 : decode cX8_sheet 25 = .ok (.bipush (-2), 2) := by decide +kernel
theorem dX8_sheet_27 : decode cX8_sheet 27 = .ok (.ireturn, 1) := by decide +kernel
theorem dX8_sheet_28 : decode cX8_sheet 28 = .ok (.iload_n 3, 1) := by decide +kernel
theorem dX8_sheet_29 : decode cX8_sheet 29 = .ok (.ifCond .ge 9, 3) := by decide +kernel
theorem dX8_sheet_32 : decode cX8_sheet 32 = .ok (.aload_n 0, 1) := by decide +kernel
theorem dX8_sheet_33 : decode cX8_sheet 33 = .ok (.iconst 5, 1) := by decide +kernel
theorem dX8_sheet_34 : decode cX8_sheet 34 = .ok (.invokevirtual 94, 3) := by decide +kernel
theorem dX8_sheet_37 : decode cX8_sheet 37 = .ok (.ireturn, 1) := by decide +kernel
theorem dX8_sheet_38 : decode cX8_sheet 38 = .ok (.aload_n 0, 1) := by decide +kernel
theorem dX8_sheet_39 : decode cX8_sheet 39 = .ok (.getfield 7, 3) := by decide +kernel
theorem dX8_sheet_42 : decode cX8_sheet 42 = .ok (.iload_n 1, 1) := by decide +kernel
theorem dX8_sheet_43 : decode cX8_sheet 43 = .ok (.iload_n 2, 1) := by decide +kernel
theorem dX8_sheet_44 : decode cX8_sheet 44 = .ok (.iastore, 1) := by decide +kernel
theorem dX8_sheet_45 : decode cX8_sheet 45 = .ok (.aload_n 0, 1) := by decide +kernel
theorem dX8_sheet_46 : decode cX8_sheet 46 = .ok (.getfield 13, 3) := by decide +kernel
theorem dX8_sheet_49 : decode cX8_sheet 49 = .ok (.iload_n 1, 1) := by decide +kernel
theorem dX8_sheet_50 : decode cX8_sheet 50 = .ok (.iload_n 3, 1) := by decide +kernel
theorem dX8_sheet_51 : decode cX8_sheet 51 = .ok (.iastore, 1) := by decide +kernel
theorem dX8_sheet_52 : decode cX8_sheet 52 = .ok (.iconst 0, 1) := by decide +kernel
theorem dX8_sheet_53 : decode cX8_sheet 53 = .ok (.istore 4, 2) := by decide +kernel
theorem dX8_sheet_55 : decode cX8_sheet 55 = .ok (.iload 4, 2) := by decide +kernel
theorem dX8_sheet_57 : decode cX8_sheet 57 = .ok (.iload_n 3, 1) := by decide +kernel
theorem dX8_sheet_58 : decode cX8_sheet 58 = .ok (.if_icmp .ge 22, 3) := by decide +kernel
theorem dX8_sheet_61 : decode cX8_sheet 61 = .ok (.aload_n 0, 1) := by decide +kernel
theorem dX8_sheet_62 : decode cX8_sheet 62 = .ok (.getfield 16, 3) := by decide +kernel
theorem dX8_sheet_65 : decode cX8_sheet 65 = .ok (.bipush 60, 2) := by decide +kernel
theorem dX8_sheet_67 : decode cX8_sheet 67 = .ok (.iload_n 1, 1) := by decide +kernel
theorem dX8_sheet_68 : decode cX8_sheet 68 = .ok (.imul, 1) := by decide +kernel
theorem dX8_sheet_69 : decode cX8_sheet 69 = .ok (.iload 4, 2) := by decide +kernel
theorem dX8_sheet_71 : decode cX8_sheet 71 = .ok (.iadd, 1) := by decide +kernel
theorem dX8_sheet_72 : decode cX8_sheet 72 = .ok (.iconst 0, 1) := by decide +kernel
theorem dX8_sheet_73 : decode cX8_sheet 73 = .ok (.iastore, 1) := by decide +kernel
theorem dX8_sheet_74 : decode cX8_sheet 74 = .ok (.iinc 4 1, 3) := by decide +kernel
theorem dX8_sheet_77 : decode cX8_sheet 77 = .ok (.goto (-22), 3) := by decide +kernel
theorem dX8_sheet_80 : decode cX8_sheet 80 = .ok (.iload_n 3, 1) := by decide +kernel
theorem dX8_sheet_81 : decode cX8_sheet 81 = .ok (.ireturn, 1) := by decide +kernel
theorem dX8_lose_0 : decode cX8_lose 0 = .ok (.iload_n 1, 1) := by decide +kernel
theorem dX8_lose_1 : decode cX8_lose 1 = .ok (.invokestatic 88, 3) := by decide +kernel
theorem dX8_lose_4 : decode cX8_lose 4 = .ok (.ifCond .ne 6, 3) := by decide +kernel
theorem dX8_lose_7 : decode cX8_lose 7 = .ok (.bipush (-2), 2) := by decide +kernel
theorem dX8_lose_9 : decode cX8_lose 9 = .ok (.ireturn, 1) := by decide +kernel
theorem dX8_lose_10 : decode cX8_lose 10 = .ok (.aload_n 0, 1) := by decide +kernel
theorem dX8_lose_11 : decode cX8_lose 11 = .ok (.getfield 7, 3) := by decide +kernel
theorem dX8_lose_14 : decode cX8_lose 14 = .ok (.iload_n 1, 1) := by decide +kernel
theorem dX8_lose_15 : decode cX8_lose 15 = .ok (.iaload, 1) := by decide +kernel
theorem dX8_lose_16 : decode cX8_lose 16 = .ok (.ifCond .ge 9, 3) := by decide +kernel
theorem dX8_lose_19 : decode cX8_lose 19 = .ok (.aload_n 0, 1) := by decide +kernel
theorem dX8_lose_20 : decode cX8_lose 20 = .ok (.iconst 1, 1) := by decide +kernel
theorem dX8_lose_21 : decode cX8_lose 21 = .ok (.invokevirtual 94, 3) := by decide +kernel
theorem dX8_lose_24 : decode cX8_lose 24 = .ok (.ireturn, 1) := by decide +kernel
theorem dX8_lose_25 : decode cX8_lose 25 = .ok (.aload_n 0, 1) := by decide +kernel
theorem dX8_lose_26 : decode cX8_lose 26 = .ok (.getfield 7, 3) := by decide +kernel
theorem dX8_lose_29 : decode cX8_lose 29 = .ok (.iload_n 1, 1) := by decide +kernel
theorem dX8_lose_30 : decode cX8_lose 30 = .ok (.iconst (-1), 1) := by decide +kernel
theorem dX8_lose_31 : decode cX8_lose 31 = .ok (.iastore, 1) := by decide +kernel
theorem dX8_lose_32 : decode cX8_lose 32 = .ok (.aload_n 0, 1) := by decide +kernel
theorem dX8_lose_33 : decode cX8_lose 33 = .ok (.getfield 13, 3) := by decide +kernel
theorem dX8_lose_36 : decode cX8_lose 36 = .ok (.iload_n 1, 1) := by decide +kernel
theorem dX8_lose_37 : decode cX8_lose 37 = .ok (.iaload, 1) := by decide +kernel
theorem dX8_lose_38 : decode cX8_lose 38 = .ok (.ireturn, 1) := by decide +kernel
theorem dX8_lacks_0 : decode cX8_lacks 0 = .ok (.aload_n 0, 1) := by decide +kernel
theorem dX8_lacks_1 : decode cX8_lacks 1 = .ok (.getfield 7, 3) := by decide +kernel
theorem dX8_lacks_4 : decode cX8_lacks 4 = .ok (.iload_n 1, 1) := by decide +kernel
theorem dX8_lacks_5 : decode cX8_lacks 5 = .ok (.iaload, 1) := by decide +kernel
theorem dX8_lacks_6 : decode cX8_lacks 6 = .ok (.ifCond .ge 9, 3) := by decide +kernel
theorem dX8_lacks_9 : decode cX8_lacks 9 = .ok (.aload_n 0, 1) := by decide +kernel
theorem dX8_lacks_10 : decode cX8_lacks 10 = .ok (.iconst 1, 1) := by decide +kernel
theorem dX8_lacks_11 : decode cX8_lacks 11 = .ok (.invokevirtual 94, 3) := by decide +kernel
theorem dX8_lacks_14 : decode cX8_lacks 14 = .ok (.ireturn, 1) := by decide +kernel
theorem dX8_lacks_15 : decode cX8_lacks 15 = .ok (.aload_n 0, 1) := by decide +kernel
theorem dX8_lacks_16 : decode cX8_lacks 16 = .ok (.getfield 7, 3) := by decide +kernel
theorem dX8_lacks_19 : decode cX8_lacks 19 = .ok (.iload_n 1, 1) := by decide +kernel
theorem dX8_lacks_20 : decode cX8_lacks 20 = .ok (.iaload, 1) := by decide +kernel
theorem dX8_lacks_21 : decode cX8_lacks 21 = .ok (.iload_n 2, 1) := by decide +kernel
theorem dX8_lacks_22 : decode cX8_lacks 22 = .ok (.if_icmp .eq 9, 3) := by decide +kernel
theorem dX8_lacks_25 : decode cX8_lacks 25 = .ok (.aload_n 0, 1) := by decide +kernel
theorem dX8_lacks_26 : decode cX8_lacks 26 = .ok (.iconst 3, 1) := by decide +kernel
theorem dX8_lacks_27 : decode cX8_lacks 27 = .ok (.invokevirtual 94, 3) := by decide +kernel
theorem dX8_lacks_30 : decode cX8_lacks 30 = .ok (.ireturn, 1) := by decide +kernel
theorem dX8_lacks_31 : decode cX8_lacks 31 = .ok (.iload_n 3, 1) := by decide +kernel
theorem dX8_lacks_32 : decode cX8_lacks 32 = .ok (.i2l, 1) := by decide +kernel
theorem dX8_lacks_33 : decode cX8_lacks 33 = .ok (.lconst 0, 1) := by decide +kernel
theorem dX8_lacks_34 : decode cX8_lacks 34 = .ok (.aload_n 0, 1) := by decide +kernel
theorem dX8_lacks_35 : decode cX8_lacks 35 = .ok (.getfield 13, 3) := by decide +kernel
theorem dX8_lacks_38 : decode cX8_lacks 38 = .ok (.iload_n 1, 1) := by decide +kernel
theorem dX8_lacks_39 : decode cX8_lacks 39 = .ok (.iaload, 1) := by decide +kernel
theorem dX8_lacks_40 : decode cX8_lacks 40 = .ok (.iconst 1, 1) := by decide +kernel
theorem dX8_lacks_41 : decode cX8_lacks 41 = .ok (.isub, 1) := by decide +kernel
theorem dX8_lacks_42 : decode cX8_lacks 42 = .ok (.i2l, 1) := by decide +kernel
theorem dX8_lacks_43 : decode cX8_lacks 43 = .ok (.invokestatic 78, 3) := by decide +kernel
theorem dX8_lacks_46 : decode cX8_lacks 46 = .ok (.ifCond .eq 7, 3) := by decide +kernel
theorem dX8_lacks_49 : decode cX8_lacks 49 = .ok (.iconst 0, 1) := by decide +kernel
theorem dX8_lacks_50 : decode cX8_lacks 50 = .ok (.goto 8, 3) := by decide +kernel
theorem dX8_lacks_53 : decode cX8_lacks 53 = .ok (.aload_n 0, 1) := by decide +kernel
theorem dX8_lacks_54 : decode cX8_lacks 54 = .ok (.iconst 2, 1) := by decide +kernel
theorem dX8_lacks_55 : decode cX8_lacks 55 = .ok (.invokevirtual 94, 3) := by decide +kernel
theorem dX8_lacks_58 : decode cX8_lacks 58 = .ok (.ireturn, 1) := by decide +kernel
theorem dX8_cut_0 : decode cX8_cut 0 = .ok (.iload_n 0, 1) := by decide +kernel
theorem dX8_cut_1 : decode cX8_cut 1 = .ok (.ifCond .ne 8, 3) := by decide +kernel
theorem dX8_cut_4 : decode cX8_cut 4 = .ok (.iload_n 1, 1) := by decide +kernel
theorem dX8_cut_5 : decode cX8_cut 5 = .ok (.i2b, 1) := by decide +kernel
theorem dX8_cut_6 : decode cX8_cut 6 = .ok (.goto 14, 3) := by decide +kernel
theorem dX8_cut_9 : decode cX8_cut 9 = .ok (.iload_n 0, 1) := by decide +kernel
theorem dX8_cut_10 : decode cX8_cut 10 = .ok (.iconst 1, 1) := by decide +kernel
theorem dX8_cut_11 : decode cX8_cut 11 = .ok (.if_icmp .ne 8, 3) := by decide +kernel
theorem dX8_cut_14 : decode cX8_cut 14 = .ok (.iload_n 1, 1) := by decide +kernel
theorem dX8_cut_15 : decode cX8_cut 15 = .ok (.i2s, 1) := by decide +kernel
theorem dX8_cut_16 : decode cX8_cut 16 = .ok (.goto 4, 3) := by decide +kernel
theorem dX8_cut_19 : decode cX8_cut 19 = .ok (.iload_n 1, 1) := by decide +kernel
theorem dX8_cut_20 : decode cX8_cut 20 = .ok (.ireturn, 1) := by decide +kernel
theorem dX8_lay_0 : decode cX8_lay 0 = .ok (.iload_n 1, 1) := by decide +kernel
theorem dX8_lay_1 : decode cX8_lay 1 = .ok (.invokestatic 88, 3) := by decide +kernel
theorem dX8_lay_4 : decode cX8_lay 4 = .ok (.ifCond .eq 15, 3) := by decide +kernel
theorem dX8_lay_7 : decode cX8_lay 7 = .ok (.iload_n 2, 1) := by decide +kernel
theorem dX8_lay_8 : decode cX8_lay 8 = .ok (.i2l, 1) := by decide +kernel
theorem dX8_lay_9 : decode cX8_lay 9 = .ok (.lconst 0, 1) := by decide +kernel
theorem dX8_lay_10 : decode cX8_lay 10 = .ok (.ldc2_w 92, 3) := by decide +kernel
theorem dX8_lay_13 : decode cX8_lay 13 = .ok (.invokestatic 78, 3) := by decide +kernel
theorem dX8_lay_16 : decode cX8_lay 16 = .ok (.ifCond .ne 6, 3) := by decide +kernel
theorem dX8_lay_19 : decode cX8_lay 19 = .ok (.bipush (-2), 2) := by decide +kernel
theorem dX8_lay_21 : decode cX8_lay 21 = .ok (.ireturn, 1) := by decide +kernel
theorem dX8_lay_22 : decode cX8_lay 22 = .ok (.aload_n 0, 1) := by decide +kernel
theorem dX8_lay_23 : decode cX8_lay 23 = .ok (.iload_n 1, 1) := by decide +kernel
theorem dX8_lay_24 : decode cX8_lay 24 = .ok (.iload_n 2, 1) := by decide +kernel
theorem dX8_lay_25 : decode cX8_lay 25 = .ok (.iload_n 3, 1) := by decide +kernel
theorem dX8_lay_26 : decode cX8_lay 26 = .ok (.invokevirtual 98, 3) := by decide +kernel
theorem dX8_lay_29 : decode cX8_lay 29 = .ok (.istore 5, 2) := by decide +kernel
theorem dX8_lay_31 : decode cX8_lay 31 = .ok (.iload 5, 2) := by decide +kernel
theorem dX8_lay_33 : decode cX8_lay 33 = .ok (.ifCond .eq 6, 3) := by decide +kernel
theorem dX8_lay_36 : decode cX8_lay 36 = .ok (.iload 5, 2) := by decide +kernel
theorem dX8_lay_38 : decode cX8_lay 38 = .ok (.ireturn, 1) := by decide +kernel
theorem dX8_lay_39 : decode cX8_lay 39 = .ok (.aload_n 0, 1) := by decide +kernel
theorem dX8_lay_40 : decode cX8_lay 40 = .ok (.getfield 16, 3) := by decide +kernel
theorem dX8_lay_43 : decode cX8_lay 43 = .ok (.bipush 60, 2) := by decide +kernel
theorem dX8_lay_45 : decode cX8_lay 45 = .ok (.iload_n 1, 1) := by decide +kernel
theorem dX8_lay_46 : decode cX8_lay 46 = .ok (.imul, 1) := by decide +kernel
theorem dX8_lay_47 : decode cX8_lay 47 = .ok (.iload_n 3, 1) := by decide +kernel
theorem dX8_lay_48 : decode cX8_lay 48 = .ok (.iadd, 1) := by decide +kernel
theorem dX8_lay_49 : decode cX8_lay 49 = .ok (.iload_n 2, 1) := by decide +kernel
theorem dX8_lay_50 : decode cX8_lay 50 = .ok (.iload 4, 2) := by decide +kernel
theorem dX8_lay_52 : decode cX8_lay 52 = .ok (.invokestatic 102, 3) := by decide +kernel
theorem dX8_lay_55 : decode cX8_lay 55 = .ok (.iastore, 1) := by decide +kernel
theorem dX8_lay_56 : decode cX8_lay 56 = .ok (.iconst 1, 1) := by decide +kernel
theorem dX8_lay_57 : decode cX8_lay 57 = .ok (.ireturn, 1) := by decide +kernel
theorem dX8_get_0 : decode cX8_get 0 = .ok (.iload_n 1, 1) := by decide +kernel
theorem dX8_get_1 : decode cX8_get 1 = .ok (.invokestatic 88, 3) := by decide +kernel
theorem dX8_get_4 : decode cX8_get 4 = .ok (.ifCond .eq 25, 3) := by decide +kernel
theorem dX8_get_7 : decode cX8_get 7 = .ok (.iload_n 2, 1) := by decide +kernel
theorem dX8_get_8 : decode cX8_get 8 = .ok (.i2l, 1) := by decide +kernel
theorem dX8_get_9 : decode cX8_get 9 = .ok (.lconst 0, 1) := by decide +kernel
theorem dX8_get_10 : decode cX8_get 10 = .ok (.ldc2_w 92, 3) := by decide +kernel
theorem dX8_get_13 : decode cX8_get 13 = .ok (.invokestatic 78, 3) := by decide +kernel
theorem dX8_get_16 : decode cX8_get 16 = .ok (.ifCond .eq 13, 3) := by decide +kernel
theorem dX8_get_19 : decode cX8_get 19 = .ok (.aload_n 0, 1) := by decide +kernel
theorem dX8_get_20 : decode cX8_get 20 = .ok (.iload_n 1, 1) := by decide +kernel
theorem dX8_get_21 : decode cX8_get 21 = .ok (.iload_n 2, 1) := by decide +kernel
theorem dX8_get_22 : decode cX8_get 22 = .ok (.iload_n 3, 1) := by decide +kernel
theorem dX8_get_23 : decode cX8_get 23 = .ok (.invokevirtual 98, 3) := by decide +kernel
theorem dX8_get_26 : decode cX8_get 26 = .ok (.ifCond .eq 6, 3) := by decide +kernel
theorem dX8_get_29 : decode cX8_get 29 = .ok (.ldc 106, 2) := by decide +kernel
theorem dX8_get_31 : decode cX8_get 31 = .ok (.ireturn, 1) := by decide +kernel
theorem dX8_get_32 : decode cX8_get 32 = .ok (.aload_n 0, 1) := by decide +kernel
theorem dX8_get_33 : decode cX8_get 33 = .ok (.getfield 16, 3) := by decide +kernel
theorem dX8_get_36 : decode cX8_get 36 = .ok (.bipush 60, 2) := by decide +kernel
theorem dX8_get_38 : decode cX8_get 38 = .ok (.iload_n 1, 1) := by decide +kernel
theorem dX8_get_39 : decode cX8_get 39 = .ok (.imul, 1) := by decide +kernel
theorem dX8_get_40 : decode cX8_get 40 = .ok (.iload_n 3, 1) := by decide +kernel
theorem dX8_get_41 : decode cX8_get 41 = .ok (.iadd, 1) := by decide +kernel
theorem dX8_get_42 : decode cX8_get 42 = .ok (.iaload, 1) := by decide +kernel
theorem dX8_get_43 : decode cX8_get 43 = .ok (.ireturn, 1) := by decide +kernel
theorem dX8_copy_0 : decode cX8_copy 0 = .ok (.iload_n 1, 1) := by decide +kernel
theorem dX8_copy_1 : decode cX8_copy 1 = .ok (.invokestatic 88, 3) := by decide +kernel
theorem dX8_copy_4 : decode cX8_copy 4 = .ok (.ifCond .eq 10, 3) := by decide +kernel
theorem dX8_copy_7 : decode cX8_copy 7 = .ok (.iload_n 3, 1) := by decide +kernel
theorem dX8_copy_8 : decode cX8_copy 8 = .ok (.invokestatic 88, 3) := by decide +kernel
theorem dX8_copy_11 : decode cX8_copy 11 = .ok (.ifCond .ne 6, 3) := by decide +kernel
theorem dX8_copy_14 : decode cX8_copy 14 = .ok (.bipush (-2), 2) := by decide +kernel
theorem dX8_copy_16 : decode cX8_copy 16 = .ok (.ireturn, 1) := by decide +kernel
theorem dX8_copy_17 : decode cX8_copy 17 = .ok (.aload_n 0, 1) := by decide +kernel
theorem dX8_copy_18 : decode cX8_copy 18 = .ok (.getfield 7, 3) := by decide +kernel
theorem dX8_copy_21 : decode cX8_copy 21 = .ok (.iload_n 1, 1) := by decide +kernel
theorem dX8_copy_22 : decode cX8_copy 22 = .ok (.iaload, 1) := by decide +kernel
theorem dX8_copy_23 : decode cX8_copy 23 = .ok (.ifCond .lt 12, 3) := by decide +kernel
theorem dX8_copy_26 : decode cX8_copy 26 = .ok (.aload_n 0, 1) := by decide +kernel
theorem dX8_copy_27 : decode cX8_copy 27 = .ok (.getfield 7, 3) := by decide +kernel
theorem dX8_copy_30 : decode cX8_copy 30 = .ok (.iload_n 3, 1) := by decide +kernel
theorem dX8_copy_31 : decode cX8_copy 31 = .ok (.iaload, 1) := by decide +kernel
theorem dX8_copy_32 : decode cX8_copy 32 = .ok (.ifCond .ge 9, 3) := by decide +kernel
