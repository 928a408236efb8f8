theorem dX8_sureOf_221 : decode cX8_sureOf 221 = .ok (.aload_n 0, 1) := by decide +kernel
theorem dX8_sureOf_222 : decode cX8_sureOf 222 = .ok (.getfield 67, 3) := by decide +kernel
theorem dX8_sureOf_225 : decode cX8_sureOf 225 = .ok (.iload 6, 2) := by decide +kernel
theorem dX8_sureOf_227 : decode cX8_sureOf 227 = .ok (.iaload, 1) := by decide +kernel
theorem dX8_sureOf_228 : decode cX8_sureOf 228 = .ok (.ifCond .le 50, 3) := by decide +kernel
theorem dX8_sureOf_231 : decode cX8_sureOf 231 = .ok (.aload_n 0, 1) := by decide +kernel
theorem dX8_sureOf_232 : decode cX8_sureOf 232 = .ok (.iload 7, 2) := by decide +kernel
theorem dX8_sureOf_234 : decode cX8_sureOf 234 = .ok (.iload 6, 2) := by decide +kernel
theorem dX8_sureOf_236 : decode cX8_sureOf 236 = .ok (.invokevirtual 276, 3) := by decide +kernel
theorem dX8_sureOf_239 : decode cX8_sureOf 239 = .ok (.istore 8, 2) := by decide +kernel
theorem dX8_sureOf_241 : decode cX8_sureOf 241 = .ok (.aload_n 0, 1) := by decide +kernel
theorem dX8_sureOf_242 : decode cX8_sureOf 242 = .ok (.getfield 67, 3) := by decide +kernel
theorem dX8_sureOf_245 : decode cX8_sureOf 245 = .ok (.iload 6, 2) := by decide +kernel
theorem dX8_sureOf_247 : decode cX8_sureOf 247 = .ok (.iload 8, 2) := by decide +kernel
theorem dX8_sureOf_249 : decode cX8_sureOf 249 = .ok (.aload_n 0, 1) := by decide +kernel
theorem dX8_sureOf_250 : decode cX8_sureOf 250 = .ok (.getfield 67, 3) := by decide +kernel
theorem dX8_sureOf_253 : decode cX8_sureOf 253 = .ok (.iload 6, 2) := by decide +kernel
theorem dX8_sureOf_255 : decode cX8_sureOf 255 = .ok (.iaload, 1) := by decide +kernel
theorem dX8_sureOf_256 : decode cX8_sureOf 256 = .ok (.if_icmp .ge 8, 3) := by decide +kernel
theorem dX8_sureOf_259 : decode cX8_sureOf 259 = .ok (.iload 8, 2) := by decide +kernel
theorem dX8_sureOf_261 : decode cX8_sureOf 261 = .ok (.goto 10, 3) := by decide +kernel
theorem dX8_sureOf_264 : decode cX8_sureOf 264 = .ok (.aload_n 0, 1) := by decide +kernel
theorem dX8_sureOf_265 : decode cX8_sureOf 265 = .ok (.getfield 67, 3) := by decide +kernel
theorem dX8_sureOf_268 : decode cX8_sureOf 268 = .ok (.iload 6, 2) := by decide +kernel
theorem dX8_sureOf_270 : decode cX8_sureOf 270 = .ok (.iaload, 1) := by decide +kernel
theorem dX8_sureOf_271 : decode cX8_sureOf 271 = .ok (.iastore, 1) := by decide +kernel
theorem dX8_sureOf_272 : decode cX8_sureOf 272 = .ok (.iinc 7 1, 3) := by decide +kernel
theorem dX8_sureOf_275 : decode cX8_sureOf 275 = .ok (.goto (-63), 3) := by decide +kernel
theorem dX8_sureOf_278 : decode cX8_sureOf 278 = .ok (.iinc 6 1, 3) := by decide +kernel
theorem dX8_sureOf_281 : decode cX8_sureOf 281 = .ok (.goto (-103), 3) := by decide +kernel
theorem dX8_sureOf_284 : decode cX8_sureOf 284 = .ok (.iload_n 3, 1) := by decide +kernel
theorem dX8_sureOf_285 : decode cX8_sureOf 285 = .ok (.ifCond .ne 11, 3) := by decide +kernel
theorem dX8_sureOf_288 : decode cX8_sureOf 288 = .ok (.aload_n 0, 1) := by decide +kernel
theorem dX8_sureOf_289 : decode cX8_sureOf 289 = .ok (.getfield 67, 3) := by decide +kernel
theorem dX8_sureOf_292 : decode cX8_sureOf 292 = .ok (.iload 5, 2) := by decide +kernel
theorem dX8_sureOf_294 : decode cX8_sureOf 294 = .ok (.iaload, 1) := by decide +kernel
theorem dX8_sureOf_295 : decode cX8_sureOf 295 = .ok (.ireturn, 1) := by decide +kernel
theorem dX8_sureOf_296 : decode cX8_sureOf 296 = .ok (.iconst 0, 1) := by decide +kernel
theorem dX8_sureOf_297 : decode cX8_sureOf 297 = .ok (.istore 6, 2) := by decide +kernel
theorem dX8_sureOf_299 : decode cX8_sureOf 299 = .ok (.iload 6, 2) := by decide +kernel
theorem dX8_sureOf_301 : decode cX8_sureOf 301 = .ok (.aload_n 0, 1) := by decide +kernel
theorem dX8_sureOf_302 : decode cX8_sureOf 302 = .ok (.invokevirtual 111, 3) := by decide +kernel
theorem dX8_sureOf_305 : decode cX8_sureOf 305 = .ok (.if_icmp .ge 36, 3) := by decide +kernel
theorem dX8_sureOf_308 : decode cX8_sureOf 308 = .ok (.iload 4, 2) := by decide +kernel
theorem dX8_sureOf_310 : decode cX8_sureOf 310 = .ok (.iconst 1, 1) := by decide +kernel
theorem dX8_sureOf_311 : decode cX8_sureOf 311 = .ok (.if_icmp .le 30, 3) := by decide +kernel
theorem dX8_sureOf_314 : decode cX8_sureOf 314 = .ok (.aload_n 0, 1) := by decide +kernel
theorem dX8_sureOf_315 : decode cX8_sureOf 315 = .ok (.iload 6, 2) := by decide +kernel
theorem dX8_sureOf_317 : decode cX8_sureOf 317 = .ok (.iload 5, 2) := by decide +kernel
theorem dX8_sureOf_319 : decode cX8_sureOf 319 = .ok (.invokevirtual 276, 3) := by decide +kernel
theorem dX8_sureOf_322 : decode cX8_sureOf 322 = .ok (.aload_n 0, 1) := by decide +kernel
theorem dX8_sureOf_323 : decode cX8_sureOf 323 = .ok (.getfield 67, 3) := by decide +kernel
theorem dX8_sureOf_326 : decode cX8_sureOf 326 = .ok (.iload 5, 2) := by decide +kernel
theorem dX8_sureOf_328 : decode cX8_sureOf 328 = .ok (.iaload, 1) := by decide +kernel
theorem dX8_sureOf_329 : decode cX8_sureOf 329 = .ok (.if_icmp .ne 6, 3) := by decide +kernel
theorem dX8_sureOf_332 : decode cX8_sureOf 332 = .ok (.iload 6, 2) := by decide +kernel
theorem dX8_sureOf_334 : decode cX8_sureOf 334 = .ok (.ireturn, 1) := by decide +kernel
theorem dX8_sureOf_335 : decode cX8_sureOf 335 = .ok (.iinc 6 1, 3) := by decide +kernel
theorem dX8_sureOf_338 : decode cX8_sureOf 338 = .ok (.goto (-39), 3) := by decide +kernel
theorem dX8_sureOf_341 : decode cX8_sureOf 341 = .ok (.iconst (-1), 1) := by decide +kernel
theorem dX8_sureOf_342 : decode cX8_sureOf 342 = .ok (.ireturn, 1) := by decide +kernel
theorem dX8_sure_0 : decode cX8_sure 0 = .ok (.iload_n 1, 1) := by decide +kernel
theorem dX8_sure_1 : decode cX8_sure 1 = .ok (.i2l, 1) := by decide +kernel
theorem dX8_sure_2 : decode cX8_sure 2 = .ok (.lconst 0, 1) := by decide +kernel
theorem dX8_sure_3 : decode cX8_sure 3 = .ok (.ldc2_w 195, 3) := by decide +kernel
theorem dX8_sure_6 : decode cX8_sure 6 = .ok (.invokestatic 78, 3) := by decide +kernel
theorem dX8_sure_9 : decode cX8_sure 9 = .ok (.ifCond .eq 32, 3) := by decide +kernel
theorem dX8_sure_12 : decode cX8_sure 12 = .ok (.iload_n 2, 1) := by decide +kernel
theorem dX8_sure_13 : decode cX8_sure 13 = .ok (.i2l, 1) := by decide +kernel
theorem dX8_sure_14 : decode cX8_sure 14 = .ok (.lconst 0, 1) := by decide +kernel
theorem dX8_sure_15 : decode cX8_sure 15 = .ok (.ldc2_w 195, 3) := by decide +kernel
theorem dX8_sure_18 : decode cX8_sure 18 = .ok (.invokestatic 78, 3) := by decide +kernel
theorem dX8_sure_21 : decode cX8_sure 21 = .ok (.ifCond .eq 20, 3) := by decide +kernel
theorem dX8_sure_24 : decode cX8_sure 24 = .ok (.iload_n 3, 1) := by decide +kernel
theorem dX8_sure_25 : decode cX8_sure 25 = .ok (.invokestatic 179, 3) := by decide +kernel
theorem dX8_sure_28 : decode cX8_sure 28 = .ok (.ifCond .eq 13, 3) := by decide +kernel
theorem dX8_sure_31 : decode cX8_sure 31 = .ok (.aload_n 0, 1) := by decide +kernel
theorem dX8_sure_32 : decode cX8_sure 32 = .ok (.iload_n 1, 1) := by decide +kernel
theorem dX8_sure_33 : decode cX8_sure 33 = .ok (.iload_n 2, 1) := by decide +kernel
theorem dX8_sure_34 : decode cX8_sure 34 = .ok (.iload_n 3, 1) := by decide +kernel
theorem dX8_sure_35 : decode cX8_sure 35 = .ok (.invokevirtual 279, 3) := by decide +kernel
theorem dX8_sure_38 : decode cX8_sure 38 = .ok (.goto 5, 3) := by decide +kernel
theorem dX8_sure_41 : decode cX8_sure 41 = .ok (.bipush (-2), 2) := by decide +kernel
theorem dX8_sure_43 : decode cX8_sure 43 = .ok (.ireturn, 1) := by decide +kernel
theorem dX8_chanceAbove_0 : decode cX8_chanceAbove 0 = .ok (.lconst 1, 1) := by decide +kernel
theorem dX8_chanceAbove_1 : decode cX8_chanceAbove 1 = .ok (.lstore 5, 2) := by decide +kernel
theorem dX8_chanceAbove_3 : decode cX8_chanceAbove 3 = .ok (.iconst 0, 1) := by decide +kernel
theorem dX8_chanceAbove_4 : decode cX8_chanceAbove 4 = .ok (.istore 7, 2) := by decide +kernel
theorem dX8_chanceAbove_6 : decode cX8_chanceAbove 6 = .ok (.iload 7, 2) := by decide +kernel
theorem dX8_chanceAbove_8 : decode cX8_chanceAbove 8 = .ok (.aload_n 0, 1) := by decide +kernel
theorem dX8_chanceAbove_9 : decode cX8_chanceAbove 9 = .ok (.invokevirtual 111, 3) := by decide +kernel
theorem dX8_chanceAbove_12 : decode cX8_chanceAbove 12 = .ok (.if_icmp .ge 72, 3) := by decide +kernel
theorem dX8_chanceAbove_15 : decode cX8_chanceAbove 15 = .ok (.aload_n 0, 1) := by decide +kernel
theorem dX8_chanceAbove_16 : decode cX8_chanceAbove 16 = .ok (.getfield 37, 3) := by decide +kernel
theorem dX8_chanceAbove_19 : decode cX8_chanceAbove 19 = .ok (.bipush 7, 2) := by decide +kernel
theorem dX8_chanceAbove_21 : decode cX8_chanceAbove 21 = .ok (.iload_n 1, 1) := by decide +kernel
theorem dX8_chanceAbove_22 : decode cX8_chanceAbove 22 = .ok (.imul, 1) := by decide +kernel
theorem dX8_chanceAbove_23 : decode cX8_chanceAbove 23 = .ok (.iload 7, 2) := by decide +kernel
theorem dX8_chanceAbove_25 : decode cX8_chanceAbove 25 = .ok (.iadd, 1) := by decide +kernel
theorem dX8_chanceAbove_26 : decode cX8_chanceAbove 26 = .ok (.iaload, 1) := by decide +kernel
theorem dX8_chanceAbove_27 : decode cX8_chanceAbove 27 = .ok (.istore 8, 2) := by decide +kernel
theorem dX8_chanceAbove_29 : decode cX8_chanceAbove 29 = .ok (.iload 8, 2) := by decide +kernel
theorem dX8_chanceAbove_31 : decode cX8_chanceAbove 31 = .ok (.iconst 2, 1) := by decide +kernel
theorem dX8_chanceAbove_32 : decode cX8_chanceAbove 32 = .ok (.if_icmp .eq 46, 3) := by decide +kernel
theorem dX8_chanceAbove_35 : decode cX8_chanceAbove 35 = .ok (.iload_n 2, 1) := by decide +kernel
theorem dX8_chanceAbove_36 : decode cX8_chanceAbove 36 = .ok (.iload 7, 2) := by decide +kernel
theorem dX8_chanceAbove_38 : decode cX8_chanceAbove 38 = .ok (.invokestatic 153, 3) := by decide +kernel
theorem dX8_chanceAbove_41 : decode cX8_chanceAbove 41 = .ok (.ifCond .eq 10, 3) := by decide +kernel
theorem dX8_chanceAbove_44 : decode cX8_chanceAbove 44 = .ok (.bipush 16, 2) := by decide +kernel
theorem dX8_chanceAbove_46 : decode cX8_chanceAbove 46 = .ok (.iload_n 3, 1) := by decide +kernel
theorem dX8_chanceAbove_47 : decode cX8_chanceAbove 47 = .ok (.isub, 1) := by decide +kernel
theorem dX8_chanceAbove_48 : decode cX8_chanceAbove 48 = .ok (.goto 5, 3) := by decide +kernel
theorem dX8_chanceAbove_51 : decode cX8_chanceAbove 51 = .ok (.iload 4, 2) := by decide +kernel
theorem dX8_chanceAbove_53 : decode cX8_chanceAbove 53 = .ok (.istore 9, 2) := by decide +kernel
theorem dX8_chanceAbove_55 : decode cX8_chanceAbove 55 = .ok (.lload 5, 2) := by decide +kernel
theorem dX8_chanceAbove_57 : decode cX8_chanceAbove 57 = .ok (.iload 8, 2) := by decide +kernel
theorem dX8_chanceAbove_59 : decode cX8_chanceAbove 59 = .ok (.iconst 1, 1) := by decide +kernel
theorem dX8_chanceAbove_60 : decode cX8_chanceAbove 60 = .ok (.if_icmp .ne 9, 3) := by decide +kernel
theorem dX8_chanceAbove_63 : decode cX8_chanceAbove 63 = .ok (.iload 9, 2) := by decide +kernel
theorem dX8_chanceAbove_65 : decode cX8_chanceAbove 65 = .ok (.i2l, 1) := by decide +kernel
theorem dX8_chanceAbove_66 : decode cX8_chanceAbove 66 = .ok (.goto 9, 3) := by decide +kernel
theorem dX8_chanceAbove_69 : decode cX8_chanceAbove 69 = .ok (.bipush 16, 2) := by decide +kernel
theorem dX8_chanceAbove_71 : decode cX8_chanceAbove 71 = .ok (.iload 9, 2) := by decide +kernel
theorem dX8_chanceAbove_73 : decode cX8_chanceAbove 73 = .ok (.isub, 1) := by decide +kernel
theorem dX8_chanceAbove_74 : decode cX8_chanceAbove 74 = .ok (.i2l, 1) := by decide +kernel
theorem dX8_chanceAbove_75 : decode cX8_chanceAbove 75 = .ok (.lmul, 1) := by decide +kernel
theorem dX8_chanceAbove_76 : decode cX8_chanceAbove 76 = .ok (.lstore 5, 2) := by decide +kernel
theorem dX8_chanceAbove_78 : decode cX8_chanceAbove 78 = .ok (.iinc 7 1, 3) := by decide +kernel
theorem dX8_chanceAbove_81 : decode cX8_chanceAbove 81 = .ok (.goto (-75), 3) := by decide +kernel
theorem dX8_chanceAbove_84 : decode cX8_chanceAbove 84 = .ok (.lload 5, 2) := by decide +kernel
theorem dX8_chanceAbove_86 : decode cX8_chanceAbove 86 = .ok (.lreturn, 1) := by decide +kernel
theorem dX8_areLots_0 : decode cX8_areLots 0 = .ok (.iload_n 0, 1) := by decide +kernel
theorem dX8_areLots_1 : decode cX8_areLots 1 = .ok (.i2l, 1) := by decide +kernel
theorem dX8_areLots_2 : decode cX8_areLots 2 = .ok (.lconst 0, 1) := by decide +kernel
theorem dX8_areLots_3 : decode cX8_areLots 3 = .ok (.ldc2_w 282, 3) := by decide +kernel
theorem dX8_areLots_6 : decode cX8_areLots 6 = .ok (.invokestatic 78, 3) := by decide +kernel
theorem dX8_areLots_9 : decode cX8_areLots 9 = .ok (.ifCond .eq 19, 3) := by decide +kernel
theorem dX8_areLots_12 : decode cX8_areLots 12 = .ok (.iload_n 1, 1) := by decide +kernel
theorem dX8_areLots_13 : decode cX8_areLots 13 = .ok (.i2l, 1) := by decide +kernel
theorem dX8_areLots_14 : decode cX8_areLots 14 = .ok (.lconst 0, 1) := by decide +kernel
theorem dX8_areLots_15 : decode cX8_areLots 15 = .ok (.ldc2_w 282, 3) := by decide +kernel
theorem dX8_areLots_18 : decode cX8_areLots 18 = .ok (.invokestatic 78, 3) := by decide +kernel
theorem dX8_areLots_21 : decode cX8_areLots 21 = .ok (.ifCond .eq 7, 3) := by decide +kernel
theorem dX8_areLots_24 : decode cX8_areLots 24 = .ok (.iconst 1, 1) := by decide +kernel
theorem dX8_areLots_25 : decode cX8_areLots 25 = .ok (.goto 4, 3) := by decide +kernel
theorem dX8_areLots_28 : decode cX8_areLots 28 = .ok (.iconst 0, 1) := by decide +kernel
theorem dX8_areLots_29 : decode cX8_areLots 29 = .ok (.ireturn, 1) := by decide +kernel
theorem dX8_chance_0 : decode cX8_chance 0 = .ok (.iload_n 1, 1) := by decide +kernel
theorem dX8_chance_1 : decode cX8_chance 1 = .ok (.invokestatic 123, 3) := by decide +kernel
theorem dX8_chance_4 : decode cX8_chance 4 = .ok (.ifCond .eq 32, 3) := by decide +kernel
theorem dX8_chance_7 : decode cX8_chance 7 = .ok (.iload_n 2, 1) := by decide +kernel
theorem dX8_chance_8 : decode cX8_chance 8 = .ok (.i2l, 1) := by decide +kernel
theorem dX8_chance_9 : decode cX8_chance 9 = .ok (.lconst 0, 1) := by decide +kernel
theorem dX8_chance_10 : decode cX8_chance 10 = .ok (.ldc2_w 195, 3) := by decide +kernel
theorem dX8_chance_13 : decode cX8_chance 13 = .ok (.invokestatic 78, 3) := by decide +kernel
theorem dX8_chance_16 : decode cX8_chance 16 = .ok (.ifCond .eq 20, 3) := by decide +kernel
theorem dX8_chance_19 : decode cX8_chance 19 = .ok (.iload_n 3, 1) := by decide +kernel
theorem dX8_chance_20 : decode cX8_chance 20 = .ok (.iload 4, 2) := by decide +kernel
theorem dX8_chance_22 : decode cX8_chance 22 = .ok (.invokestatic 284, 3) := by decide +kernel
theorem dX8_chance_25 : decode cX8_chance 25 = .ok (.ifCond .eq 11, 3) := by decide +kernel
theorem dX8_chance_28 : decode cX8_chance 28 = .ok (.iload 5, 2) := by decide +kernel
theorem dX8_chance_30 : decode cX8_chance 30 = .ok (.invokestatic 179, 3) := by decide +kernel
theorem dX8_chance_33 : decode cX8_chance 33 = .ok (.ifCond .ne 9, 3) := by decide +kernel
theorem dX8_chance_36 : decode cX8_chance 36 = .ok (.bipush (-2), 2) := by decide +kernel
theorem dX8_chance_38 : decode cX8_chance 38 = .ok (.invokestatic 234, 3) := by decide +kernel
theorem dX8_chance_41 : decode cX8_chance 41 = .ok (.lreturn, 1) := by decide +kernel
theorem dX8_chance_42 : decode cX8_chance 42 = .ok (.aload_n 0, 1) := by decide +kernel
theorem dX8_chance_43 : decode cX8_chance 43 = .ok (.invokevirtual 136, 3) := by decide +kernel
theorem dX8_chance_46 : decode cX8_chance 46 = .ok (.lconst 1, 1) := by decide +kernel
theorem dX8_chance_47 : decode cX8_chance 47 = .ok (.lstore 6, 2) := by decide +kernel
theorem dX8_chance_49 : decode cX8_chance 49 = .ok (.iconst 0, 1) := by decide +kernel
theorem dX8_chance_50 : decode cX8_chance 50 = .ok (.istore 8, 2) := by decide +kernel
theorem dX8_chance_52 : decode cX8_chance 52 = .ok (.iload 8, 2) := by decide +kernel
theorem dX8_chance_54 : decode cX8_chance 54 = .ok (.aload_n 0, 1) := by decide +kernel
theorem dX8_chance_55 : decode cX8_chance 55 = .ok (.invokevirtual 111, 3) := by decide +kernel
theorem dX8_chance_58 : decode cX8_chance 58 = .ok (.if_icmp .ge 37, 3) := by decide +kernel
theorem dX8_chance_61 : decode cX8_chance 61 = .ok (.lload 6, 2) := by decide +kernel
theorem dX8_chance_63 : decode cX8_chance 63 = .ok (.aload_n 0, 1) := by decide +kernel
theorem dX8_chance_64 : decode cX8_chance 64 = .ok (.getfield 37, 3) := by decide +kernel
theorem dX8_chance_67 : decode cX8_chance 67 = .ok (.bipush 7, 2) := by decide +kernel
theorem dX8_chance_69 : decode cX8_chance 69 = .ok (.iload_n 1, 1) := by decide +kernel
theorem dX8_chance_70 : decode cX8_chance 70 = .ok (.imul, 1) := by decide +kernel
theorem dX8_chance_71 : decode cX8_chance 71 = .ok (.iload 8, 2) := by decide +kernel
theorem dX8_chance_73 : decode cX8_chance 73 = .ok (.iadd, 1) := by decide +kernel
theorem dX8_chance_74 : decode cX8_chance 74 = .ok (.iaload, 1) := by decide +kernel
theorem dX8_chance_75 : decode cX8_chance 75 = .ok (.iconst 2, 1) := by decide +kernel
theorem dX8_chance_76 : decode cX8_chance 76 = .ok (.if_icmp .ne 7, 3) := by decide +kernel
theorem dX8_chance_79 : decode cX8_chance 79 = .ok (.lconst 1, 1) := by decide +kernel
theorem dX8_chance_80 : decode cX8_chance 80 = .ok (.goto 6, 3) := by decide +kernel
theorem dX8_chance_83 : decode cX8_chance 83 = .ok (.ldc2_w 282, 3) := by decide +kernel
theorem dX8_chance_86 : decode cX8_chance 86 = .ok (.lmul, 1) := by decide +kernel
theorem dX8_chance_87 : decode cX8_chance 87 = .ok (.lstore 6, 2) := by decide +kernel
theorem dX8_chance_89 : decode cX8_chance 89 = .ok (.iinc 8 1, 3) := by decide +kernel
theorem dX8_chance_92 : decode cX8_chance 92 = .ok (.goto (-40), 3) := by decide +kernel
theorem dX8_chance_95 : decode cX8_chance 95 = .ok (.aload_n 0, 1) := by decide +kernel
theorem dX8_chance_96 : decode cX8_chance 96 = .ok (.iload_n 1, 1) := by decide +kernel
theorem dX8_chance_97 : decode cX8_chance 97 = .ok (.iload_n 2, 1) := by decide +kernel
theorem dX8_chance_98 : decode cX8_chance 98 = .ok (.iload_n 3, 1) := by decide +kernel
theorem dX8_chance_99 : decode cX8_chance 99 = .ok (.iload 4, 2) := by decide +kernel
theorem dX8_chance_101 : decode cX8_chance 101 = .ok (.invokevirtual 287, 3) := by decide +kernel
theorem dX8_chance_104 : decode cX8_chance 104 = .ok (.lload 6, 2) := by decide +kernel
theorem dX8_chance_106 : decode cX8_chance 106 = .ok (.iload 5, 2) := by decide +kernel
theorem dX8_chance_108 : decode cX8_chance 108 = .ok (.invokestatic 241, 3) := by decide +kernel
theorem dX8_chance_111 : decode cX8_chance 111 = .ok (.lreturn, 1) := by decide +kernel
theorem dX8_share_0 : decode cX8_share 0 = .ok (.iload_n 1, 1) := by decide +kernel
theorem dX8_share_1 : decode cX8_share 1 = .ok (.invokestatic 123, 3) := by decide +kernel
theorem dX8_share_4 : decode cX8_share 4 = .ok (.ifCond .eq 32, 3) := by decide +kernel
theorem dX8_share_7 : decode cX8_share 7 = .ok (.iload_n 2, 1) := by decide +kernel
theorem dX8_share_8 : decode cX8_share 8 = .ok (.i2l, 1) := by decide +kernel
theorem dX8_share_9 : decode cX8_share 9 = .ok (.lconst 0, 1) := by decide +kernel
theorem dX8_share_10 : decode cX8_share 10 = .ok (.ldc2_w 195, 3) := by decide +kernel
theorem dX8_share_13 : decode cX8_share 13 = .ok (.invokestatic 78, 3) := by decide +kernel
theorem dX8_share_16 : decode cX8_share 16 = .ok (.ifCond .eq 20, 3) := by decide +kernel
theorem dX8_share_19 : decode cX8_share 19 = .ok (.iload_n 3, 1) := by decide +kernel
theorem dX8_share_20 : decode cX8_share 20 = .ok (.iload 4, 2) := by decide +kernel
theorem dX8_share_22 : decode cX8_share 22 = .ok (.invokestatic 284, 3) := by decide +kernel
theorem dX8_share_25 : decode cX8_share 25 = .ok (.ifCond .eq 11, 3) := by decide +kernel
theorem dX8_share_28 : decode cX8_share 28 = .ok (.iload 5, 2) := by decide +kernel
theorem dX8_share_30 : decode cX8_share 30 = .ok (.invokestatic 179, 3) := by decide +kernel
theorem dX8_share_33 : decode cX8_share 33 = .ok (.ifCond .ne 9, 3) := by decide +kernel
theorem dX8_share_36 : decode cX8_share 36 = .ok (.bipush (-2), 2) := by decide +kernel
theorem dX8_share_38 : decode cX8_share 38 = .ok (.invokestatic 234, 3) := by decide +kernel
theorem dX8_share_41 : decode cX8_share 41 = .ok (.lreturn, 1) := by decide +kernel
theorem dX8_share_42 : decode cX8_share 42 = .ok (.aload_n 0, 1) := by decide +kernel
theorem dX8_share_43 : decode cX8_share 43 = .ok (.invokevirtual 258, 3) := by decide +kernel
theorem dX8_share_46 : decode cX8_share 46 = .ok (.iload_n 2, 1) := by decide +kernel
theorem dX8_share_47 : decode cX8_share 47 = .ok (.aload_n 0, 1) := by decide +kernel
theorem dX8_share_48 : decode cX8_share 48 = .ok (.invokevirtual 228, 3) := by decide +kernel
theorem dX8_share_51 : decode cX8_share 51 = .ok (.iand, 1) := by decide +kernel
theorem dX8_share_52 : decode cX8_share 52 = .ok (.istore 6, 2) := by decide +kernel
theorem dX8_share_54 : decode cX8_share 54 = .ok (.aload_n 0, 1) := by decide +kernel
theorem dX8_share_55 : decode cX8_share 55 = .ok (.iload 6, 2) := by decide +kernel
theorem dX8_share_57 : decode cX8_share 57 = .ok (.invokevirtual 261, 3) := by decide +kernel
theorem dX8_share_60 : decode cX8_share 60 = .ok (.ifCond .ne 9, 3) := by decide +kernel
theorem dX8_share_63 : decode cX8_share 63 = .ok (.bipush (-2), 2) := by decide +kernel
theorem dX8_share_65 : decode cX8_share 65 = .ok (.invokestatic 234, 3) := by decide +kernel
theorem dX8_share_68 : decode cX8_share 68 = .ok (.lreturn, 1) := by decide +kernel
theorem dX8_share_69 : decode cX8_share 69 = .ok (.lconst 0, 1) := by decide +kernel
theorem dX8_share_70 : decode cX8_share 70 = .ok (.lstore 7, 2) := by decide +kernel
theorem dX8_share_72 : decode cX8_share 72 = .ok (.iconst 0, 1) := by decide +kernel
theorem dX8_share_73 : decode cX8_share 73 = .ok (.istore 9, 2) := by decide +kernel
theorem dX8_share_75 : decode cX8_share 75 = .ok (.iload 9, 2) := by decide +kernel
theorem dX8_share_77 : decode cX8_share 77 = .ok (.aload_n 0, 1) := by decide +kernel
theorem dX8_share_78 : decode cX8_share 78 = .ok (.invokevirtual 228, 3) := by decide +kernel
theorem dX8_share_81 : decode cX8_share 81 = .ok (.if_icmp .gt 37, 3) := by decide +kernel
theorem dX8_share_84 : decode cX8_share 84 = .ok (.lload 7, 2) := by decide +kernel
theorem dX8_share_86 : decode cX8_share 86 = .ok (.aload_n 0, 1) := by decide +kernel
theorem dX8_share_87 : decode cX8_share 87 = .ok (.iload 9, 2) := by decide +kernel
theorem dX8_share_89 : decode cX8_share 89 = .ok (.invokevirtual 261, 3) := by decide +kernel
theorem dX8_share_92 : decode cX8_share 92 = .ok (.ifCond .eq 16, 3) := by decide +kernel
theorem dX8_share_95 : decode cX8_share 95 = .ok (.aload_n 0, 1) := by decide +kernel
theorem dX8_share_96 : decode cX8_share 96 = .ok (.iload_n 1, 1) := by decide +kernel
theorem dX8_share_97 : decode cX8_share 97 = .ok (.iload 9, 2) := by decide +kernel
theorem dX8_share_99 : decode cX8_share 99 = .ok (.iload_n 3, 1) := by decide +kernel
theorem dX8_share_100 : decode cX8_share 100 = .ok (.iload 4, 2) := by decide +kernel
theorem dX8_share_102 : decode cX8_share 102 = .ok (.invokevirtual 287, 3) := by decide +kernel
theorem dX8_share_105 : decode cX8_share 105 = .ok (.goto 4, 3) := by decide +kernel
theorem dX8_share_108 : decode cX8_share 108 = .ok (.lconst 0, 1) := by decide +kernel
theorem dX8_share_109 : decode cX8_share 109 = .ok (.ladd, 1) := by decide +kernel
theorem dX8_share_110 : decode cX8_share 110 = .ok (.lstore 7, 2) := by decide +kernel
theorem dX8_share_112 : decode cX8_share 112 = .ok (.iinc 9 1, 3) := by decide +kernel
theorem dX8_share_115 : decode cX8_share 115 = .ok (.goto (-40), 3) := by decide +kernel
theorem dX8_share_118 : decode cX8_share 118 = .ok (.lload 7, 2) := by decide +kernel
theorem dX8_share_120 : decode cX8_share 120 = .ok (.lconst 0, 1) := by decide +kernel
theorem dX8_share_121 : decode cX8_share 121 = .ok (.lcmp, 1) := by decide +kernel
theorem dX8_share_122 : decode cX8_share 122 = .ok (.ifCond .ne 11, 3) := by decide +kernel
theorem dX8_share_125 : decode cX8_share 125 = .ok (.bipush (-3), 2) := by decide +kernel
theorem dX8_share_127 : decode cX8_share 127 = .ok (.invokestatic 234, 3) := by decide +kernel
theorem dX8_share_130 : decode cX8_share 130 = .ok (.goto 20, 3) := by decide +kernel
theorem dX8_share_133 : decode cX8_share 133 = .ok (.aload_n 0, 1) := by decide +kernel
theorem dX8_share_134 : decode cX8_share 134 = .ok (.iload_n 1, 1) := by decide +kernel
theorem dX8_share_135 : decode cX8_share 135 = .ok (.iload 6, 2) := by decide +kernel
theorem dX8_share_137 : decode cX8_share 137 = .ok (.iload_n 3, 1) := by decide +kernel
theorem dX8_share_138 : decode cX8_share 138 = .ok (.iload 4, 2) := by decide +kernel
theorem dX8_share_140 : decode cX8_share 140 = .ok (.invokevirtual 287, 3) := by decide +kernel
theorem dX8_share_143 : decode cX8_share 143 = .ok (.lload 7, 2) := by decide +kernel
theorem dX8_share_145 : decode cX8_share 145 = .ok (.iload 5, 2) := by decide +kernel
theorem dX8_share_147 : decode cX8_share 147 = .ok (.invokestatic 241, 3) := by decide +kernel
theorem dX8_share_150 : decode cX8_share 150 = .ok (.lreturn, 1) := by decide +kernel
theorem dX8_likeliestOf_0 : decode cX8_likeliestOf 0 = .ok (.aload_n 0, 1) := by decide +kernel
theorem dX8_likeliestOf_1 : decode cX8_likeliestOf 1 = .ok (.invokevirtual 258, 3) := by decide +kernel
theorem dX8_likeliestOf_4 : decode cX8_likeliestOf 4 = .ok (.iconst (-1), 1) := by decide +kernel
theorem dX8_likeliestOf_5 : decode cX8_likeliestOf 5 = .ok (.istore 4, 2) := by decide +kernel
theorem dX8_likeliestOf_7 : decode cX8_likeliestOf 7 = .ok (.ldc2_w 291, 3) := by decide +kernel
theorem dX8_likeliestOf_10 : decode cX8_likeliestOf 10 = .ok (.lstore 5, 2) := by decide +kernel
theorem dX8_likeliestOf_12 : decode cX8_likeliestOf 12 = .ok (.iconst 0, 1) := by decide +kernel
theorem dX8_likeliestOf_13 : decode cX8_likeliestOf 13 = .ok (.istore 7, 2) := by decide +kernel
theorem dX8_likeliestOf_15 : decode cX8_likeliestOf 15 = .ok (.iload 7, 2) := by decide +kernel
theorem dX8_likeliestOf_17 : decode cX8_likeliestOf 17 = .ok (.aload_n 0, 1) := by decide +kernel
theorem dX8_likeliestOf_18 : decode cX8_likeliestOf 18 = .ok (.invokevirtual 228, 3) := by decide +kernel
theorem dX8_likeliestOf_21 : decode cX8_likeliestOf 21 = .ok (.if_icmp .gt 69, 3) := by decide +kernel
theorem dX8_likeliestOf_24 : decode cX8_likeliestOf 24 = .ok (.aload_n 0, 1) := by decide +kernel
theorem dX8_likeliestOf_25 : decode cX8_likeliestOf 25 = .ok (.iload 7, 2) := by decide +kernel
theorem dX8_likeliestOf_27 : decode cX8_likeliestOf 27 = .ok (.invokevirtual 261, 3) := by decide +kernel
theorem dX8_likeliestOf_30 : decode cX8_likeliestOf 30 = .ok (.ifCond .eq 15, 3) := by decide +kernel
theorem dX8_likeliestOf_33 : decode cX8_likeliestOf 33 = .ok (.aload_n 0, 1) := by decide +kernel
theorem dX8_likeliestOf_34 : decode cX8_likeliestOf 34 = .ok (.iload_n 1, 1) := by decide +kernel
theorem dX8_likeliestOf_35 : decode cX8_likeliestOf 35 = .ok (.iload 7, 2) := by decide +kernel
theorem dX8_likeliestOf_37 : decode cX8_likeliestOf 37 = .ok (.iload_n 2, 1) := by decide +kernel
theorem dX8_likeliestOf_38 : decode cX8_likeliestOf 38 = .ok (.iload_n 3, 1) := by decide +kernel
theorem dX8_likeliestOf_39 : decode cX8_likeliestOf 39 = .ok (.invokevirtual 287, 3) := by decide +kernel
theorem dX8_likeliestOf_42 : decode cX8_likeliestOf 42 = .ok (.goto 6, 3) := by decide +kernel
theorem dX8_likeliestOf_45 : decode cX8_likeliestOf 45 = .ok (.ldc2_w 291, 3) := by decide +kernel
theorem dX8_likeliestOf_48 : decode cX8_likeliestOf 48 = .ok (.lstore 8, 2) := by decide +kernel
theorem dX8_likeliestOf_50 : decode cX8_likeliestOf 50 = .ok (.lload 8, 2) := by decide +kernel
theorem dX8_likeliestOf_52 : decode cX8_likeliestOf 52 = .ok (.lload 5, 2) := by decide +kernel
theorem dX8_likeliestOf_54 : decode cX8_likeliestOf 54 = .ok (.lcmp, 1) := by decide +kernel
theorem dX8_likeliestOf_55 : decode cX8_likeliestOf 55 = .ok (.ifCond .le 8, 3) := by decide +kernel
theorem dX8_likeliestOf_58 : decode cX8_likeliestOf 58 = .ok (.iload 7, 2) := by decide +kernel
theorem dX8_likeliestOf_60 : decode cX8_likeliestOf 60 = .ok (.goto 5, 3) := by decide +kernel
theorem dX8_likeliestOf_63 : decode cX8_likeliestOf 63 = .ok (.iload 4, 2) := by decide +kernel
theorem dX8_likeliestOf_65 : decode cX8_likeliestOf 65 = .ok (.istore 4, 2) := by decide +kernel
theorem dX8_likeliestOf_67 : decode cX8_likeliestOf 67 = .ok (.lload 8, 2) := by decide +kernel
theorem dX8_likeliestOf_69 : decode cX8_likeliestOf 69 = .ok (.lload 5, 2) := by decide +kernel
theorem dX8_likeliestOf_71 : decode cX8_likeliestOf 71 = .ok (.lcmp, 1) := by decide +kernel
theorem dX8_likeliestOf_72 : decode cX8_likeliestOf 72 = .ok (.ifCond .le 8, 3) := by decide +kernel
theorem dX8_likeliestOf_75 : decode cX8_likeliestOf 75 = .ok (.lload 8, 2) := by decide +kernel
theorem dX8_likeliestOf_77 : decode cX8_likeliestOf 77 = .ok (.goto 5, 3) := by decide +kernel
theorem dX8_likeliestOf_80 : decode cX8_likeliestOf 80 = .ok (.lload 5, 2) := by decide +kernel
theorem dX8_likeliestOf_82 : decode cX8_likeliestOf 82 = .ok (.lstore 5, 2) := by decide +kernel
theorem dX8_likeliestOf_84 : decode cX8_likeliestOf 84 = .ok (.iinc 7 1, 3) := by decide +kernel
theorem dX8_likeliestOf_87 : decode cX8_likeliestOf 87 = .ok (.goto (-72), 3) := by decide +kernel
theorem dX8_likeliestOf_90 : decode cX8_likeliestOf 90 = .ok (.iload 4, 2) := by decide +kernel
theorem dX8_likeliestOf_92 : decode cX8_likeliestOf 92 = .ok (.ireturn, 1) := by decide +kernel
theorem dX8_likeliest_0 : decode cX8_likeliest 0 = .ok (.iload_n 1, 1) := by decide +kernel
theorem dX8_likeliest_1 : decode cX8_likeliest 1 = .ok (.invokestatic 123, 3) := by decide +kernel
theorem dX8_likeliest_4 : decode cX8_likeliest 4 = .ok (.ifCond .eq 21, 3) := by decide +kernel
theorem dX8_likeliest_7 : decode cX8_likeliest 7 = .ok (.iload_n 2, 1) := by decide +kernel
theorem dX8_likeliest_8 : decode cX8_likeliest 8 = .ok (.iload_n 3, 1) := by decide +kernel
theorem dX8_likeliest_9 : decode cX8_likeliest 9 = .ok (.invokestatic 284, 3) := by decide +kernel
theorem dX8_likeliest_12 : decode cX8_likeliest 12 = .ok (.ifCond .eq 13, 3) := by decide +kernel
theorem dX8_likeliest_15 : decode cX8_likeliest 15 = .ok (.aload_n 0, 1) := by decide +kernel
theorem dX8_likeliest_16 : decode cX8_likeliest 16 = .ok (.iload_n 1, 1) := by decide +kernel
theorem dX8_likeliest_17 : decode cX8_likeliest 17 = .ok (.iload_n 2, 1) := by decide +kernel
theorem dX8_likeliest_18 : decode cX8_likeliest 18 = .ok (.iload_n 3, 1) := by decide +kernel
theorem dX8_likeliest_19 : decode cX8_likeliest 19 = .ok (.invokevirtual 293, 3) := by decide +kernel
theorem dX8_likeliest_22 : decode cX8_likeliest 22 = .ok (.goto 5, 3) := by decide +kernel
theorem dX8_likeliest_25 : decode cX8_likeliest 25 = .ok (.bipush (-2), 2) := by decide +kernel
theorem dX8_likeliest_27 : decode cX8_likeliest 27 = .ok (.ireturn, 1) := by decide +kernel
theorem dX8_power_0 : decode cX8_power 0 = .ok (.iconst 1, 1) := by decide +kernel
theorem dX8_power_1 : decode cX8_power 1 = .ok (.istore_n 2, 1) := by decide +kernel
theorem dX8_power_2 : decode cX8_power 2 = .ok (.iconst 0, 1) := by decide +kernel
theorem dX8_power_3 : decode cX8_power 3 = .ok (.istore_n 3, 1) := by decide +kernel
theorem dX8_power_4 : decode cX8_power 4 = .ok (.iload_n 3, 1) := by decide +kernel
theorem dX8_power_5 : decode cX8_power 5 = .ok (.iload_n 1, 1) := by decide +kernel
theorem dX8_power_6 : decode cX8_power 6 = .ok (.if_icmp .ge 13, 3) := by decide +kernel
theorem dX8_power_9 : decode cX8_power 9 = .ok (.iload_n 2, 1) := by decide +kernel
theorem dX8_power_10 : decode cX8_power 10 = .ok (.iload_n 0, 1) := by decide +kernel
theorem dX8_power_11 : decode cX8_power 11 = .ok (.imul, 1) := by decide +kernel
theorem dX8_power_12 : decode cX8_power 12 = .ok (.istore_n 2, 1) := by decide +kernel
theorem dX8_power_13 : decode cX8_power 13 = .ok (.iinc 3 1, 3) := by decide +kernel
theorem dX8_power_16 : decode cX8_power 16 = .ok (.goto (-12), 3) := by decide +kernel
theorem dX8_power_19 : decode cX8_power 19 = .ok (.iload_n 2, 1) := by decide +kernel
theorem dX8_power_20 : decode cX8_power 20 = .ok (.ireturn, 1) := by decide +kernel
theorem dX8_isSome_0 : decode cX8_isSome 0 = .ok (.aload_n 0, 1) := by decide +kernel
theorem dX8_isSome_1 : decode cX8_isSome 1 = .ok (.iload_n 1, 1) := by decide +kernel
theorem dX8_isSome_2 : decode cX8_isSome 2 = .ok (.iconst 0, 1) := by decide +kernel
theorem dX8_isSome_3 : decode cX8_isSome 3 = .ok (.invokevirtual 189, 3) := by decide +kernel
theorem dX8_isSome_6 : decode cX8_isSome 6 = .ok (.aload_n 0, 1) := by decide +kernel
theorem dX8_isSome_7 : decode cX8_isSome 7 = .ok (.iload_n 1, 1) := by decide +kernel
theorem dX8_isSome_8 : decode cX8_isSome 8 = .ok (.iconst 1, 1) := by decide +kernel
theorem dX8_isSome_9 : decode cX8_isSome 9 = .ok (.invokevirtual 189, 3) := by decide +kernel
theorem dX8_isSome_12 : decode cX8_isSome 12 = .ok (.ior, 1) := by decide +kernel
theorem dX8_isSome_13 : decode cX8_isSome 13 = .ok (.ifCond .eq 7, 3) := by decide +kernel
theorem dX8_isSome_16 : decode cX8_isSome 16 = .ok (.iconst 1, 1) := by decide +kernel
theorem dX8_isSome_17 : decode cX8_isSome 17 = .ok (.goto 4, 3) := by decide +kernel
theorem dX8_isSome_20 : decode cX8_isSome 20 = .ok (.iconst 0, 1) := by decide +kernel
theorem dX8_isSome_21 : decode cX8_isSome 21 = .ok (.ireturn, 1) := by decide +kernel
theorem dX8_learnt_0 : decode cX8_learnt 0 = .ok (.iconst 0, 1) := by decide +kernel
theorem dX8_learnt_1 : decode cX8_learnt 1 = .ok (.istore_n 3, 1) := by decide +kernel
theorem dX8_learnt_2 : decode cX8_learnt 2 = .ok (.iconst 0, 1) := by decide +kernel
theorem dX8_learnt_3 : decode cX8_learnt 3 = .ok (.istore 4, 2) := by decide +kernel
theorem dX8_learnt_5 : decode cX8_learnt 5 = .ok (.iload 4, 2) := by decide +kernel
theorem dX8_learnt_7 : decode cX8_learnt 7 = .ok (.bipush 12, 2) := by decide +kernel
theorem dX8_learnt_9 : decode cX8_learnt 9 = .ok (.if_icmp .ge 97, 3) := by decide +kernel
theorem dX8_learnt_12 : decode cX8_learnt 12 = .ok (.aload_n 0, 1) := by decide +kernel
theorem dX8_learnt_13 : decode cX8_learnt 13 = .ok (.getfield 70, 3) := by decide +kernel
theorem dX8_learnt_16 : decode cX8_learnt 16 = .ok (.iload 4, 2) := by decide +kernel
theorem dX8_learnt_18 : decode cX8_learnt 18 = .ok (.iaload, 1) := by decide +kernel
theorem dX8_learnt_19 : decode cX8_learnt 19 = .ok (.istore 5, 2) := by decide +kernel
theorem dX8_learnt_21 : decode cX8_learnt 21 = .ok (.iconst 0, 1) := by decide +kernel
theorem dX8_learnt_22 : decode cX8_learnt 22 = .ok (.istore 6, 2) := by decide +kernel
theorem dX8_learnt_24 : decode cX8_learnt 24 = .ok (.iload 6, 2) := by decide +kernel
theorem dX8_learnt_26 : decode cX8_learnt 26 = .ok (.iload_n 2, 1) := by decide +kernel
theorem dX8_learnt_27 : decode cX8_learnt 27 = .ok (.if_icmp .ge 73, 3) := by decide +kernel
theorem dX8_learnt_30 : decode cX8_learnt 30 = .ok (.iload 5, 2) := by decide +kernel
theorem dX8_learnt_32 : decode cX8_learnt 32 = .ok (.iconst (-1), 1) := by decide +kernel
theorem dX8_learnt_33 : decode cX8_learnt 33 = .ok (.if_icmp .eq 67, 3) := by decide +kernel
theorem dX8_learnt_36 : decode cX8_learnt 36 = .ok (.iload_n 1, 1) := by decide +kernel
theorem dX8_learnt_37 : decode cX8_learnt 37 = .ok (.aload_n 0, 1) := by decide +kernel
theorem dX8_learnt_38 : decode cX8_learnt 38 = .ok (.invokevirtual 111, 3) := by decide +kernel
theorem dX8_learnt_41 : decode cX8_learnt 41 = .ok (.iload_n 2, 1) := by decide +kernel
theorem dX8_learnt_42 : decode cX8_learnt 42 = .ok (.iconst 1, 1) := by decide +kernel
theorem dX8_learnt_43 : decode cX8_learnt 43 = .ok (.isub, 1) := by decide +kernel
theorem dX8_learnt_44 : decode cX8_learnt 44 = .ok (.iload 6, 2) := by decide +kernel
theorem dX8_learnt_46 : decode cX8_learnt 46 = .ok (.isub, 1) := by decide +kernel
theorem dX8_learnt_47 : decode cX8_learnt 47 = .ok (.invokestatic 296, 3) := by decide +kernel
theorem dX8_learnt_50 : decode cX8_learnt 50 = .ok (.idiv, 1) := by decide +kernel
theorem dX8_learnt_51 : decode cX8_learnt 51 = .ok (.aload_n 0, 1) := by decide +kernel
theorem dX8_learnt_52 : decode cX8_learnt 52 = .ok (.invokevirtual 111, 3) := by decide +kernel
theorem dX8_learnt_55 : decode cX8_learnt 55 = .ok (.irem, 1) := by decide +kernel
theorem dX8_learnt_56 : decode cX8_learnt 56 = .ok (.istore 7, 2) := by decide +kernel
theorem dX8_learnt_58 : decode cX8_learnt 58 = .ok (.iload 5, 2) := by decide +kernel
theorem dX8_learnt_60 : decode cX8_learnt 60 = .ok (.iload 7, 2) := by decide +kernel
theorem dX8_learnt_62 : decode cX8_learnt 62 = .ok (.invokestatic 153, 3) := by decide +kernel
theorem dX8_learnt_65 : decode cX8_learnt 65 = .ok (.ifCond .ne 29, 3) := by decide +kernel
theorem dX8_learnt_68 : decode cX8_learnt 68 = .ok (.aload_n 0, 1) := by decide +kernel
theorem dX8_learnt_69 : decode cX8_learnt 69 = .ok (.iload 5, 2) := by decide +kernel
theorem dX8_learnt_71 : decode cX8_learnt 71 = .ok (.iconst 1, 1) := by decide +kernel
theorem dX8_learnt_72 : decode cX8_learnt 72 = .ok (.iload 7, 2) := by decide +kernel
theorem dX8_learnt_74 : decode cX8_learnt 74 = .ok (.ishl, 1) := by decide +kernel
theorem dX8_learnt_75 : decode cX8_learnt 75 = .ok (.ior, 1) := by decide +kernel
theorem dX8_learnt_76 : decode cX8_learnt 76 = .ok (.invokevirtual 261, 3) := by decide +kernel
theorem dX8_learnt_79 : decode cX8_learnt 79 = .ok (.ifCond .eq 15, 3) := by decide +kernel
theorem dX8_learnt_82 : decode cX8_learnt 82 = .ok (.iload 5, 2) := by decide +kernel
theorem dX8_learnt_84 : decode cX8_learnt 84 = .ok (.iconst 1, 1) := by decide +kernel
theorem dX8_learnt_85 : decode cX8_learnt 85 = .ok (.iload 7, 2) := by decide +kernel
theorem dX8_learnt_87 : decode cX8_learnt 87 = .ok (.ishl, 1) := by decide +kernel
theorem dX8_learnt_88 : decode cX8_learnt 88 = .ok (.ior, 1) := by decide +kernel
theorem dX8_learnt_89 : decode cX8_learnt 89 = .ok (.istore 5, 2) := by decide +kernel
theorem dX8_learnt_91 : decode cX8_learnt 91 = .ok (.iinc 3 1, 3) := by decide +kernel
theorem dX8_learnt_94 : decode cX8_learnt 94 = .ok (.iinc 6 1, 3) := by decide +kernel
theorem dX8_learnt_97 : decode cX8_learnt 97 = .ok (.goto (-73), 3) := by decide +kernel
theorem dX8_learnt_100 : decode cX8_learnt 100 = .ok (.iinc 4 1, 3) := by decide +kernel
theorem dX8_learnt_103 : decode cX8_learnt 103 = .ok (.goto (-98), 3) := by decide +kernel
theorem dX8_learnt_106 : decode cX8_learnt 106 = .ok (.iload_n 3, 1) := by decide +kernel
theorem dX8_learnt_107 : decode cX8_learnt 107 = .ok (.ireturn, 1) := by decide +kernel
theorem dX8_lessonsOf_0 : decode cX8_lessonsOf 0 = .ok (.iconst 0, 1) := by decide +kernel
theorem dX8_lessonsOf_1 : decode cX8_lessonsOf 1 = .ok (.istore_n 3, 1) := by decide +kernel
theorem dX8_lessonsOf_2 : decode cX8_lessonsOf 2 = .ok (.iload_n 3, 1) := by decide +kernel
theorem dX8_lessonsOf_3 : decode cX8_lessonsOf 3 = .ok (.bipush 12, 2) := by decide +kernel
theorem dX8_lessonsOf_5 : decode cX8_lessonsOf 5 = .ok (.if_icmp .ge 37, 3) := by decide +kernel
theorem dX8_lessonsOf_8 : decode cX8_lessonsOf 8 = .ok (.aload_n 0, 1) := by decide +kernel
theorem dX8_lessonsOf_9 : decode cX8_lessonsOf 9 = .ok (.iload_n 3, 1) := by decide +kernel
theorem dX8_lessonsOf_10 : decode cX8_lessonsOf 10 = .ok (.iconst 0, 1) := by decide +kernel
theorem dX8_lessonsOf_11 : decode cX8_lessonsOf 11 = .ok (.invokevirtual 267, 3) := by decide +kernel
theorem dX8_lessonsOf_14 : decode cX8_lessonsOf 14 = .ok (.istore 4, 2) := by decide +kernel
theorem dX8_lessonsOf_16 : decode cX8_lessonsOf 16 = .ok (.aload_n 0, 1) := by decide +kernel
theorem dX8_lessonsOf_17 : decode cX8_lessonsOf 17 = .ok (.getfield 70, 3) := by decide +kernel
theorem dX8_lessonsOf_20 : decode cX8_lessonsOf 20 = .ok (.iload_n 3, 1) := by decide +kernel
theorem dX8_lessonsOf_21 : decode cX8_lessonsOf 21 = .ok (.aload_n 0, 1) := by decide +kernel
theorem dX8_lessonsOf_22 : decode cX8_lessonsOf 22 = .ok (.iload_n 3, 1) := by decide +kernel
theorem dX8_lessonsOf_23 : decode cX8_lessonsOf 23 = .ok (.invokevirtual 299, 3) := by decide +kernel
theorem dX8_lessonsOf_26 : decode cX8_lessonsOf 26 = .ok (.ifCond .eq 8, 3) := by decide +kernel
theorem dX8_lessonsOf_29 : decode cX8_lessonsOf 29 = .ok (.iload 4, 2) := by decide +kernel
theorem dX8_lessonsOf_31 : decode cX8_lessonsOf 31 = .ok (.goto 4, 3) := by decide +kernel
theorem dX8_lessonsOf_34 : decode cX8_lessonsOf 34 = .ok (.iconst (-1), 1) := by decide +kernel
theorem dX8_lessonsOf_35 : decode cX8_lessonsOf 35 = .ok (.iastore, 1) := by decide +kernel
theorem dX8_lessonsOf_36 : decode cX8_lessonsOf 36 = .ok (.iinc 3 1, 3) := by decide +kernel
theorem dX8_lessonsOf_39 : decode cX8_lessonsOf 39 = .ok (.goto (-37), 3) := by decide +kernel
theorem dX8_lessonsOf_42 : decode cX8_lessonsOf 42 = .ok (.iconst 0, 1) := by decide +kernel
theorem dX8_lessonsOf_43 : decode cX8_lessonsOf 43 = .ok (.istore_n 3, 1) := by decide +kernel
theorem dX8_lessonsOf_44 : decode cX8_lessonsOf 44 = .ok (.iconst (-1), 1) := by decide +kernel
theorem dX8_lessonsOf_45 : decode cX8_lessonsOf 45 = .ok (.istore 4, 2) := by decide +kernel
theorem dX8_lessonsOf_47 : decode cX8_lessonsOf 47 = .ok (.iconst 0, 1) := by decide +kernel
theorem dX8_lessonsOf_48 : decode cX8_lessonsOf 48 = .ok (.istore 5, 2) := by decide +kernel
theorem dX8_lessonsOf_50 : decode cX8_lessonsOf 50 = .ok (.iload 5, 2) := by decide +kernel
theorem dX8_lessonsOf_52 : decode cX8_lessonsOf 52 = .ok (.aload_n 0, 1) := by decide +kernel
theorem dX8_lessonsOf_53 : decode cX8_lessonsOf 53 = .ok (.invokevirtual 111, 3) := by decide +kernel
theorem dX8_lessonsOf_56 : decode cX8_lessonsOf 56 = .ok (.iload_n 1, 1) := by decide +kernel
theorem dX8_lessonsOf_57 : decode cX8_lessonsOf 57 = .ok (.invokestatic 296, 3) := by decide +kernel
theorem dX8_lessonsOf_60 : decode cX8_lessonsOf 60 = .ok (.if_icmp .ge 48, 3) := by decide +kernel
theorem dX8_lessonsOf_63 : decode cX8_lessonsOf 63 = .ok (.aload_n 0, 1) := by decide +kernel
theorem dX8_lessonsOf_64 : decode cX8_lessonsOf 64 = .ok (.iload 5, 2) := by decide +kernel
theorem dX8_lessonsOf_66 : decode cX8_lessonsOf 66 = .ok (.iload_n 1, 1) := by decide +kernel
theorem dX8_lessonsOf_67 : decode cX8_lessonsOf 67 = .ok (.invokevirtual 302, 3) := by decide +kernel
theorem dX8_lessonsOf_70 : decode cX8_lessonsOf 70 = .ok (.istore 6, 2) := by decide +kernel
theorem dX8_lessonsOf_72 : decode cX8_lessonsOf 72 = .ok (.iload 6, 2) := by decide +kernel
theorem dX8_lessonsOf_74 : decode cX8_lessonsOf 74 = .ok (.iload 4, 2) := by decide +kernel
theorem dX8_lessonsOf_76 : decode cX8_lessonsOf 76 = .ok (.if_icmp .le 8, 3) := by decide +kernel
theorem dX8_lessonsOf_79 : decode cX8_lessonsOf 79 = .ok (.iload 5, 2) := by decide +kernel
theorem dX8_lessonsOf_81 : decode cX8_lessonsOf 81 = .ok (.goto 4, 3) := by decide +kernel
theorem dX8_lessonsOf_84 : decode cX8_lessonsOf 84 = .ok (.iload_n 3, 1) := by decide +kernel
theorem dX8_lessonsOf_85 : decode cX8_lessonsOf 85 = .ok (.istore_n 3, 1) := by decide +kernel
theorem dX8_lessonsOf_86 : decode cX8_lessonsOf 86 = .ok (.iload 6, 2) := by decide +kernel
theorem dX8_lessonsOf_88 : decode cX8_lessonsOf 88 = .ok (.iload 4, 2) := by decide +kernel
theorem dX8_lessonsOf_90 : decode cX8_lessonsOf 90 = .ok (.if_icmp .le 8, 3) := by decide +kernel
theorem dX8_lessonsOf_93 : decode cX8_lessonsOf 93 = .ok (.iload 6, 2) := by decide +kernel
theorem dX8_lessonsOf_95 : decode cX8_lessonsOf 95 = .ok (.goto 5, 3) := by decide +kernel
theorem dX8_lessonsOf_98 : decode cX8_lessonsOf 98 = .ok (.iload 4, 2) := by decide +kernel
theorem dX8_lessonsOf_100 : decode cX8_lessonsOf 100 = .ok (.istore 4, 2) := by decide +kernel
theorem dX8_lessonsOf_102 : decode cX8_lessonsOf 102 = .ok (.iinc 5 1, 3) := by decide +kernel
theorem dX8_lessonsOf_105 : decode cX8_lessonsOf 105 = .ok (.goto (-55), 3) := by decide +kernel
theorem dX8_lessonsOf_108 : decode cX8_lessonsOf 108 = .ok (.iload_n 2, 1) := by decide +kernel
theorem dX8_lessonsOf_109 : decode cX8_lessonsOf 109 = .ok (.iconst (-1), 1) := by decide +kernel
theorem dX8_lessonsOf_110 : decode cX8_lessonsOf 110 = .ok (.if_icmp .ne 8, 3) := by decide +kernel
theorem dX8_lessonsOf_113 : decode cX8_lessonsOf 113 = .ok (.iload 4, 2) := by decide +kernel
theorem dX8_lessonsOf_115 : decode cX8_lessonsOf 115 = .ok (.goto 22, 3) := by decide +kernel
theorem dX8_lessonsOf_118 : decode cX8_lessonsOf 118 = .ok (.iload_n 3, 1) := by decide +kernel
theorem dX8_lessonsOf_119 : decode cX8_lessonsOf 119 = .ok (.aload_n 0, 1) := by decide +kernel
theorem dX8_lessonsOf_120 : decode cX8_lessonsOf 120 = .ok (.invokevirtual 111, 3) := by decide +kernel
theorem dX8_lessonsOf_123 : decode cX8_lessonsOf 123 = .ok (.iload_n 1, 1) := by decide +kernel
theorem dX8_lessonsOf_124 : decode cX8_lessonsOf 124 = .ok (.iconst 1, 1) := by decide +kernel
theorem dX8_lessonsOf_125 : decode cX8_lessonsOf 125 = .ok (.isub, 1) := by decide +kernel
theorem dX8_lessonsOf_126 : decode cX8_lessonsOf 126 = .ok (.iload_n 2, 1) := by decide +kernel
theorem dX8_lessonsOf_127 : decode cX8_lessonsOf 127 = .ok (.isub, 1) := by decide +kernel
theorem dX8_lessonsOf_128 : decode cX8_lessonsOf 128 = .ok (.invokestatic 296, 3) := by decide +kernel
theorem dX8_lessonsOf_131 : decode cX8_lessonsOf 131 = .ok (.idiv, 1) := by decide +kernel
theorem dX8_lessonsOf_132 : decode cX8_lessonsOf 132 = .ok (.aload_n 0, 1) := by decide +kernel
theorem dX8_lessonsOf_133 : decode cX8_lessonsOf 133 = .ok (.invokevirtual 111, 3) := by decide +kernel
theorem dX8_lessonsOf_136 : decode cX8_lessonsOf 136 = .ok (.irem, 1) := by decide +kernel
theorem dX8_lessonsOf_137 : decode cX8_lessonsOf 137 = .ok (.ireturn, 1) := by decide +kernel
theorem dX8_lessons_0 : decode cX8_lessons 0 = .ok (.iload_n 1, 1) := by decide +kernel
theorem dX8_lessons_1 : decode cX8_lessons 1 = .ok (.i2l, 1) := by decide +kernel
theorem dX8_lessons_2 : decode cX8_lessons 2 = .ok (.lconst 0, 1) := by decide +kernel
theorem dX8_lessons_3 : decode cX8_lessons 3 = .ok (.ldc2_w 305, 3) := by decide +kernel
theorem dX8_lessons_6 : decode cX8_lessons 6 = .ok (.invokestatic 78, 3) := by decide +kernel
theorem dX8_lessons_9 : decode cX8_lessons 9 = .ok (.ifCond .eq 27, 3) := by decide +kernel
theorem dX8_lessons_12 : decode cX8_lessons 12 = .ok (.iload_n 2, 1) := by decide +kernel
theorem dX8_lessons_13 : decode cX8_lessons 13 = .ok (.i2l, 1) := by decide +kernel
theorem dX8_lessons_14 : decode cX8_lessons 14 = .ok (.ldc2_w 291, 3) := by decide +kernel
theorem dX8_lessons_17 : decode cX8_lessons 17 = .ok (.iload_n 1, 1) := by decide +kernel
theorem dX8_lessons_18 : decode cX8_lessons 18 = .ok (.iconst 1, 1) := by decide +kernel
theorem dX8_lessons_19 : decode cX8_lessons 19 = .ok (.isub, 1) := by decide +kernel
theorem dX8_lessons_20 : decode cX8_lessons 20 = .ok (.i2l, 1) := by decide +kernel
theorem dX8_lessons_21 : decode cX8_lessons 21 = .ok (.invokestatic 78, 3) := by decide +kernel
theorem dX8_lessons_24 : decode cX8_lessons 24 = .ok (.ifCond .eq 12, 3) := by decide +kernel
theorem dX8_lessons_27 : decode cX8_lessons 27 = .ok (.aload_n 0, 1) := by decide +kernel
theorem dX8_lessons_28 : decode cX8_lessons 28 = .ok (.iload_n 1, 1) := by decide +kernel
theorem dX8_lessons_29 : decode cX8_lessons 29 = .ok (.iload_n 2, 1) := by decide +kernel
theorem dX8_lessons_30 : decode cX8_lessons 30 = .ok (.invokevirtual 307, 3) := by decide +kernel
theorem dX8_lessons_33 : decode cX8_lessons 33 = .ok (.goto 5, 3) := by decide +kernel
theorem dX8_lessons_36 : decode cX8_lessons 36 = .ok (.bipush (-2), 2) := by decide +kernel
theorem dX8_lessons_38 : decode cX8_lessons 38 = .ok (.ireturn, 1) := by decide +kernel
theorem dX8_write_0 : decode cX8_write 0 = .ok (.iload_n 1, 1) := by decide +kernel
theorem dX8_write_1 : decode cX8_write 1 = .ok (.invokestatic 88, 3) := by decide +kernel
theorem dX8_write_4 : decode cX8_write 4 = .ok (.ifCond .ne 6, 3) := by decide +kernel
theorem dX8_write_7 : decode cX8_write 7 = .ok (.bipush (-2), 2) := by decide +kernel
theorem dX8_write_9 : decode cX8_write 9 = .ok (.ireturn, 1) := by decide +kernel
theorem dX8_write_10 : decode cX8_write 10 = .ok (.aload_n 0, 1) := by decide +kernel
theorem dX8_write_11 : decode cX8_write 11 = .ok (.getfield 7, 3) := by decide +kernel
theorem dX8_write_14 : decode cX8_write 14 = .ok (.iload_n 1, 1) := by decide +kernel
theorem dX8_write_15 : decode cX8_write 15 = .ok (.iaload, 1) := by decide +kernel
theorem dX8_write_16 : decode cX8_write 16 = .ok (.ifCond .ge 9, 3) := by decide +kernel
theorem dX8_write_19 : decode cX8_write 19 = .ok (.aload_n 0, 1) := by decide +kernel
theorem dX8_write_20 : decode cX8_write 20 = .ok (.iconst 1, 1) := by decide +kernel
theorem dX8_write_21 : decode cX8_write 21 = .ok (.invokevirtual 94, 3) := by decide +kernel
theorem dX8_write_24 : decode cX8_write 24 = .ok (.ireturn, 1) := by decide +kernel
theorem dX8_write_25 : decode cX8_write 25 = .ok (.aload_n 0, 1) := by decide +kernel
theorem dX8_write_26 : decode cX8_write 26 = .ok (.getfield 13, 3) := by decide +kernel
theorem dX8_write_29 : decode cX8_write 29 = .ok (.iload_n 1, 1) := by decide +kernel
theorem dX8_write_30 : decode cX8_write 30 = .ok (.iaload, 1) := by decide +kernel
theorem dX8_write_31 : decode cX8_write 31 = .ok (.bipush 12, 2) := by decide +kernel
theorem dX8_write_33 : decode cX8_write 33 = .ok (.if_icmp .ge 12, 3) := by decide +kernel
theorem dX8_write_36 : decode cX8_write 36 = .ok (.aload_n 0, 1) := by decide +kernel
theorem dX8_write_37 : decode cX8_write 37 = .ok (.getfield 13, 3) := by decide +kernel
theorem dX8_write_40 : decode cX8_write 40 = .ok (.iload_n 1, 1) := by decide +kernel
theorem dX8_write_41 : decode cX8_write 41 = .ok (.iaload, 1) := by decide +kernel
theorem dX8_write_42 : decode cX8_write 42 = .ok (.goto 5, 3) := by decide +kernel
theorem dX8_write_45 : decode cX8_write 45 = .ok (.bipush 12, 2) := by decide +kernel
theorem dX8_write_47 : decode cX8_write 47 = .ok (.istore_n 2, 1) := by decide +kernel
theorem dX8_write_48 : decode cX8_write 48 = .ok (.iconst 0, 1) := by decide +kernel
theorem dX8_write_49 : decode cX8_write 49 = .ok (.istore_n 3, 1) := by decide +kernel
theorem dX8_write_50 : decode cX8_write 50 = .ok (.iload_n 3, 1) := by decide +kernel
theorem dX8_write_51 : decode cX8_write 51 = .ok (.iload_n 2, 1) := by decide +kernel
theorem dX8_write_52 : decode cX8_write 52 = .ok (.if_icmp .ge 35, 3) := by decide +kernel
theorem dX8_write_55 : decode cX8_write 55 = .ok (.aload_n 0, 1) := by decide +kernel
theorem dX8_write_56 : decode cX8_write 56 = .ok (.getfield 16, 3) := by decide +kernel
theorem dX8_write_59 : decode cX8_write 59 = .ok (.bipush 60, 2) := by decide +kernel
theorem dX8_write_61 : decode cX8_write 61 = .ok (.iload_n 1, 1) := by decide +kernel
theorem dX8_write_62 : decode cX8_write 62 = .ok (.imul, 1) := by decide +kernel
theorem dX8_write_63 : decode cX8_write 63 = .ok (.iload_n 3, 1) := by decide +kernel
theorem dX8_write_64 : decode cX8_write 64 = .ok (.iadd, 1) := by decide +kernel
theorem dX8_write_65 : decode cX8_write 65 = .ok (.aload_n 0, 1) := by decide +kernel
theorem dX8_write_66 : decode cX8_write 66 = .ok (.getfield 7, 3) := by decide +kernel
theorem dX8_write_69 : decode cX8_write 69 = .ok (.iload_n 1, 1) := by decide +kernel
theorem dX8_write_70 : decode cX8_write 70 = .ok (.iaload, 1) := by decide +kernel
theorem dX8_write_71 : decode cX8_write 71 = .ok (.aload_n 0, 1) := by decide +kernel
theorem dX8_write_72 : decode cX8_write 72 = .ok (.iload_n 3, 1) := by decide +kernel
theorem dX8_write_73 : decode cX8_write 73 = .ok (.iconst 0, 1) := by decide +kernel
theorem dX8_write_74 : decode cX8_write 74 = .ok (.invokevirtual 267, 3) := by decide +kernel
theorem dX8_write_77 : decode cX8_write 77 = .ok (.invokestatic 102, 3) := by decide +kernel
theorem dX8_write_80 : decode cX8_write 80 = .ok (.iastore, 1) := by decide +kernel
theorem dX8_write_81 : decode cX8_write 81 = .ok (.iinc 3 1, 3) := by decide +kernel
theorem dX8_write_84 : decode cX8_write 84 = .ok (.goto (-34), 3) := by decide +kernel
theorem dX8_write_87 : decode cX8_write 87 = .ok (.iload_n 2, 1) := by decide +kernel
theorem dX8_write_88 : decode cX8_write 88 = .ok (.ireturn, 1) := by decide +kernel
theorem dX8_pupilsWith_0 : decode cX8_pupilsWith 0 = .ok (.iconst 0, 1) := by decide +kernel
theorem dX8_pupilsWith_1 : decode cX8_pupilsWith 1 = .ok (.istore_n 1, 1) := by decide +kernel
theorem dX8_pupilsWith_2 : decode cX8_pupilsWith 2 = .ok (.iconst 0, 1) := by decide +kernel
theorem dX8_pupilsWith_3 : decode cX8_pupilsWith 3 = .ok (.istore_n 2, 1) := by decide +kernel
theorem dX8_pupilsWith_4 : decode cX8_pupilsWith 4 = .ok (.iload_n 2, 1) := by decide +kernel
theorem dX8_pupilsWith_5 : decode cX8_pupilsWith 5 = .ok (.bipush 12, 2) := by decide +kernel
theorem dX8_pupilsWith_7 : decode cX8_pupilsWith 7 = .ok (.if_icmp .ge 25, 3) := by decide +kernel
theorem dX8_pupilsWith_10 : decode cX8_pupilsWith 10 = .ok (.iload_n 1, 1) := by decide +kernel
theorem dX8_pupilsWith_11 : decode cX8_pupilsWith 11 = .ok (.aload_n 0, 1) := by decide +kernel
theorem dX8_pupilsWith_12 : decode cX8_pupilsWith 12 = .ok (.iload_n 2, 1) := by decide +kernel
theorem dX8_pupilsWith_13 : decode cX8_pupilsWith 13 = .ok (.invokevirtual 299, 3) := by decide +kernel
theorem dX8_pupilsWith_16 : decode cX8_pupilsWith 16 = .ok (.ifCond .eq 7, 3) := by decide +kernel
theorem dX8_pupilsWith_19 : decode cX8_pupilsWith 19 = .ok (.iconst 1, 1) := by decide +kernel
theorem dX8_pupilsWith_20 : decode cX8_pupilsWith 20 = .ok (.goto 4, 3) := by decide +kernel
theorem dX8_pupilsWith_23 : decode cX8_pupilsWith 23 = .ok (.iconst 0, 1) := by decide +kernel
theorem dX8_pupilsWith_24 : decode cX8_pupilsWith 24 = .ok (.iadd, 1) := by decide +kernel
theorem dX8_pupilsWith_25 : decode cX8_pupilsWith 25 = .ok (.istore_n 1, 1) := by decide +kernel
theorem dX8_pupilsWith_26 : decode cX8_pupilsWith 26 = .ok (.iinc 2 1, 3) := by decide +kernel
theorem dX8_pupilsWith_29 : decode cX8_pupilsWith 29 = .ok (.goto (-25), 3) := by decide +kernel
theorem dX8_pupilsWith_32 : decode cX8_pupilsWith 32 = .ok (.iload_n 1, 1) := by decide +kernel
theorem dX8_pupilsWith_33 : decode cX8_pupilsWith 33 = .ok (.ireturn, 1) := by decide +kernel
theorem dX8_count_0 : decode cX8_count 0 = .ok (.aload_n 0, 1) := by decide +kernel
theorem dX8_count_1 : decode cX8_count 1 = .ok (.invokevirtual 182, 3) := by decide +kernel
theorem dX8_count_4 : decode cX8_count 4 = .ok (.iload_n 1, 1) := by decide +kernel
theorem dX8_count_5 : decode cX8_count 5 = .ok (.tableswitch 106 0 8 #[51, 56, 61, 73, 79, 84, 89, 94, 101], 51) := by decide +kernel
theorem dX8_count_56 : decode cX8_count 56 = .ok (.aload_n 0, 1) := by decide +kernel
theorem dX8_count_57 : decode cX8_count 57 = .ok (.invokevirtual 111, 3) := by decide +kernel
theorem dX8_count_60 : decode cX8_count 60 = .ok (.ireturn, 1) := by decide +kernel
theorem dX8_count_61 : decode cX8_count 61 = .ok (.aload_n 0, 1) := by decide +kernel
theorem dX8_count_62 : decode cX8_count 62 = .ok (.getfield 118, 3) := by decide +kernel
theorem dX8_count_65 : decode cX8_count 65 = .ok (.ireturn, 1) := by decide +kernel
theorem dX8_count_66 : decode cX8_count 66 = .ok (.aload_n 0, 1) := by decide +kernel
theorem dX8_count_67 : decode cX8_count 67 = .ok (.iconst 0, 1) := by decide +kernel
theorem dX8_count_68 : decode cX8_count 68 = .ok (.invokevirtual 231, 3) := by decide +kernel
theorem dX8_count_71 : decode cX8_count 71 = .ok (.aload_n 0, 1) := by decide +kernel
theorem dX8_count_72 : decode cX8_count 72 = .ok (.iconst 1, 1) := by decide +kernel
theorem dX8_count_73 : decode cX8_count 73 = .ok (.invokevirtual 231, 3) := by decide +kernel
theorem dX8_count_76 : decode cX8_count 76 = .ok (.iadd, 1) := by decide +kernel
theorem dX8_count_77 : decode cX8_count 77 = .ok (.ireturn, 1) := by decide +kernel
theorem dX8_count_78 : decode cX8_count 78 = .ok (.aload_n 0, 1) := by decide +kernel
theorem dX8_count_79 : decode cX8_count 79 = .ok (.iconst 1, 1) := by decide +kernel
theorem dX8_count_80 : decode cX8_count 80 = .ok (.invokevirtual 231, 3) := by decide +kernel
theorem dX8_count_83 : decode cX8_count 83 = .ok (.ireturn, 1) := by decide +kernel
theorem dX8_count_84 : decode cX8_count 84 = .ok (.aload_n 0, 1) := by decide +kernel
theorem dX8_count_85 : decode cX8_count 85 = .ok (.invokevirtual 310, 3) := by decide +kernel
theorem dX8_count_88 : decode cX8_count 88 = .ok (.ireturn, 1) := by decide +kernel
theorem dX8_count_89 : decode cX8_count 89 = .ok (.aload_n 0, 1) := by decide +kernel
theorem dX8_count_90 : decode cX8_count 90 = .ok (.getfield 141, 3) := by decide +kernel
theorem dX8_count_93 : decode cX8_count 93 = .ok (.ireturn, 1) := by decide +kernel
theorem dX8_count_94 : decode cX8_count 94 = .ok (.aload_n 0, 1) := by decide +kernel
theorem dX8_count_95 : decode cX8_count 95 = .ok (.getfield 147, 3) := by decide +kernel
theorem dX8_count_98 : decode cX8_count 98 = .ok (.ireturn, 1) := by decide +kernel
theorem dX8_count_99 : decode cX8_count 99 = .ok (.aload_n 0, 1) := by decide +kernel
theorem dX8_count_100 : decode cX8_count 100 = .ok (.getfield 22, 3) := by decide +kernel
theorem dX8_count_103 : decode cX8_count 103 = .ok (.iconst 2, 1) := by decide +kernel
theorem dX8_count_104 : decode cX8_count 104 = .ok (.iaload, 1) := by decide +kernel
theorem dX8_count_105 : decode cX8_count 105 = .ok (.ireturn, 1) := by decide +kernel
theorem dX8_count_106 : decode cX8_count 106 = .ok (.aload_n 0, 1) := by decide +kernel
theorem dX8_count_107 : decode cX8_count 107 = .ok (.getfield 82, 3) := by decide +kernel
theorem dX8_count_110 : decode cX8_count 110 = .ok (.ireturn, 1) := by decide +kernel
theorem dX8_count_111 : decode cX8_count 111 = .ok (.bipush (-2), 2) := by decide +kernel
theorem dX8_count_113 : decode cX8_count 113 = .ok (.ireturn, 1) := by decide +kernel
theorem dX8_digest_0 : decode cX8_digest 0 = .ok (.ldc2_w 313, 3) := by decide +kernel
theorem dX8_digest_3 : decode cX8_digest 3 = .ok (.lstore_n 1, 1) := by decide +kernel
theorem dX8_digest_4 : decode cX8_digest 4 = .ok (.iconst 0, 1) := by decide +kernel
theorem dX8_digest_5 : decode cX8_digest 5 = .ok (.istore_n 3, 1) := by decide +kernel
theorem dX8_digest_6 : decode cX8_digest 6 = .ok (.iload_n 3, 1) := by decide +kernel
theorem dX8_digest_7 : decode cX8_digest 7 = .ok (.bipush 8, 2) := by decide +kernel
theorem dX8_digest_9 : decode cX8_digest 9 = .ok (.if_icmp .ge 22, 3) := by decide +kernel
theorem dX8_digest_12 : decode cX8_digest 12 = .ok (.ldc2_w 315, 3) := by decide +kernel
theorem dX8_digest_15 : decode cX8_digest 15 = .ok (.lload_n 1, 1) := by decide +kernel
theorem dX8_digest_16 : decode cX8_digest 16 = .ok (.lmul, 1) := by decide +kernel
theorem dX8_digest_17 : decode cX8_digest 17 = .ok (.aload_n 0, 1) := by decide +kernel
theorem dX8_digest_18 : decode cX8_digest 18 = .ok (.iload_n 3, 1) := by decide +kernel
theorem dX8_digest_19 : decode cX8_digest 19 = .ok (.invokevirtual 317, 3) := by decide +kernel
theorem dX8_digest_22 : decode cX8_digest 22 = .ok (.i2l, 1) := by decide +kernel
theorem dX8_digest_23 : decode cX8_digest 23 = .ok (.ladd, 1) := by decide +kernel
theorem dX8_digest_24 : decode cX8_digest 24 = .ok (.lstore_n 1, 1) := by decide +kernel
theorem dX8_digest_25 : decode cX8_digest 25 = .ok (.iinc 3 1, 3) := by decide +kernel
theorem dX8_digest_28 : decode cX8_digest 28 = .ok (.goto (-22), 3) := by decide +kernel
theorem dX8_digest_31 : decode cX8_digest 31 = .ok (.ldc2_w 315, 3) := by decide +kernel
theorem dX8_digest_34 : decode cX8_digest 34 = .ok (.lload_n 1, 1) := by decide +kernel
theorem dX8_digest_35 : decode cX8_digest 35 = .ok (.lmul, 1) := by decide +kernel
theorem dX8_digest_36 : decode cX8_digest 36 = .ok (.aload_n 0, 1) := by decide +kernel
theorem dX8_digest_37 : decode cX8_digest 37 = .ok (.invokevirtual 170, 3) := by decide +kernel
theorem dX8_digest_40 : decode cX8_digest 40 = .ok (.i2l, 1) := by decide +kernel
theorem dX8_digest_41 : decode cX8_digest 41 = .ok (.ladd, 1) := by decide +kernel
theorem dX8_digest_42 : decode cX8_digest 42 = .ok (.lstore_n 1, 1) := by decide +kernel
theorem dX8_digest_43 : decode cX8_digest 43 = .ok (.aload_n 0, 1) := by decide +kernel
theorem dX8_digest_44 : decode cX8_digest 44 = .ok (.invokevirtual 222, 3) := by decide +kernel
theorem dX8_digest_47 : decode cX8_digest 47 = .ok (.aload_n 0, 1) := by decide +kernel
theorem dX8_digest_48 : decode cX8_digest 48 = .ok (.getfield 207, 3) := by decide +kernel
theorem dX8_digest_51 : decode cX8_digest 51 = .ok (.istore_n 3, 1) := by decide +kernel
theorem dX8_digest_52 : decode cX8_digest 52 = .ok (.aload_n 0, 1) := by decide +kernel
theorem dX8_digest_53 : decode cX8_digest 53 = .ok (.getfield 210, 3) := by decide +kernel
theorem dX8_digest_56 : decode cX8_digest 56 = .ok (.istore 4, 2) := by decide +kernel
theorem dX8_digest_58 : decode cX8_digest 58 = .ok (.iconst (-1), 1) := by decide +kernel
theorem dX8_digest_59 : decode cX8_digest 59 = .ok (.istore 5, 2) := by decide +kernel
theorem dX8_digest_61 : decode cX8_digest 61 = .ok (.iconst 0, 1) := by decide +kernel
theorem dX8_digest_62 : decode cX8_digest 62 = .ok (.istore 6, 2) := by decide +kernel
theorem dX8_digest_64 : decode cX8_digest 64 = .ok (.iconst 0, 1) := by decide +kernel
theorem dX8_digest_65 : decode cX8_digest 65 = .ok (.istore 7, 2) := by decide +kernel
theorem dX8_digest_67 : decode cX8_digest 67 = .ok (.iload 7, 2) := by decide +kernel
theorem dX8_digest_69 : decode cX8_digest 69 = .ok (.bipush 12, 2) := by decide +kernel
theorem dX8_digest_71 : decode cX8_digest 71 = .ok (.if_icmp .ge 122, 3) := by decide +kernel
theorem dX8_digest_74 : decode cX8_digest 74 = .ok (.aload_n 0, 1) := by decide +kernel
theorem dX8_digest_75 : decode cX8_digest 75 = .ok (.iload 7, 2) := by decide +kernel
theorem dX8_digest_77 : decode cX8_digest 77 = .ok (.iconst 1, 1) := by decide +kernel
theorem dX8_digest_78 : decode cX8_digest 78 = .ok (.invokevirtual 225, 3) := by decide +kernel
theorem dX8_digest_81 : decode cX8_digest 81 = .ok (.istore 8, 2) := by decide +kernel
theorem dX8_digest_83 : decode cX8_digest 83 = .ok (.iload 8, 2) := by decide +kernel
theorem dX8_digest_85 : decode cX8_digest 85 = .ok (.iload 6, 2) := by decide +kernel
theorem dX8_digest_87 : decode cX8_digest 87 = .ok (.if_icmp .le 8, 3) := by decide +kernel
theorem dX8_digest_90 : decode cX8_digest 90 = .ok (.iload 7, 2) := by decide +kernel
theorem dX8_digest_92 : decode cX8_digest 92 = .ok (.goto 5, 3) := by decide +kernel
theorem dX8_digest_95 : decode cX8_digest 95 = .ok (.iload 5, 2) := by decide +kernel
theorem dX8_digest_97 : decode cX8_digest 97 = .ok (.istore 5, 2) := by decide +kernel
theorem dX8_digest_99 : decode cX8_digest 99 = .ok (.iload 8, 2) := by decide +kernel
theorem dX8_digest_101 : decode cX8_digest 101 = .ok (.iload 6, 2) := by decide +kernel
theorem dX8_digest_103 : decode cX8_digest 103 = .ok (.if_icmp .le 8, 3) := by decide +kernel
theorem dX8_digest_106 : decode cX8_digest 106 = .ok (.iload 8, 2) := by decide +kernel
theorem dX8_digest_108 : decode cX8_digest 108 = .ok (.goto 5, 3) := by decide +kernel
theorem dX8_digest_111 : decode cX8_digest 111 = .ok (.iload 6, 2) := by decide +kernel
theorem dX8_digest_113 : decode cX8_digest 113 = .ok (.istore 6, 2) := by decide +kernel
theorem dX8_digest_115 : decode cX8_digest 115 = .ok (.ldc2_w 315, 3) := by decide +kernel
theorem dX8_digest_118 : decode cX8_digest 118 = .ok (.lload_n 1, 1) := by decide +kernel
theorem dX8_digest_119 : decode cX8_digest 119 = .ok (.lmul, 1) := by decide +kernel
theorem dX8_digest_120 : decode cX8_digest 120 = .ok (.aload_n 0, 1) := by decide +kernel
theorem dX8_digest_121 : decode cX8_digest 121 = .ok (.iload 7, 2) := by decide +kernel
theorem dX8_digest_123 : decode cX8_digest 123 = .ok (.iconst 0, 1) := by decide +kernel
theorem dX8_digest_124 : decode cX8_digest 124 = .ok (.invokevirtual 225, 3) := by decide +kernel
theorem dX8_digest_127 : decode cX8_digest 127 = .ok (.i2l, 1) := by decide +kernel
theorem dX8_digest_128 : decode cX8_digest 128 = .ok (.ladd, 1) := by decide +kernel
theorem dX8_digest_129 : decode cX8_digest 129 = .ok (.lstore_n 1, 1) := by decide +kernel
theorem dX8_digest_130 : decode cX8_digest 130 = .ok (.ldc2_w 315, 3) := by decide +kernel
theorem dX8_digest_133 : decode cX8_digest 133 = .ok (.lload_n 1, 1) := by decide +kernel
theorem dX8_digest_134 : decode cX8_digest 134 = .ok (.lmul, 1) := by decide +kernel
theorem dX8_digest_135 : decode cX8_digest 135 = .ok (.iload 8, 2) := by decide +kernel
theorem dX8_digest_137 : decode cX8_digest 137 = .ok (.i2l, 1) := by decide +kernel
theorem dX8_digest_138 : decode cX8_digest 138 = .ok (.ladd, 1) := by decide +kernel
theorem dX8_digest_139 : decode cX8_digest 139 = .ok (.lstore_n 1, 1) := by decide +kernel
theorem dX8_digest_140 : decode cX8_digest 140 = .ok (.iconst 0, 1) := by decide +kernel
theorem dX8_digest_141 : decode cX8_digest 141 = .ok (.istore 9, 2) := by decide +kernel
theorem dX8_digest_143 : decode cX8_digest 143 = .ok (.iload 9, 2) := by decide +kernel
theorem dX8_digest_145 : decode cX8_digest 145 = .ok (.iconst 3, 1) := by decide +kernel
theorem dX8_digest_146 : decode cX8_digest 146 = .ok (.if_icmp .ge 25, 3) := by decide +kernel
theorem dX8_digest_149 : decode cX8_digest 149 = .ok (.ldc2_w 315, 3) := by decide +kernel
theorem dX8_digest_152 : decode cX8_digest 152 = .ok (.lload_n 1, 1) := by decide +kernel
theorem dX8_digest_153 : decode cX8_digest 153 = .ok (.lmul, 1) := by decide +kernel
theorem dX8_digest_154 : decode cX8_digest 154 = .ok (.aload_n 0, 1) := by decide +kernel
theorem dX8_digest_155 : decode cX8_digest 155 = .ok (.iload 7, 2) := by decide +kernel
theorem dX8_digest_157 : decode cX8_digest 157 = .ok (.iload 9, 2) := by decide +kernel
theorem dX8_digest_159 : decode cX8_digest 159 = .ok (.invokevirtual 267, 3) := by decide +kernel
theorem dX8_digest_162 : decode cX8_digest 162 = .ok (.i2l, 1) := by decide +kernel
theorem dX8_digest_163 : decode cX8_digest 163 = .ok (.ladd, 1) := by decide +kernel
theorem dX8_digest_164 : decode cX8_digest 164 = .ok (.lstore_n 1, 1) := by decide +kernel
theorem dX8_digest_165 : decode cX8_digest 165 = .ok (.iinc 9 1, 3) := by decide +kernel
theorem dX8_digest_168 : decode cX8_digest 168 = .ok (.goto (-25), 3) := by decide +kernel
theorem dX8_digest_171 : decode cX8_digest 171 = .ok (.ldc2_w 315, 3) := by decide +kernel
theorem dX8_digest_174 : decode cX8_digest 174 = .ok (.lload_n 1, 1) := by decide +kernel
theorem dX8_digest_175 : decode cX8_digest 175 = .ok (.lmul, 1) := by decide +kernel
theorem dX8_digest_176 : decode cX8_digest 176 = .ok (.aload_n 0, 1) := by decide +kernel
theorem dX8_digest_177 : decode cX8_digest 177 = .ok (.iload 7, 2) := by decide +kernel
theorem dX8_digest_179 : decode cX8_digest 179 = .ok (.iconst 2, 1) := by decide +kernel
theorem dX8_digest_180 : decode cX8_digest 180 = .ok (.iconst 3, 1) := by decide +kernel
theorem dX8_digest_181 : decode cX8_digest 181 = .ok (.invokevirtual 293, 3) := by decide +kernel
theorem dX8_digest_184 : decode cX8_digest 184 = .ok (.i2l, 1) := by decide +kernel
theorem dX8_digest_185 : decode cX8_digest 185 = .ok (.ladd, 1) := by decide +kernel
theorem dX8_digest_186 : decode cX8_digest 186 = .ok (.lstore_n 1, 1) := by decide +kernel
theorem dX8_digest_187 : decode cX8_digest 187 = .ok (.iinc 7 1, 3) := by decide +kernel
theorem dX8_digest_190 : decode cX8_digest 190 = .ok (.goto (-123), 3) := by decide +kernel
theorem dX8_digest_193 : decode cX8_digest 193 = .ok (.ldc2_w 315, 3) := by decide +kernel
theorem dX8_digest_196 : decode cX8_digest 196 = .ok (.lload_n 1, 1) := by decide +kernel
theorem dX8_digest_197 : decode cX8_digest 197 = .ok (.lmul, 1) := by decide +kernel
theorem dX8_digest_198 : decode cX8_digest 198 = .ok (.iload_n 3, 1) := by decide +kernel
theorem dX8_digest_199 : decode cX8_digest 199 = .ok (.i2l, 1) := by decide +kernel
theorem dX8_digest_200 : decode cX8_digest 200 = .ok (.ladd, 1) := by decide +kernel
theorem dX8_digest_201 : decode cX8_digest 201 = .ok (.lstore_n 1, 1) := by decide +kernel
theorem dX8_digest_202 : decode cX8_digest 202 = .ok (.ldc2_w 315, 3) := by decide +kernel
theorem dX8_digest_205 : decode cX8_digest 205 = .ok (.lload_n 1, 1) := by decide +kernel
theorem dX8_digest_206 : decode cX8_digest 206 = .ok (.lmul, 1) := by decide +kernel
theorem dX8_digest_207 : decode cX8_digest 207 = .ok (.iload 4, 2) := by decide +kernel
theorem dX8_digest_209 : decode cX8_digest 209 = .ok (.i2l, 1) := by decide +kernel
theorem dX8_digest_210 : decode cX8_digest 210 = .ok (.ladd, 1) := by decide +kernel
theorem dX8_digest_211 : decode cX8_digest 211 = .ok (.lstore_n 1, 1) := by decide +kernel
theorem dX8_digest_212 : decode cX8_digest 212 = .ok (.iconst 0, 1) := by decide +kernel
theorem dX8_digest_213 : decode cX8_digest 213 = .ok (.istore 7, 2) := by decide +kernel
theorem dX8_digest_215 : decode cX8_digest 215 = .ok (.iload 7, 2) := by decide +kernel
theorem dX8_digest_217 : decode cX8_digest 217 = .ok (.aload_n 0, 1) := by decide +kernel
theorem dX8_digest_218 : decode cX8_digest 218 = .ok (.invokevirtual 111, 3) := by decide +kernel
theorem dX8_digest_221 : decode cX8_digest 221 = .ok (.if_icmp .ge 23, 3) := by decide +kernel
theorem dX8_digest_224 : decode cX8_digest 224 = .ok (.aload_n 0, 1) := by decide +kernel
theorem dX8_digest_225 : decode cX8_digest 225 = .ok (.getfield 73, 3) := by decide +kernel
theorem dX8_digest_228 : decode cX8_digest 228 = .ok (.iload 7, 2) := by decide +kernel
theorem dX8_digest_230 : decode cX8_digest 230 = .ok (.aload_n 0, 1) := by decide +kernel
theorem dX8_digest_231 : decode cX8_digest 231 = .ok (.getfield 55, 3) := by decide +kernel
theorem dX8_digest_234 : decode cX8_digest 234 = .ok (.iload 7, 2) := by decide +kernel
theorem dX8_digest_236 : decode cX8_digest 236 = .ok (.iaload, 1) := by decide +kernel
theorem dX8_digest_237 : decode cX8_digest 237 = .ok (.iastore, 1) := by decide +kernel
theorem dX8_digest_238 : decode cX8_digest 238 = .ok (.iinc 7 1, 3) := by decide +kernel
theorem dX8_digest_241 : decode cX8_digest 241 = .ok (.goto (-26), 3) := by decide +kernel
theorem dX8_digest_244 : decode cX8_digest 244 = .ok (.iconst 0, 1) := by decide +kernel
theorem dX8_digest_245 : decode cX8_digest 245 = .ok (.istore 7, 2) := by decide +kernel
theorem dX8_digest_247 : decode cX8_digest 247 = .ok (.iload 7, 2) := by decide +kernel
theorem dX8_digest_249 : decode cX8_digest 249 = .ok (.aload_n 0, 1) := by decide +kernel
theorem dX8_digest_250 : decode cX8_digest 250 = .ok (.invokevirtual 111, 3) := by decide +kernel
theorem dX8_digest_253 : decode cX8_digest 253 = .ok (.if_icmp .ge 120, 3) := by decide +kernel
theorem dX8_digest_256 : decode cX8_digest 256 = .ok (.ldc2_w 315, 3) := by decide +kernel
theorem dX8_digest_259 : decode cX8_digest 259 = .ok (.lload_n 1, 1) := by decide +kernel
theorem dX8_digest_260 : decode cX8_digest 260 = .ok (.lmul, 1) := by decide +kernel
theorem dX8_digest_261 : decode cX8_digest 261 = .ok (.aload_n 0, 1) := by decide +kernel
theorem dX8_digest_262 : decode cX8_digest 262 = .ok (.getfield 73, 3) := by decide +kernel
theorem dX8_digest_265 : decode cX8_digest 265 = .ok (.iload 7, 2) := by decide +kernel
theorem dX8_digest_267 : decode cX8_digest 267 = .ok (.iaload, 1) := by decide +kernel
theorem dX8_digest_268 : decode cX8_digest 268 = .ok (.i2l, 1) := by decide +kernel
theorem dX8_digest_269 : decode cX8_digest 269 = .ok (.ladd, 1) := by decide +kernel
theorem dX8_digest_270 : decode cX8_digest 270 = .ok (.lstore_n 1, 1) := by decide +kernel
theorem dX8_digest_271 : decode cX8_digest 271 = .ok (.ldc2_w 315, 3) := by decide +kernel
theorem dX8_digest_274 : decode cX8_digest 274 = .ok (.lload_n 1, 1) := by decide +kernel
theorem dX8_digest_275 : decode cX8_digest 275 = .ok (.lmul, 1) := by decide +kernel
theorem dX8_digest_276 : decode cX8_digest 276 = .ok (.aload_n 0, 1) := by decide +kernel
theorem dX8_digest_277 : decode cX8_digest 277 = .ok (.iload 7, 2) := by decide +kernel
theorem dX8_digest_279 : decode cX8_digest 279 = .ok (.iconst 0, 1) := by decide +kernel
theorem dX8_digest_280 : decode cX8_digest 280 = .ok (.invokevirtual 252, 3) := by decide +kernel
theorem dX8_digest_283 : decode cX8_digest 283 = .ok (.i2l, 1) := by decide +kernel
theorem dX8_digest_284 : decode cX8_digest 284 = .ok (.ladd, 1) := by decide +kernel
theorem dX8_digest_285 : decode cX8_digest 285 = .ok (.lstore_n 1, 1) := by decide +kernel
theorem dX8_digest_286 : decode cX8_digest 286 = .ok (.ldc2_w 315, 3) := by decide +kernel
theorem dX8_digest_289 : decode cX8_digest 289 = .ok (.lload_n 1, 1) := by decide +kernel
theorem dX8_digest_290 : decode cX8_digest 290 = .ok (.lmul, 1) := by decide +kernel
theorem dX8_digest_291 : decode cX8_digest 291 = .ok (.aload_n 0, 1) := by decide +kernel
theorem dX8_digest_292 : decode cX8_digest 292 = .ok (.iload 7, 2) := by decide +kernel
theorem dX8_digest_294 : decode cX8_digest 294 = .ok (.iconst 1, 1) := by decide +kernel
theorem dX8_digest_295 : decode cX8_digest 295 = .ok (.invokevirtual 252, 3) := by decide +kernel
theorem dX8_digest_298 : decode cX8_digest 298 = .ok (.i2l, 1) := by decide +kernel
theorem dX8_digest_299 : decode cX8_digest 299 = .ok (.ladd, 1) := by decide +kernel
theorem dX8_digest_300 : decode cX8_digest 300 = .ok (.lstore_n 1, 1) := by decide +kernel
theorem dX8_digest_301 : decode cX8_digest 301 = .ok (.ldc2_w 315, 3) := by decide +kernel
theorem dX8_digest_304 : decode cX8_digest 304 = .ok (.lload_n 1, 1) := by decide +kernel
theorem dX8_digest_305 : decode cX8_digest 305 = .ok (.lmul, 1) := by decide +kernel
theorem dX8_digest_306 : decode cX8_digest 306 = .ok (.aload_n 0, 1) := by decide +kernel
theorem dX8_digest_307 : decode cX8_digest 307 = .ok (.iload 7, 2) := by decide +kernel
theorem dX8_digest_309 : decode cX8_digest 309 = .ok (.invokevirtual 273, 3) := by decide +kernel
theorem dX8_digest_312 : decode cX8_digest 312 = .ok (.i2l, 1) := by decide +kernel
theorem dX8_digest_313 : decode cX8_digest 313 = .ok (.ladd, 1) := by decide +kernel
theorem dX8_digest_314 : decode cX8_digest 314 = .ok (.lstore_n 1, 1) := by decide +kernel
theorem dX8_digest_315 : decode cX8_digest 315 = .ok (.iload 7, 2) := by decide +kernel
theorem dX8_digest_317 : decode cX8_digest 317 = .ok (.iconst 1, 1) := by decide +kernel
theorem dX8_digest_318 : decode cX8_digest 318 = .ok (.iadd, 1) := by decide +kernel
theorem dX8_digest_319 : decode cX8_digest 319 = .ok (.aload_n 0, 1) := by decide +kernel
theorem dX8_digest_320 : decode cX8_digest 320 = .ok (.invokevirtual 111, 3) := by decide +kernel
theorem dX8_digest_323 : decode cX8_digest 323 = .ok (.irem, 1) := by decide +kernel
theorem dX8_digest_324 : decode cX8_digest 324 = .ok (.istore 8, 2) := by decide +kernel
theorem dX8_digest_326 : decode cX8_digest 326 = .ok (.iconst 0, 1) := by decide +kernel
theorem dX8_digest_327 : decode cX8_digest 327 = .ok (.istore 9, 2) := by decide +kernel
theorem dX8_digest_329 : decode cX8_digest 329 = .ok (.iload 9, 2) := by decide +kernel
theorem dX8_digest_331 : decode cX8_digest 331 = .ok (.iconst 2, 1) := by decide +kernel
theorem dX8_digest_332 : decode cX8_digest 332 = .ok (.if_icmp .ge 35, 3) := by decide +kernel
theorem dX8_digest_335 : decode cX8_digest 335 = .ok (.ldc2_w 315, 3) := by decide +kernel
theorem dX8_digest_338 : decode cX8_digest 338 = .ok (.lload_n 1, 1) := by decide +kernel
theorem dX8_digest_339 : decode cX8_digest 339 = .ok (.lmul, 1) := by decide +kernel
theorem dX8_digest_340 : decode cX8_digest 340 = .ok (.aload_n 0, 1) := by decide +kernel
theorem dX8_digest_341 : decode cX8_digest 341 = .ok (.iload 7, 2) := by decide +kernel
theorem dX8_digest_343 : decode cX8_digest 343 = .ok (.iload 8, 2) := by decide +kernel
theorem dX8_digest_345 : decode cX8_digest 345 = .ok (.iload 9, 2) := by decide +kernel
theorem dX8_digest_347 : decode cX8_digest 347 = .ok (.invokevirtual 185, 3) := by decide +kernel
theorem dX8_digest_350 : decode cX8_digest 350 = .ok (.ifCond .eq 7, 3) := by decide +kernel
theorem dX8_digest_353 : decode cX8_digest 353 = .ok (.iconst 1, 1) := by decide +kernel
theorem dX8_digest_354 : decode cX8_digest 354 = .ok (.goto 4, 3) := by decide +kernel
theorem dX8_digest_357 : decode cX8_digest 357 = .ok (.iconst 0, 1) := by decide +kernel
theorem dX8_digest_358 : decode cX8_digest 358 = .ok (.i2l, 1) := by decide +kernel
theorem dX8_digest_359 : decode cX8_digest 359 = .ok (.ladd, 1) := by decide +kernel
theorem dX8_digest_360 : decode cX8_digest 360 = .ok (.lstore_n 1, 1) := by decide +kernel
theorem dX8_digest_361 : decode cX8_digest 361 = .ok (.iinc 9 1, 3) := by decide +kernel
theorem dX8_digest_364 : decode cX8_digest 364 = .ok (.goto (-35), 3) := by decide +kernel
theorem dX8_digest_367 : decode cX8_digest 367 = .ok (.iinc 7 1, 3) := by decide +kernel
theorem dX8_digest_370 : decode cX8_digest 370 = .ok (.goto (-123), 3) := by decide +kernel
theorem dX8_digest_373 : decode cX8_digest 373 = .ok (.iconst 0, 1) := by decide +kernel
theorem dX8_digest_374 : decode cX8_digest 374 = .ok (.istore 7, 2) := by decide +kernel
theorem dX8_digest_376 : decode cX8_digest 376 = .ok (.iload 7, 2) := by decide +kernel
theorem dX8_digest_378 : decode cX8_digest 378 = .ok (.iconst 4, 1) := by decide +kernel
theorem dX8_digest_379 : decode cX8_digest 379 = .ok (.if_icmp .ge 28, 3) := by decide +kernel
theorem dX8_digest_382 : decode cX8_digest 382 = .ok (.ldc2_w 315, 3) := by decide +kernel
theorem dX8_digest_385 : decode cX8_digest 385 = .ok (.lload_n 1, 1) := by decide +kernel
theorem dX8_digest_386 : decode cX8_digest 386 = .ok (.lmul, 1) := by decide +kernel
theorem dX8_digest_387 : decode cX8_digest 387 = .ok (.aload_n 0, 1) := by decide +kernel
theorem dX8_digest_388 : decode cX8_digest 388 = .ok (.iload 7, 2) := by decide +kernel
theorem dX8_digest_390 : decode cX8_digest 390 = .ok (.iconst 2, 1) := by decide +kernel
theorem dX8_digest_391 : decode cX8_digest 391 = .ok (.idiv, 1) := by decide +kernel
theorem dX8_digest_392 : decode cX8_digest 392 = .ok (.iload 7, 2) := by decide +kernel
theorem dX8_digest_394 : decode cX8_digest 394 = .ok (.iconst 2, 1) := by decide +kernel
theorem dX8_digest_395 : decode cX8_digest 395 = .ok (.irem, 1) := by decide +kernel
theorem dX8_digest_396 : decode cX8_digest 396 = .ok (.invokevirtual 245, 3) := by decide +kernel
theorem dX8_digest_399 : decode cX8_digest 399 = .ok (.ladd, 1) := by decide +kernel
theorem dX8_digest_400 : decode cX8_digest 400 = .ok (.lstore_n 1, 1) := by decide +kernel
theorem dX8_digest_401 : decode cX8_digest 401 = .ok (.iinc 7 1, 3) := by decide +kernel
theorem dX8_digest_404 : decode cX8_digest 404 = .ok (.goto (-28), 3) := by decide +kernel
theorem dX8_digest_407 : decode cX8_digest 407 = .ok (.ldc2_w 315, 3) := by decide +kernel
theorem dX8_digest_410 : decode cX8_digest 410 = .ok (.lload_n 1, 1) := by decide +kernel
theorem dX8_digest_411 : decode cX8_digest 411 = .ok (.lmul, 1) := by decide +kernel
theorem dX8_digest_412 : decode cX8_digest 412 = .ok (.iload 5, 2) := by decide +kernel
theorem dX8_digest_414 : decode cX8_digest 414 = .ok (.i2l, 1) := by decide +kernel
theorem dX8_digest_415 : decode cX8_digest 415 = .ok (.ladd, 1) := by decide +kernel
theorem dX8_digest_416 : decode cX8_digest 416 = .ok (.lstore_n 1, 1) := by decide +kernel
theorem dX8_digest_417 : decode cX8_digest 417 = .ok (.ldc2_w 315, 3) := by decide +kernel
theorem dX8_digest_420 : decode cX8_digest 420 = .ok (.lload_n 1, 1) := by decide +kernel
theorem dX8_digest_421 : decode cX8_digest 421 = .ok (.lmul, 1) := by decide +kernel
theorem dX8_digest_422 : decode cX8_digest 422 = .ok (.aload_n 0, 1) := by decide +kernel
theorem dX8_digest_423 : decode cX8_digest 423 = .ok (.iconst 0, 1) := by decide +kernel
theorem dX8_digest_424 : decode cX8_digest 424 = .ok (.invokevirtual 255, 3) := by decide +kernel
theorem dX8_digest_427 : decode cX8_digest 427 = .ok (.i2l, 1) := by decide +kernel
theorem dX8_digest_428 : decode cX8_digest 428 = .ok (.ladd, 1) := by decide +kernel
theorem dX8_digest_429 : decode cX8_digest 429 = .ok (.lstore_n 1, 1) := by decide +kernel
theorem dX8_digest_430 : decode cX8_digest 430 = .ok (.ldc2_w 315, 3) := by decide +kernel
theorem dX8_digest_433 : decode cX8_digest 433 = .ok (.lload_n 1, 1) := by decide +kernel
theorem dX8_digest_434 : decode cX8_digest 434 = .ok (.lmul, 1) := by decide +kernel
theorem dX8_digest_435 : decode cX8_digest 435 = .ok (.aload_n 0, 1) := by decide +kernel
theorem dX8_digest_436 : decode cX8_digest 436 = .ok (.iconst 1, 1) := by decide +kernel
theorem dX8_digest_437 : decode cX8_digest 437 = .ok (.invokevirtual 255, 3) := by decide +kernel
theorem dX8_digest_440 : decode cX8_digest 440 = .ok (.i2l, 1) := by decide +kernel
theorem dX8_digest_441 : decode cX8_digest 441 = .ok (.ladd, 1) := by decide +kernel
theorem dX8_digest_442 : decode cX8_digest 442 = .ok (.lstore_n 1, 1) := by decide +kernel
theorem dX8_digest_443 : decode cX8_digest 443 = .ok (.ldc2_w 315, 3) := by decide +kernel
theorem dX8_digest_446 : decode cX8_digest 446 = .ok (.lload_n 1, 1) := by decide +kernel
theorem dX8_digest_447 : decode cX8_digest 447 = .ok (.lmul, 1) := by decide +kernel
theorem dX8_digest_448 : decode cX8_digest 448 = .ok (.aload_n 0, 1) := by decide +kernel
theorem dX8_digest_449 : decode cX8_digest 449 = .ok (.iconst (-1), 1) := by decide +kernel
theorem dX8_digest_450 : decode cX8_digest 450 = .ok (.invokevirtual 264, 3) := by decide +kernel
theorem dX8_digest_453 : decode cX8_digest 453 = .ok (.i2l, 1) := by decide +kernel
theorem dX8_digest_454 : decode cX8_digest 454 = .ok (.ladd, 1) := by decide +kernel
theorem dX8_digest_455 : decode cX8_digest 455 = .ok (.lstore_n 1, 1) := by decide +kernel
theorem dX8_digest_456 : decode cX8_digest 456 = .ok (.ldc2_w 315, 3) := by decide +kernel
theorem dX8_digest_459 : decode cX8_digest 459 = .ok (.lload_n 1, 1) := by decide +kernel
theorem dX8_digest_460 : decode cX8_digest 460 = .ok (.lmul, 1) := by decide +kernel
theorem dX8_digest_461 : decode cX8_digest 461 = .ok (.aload_n 0, 1) := by decide +kernel
theorem dX8_digest_462 : decode cX8_digest 462 = .ok (.invokevirtual 270, 3) := by decide +kernel
theorem dX8_digest_465 : decode cX8_digest 465 = .ok (.i2l, 1) := by decide +kernel
theorem dX8_digest_466 : decode cX8_digest 466 = .ok (.ladd, 1) := by decide +kernel
theorem dX8_digest_467 : decode cX8_digest 467 = .ok (.lstore_n 1, 1) := by decide +kernel
theorem dX8_digest_468 : decode cX8_digest 468 = .ok (.ldc2_w 315, 3) := by decide +kernel
theorem dX8_digest_471 : decode cX8_digest 471 = .ok (.lload_n 1, 1) := by decide +kernel
theorem dX8_digest_472 : decode cX8_digest 472 = .ok (.lmul, 1) := by decide +kernel
theorem dX8_digest_473 : decode cX8_digest 473 = .ok (.aload_n 0, 1) := by decide +kernel
theorem dX8_digest_474 : decode cX8_digest 474 = .ok (.iconst 0, 1) := by decide +kernel
theorem dX8_digest_475 : decode cX8_digest 475 = .ok (.iconst 0, 1) := by decide +kernel
theorem dX8_digest_476 : decode cX8_digest 476 = .ok (.iconst 0, 1) := by decide +kernel
theorem dX8_digest_477 : decode cX8_digest 477 = .ok (.invokevirtual 279, 3) := by decide +kernel
theorem dX8_digest_480 : decode cX8_digest 480 = .ok (.i2l, 1) := by decide +kernel
theorem dX8_digest_481 : decode cX8_digest 481 = .ok (.ladd, 1) := by decide +kernel
theorem dX8_digest_482 : decode cX8_digest 482 = .ok (.lstore_n 1, 1) := by decide +kernel
theorem dX8_digest_483 : decode cX8_digest 483 = .ok (.ldc2_w 315, 3) := by decide +kernel
theorem dX8_digest_486 : decode cX8_digest 486 = .ok (.lload_n 1, 1) := by decide +kernel
theorem dX8_digest_487 : decode cX8_digest 487 = .ok (.lmul, 1) := by decide +kernel
theorem dX8_digest_488 : decode cX8_digest 488 = .ok (.aload_n 0, 1) := by decide +kernel
theorem dX8_digest_489 : decode cX8_digest 489 = .ok (.iconst 0, 1) := by decide +kernel
theorem dX8_digest_490 : decode cX8_digest 490 = .ok (.iconst 0, 1) := by decide +kernel
theorem dX8_digest_491 : decode cX8_digest 491 = .ok (.iconst 1, 1) := by decide +kernel
theorem dX8_digest_492 : decode cX8_digest 492 = .ok (.invokevirtual 279, 3) := by decide +kernel
theorem dX8_digest_495 : decode cX8_digest 495 = .ok (.i2l, 1) := by decide +kernel
theorem dX8_digest_496 : decode cX8_digest 496 = .ok (.ladd, 1) := by decide +kernel
theorem dX8_digest_497 : decode cX8_digest 497 = .ok (.lstore_n 1, 1) := by decide +kernel
theorem dX8_digest_498 : decode cX8_digest 498 = .ok (.ldc2_w 315, 3) := by decide +kernel
theorem dX8_digest_501 : decode cX8_digest 501 = .ok (.lload_n 1, 1) := by decide +kernel
theorem dX8_digest_502 : decode cX8_digest 502 = .ok (.lmul, 1) := by decide +kernel
theorem dX8_digest_503 : decode cX8_digest 503 = .ok (.aload_n 0, 1) := by decide +kernel
theorem dX8_digest_504 : decode cX8_digest 504 = .ok (.iconst 2, 1) := by decide +kernel
theorem dX8_digest_505 : decode cX8_digest 505 = .ok (.iconst (-1), 1) := by decide +kernel
theorem dX8_digest_506 : decode cX8_digest 506 = .ok (.invokevirtual 307, 3) := by decide +kernel
theorem dX8_digest_509 : decode cX8_digest 509 = .ok (.i2l, 1) := by decide +kernel
theorem dX8_digest_510 : decode cX8_digest 510 = .ok (.ladd, 1) := by decide +kernel
theorem dX8_digest_511 : decode cX8_digest 511 = .ok (.lreturn, 1) := by decide +kernel
theorem dJ6_numberOfTrailingZeros_0f7a4_0 : decode cJ6_numberOfTrailingZeros_0f7a4 0 = .ok (.iload_n 0, 1) := by decide +kernel
theorem dJ6_numberOfTrailingZeros_0f7a4_1 : decode cJ6_numberOfTrailingZeros_0f7a4 1 = .ok (.iconst (-1), 1) := by decide +kernel
theorem dJ6_numberOfTrailingZeros_0f7a4_2 : decode cJ6_numberOfTrailingZeros_0f7a4 2 = .ok (.ixor, 1) := by decide +kernel
theorem dJ6_numberOfTrailingZeros_0f7a4_3 : decode cJ6_numberOfTrailingZeros_0f7a4 3 = .ok (.iload_n 0, 1) := by decide +kernel
theorem dJ6_numberOfTrailingZeros_0f7a4_4 : decode cJ6_numberOfTrailingZeros_0f7a4 4 = .ok (.iconst 1, 1) := by decide +kernel
theorem dJ6_numberOfTrailingZeros_0f7a4_5 : decode cJ6_numberOfTrailingZeros_0f7a4 5 = .ok (.isub, 1) := by decide +kernel
theorem dJ6_numberOfTrailingZeros_0f7a4_6 : decode cJ6_numberOfTrailingZeros_0f7a4 6 = .ok (.iand, 1) := by decide +kernel
theorem dJ6_numberOfTrailingZeros_0f7a4_7 : decode cJ6_numberOfTrailingZeros_0f7a4 7 = .ok (.istore_n 0, 1) := by decide +kernel
theorem dJ6_numberOfTrailingZeros_0f7a4_8 : decode cJ6_numberOfTrailingZeros_0f7a4 8 = .ok (.iload_n 0, 1) := by decide +kernel
theorem dJ6_numberOfTrailingZeros_0f7a4_9 : decode cJ6_numberOfTrailingZeros_0f7a4 9 = .ok (.ifCond .gt 8, 3) := by decide +kernel
theorem dJ6_numberOfTrailingZeros_0f7a4_12 : decode cJ6_numberOfTrailingZeros_0f7a4 12 = .ok (.iload_n 0, 1) := by decide +kernel
theorem dJ6_numberOfTrailingZeros_0f7a4_13 : decode cJ6_numberOfTrailingZeros_0f7a4 13 = .ok (.bipush 32, 2) := by decide +kernel
theorem dJ6_numberOfTrailingZeros_0f7a4_15 : decode cJ6_numberOfTrailingZeros_0f7a4 15 = .ok (.iand, 1) := by decide +kernel
theorem dJ6_numberOfTrailingZeros_0f7a4_16 : decode cJ6_numberOfTrailingZeros_0f7a4 16 = .ok (.ireturn, 1) := by decide +kernel
theorem dJ6_numberOfTrailingZeros_0f7a4_17 : decode cJ6_numberOfTrailingZeros_0f7a4 17 = .ok (.iconst 1, 1) := by decide +kernel
theorem dJ6_numberOfTrailingZeros_0f7a4_18 : decode cJ6_numberOfTrailingZeros_0f7a4 18 = .ok (.istore_n 1, 1) := by decide +kernel
theorem dJ6_numberOfTrailingZeros_0f7a4_19 : decode cJ6_numberOfTrailingZeros_0f7a4 19 = .ok (.iload_n 0, 1) := by decide +kernel
theorem dJ6_numberOfTrailingZeros_0f7a4_20 : decode cJ6_numberOfTrailingZeros_0f7a4 20 = .ok (.ldc_w 264, 3) := by decide +kernel
theorem dJ6_numberOfTrailingZeros_0f7a4_23 : decode cJ6_numberOfTrailingZeros_0f7a4 23 = .ok (.if_icmp .le 11, 3) := by decide +kernel
theorem dJ6_numberOfTrailingZeros_0f7a4_26 : decode cJ6_numberOfTrailingZeros_0f7a4 26 = .ok (.iinc 1 16, 3) := by decide +kernel
theorem dJ6_numberOfTrailingZeros_0f7a4_29 : decode cJ6_numberOfTrailingZeros_0f7a4 29 = .ok (.iload_n 0, 1) := by decide +kernel
theorem dJ6_numberOfTrailingZeros_0f7a4_30 : decode cJ6_numberOfTrailingZeros_0f7a4 30 = .ok (.bipush 16, 2) := by decide +kernel
theorem dJ6_numberOfTrailingZeros_0f7a4_32 : decode cJ6_numberOfTrailingZeros_0f7a4 32 = .ok (.iushr, 1) := by decide +kernel
theorem dJ6_numberOfTrailingZeros_0f7a4_33 : decode cJ6_numberOfTrailingZeros_0f7a4 33 = .ok (.istore_n 0, 1) := by decide +kernel
theorem dJ6_numberOfTrailingZeros_0f7a4_34 : decode cJ6_numberOfTrailingZeros_0f7a4 34 = .ok (.iload_n 0, 1) := by decide +kernel
theorem dJ6_numberOfTrailingZeros_0f7a4_35 : decode cJ6_numberOfTrailingZeros_0f7a4 35 = .ok (.sipush 256, 3) := by decide +kernel
theorem dJ6_numberOfTrailingZeros_0f7a4_38 : decode cJ6_numberOfTrailingZeros_0f7a4 38 = .ok (.if_icmp .le 11, 3) := by decide +kernel
theorem dJ6_numberOfTrailingZeros_0f7a4_41 : decode cJ6_numberOfTrailingZeros_0f7a4 41 = .ok (.iinc 1 8, 3) := by decide +kernel
theorem dJ6_numberOfTrailingZeros_0f7a4_44 : decode cJ6_numberOfTrailingZeros_0f7a4 44 = .ok (.iload_n 0, 1) := by decide +kernel
theorem dJ6_numberOfTrailingZeros_0f7a4_45 : decode cJ6_numberOfTrailingZeros_0f7a4 45 = .ok (.bipush 8, 2) := by decide +kernel
theorem dJ6_numberOfTrailingZeros_0f7a4_47 : decode cJ6_numberOfTrailingZeros_0f7a4 47 = .ok (.iushr, 1) := by decide +kernel
theorem dJ6_numberOfTrailingZeros_0f7a4_48 : decode cJ6_numberOfTrailingZeros_0f7a4 48 = .ok (.istore_n 0, 1) := by decide +kernel
theorem dJ6_numberOfTrailingZeros_0f7a4_49 : decode cJ6_numberOfTrailingZeros_0f7a4 49 = .ok (.iload_n 0, 1) := by decide +kernel
theorem dJ6_numberOfTrailingZeros_0f7a4_50 : decode cJ6_numberOfTrailingZeros_0f7a4 50 = .ok (.bipush 16, 2) := by decide +kernel
theorem dJ6_numberOfTrailingZeros_0f7a4_52 : decode cJ6_numberOfTrailingZeros_0f7a4 52 = .ok (.if_icmp .le 10, 3) := by decide +kernel
theorem dJ6_numberOfTrailingZeros_0f7a4_55 : decode cJ6_numberOfTrailingZeros_0f7a4 55 = .ok (.iinc 1 4, 3) := by decide +kernel
theorem dJ6_numberOfTrailingZeros_0f7a4_58 : decode cJ6_numberOfTrailingZeros_0f7a4 58 = .ok (.iload_n 0, 1) := by decide +kernel
theorem dJ6_numberOfTrailingZeros_0f7a4_59 : decode cJ6_numberOfTrailingZeros_0f7a4 59 = .ok (.iconst 4, 1) := by decide +kernel
theorem dJ6_numberOfTrailingZeros_0f7a4_60 : decode cJ6_numberOfTrailingZeros_0f7a4 60 = .ok (.iushr, 1) := by decide +kernel
theorem dJ6_numberOfTrailingZeros_0f7a4_61 : decode cJ6_numberOfTrailingZeros_0f7a4 61 = .ok (.istore_n 0, 1) := by decide +kernel
theorem dJ6_numberOfTrailingZeros_0f7a4_62 : decode cJ6_numberOfTrailingZeros_0f7a4 62 = .ok (.iload_n 0, 1) := by decide +kernel
theorem dJ6_numberOfTrailingZeros_0f7a4_63 : decode cJ6_numberOfTrailingZeros_0f7a4 63 = .ok (.iconst 4, 1) := by decide +kernel
theorem dJ6_numberOfTrailingZeros_0f7a4_64 : decode cJ6_numberOfTrailingZeros_0f7a4 64 = .ok (.if_icmp .le 10, 3) := by decide +kernel
theorem dJ6_numberOfTrailingZeros_0f7a4_67 : decode cJ6_numberOfTrailingZeros_0f7a4 67 = .ok (.iinc 1 2, 3) := by decide +kernel
theorem dJ6_numberOfTrailingZeros_0f7a4_70 : decode cJ6_numberOfTrailingZeros_0f7a4 70 = .ok (.iload_n 0, 1) := by decide +kernel
theorem dJ6_numberOfTrailingZeros_0f7a4_71 : decode cJ6_numberOfTrailingZeros_0f7a4 71 = .ok (.iconst 2, 1) := by decide +kernel
theorem dJ6_numberOfTrailingZeros_0f7a4_72 : decode cJ6_numberOfTrailingZeros_0f7a4 72 = .ok (.iushr, 1) := by decide +kernel
theorem dJ6_numberOfTrailingZeros_0f7a4_73 : decode cJ6_numberOfTrailingZeros_0f7a4 73 = .ok (.istore_n 0, 1) := by decide +kernel
theorem dJ6_numberOfTrailingZeros_0f7a4_74 : decode cJ6_numberOfTrailingZeros_0f7a4 74 = .ok (.iload_n 1, 1) := by decide +kernel
theorem dJ6_numberOfTrailingZeros_0f7a4_75 : decode cJ6_numberOfTrailingZeros_0f7a4 75 = .ok (.iload_n 0, 1) := by decide +kernel
theorem dJ6_numberOfTrailingZeros_0f7a4_76 : decode cJ6_numberOfTrailingZeros_0f7a4 76 = .ok (.iconst 1, 1) := by decide +kernel
theorem dJ6_numberOfTrailingZeros_0f7a4_77 : decode cJ6_numberOfTrailingZeros_0f7a4 77 = .ok (.iushr, 1) := by decide +kernel
theorem dJ6_numberOfTrailingZeros_0f7a4_78 : decode cJ6_numberOfTrailingZeros_0f7a4 78 = .ok (.iadd, 1) := by decide +kernel
theorem dJ6_numberOfTrailingZeros_0f7a4_79 : decode cJ6_numberOfTrailingZeros_0f7a4 79 = .ok (.ireturn, 1) := by decide +kernel
theorem dJ6_bitCount_0f7a4_0 : decode cJ6_bitCount_0f7a4 0 = .ok (.iload_n 0, 1) := by decide +kernel
theorem dJ6_bitCount_0f7a4_1 : decode cJ6_bitCount_0f7a4 1 = .ok (.iload_n 0, 1) := by decide +kernel
theorem dJ6_bitCount_0f7a4_2 : decode cJ6_bitCount_0f7a4 2 = .ok (.iconst 1, 1) := by decide +kernel
theorem dJ6_bitCount_0f7a4_3 : decode cJ6_bitCount_0f7a4 3 = .ok (.iushr, 1) := by decide +kernel
theorem dJ6_bitCount_0f7a4_4 : decode cJ6_bitCount_0f7a4 4 = .ok (.ldc_w 265, 3) := by decide +kernel
theorem dJ6_bitCount_0f7a4_7 : decode cJ6_bitCount_0f7a4 7 = .ok (.iand, 1) := by decide +kernel
theorem dJ6_bitCount_0f7a4_8 : decode cJ6_bitCount_0f7a4 8 = .ok (.isub, 1) := by decide +kernel
theorem dJ6_bitCount_0f7a4_9 : decode cJ6_bitCount_0f7a4 9 = .ok (.istore_n 0, 1) := by decide +kernel
theorem dJ6_bitCount_0f7a4_10 : decode cJ6_bitCount_0f7a4 10 = .ok (.iload_n 0, 1) := by decide +kernel
theorem dJ6_bitCount_0f7a4_11 : decode cJ6_bitCount_0f7a4 11 = .ok (.ldc_w 266, 3) := by decide +kernel
theorem dJ6_bitCount_0f7a4_14 : decode cJ6_bitCount_0f7a4 14 = .ok (.iand, 1) := by decide +kernel
theorem dJ6_bitCount_0f7a4_15 : decode cJ6_bitCount_0f7a4 15 = .ok (.iload_n 0, 1) := by decide +kernel
theorem dJ6_bitCount_0f7a4_16 : decode cJ6_bitCount_0f7a4 16 = .ok (.iconst 2, 1) := by decide +kernel
theorem dJ6_bitCount_0f7a4_17 : decode cJ6_bitCount_0f7a4 17 = .ok (.iushr, 1) := by decide +kernel
theorem dJ6_bitCount_0f7a4_18 : decode cJ6_bitCount_0f7a4 18 = .ok (.ldc_w 266, 3) := by decide +kernel
theorem dJ6_bitCount_0f7a4_21 : decode cJ6_bitCount_0f7a4 21 = .ok (.iand, 1) := by decide +kernel
theorem dJ6_bitCount_0f7a4_22 : decode cJ6_bitCount_0f7a4 22 = .ok (.iadd, 1) := by decide +kernel
theorem dJ6_bitCount_0f7a4_23 : decode cJ6_bitCount_0f7a4 23 = .ok (.istore_n 0, 1) := by decide +kernel
theorem dJ6_bitCount_0f7a4_24 : decode cJ6_bitCount_0f7a4 24 = .ok (.iload_n 0, 1) := by decide +kernel
theorem dJ6_bitCount_0f7a4_25 : decode cJ6_bitCount_0f7a4 25 = .ok (.iload_n 0, 1) := by decide +kernel
theorem dJ6_bitCount_0f7a4_26 : decode cJ6_bitCount_0f7a4 26 = .ok (.iconst 4, 1) := by decide +kernel
theorem dJ6_bitCount_0f7a4_27 : decode cJ6_bitCount_0f7a4 27 = .ok (.iushr, 1) := by decide +kernel
theorem dJ6_bitCount_0f7a4_28 : decode cJ6_bitCount_0f7a4 28 = .ok (.iadd, 1) := by decide +kernel
theorem dJ6_bitCount_0f7a4_29 : decode cJ6_bitCount_0f7a4 29 = .ok (.ldc_w 267, 3) := by decide +kernel
theorem dJ6_bitCount_0f7a4_32 : decode cJ6_bitCount_0f7a4 32 = .ok (.iand, 1) := by decide +kernel
theorem dJ6_bitCount_0f7a4_33 : decode cJ6_bitCount_0f7a4 33 = .ok (.istore_n 0, 1) := by decide +kernel
theorem dJ6_bitCount_0f7a4_34 : decode cJ6_bitCount_0f7a4 34 = .ok (.iload_n 0, 1) := by decide +kernel
theorem dJ6_bitCount_0f7a4_35 : decode cJ6_bitCount_0f7a4 35 = .ok (.iload_n 0, 1) := by decide +kernel
