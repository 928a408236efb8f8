theorem gX8_chanceAbove_12 {d : Nat} {Q : Value → zm_S → Prop} {w : zm_S} {a1 : Int32} {a2 : Int32} {a3 : Int32} {a4 : Int32} {a5 : Int64} {a7 : Int32} {s0 : Int32} {s1 : Int32} (kt : s0 ≤ s1 → zm_T zd_H d mX8_chanceAbove Q 84 [(5, .long a5)] [] w) (kf : ¬ s0 ≤ s1 → zm_T zd_H d mX8_chanceAbove Q 15 [(0, .ref 0), (1, .int a1), (2, .int a2), (3, .int a3), (4, .int a4), (5, .long a5), (7, .int a7)] [] w) : zm_T zd_H d mX8_chanceAbove Q 12 [(0, .ref 0), (1, .int a1), (2, .int a2), (3, .int a3), (4, .int a4), (5, .long a5), (7, .int a7)] [.int s0, .int s1] w := by
  refine zm_icmp_ge 84 dX8_chanceAbove_12 (by decide) (fun h => ?_) (fun h => ?_)
  · refine zm_sub [5] rfl ?_
    exact kt h
  · exact kf h
theorem gX8_chanceAbove_15 {d : Nat} {Q : Value → zm_S → Prop} {w : zm_S} {a1 : Int32} {a2 : Int32} {a3 : Int32} {a4 : Int32} {a5 : Int64} {a7 : Int32} (hi26 : vp_in (((7 : Int32) * a1) + a7) 84) (kt : (w.1 10 ((((7 : Int32) * a1) + a7)).toNatClampNeg) = (2 : Int32) → zm_T zd_H d mX8_chanceAbove Q 78 [(0, .ref 0), (1, .int a1), (2, .int a2), (3, .int a3), (4, .int a4), (5, .long a5), (7, .int a7)] [] w) (kf : ¬ (w.1 10 ((((7 : Int32) * a1) + a7)).toNatClampNeg) = (2 : Int32) → zm_T zd_H d mX8_chanceAbove Q 35 [(0, .ref 0), (1, .int a1), (2, .int a2), (3, .int a3), (4, .int a4), (5, .long a5), (7, .int a7), (8, .int (w.1 10 ((((7 : Int32) * a1) + a7)).toNatClampNeg))] [] w) : zm_T zd_H d mX8_chanceAbove Q 15 [(0, .ref 0), (1, .int a1), (2, .int a2), (3, .int a3), (4, .int a4), (5, .long a5), (7, .int a7)] [] w := by
  refine zm_aload_n (x := 0) 0 dX8_chanceAbove_15 rfl rfl ?_
  refine zm_getf (v := .ref 10) (j := 11) dX8_chanceAbove_16 clX8 flX8_37 (Nat.le_of_ble_eq_true rfl) zd_H0 rfl rfl ?_
  refine zm_bipush dX8_chanceAbove_19 (v := (7 : Int32)) (by decide) ?_
  refine zm_iload_n (x := a1) 1 dX8_chanceAbove_21 rfl rfl ?_
  refine zm_imul dX8_chanceAbove_22 ?_
  refine zm_iload (x := a7) 6 dX8_chanceAbove_23 rfl ?_
  refine zm_iadd dX8_chanceAbove_25 ?_
  refine zm_iald dX8_chanceAbove_26 zd_H10 hi26 ?_
  refine zm_istore dX8_chanceAbove_27 (Nat.le_of_ble_eq_true rfl) (ls' := [(8, .int (w.1 10 ((((7 : Int32) * a1) + a7)).toNatClampNeg)), (0, .ref 0), (1, .int a1), (2, .int a2), (3, .int a3), (4, .int a4), (5, .long a5), (7, .int a7)]) rfl ?_
  refine zm_iload (x := (w.1 10 ((((7 : Int32) * a1) + a7)).toNatClampNeg)) 0 dX8_chanceAbove_29 rfl ?_
  refine zm_iconst dX8_chanceAbove_31 (v := (2 : Int32)) (by decide) ?_
  refine zm_icmp_eq 78 dX8_chanceAbove_32 (by decide) (fun h => ?_) (fun h => ?_)
  · refine zm_sub [1, 2, 3, 4, 5, 6, 7] rfl ?_
    exact kt h
  · refine zm_sub [1, 2, 3, 4, 5, 6, 7, 0] rfl ?_
    exact kf h
theorem gX8_chanceAbove_35 {d : Nat} {Q : Value → zm_S → Prop} {w : zm_S} {a1 : Int32} {a2 : Int32} {a3 : Int32} {a4 : Int32} {a5 : Int64} {a7 : Int32} {a8 : Int32} {Q' : Value → zm_S → Prop} (hC : zm_C zd_H d mX8_isIn [.int a2, .int a7] w Q') (k : ∀ (r : Int32) (u : zm_S), Q' (.int r) u → zm_T zd_H (d + 1) mX8_chanceAbove Q 41 [(0, .ref 0), (1, .int a1), (2, .int a2), (3, .int a3), (4, .int a4), (5, .long a5), (7, .int a7), (8, .int a8)] [.int r] u) : zm_T zd_H (d + 1) mX8_chanceAbove Q 35 [(0, .ref 0), (1, .int a1), (2, .int a2), (3, .int a3), (4, .int a4), (5, .long a5), (7, .int a7), (8, .int a8)] [] w := by
  refine zm_iload_n (x := a2) 2 dX8_chanceAbove_35 rfl rfl ?_
  refine zm_iload (x := a7) 6 dX8_chanceAbove_36 rfl ?_
  refine zm_callSz (as := [.int a2, .int a7]) (rest := []) dX8_chanceAbove_38 rfl mtX8_isIn lkX8_153 rfl (Nat.le_of_ble_eq_true rfl) hC rfl (fun r u hq => ?_)
  exact k r u hq
theorem gX8_chanceAbove_41 {d : Nat} {Q : Value → zm_S → Prop} {w : zm_S} {a1 : Int32} {a2 : Int32} {a3 : Int32} {a4 : Int32} {a5 : Int64} {a7 : Int32} {a8 : Int32} {s0 : Int32} (kt : s0 = 0 → zm_T zd_H d mX8_chanceAbove Q 51 [(0, .ref 0), (1, .int a1), (2, .int a2), (3, .int a3), (4, .int a4), (5, .long a5), (7, .int a7), (8, .int a8)] [] w) (kf : ¬ s0 = 0 → zm_T zd_H d mX8_chanceAbove Q 44 [(0, .ref 0), (1, .int a1), (2, .int a2), (3, .int a3), (4, .int a4), (5, .long a5), (7, .int a7), (8, .int a8)] [] w) : zm_T zd_H d mX8_chanceAbove Q 41 [(0, .ref 0), (1, .int a1), (2, .int a2), (3, .int a3), (4, .int a4), (5, .long a5), (7, .int a7), (8, .int a8)] [.int s0] w := by
  refine zm_if_eq 51 dX8_chanceAbove_41 (by decide) (fun h => ?_) (fun h => ?_)
  · exact kt h
  · exact kf h
theorem gX8_chanceAbove_44 {d : Nat} {Q : Value → zm_S → Prop} {w : zm_S} {a1 : Int32} {a2 : Int32} {a3 : Int32} {a4 : Int32} {a5 : Int64} {a7 : Int32} {a8 : Int32} (k : zm_T zd_H d mX8_chanceAbove Q 53 [(0, .ref 0), (1, .int a1), (2, .int a2), (3, .int a3), (4, .int a4), (5, .long a5), (7, .int a7), (8, .int a8)] [.int ((16 : Int32) - a3)] w) : zm_T zd_H d mX8_chanceAbove Q 44 [(0, .ref 0), (1, .int a1), (2, .int a2), (3, .int a3), (4, .int a4), (5, .long a5), (7, .int a7), (8, .int a8)] [] w := by
  refine zm_bipush dX8_chanceAbove_44 (v := (16 : Int32)) (by decide) ?_
  refine zm_iload_n (x := a3) 3 dX8_chanceAbove_46 rfl rfl ?_
  refine zm_isub dX8_chanceAbove_47 ?_
  refine zm_goto 53 dX8_chanceAbove_48 (by decide) ?_
  exact k
theorem gX8_chanceAbove_51 {d : Nat} {Q : Value → zm_S → Prop} {w : zm_S} {a1 : Int32} {a2 : Int32} {a3 : Int32} {a4 : Int32} {a5 : Int64} {a7 : Int32} {a8 : Int32} (k : zm_T zd_H d mX8_chanceAbove Q 53 [(0, .ref 0), (1, .int a1), (2, .int a2), (3, .int a3), (4, .int a4), (5, .long a5), (7, .int a7), (8, .int a8)] [.int a4] w) : zm_T zd_H d mX8_chanceAbove Q 51 [(0, .ref 0), (1, .int a1), (2, .int a2), (3, .int a3), (4, .int a4), (5, .long a5), (7, .int a7), (8, .int a8)] [] w := by
  refine zm_iload (x := a4) 4 dX8_chanceAbove_51 rfl ?_
  exact k
theorem gX8_chanceAbove_53 {d : Nat} {Q : Value → zm_S → Prop} {w : zm_S} {a1 : Int32} {a2 : Int32} {a3 : Int32} {a4 : Int32} {a5 : Int64} {a7 : Int32} {a8 : Int32} {s0 : Int32} (kt : ¬ a8 = (1 : Int32) → zm_T zd_H d mX8_chanceAbove Q 69 [(0, .ref 0), (1, .int a1), (2, .int a2), (3, .int a3), (4, .int a4), (7, .int a7), (9, .int s0)] [.long a5] w) (kf : a8 = (1 : Int32) → zm_T zd_H d mX8_chanceAbove Q 63 [(0, .ref 0), (1, .int a1), (2, .int a2), (3, .int a3), (4, .int a4), (7, .int a7), (9, .int s0)] [.long a5] w) : zm_T zd_H d mX8_chanceAbove Q 53 [(0, .ref 0), (1, .int a1), (2, .int a2), (3, .int a3), (4, .int a4), (5, .long a5), (7, .int a7), (8, .int a8)] [.int s0] w := by
  refine zm_istore dX8_chanceAbove_53 (Nat.le_of_ble_eq_true rfl) (ls' := [(9, .int s0), (0, .ref 0), (1, .int a1), (2, .int a2), (3, .int a3), (4, .int a4), (5, .long a5), (7, .int a7), (8, .int a8)]) rfl ?_
  refine zm_lload (x := a5) 6 dX8_chanceAbove_55 rfl ?_
  refine zm_iload (x := a8) 8 dX8_chanceAbove_57 rfl ?_
  refine zm_iconst dX8_chanceAbove_59 (v := (1 : Int32)) (by decide) ?_
  refine zm_icmp_ne 69 dX8_chanceAbove_60 (by decide) (fun h => ?_) (fun h => ?_)
  · refine zm_sub [1, 2, 3, 4, 5, 7, 0] rfl ?_
    exact kt h
  · refine zm_sub [1, 2, 3, 4, 5, 7, 0] rfl ?_
    exact kf h
theorem gX8_chanceAbove_63 {d : Nat} {Q : Value → zm_S → Prop} {w : zm_S} {a1 : Int32} {a2 : Int32} {a3 : Int32} {a4 : Int32} {a7 : Int32} {a9 : Int32} {s0 : Int64} (k : zm_T zd_H d mX8_chanceAbove Q 75 [(0, .ref 0), (1, .int a1), (2, .int a2), (3, .int a3), (4, .int a4), (7, .int a7)] [.long ((a9).toInt64), .long s0] w) : zm_T zd_H d mX8_chanceAbove Q 63 [(0, .ref 0), (1, .int a1), (2, .int a2), (3, .int a3), (4, .int a4), (7, .int a7), (9, .int a9)] [.long s0] w := by
  refine zm_iload (x := a9) 6 dX8_chanceAbove_63 rfl ?_
  refine zm_i2l dX8_chanceAbove_65 ?_
  refine zm_goto 75 dX8_chanceAbove_66 (by decide) ?_
  refine zm_sub [0, 1, 2, 3, 4, 5] rfl ?_
  exact k
theorem gX8_chanceAbove_69 {d : Nat} {Q : Value → zm_S → Prop} {w : zm_S} {a1 : Int32} {a2 : Int32} {a3 : Int32} {a4 : Int32} {a7 : Int32} {a9 : Int32} {s0 : Int64} (k : zm_T zd_H d mX8_chanceAbove Q 75 [(0, .ref 0), (1, .int a1), (2, .int a2), (3, .int a3), (4, .int a4), (7, .int a7)] [.long ((((16 : Int32) - a9)).toInt64), .long s0] w) : zm_T zd_H d mX8_chanceAbove Q 69 [(0, .ref 0), (1, .int a1), (2, .int a2), (3, .int a3), (4, .int a4), (7, .int a7), (9, .int a9)] [.long s0] w := by
  refine zm_bipush dX8_chanceAbove_69 (v := (16 : Int32)) (by decide) ?_
  refine zm_iload (x := a9) 6 dX8_chanceAbove_71 rfl ?_
  refine zm_isub dX8_chanceAbove_73 ?_
  refine zm_i2l dX8_chanceAbove_74 ?_
  refine zm_sub [0, 1, 2, 3, 4, 5] rfl ?_
  exact k
theorem gX8_chanceAbove_75 {d : Nat} {Q : Value → zm_S → Prop} {w : zm_S} {a1 : Int32} {a2 : Int32} {a3 : Int32} {a4 : Int32} {a7 : Int32} {s0 : Int64} {s1 : Int64} (k : zm_T zd_H d mX8_chanceAbove Q 78 [(0, .ref 0), (1, .int a1), (2, .int a2), (3, .int a3), (4, .int a4), (5, .long (s1 * s0)), (7, .int a7)] [] w) : zm_T zd_H d mX8_chanceAbove Q 75 [(0, .ref 0), (1, .int a1), (2, .int a2), (3, .int a3), (4, .int a4), (7, .int a7)] [.long s0, .long s1] w := by
  refine zm_lmul dX8_chanceAbove_75 ?_
  refine zm_lstore dX8_chanceAbove_76 (Nat.le_of_ble_eq_true rfl) (ls' := [(5, .long (s1 * s0)), (0, .ref 0), (1, .int a1), (2, .int a2), (3, .int a3), (4, .int a4), (7, .int a7)]) rfl ?_
  refine zm_sub [1, 2, 3, 4, 5, 0, 6] rfl ?_
  exact k
theorem gX8_chanceAbove_78 {d : Nat} {Q : Value → zm_S → Prop} {w : zm_S} {a1 : Int32} {a2 : Int32} {a3 : Int32} {a4 : Int32} {a5 : Int64} {a7 : Int32} (k : zm_T zd_H d mX8_chanceAbove Q 6 [(0, .ref 0), (1, .int a1), (2, .int a2), (3, .int a3), (4, .int a4), (5, .long a5), (7, .int (a7 + (1 : Int32)))] [] w) : zm_T zd_H d mX8_chanceAbove Q 78 [(0, .ref 0), (1, .int a1), (2, .int a2), (3, .int a3), (4, .int a4), (5, .long a5), (7, .int a7)] [] w := by
  refine zm_iinc 6 dX8_chanceAbove_78 (x := a7) (v := (a7 + (1 : Int32))) rfl rfl (Nat.le_of_ble_eq_true rfl) (ls' := [(7, .int (a7 + (1 : Int32))), (0, .ref 0), (1, .int a1), (2, .int a2), (3, .int a3), (4, .int a4), (5, .long a5)]) rfl ?_
  refine zm_goto 6 dX8_chanceAbove_81 (by decide) ?_
  refine zm_sub [1, 2, 3, 4, 5, 6, 0] rfl ?_
  exact k
theorem gX8_chanceAbove_84 {d : Nat} {Q : Value → zm_S → Prop} {w : zm_S} {a5 : Int64} (k : Q (.long a5) w) : zm_T zd_H d mX8_chanceAbove Q 84 [(5, .long a5)] [] w := by
  refine zm_lload (x := a5) 0 dX8_chanceAbove_84 rfl ?_
  exact zm_lreturn dX8_chanceAbove_86 rfl k
theorem gX8_areLots_0 {d : Nat} {Q : Value → zm_S → Prop} {w : zm_S} {a0 : Int32} {a1 : Int32} {Q' : Value → zm_S → Prop} (hC : zm_C zd_H d mX8_in [.long ((a0).toInt64), .long (0 : Int64), .long (16 : Int64)] w Q') (k : ∀ (r : Int32) (u : zm_S), Q' (.int r) u → zm_T zd_H (d + 1) mX8_areLots Q 9 [(1, .int a1)] [.int r] u) : zm_T zd_H (d + 1) mX8_areLots Q 0 [(0, .int a0), (1, .int a1)] [] w := by
  refine zm_iload_n (x := a0) 0 dX8_areLots_0 rfl rfl ?_
  refine zm_i2l dX8_areLots_1 ?_
  refine zm_lconst dX8_areLots_2 (v := (0 : Int64)) (by decide) ?_
  refine zm_ldc2_w dX8_areLots_3 kcX8_282 ?_
  refine zm_callSz (as := [.long ((a0).toInt64), .long (0 : Int64), .long (16 : Int64)]) (rest := []) dX8_areLots_6 rfl mtX8_in lkX8_78 rfl (Nat.le_of_ble_eq_true rfl) hC rfl (fun r u hq => ?_)
  refine zm_sub [1] rfl ?_
  exact k r u hq
theorem gX8_areLots_9 {d : Nat} {Q : Value → zm_S → Prop} {w : zm_S} {a1 : Int32} {s0 : Int32} (kt : s0 = 0 → zm_T zd_H d mX8_areLots Q 28 [] [] w) (kf : ¬ s0 = 0 → zm_T zd_H d mX8_areLots Q 12 [(1, .int a1)] [] w) : zm_T zd_H d mX8_areLots Q 9 [(1, .int a1)] [.int s0] w := by
  refine zm_if_eq 28 dX8_areLots_9 (by decide) (fun h => ?_) (fun h => ?_)
  · refine zm_sub [] rfl ?_
    exact kt h
  · exact kf h
theorem gX8_areLots_12 {d : Nat} {Q : Value → zm_S → Prop} {w : zm_S} {a1 : Int32} {Q' : Value → zm_S → Prop} (hC : zm_C zd_H d mX8_in [.long ((a1).toInt64), .long (0 : Int64), .long (16 : Int64)] w Q') (k : ∀ (r : Int32) (u : zm_S), Q' (.int r) u → zm_T zd_H (d + 1) mX8_areLots Q 21 [] [.int r] u) : zm_T zd_H (d + 1) mX8_areLots Q 12 [(1, .int a1)] [] w := by
  refine zm_iload_n (x := a1) 0 dX8_areLots_12 rfl rfl ?_
  refine zm_i2l dX8_areLots_13 ?_
  refine zm_lconst dX8_areLots_14 (v := (0 : Int64)) (by decide) ?_
  refine zm_ldc2_w dX8_areLots_15 kcX8_282 ?_
  refine zm_callSz (as := [.long ((a1).toInt64), .long (0 : Int64), .long (16 : Int64)]) (rest := []) dX8_areLots_18 rfl mtX8_in lkX8_78 rfl (Nat.le_of_ble_eq_true rfl) hC rfl (fun r u hq => ?_)
  refine zm_sub [] rfl ?_
  exact k r u hq
theorem gX8_areLots_21 {d : Nat} {Q : Value → zm_S → Prop} {w : zm_S} {s0 : Int32} (kt : s0 = 0 → zm_T zd_H d mX8_areLots Q 28 [] [] w) (kf : ¬ s0 = 0 → zm_T zd_H d mX8_areLots Q 24 [] [] w) : zm_T zd_H d mX8_areLots Q 21 [] [.int s0] w := by
  refine zm_if_eq 28 dX8_areLots_21 (by decide) (fun h => ?_) (fun h => ?_)
  · exact kt h
  · exact kf h
theorem gX8_areLots_24 {d : Nat} {Q : Value → zm_S → Prop} {w : zm_S} (k : Q (.int (1 : Int32)) w) : zm_T zd_H d mX8_areLots Q 24 [] [] w := by
  refine zm_iconst dX8_areLots_24 (v := (1 : Int32)) (by decide) ?_
  refine zm_goto 29 dX8_areLots_25 (by decide) ?_
  exact zm_zreturn dX8_areLots_29 rfl (by decide) k
theorem gX8_areLots_28 {d : Nat} {Q : Value → zm_S → Prop} {w : zm_S} (k : Q (.int (0 : Int32)) w) : zm_T zd_H d mX8_areLots Q 28 [] [] w := by
  refine zm_iconst dX8_areLots_28 (v := (0 : Int32)) (by decide) ?_
  exact zm_zreturn dX8_areLots_29 rfl (by decide) k
theorem gX8_chance_0 {d : Nat} {Q : Value → zm_S → Prop} {w : zm_S} {a1 : Int32} {a2 : Int32} {a3 : Int32} {a4 : Int32} {a5 : Int32} {Q' : Value → zm_S → Prop} (hC : zm_C zd_H d mX8_isPupil [.int a1] w Q') (k : ∀ (r : Int32) (u : zm_S), Q' (.int r) u → zm_T zd_H (d + 1) mX8_chance Q 4 [(0, .ref 0), (1, .int a1), (2, .int a2), (3, .int a3), (4, .int a4), (5, .int a5)] [.int r] u) : zm_T zd_H (d + 1) mX8_chance Q 0 [(0, .ref 0), (1, .int a1), (2, .int a2), (3, .int a3), (4, .int a4), (5, .int a5)] [] w := by
  refine zm_iload_n (x := a1) 1 dX8_chance_0 rfl rfl ?_
  refine zm_callSz (as := [.int a1]) (rest := []) dX8_chance_1 rfl mtX8_isPupil lkX8_123 rfl (Nat.le_of_ble_eq_true rfl) hC rfl (fun r u hq => ?_)
  exact k r u hq
theorem gX8_chance_4 {d : Nat} {Q : Value → zm_S → Prop} {w : zm_S} {a1 : Int32} {a2 : Int32} {a3 : Int32} {a4 : Int32} {a5 : Int32} {s0 : Int32} (kt : s0 = 0 → zm_T zd_H d mX8_chance Q 36 [] [] w) (kf : ¬ s0 = 0 → zm_T zd_H d mX8_chance Q 7 [(0, .ref 0), (1, .int a1), (2, .int a2), (3, .int a3), (4, .int a4), (5, .int a5)] [] w) : zm_T zd_H d mX8_chance Q 4 [(0, .ref 0), (1, .int a1), (2, .int a2), (3, .int a3), (4, .int a4), (5, .int a5)] [.int s0] w := by
  refine zm_if_eq 36 dX8_chance_4 (by decide) (fun h => ?_) (fun h => ?_)
  · refine zm_sub [] rfl ?_
    exact kt h
  · exact kf h
theorem gX8_chance_7 {d : Nat} {Q : Value → zm_S → Prop} {w : zm_S} {a1 : Int32} {a2 : Int32} {a3 : Int32} {a4 : Int32} {a5 : Int32} {Q' : Value → zm_S → Prop} (hC : zm_C zd_H d mX8_in [.long ((a2).toInt64), .long (0 : Int64), .long (127 : Int64)] w Q') (k : ∀ (r : Int32) (u : zm_S), Q' (.int r) u → zm_T zd_H (d + 1) mX8_chance Q 16 [(0, .ref 0), (1, .int a1), (2, .int a2), (3, .int a3), (4, .int a4), (5, .int a5)] [.int r] u) : zm_T zd_H (d + 1) mX8_chance Q 7 [(0, .ref 0), (1, .int a1), (2, .int a2), (3, .int a3), (4, .int a4), (5, .int a5)] [] w := by
  refine zm_iload_n (x := a2) 2 dX8_chance_7 rfl rfl ?_
  refine zm_i2l dX8_chance_8 ?_
  refine zm_lconst dX8_chance_9 (v := (0 : Int64)) (by decide) ?_
  refine zm_ldc2_w dX8_chance_10 kcX8_195 ?_
  refine zm_callSz (as := [.long ((a2).toInt64), .long (0 : Int64), .long (127 : Int64)]) (rest := []) dX8_chance_13 rfl mtX8_in lkX8_78 rfl (Nat.le_of_ble_eq_true rfl) hC rfl (fun r u hq => ?_)
  exact k r u hq
theorem gX8_chance_16 {d : Nat} {Q : Value → zm_S → Prop} {w : zm_S} {a1 : Int32} {a2 : Int32} {a3 : Int32} {a4 : Int32} {a5 : Int32} {s0 : Int32} (kt : s0 = 0 → zm_T zd_H d mX8_chance Q 36 [] [] w) (kf : ¬ s0 = 0 → zm_T zd_H d mX8_chance Q 19 [(0, .ref 0), (1, .int a1), (2, .int a2), (3, .int a3), (4, .int a4), (5, .int a5)] [] w) : zm_T zd_H d mX8_chance Q 16 [(0, .ref 0), (1, .int a1), (2, .int a2), (3, .int a3), (4, .int a4), (5, .int a5)] [.int s0] w := by
  refine zm_if_eq 36 dX8_chance_16 (by decide) (fun h => ?_) (fun h => ?_)
  · refine zm_sub [] rfl ?_
    exact kt h
  · exact kf h
theorem gX8_chance_19 {d : Nat} {Q : Value → zm_S → Prop} {w : zm_S} {a1 : Int32} {a2 : Int32} {a3 : Int32} {a4 : Int32} {a5 : Int32} {Q' : Value → zm_S → Prop} (hC : zm_C zd_H d mX8_areLots [.int a3, .int a4] w Q') (k : ∀ (r : Int32) (u : zm_S), Q' (.int r) u → zm_T zd_H (d + 1) mX8_chance Q 25 [(0, .ref 0), (1, .int a1), (2, .int a2), (3, .int a3), (4, .int a4), (5, .int a5)] [.int r] u) : zm_T zd_H (d + 1) mX8_chance Q 19 [(0, .ref 0), (1, .int a1), (2, .int a2), (3, .int a3), (4, .int a4), (5, .int a5)] [] w := by
  refine zm_iload_n (x := a3) 3 dX8_chance_19 rfl rfl ?_
  refine zm_iload (x := a4) 4 dX8_chance_20 rfl ?_
  refine zm_callSz (as := [.int a3, .int a4]) (rest := []) dX8_chance_22 rfl mtX8_areLots lkX8_284 rfl (Nat.le_of_ble_eq_true rfl) hC rfl (fun r u hq => ?_)
  exact k r u hq
theorem gX8_chance_25 {d : Nat} {Q : Value → zm_S → Prop} {w : zm_S} {a1 : Int32} {a2 : Int32} {a3 : Int32} {a4 : Int32} {a5 : Int32} {s0 : Int32} (kt : s0 = 0 → zm_T zd_H d mX8_chance Q 36 [] [] w) (kf : ¬ s0 = 0 → zm_T zd_H d mX8_chance Q 28 [(0, .ref 0), (1, .int a1), (2, .int a2), (3, .int a3), (4, .int a4), (5, .int a5)] [] w) : zm_T zd_H d mX8_chance Q 25 [(0, .ref 0), (1, .int a1), (2, .int a2), (3, .int a3), (4, .int a4), (5, .int a5)] [.int s0] w := by
  refine zm_if_eq 36 dX8_chance_25 (by decide) (fun h => ?_) (fun h => ?_)
  · refine zm_sub [] rfl ?_
    exact kt h
  · exact kf h
theorem gX8_chance_28 {d : Nat} {Q : Value → zm_S → Prop} {w : zm_S} {a1 : Int32} {a2 : Int32} {a3 : Int32} {a4 : Int32} {a5 : Int32} {Q' : Value → zm_S → Prop} (hC : zm_C zd_H d mX8_isTwo [.int a5] w Q') (k : ∀ (r : Int32) (u : zm_S), Q' (.int r) u → zm_T zd_H (d + 1) mX8_chance Q 33 [(0, .ref 0), (1, .int a1), (2, .int a2), (3, .int a3), (4, .int a4), (5, .int a5)] [.int r] u) : zm_T zd_H (d + 1) mX8_chance Q 28 [(0, .ref 0), (1, .int a1), (2, .int a2), (3, .int a3), (4, .int a4), (5, .int a5)] [] w := by
  refine zm_iload (x := a5) 5 dX8_chance_28 rfl ?_
  refine zm_callSz (as := [.int a5]) (rest := []) dX8_chance_30 rfl mtX8_isTwo lkX8_179 rfl (Nat.le_of_ble_eq_true rfl) hC rfl (fun r u hq => ?_)
  exact k r u hq
theorem gX8_chance_33 {d : Nat} {Q : Value → zm_S → Prop} {w : zm_S} {a1 : Int32} {a2 : Int32} {a3 : Int32} {a4 : Int32} {a5 : Int32} {s0 : Int32} (kt : ¬ s0 = 0 → zm_T zd_H d mX8_chance Q 42 [(0, .ref 0), (1, .int a1), (2, .int a2), (3, .int a3), (4, .int a4), (5, .int a5)] [] w) (kf : s0 = 0 → zm_T zd_H d mX8_chance Q 36 [] [] w) : zm_T zd_H d mX8_chance Q 33 [(0, .ref 0), (1, .int a1), (2, .int a2), (3, .int a3), (4, .int a4), (5, .int a5)] [.int s0] w := by
  refine zm_if_ne 42 dX8_chance_33 (by decide) (fun h => ?_) (fun h => ?_)
  · exact kt h
  · refine zm_sub [] rfl ?_
    exact kf h
theorem gX8_chance_36 {d : Nat} {Q : Value → zm_S → Prop} {w : zm_S} {Q' : Value → zm_S → Prop} (hC : zm_C zd_H d mX8_no [.int (-2 : Int32)] w Q') (k : ∀ (r : Int64) (u : zm_S), Q' (.long r) u → zm_T zd_H (d + 1) mX8_chance Q 41 [] [.long r] u) : zm_T zd_H (d + 1) mX8_chance Q 36 [] [] w := by
  refine zm_bipush dX8_chance_36 (v := (-2 : Int32)) (by decide) ?_
  refine zm_callSl (as := [.int (-2 : Int32)]) (rest := []) dX8_chance_38 rfl mtX8_no lkX8_234 rfl (Nat.le_of_ble_eq_true rfl) hC rfl (fun r u hq => ?_)
  exact k r u hq
theorem gX8_chance_41 {d : Nat} {Q : Value → zm_S → Prop} {w : zm_S} {s0 : Int64} (k : Q (.long s0) w) : zm_T zd_H d mX8_chance Q 41 [] [.long s0] w := by
  exact zm_lreturn dX8_chance_41 rfl k
theorem gX8_chance_42 {d : Nat} {Q : Value → zm_S → Prop} {w : zm_S} {a1 : Int32} {a2 : Int32} {a3 : Int32} {a4 : Int32} {a5 : Int32} {Q' : Value → zm_S → Prop} (hC : zm_C zd_H d mX8_findSays [.ref 0] w Q') (k : ∀ (u : zm_S), Q' .null u → zm_T zd_H (d + 1) mX8_chance Q 46 [(0, .ref 0), (1, .int a1), (2, .int a2), (3, .int a3), (4, .int a4), (5, .int a5)] [] u) : zm_T zd_H (d + 1) mX8_chance Q 42 [(0, .ref 0), (1, .int a1), (2, .int a2), (3, .int a3), (4, .int a4), (5, .int a5)] [] w := by
  refine zm_aload_n (x := 0) 0 dX8_chance_42 rfl rfl ?_
  refine zm_callVv (as := []) (rest := []) dX8_chance_43 rfl mtX8_findSays lkX8_136 zd_H0 (C := RX8) rfl rfl rfl (Nat.le_of_ble_eq_true rfl) hC rfl (fun u hq => ?_)
  exact k u hq
theorem gX8_chance_46 {d : Nat} {Q : Value → zm_S → Prop} {w : zm_S} {a1 : Int32} {a2 : Int32} {a3 : Int32} {a4 : Int32} {a5 : Int32} (k : zm_T zd_H d mX8_chance Q 52 [(0, .ref 0), (1, .int a1), (2, .int a2), (3, .int a3), (4, .int a4), (5, .int a5), (6, .long (1 : Int64)), (8, .int (0 : Int32))] [] w) : zm_T zd_H d mX8_chance Q 46 [(0, .ref 0), (1, .int a1), (2, .int a2), (3, .int a3), (4, .int a4), (5, .int a5)] [] w := by
  refine zm_lconst dX8_chance_46 (v := (1 : Int64)) (by decide) ?_
  refine zm_lstore dX8_chance_47 (Nat.le_of_ble_eq_true rfl) (ls' := [(6, .long (1 : Int64)), (0, .ref 0), (1, .int a1), (2, .int a2), (3, .int a3), (4, .int a4), (5, .int a5)]) rfl ?_
  refine zm_iconst dX8_chance_49 (v := (0 : Int32)) (by decide) ?_
  refine zm_istore dX8_chance_50 (Nat.le_of_ble_eq_true rfl) (ls' := [(8, .int (0 : Int32)), (6, .long (1 : Int64)), (0, .ref 0), (1, .int a1), (2, .int a2), (3, .int a3), (4, .int a4), (5, .int a5)]) rfl ?_
  refine zm_sub [2, 3, 4, 5, 6, 7, 1, 0] rfl ?_
  exact k
theorem gX8_chance_52 {d : Nat} {Q : Value → zm_S → Prop} {w : zm_S} {a1 : Int32} {a2 : Int32} {a3 : Int32} {a4 : Int32} {a5 : Int32} {a6 : Int64} {a8 : Int32} {Q' : Value → zm_S → Prop} (hC : zm_C zd_H d mX8_n [.ref 0] w Q') (k : ∀ (r : Int32) (u : zm_S), Q' (.int r) u → zm_T zd_H (d + 1) mX8_chance Q 58 [(0, .ref 0), (1, .int a1), (2, .int a2), (3, .int a3), (4, .int a4), (5, .int a5), (6, .long a6), (8, .int a8)] [.int r, .int a8] u) : zm_T zd_H (d + 1) mX8_chance Q 52 [(0, .ref 0), (1, .int a1), (2, .int a2), (3, .int a3), (4, .int a4), (5, .int a5), (6, .long a6), (8, .int a8)] [] w := by
  refine zm_iload (x := a8) 7 dX8_chance_52 rfl ?_
  refine zm_aload_n (x := 0) 0 dX8_chance_54 rfl rfl ?_
  refine zm_callVi (as := []) (rest := [.int a8]) dX8_chance_55 rfl mtX8_n lkX8_111 zd_H0 (C := RX8) rfl rfl rfl (Nat.le_of_ble_eq_true rfl) hC rfl (fun r u hq => ?_)
  exact k r u hq
theorem gX8_chance_58 {d : Nat} {Q : Value → zm_S → Prop} {w : zm_S} {a1 : Int32} {a2 : Int32} {a3 : Int32} {a4 : Int32} {a5 : Int32} {a6 : Int64} {a8 : Int32} {s0 : Int32} {s1 : Int32} (kt : s0 ≤ s1 → zm_T zd_H d mX8_chance Q 95 [(0, .ref 0), (1, .int a1), (2, .int a2), (3, .int a3), (4, .int a4), (5, .int a5), (6, .long a6)] [] w) (kf : ¬ s0 ≤ s1 → zm_T zd_H d mX8_chance Q 61 [(0, .ref 0), (1, .int a1), (2, .int a2), (3, .int a3), (4, .int a4), (5, .int a5), (6, .long a6), (8, .int a8)] [] w) : zm_T zd_H d mX8_chance Q 58 [(0, .ref 0), (1, .int a1), (2, .int a2), (3, .int a3), (4, .int a4), (5, .int a5), (6, .long a6), (8, .int a8)] [.int s0, .int s1] w := by
  refine zm_icmp_ge 95 dX8_chance_58 (by decide) (fun h => ?_) (fun h => ?_)
  · refine zm_sub [0, 1, 2, 3, 4, 5, 6] rfl ?_
    exact kt h
  · exact kf h
theorem gX8_chance_61 {d : Nat} {Q : Value → zm_S → Prop} {w : zm_S} {a1 : Int32} {a2 : Int32} {a3 : Int32} {a4 : Int32} {a5 : Int32} {a6 : Int64} {a8 : Int32} (hi74 : vp_in (((7 : Int32) * a1) + a8) 84) (kt : ¬ (w.1 10 ((((7 : Int32) * a1) + a8)).toNatClampNeg) = (2 : Int32) → zm_T zd_H d mX8_chance Q 83 [(0, .ref 0), (1, .int a1), (2, .int a2), (3, .int a3), (4, .int a4), (5, .int a5), (8, .int a8)] [.long a6] w) (kf : (w.1 10 ((((7 : Int32) * a1) + a8)).toNatClampNeg) = (2 : Int32) → zm_T zd_H d mX8_chance Q 79 [(0, .ref 0), (1, .int a1), (2, .int a2), (3, .int a3), (4, .int a4), (5, .int a5), (8, .int a8)] [.long a6] w) : zm_T zd_H d mX8_chance Q 61 [(0, .ref 0), (1, .int a1), (2, .int a2), (3, .int a3), (4, .int a4), (5, .int a5), (6, .long a6), (8, .int a8)] [] w := by
  refine zm_lload (x := a6) 6 dX8_chance_61 rfl ?_
  refine zm_aload_n (x := 0) 0 dX8_chance_63 rfl rfl ?_
  refine zm_getf (v := .ref 10) (j := 11) dX8_chance_64 clX8 flX8_37 (Nat.le_of_ble_eq_true rfl) zd_H0 rfl rfl ?_
  refine zm_bipush dX8_chance_67 (v := (7 : Int32)) (by decide) ?_
  refine zm_iload_n (x := a1) 1 dX8_chance_69 rfl rfl ?_
  refine zm_imul dX8_chance_70 ?_
  refine zm_iload (x := a8) 7 dX8_chance_71 rfl ?_
  refine zm_iadd dX8_chance_73 ?_
  refine zm_iald dX8_chance_74 zd_H10 hi74 ?_
  refine zm_iconst dX8_chance_75 (v := (2 : Int32)) (by decide) ?_
  refine zm_icmp_ne 83 dX8_chance_76 (by decide) (fun h => ?_) (fun h => ?_)
  · refine zm_sub [0, 1, 2, 3, 4, 5, 7] rfl ?_
    exact kt h
  · refine zm_sub [0, 1, 2, 3, 4, 5, 7] rfl ?_
    exact kf h
theorem gX8_chance_79 {d : Nat} {Q : Value → zm_S → Prop} {w : zm_S} {a1 : Int32} {a2 : Int32} {a3 : Int32} {a4 : Int32} {a5 : Int32} {a8 : Int32} {s0 : Int64} (k : zm_T zd_H d mX8_chance Q 86 [(0, .ref 0), (1, .int a1), (2, .int a2), (3, .int a3), (4, .int a4), (5, .int a5), (8, .int a8)] [.long (1 : Int64), .long s0] w) : zm_T zd_H d mX8_chance Q 79 [(0, .ref 0), (1, .int a1), (2, .int a2), (3, .int a3), (4, .int a4), (5, .int a5), (8, .int a8)] [.long s0] w := by
  refine zm_lconst dX8_chance_79 (v := (1 : Int64)) (by decide) ?_
  refine zm_goto 86 dX8_chance_80 (by decide) ?_
  exact k
theorem gX8_chance_83 {d : Nat} {Q : Value → zm_S → Prop} {w : zm_S} {a1 : Int32} {a2 : Int32} {a3 : Int32} {a4 : Int32} {a5 : Int32} {a8 : Int32} {s0 : Int64} (k : zm_T zd_H d mX8_chance Q 86 [(0, .ref 0), (1, .int a1), (2, .int a2), (3, .int a3), (4, .int a4), (5, .int a5), (8, .int a8)] [.long (16 : Int64), .long s0] w) : zm_T zd_H d mX8_chance Q 83 [(0, .ref 0), (1, .int a1), (2, .int a2), (3, .int a3), (4, .int a4), (5, .int a5), (8, .int a8)] [.long s0] w := by
  refine zm_ldc2_w dX8_chance_83 kcX8_282 ?_
  exact k
theorem gX8_chance_86 {d : Nat} {Q : Value → zm_S → Prop} {w : zm_S} {a1 : Int32} {a2 : Int32} {a3 : Int32} {a4 : Int32} {a5 : Int32} {a8 : Int32} {s0 : Int64} {s1 : Int64} (k : zm_T zd_H d mX8_chance Q 52 [(0, .ref 0), (1, .int a1), (2, .int a2), (3, .int a3), (4, .int a4), (5, .int a5), (6, .long (s1 * s0)), (8, .int (a8 + (1 : Int32)))] [] w) : zm_T zd_H d mX8_chance Q 86 [(0, .ref 0), (1, .int a1), (2, .int a2), (3, .int a3), (4, .int a4), (5, .int a5), (8, .int a8)] [.long s0, .long s1] w := by
  refine zm_lmul dX8_chance_86 ?_
  refine zm_lstore dX8_chance_87 (Nat.le_of_ble_eq_true rfl) (ls' := [(6, .long (s1 * s0)), (0, .ref 0), (1, .int a1), (2, .int a2), (3, .int a3), (4, .int a4), (5, .int a5), (8, .int a8)]) rfl ?_
  refine zm_iinc 7 dX8_chance_89 (x := a8) (v := (a8 + (1 : Int32))) rfl rfl (Nat.le_of_ble_eq_true rfl) (ls' := [(8, .int (a8 + (1 : Int32))), (6, .long (s1 * s0)), (0, .ref 0), (1, .int a1), (2, .int a2), (3, .int a3), (4, .int a4), (5, .int a5)]) rfl ?_
  refine zm_goto 52 dX8_chance_92 (by decide) ?_
  refine zm_sub [2, 3, 4, 5, 6, 7, 1, 0] rfl ?_
  exact k
theorem gX8_chance_95 {d : Nat} {Q : Value → zm_S → Prop} {w : zm_S} {a1 : Int32} {a2 : Int32} {a3 : Int32} {a4 : Int32} {a5 : Int32} {a6 : Int64} {Q' : Value → zm_S → Prop} (hC : zm_C zd_H d mX8_chanceAbove [.ref 0, .int a1, .int a2, .int a3, .int a4] w Q') (k : ∀ (r : Int64) (u : zm_S), Q' (.long r) u → zm_T zd_H (d + 1) mX8_chance Q 104 [(5, .int a5), (6, .long a6)] [.long r] u) : zm_T zd_H (d + 1) mX8_chance Q 95 [(0, .ref 0), (1, .int a1), (2, .int a2), (3, .int a3), (4, .int a4), (5, .int a5), (6, .long a6)] [] w := by
  refine zm_aload_n (x := 0) 0 dX8_chance_95 rfl rfl ?_
  refine zm_iload_n (x := a1) 1 dX8_chance_96 rfl rfl ?_
  refine zm_iload_n (x := a2) 2 dX8_chance_97 rfl rfl ?_
  refine zm_iload_n (x := a3) 3 dX8_chance_98 rfl rfl ?_
  refine zm_iload (x := a4) 4 dX8_chance_99 rfl ?_
  refine zm_callVl (as := [.int a1, .int a2, .int a3, .int a4]) (rest := []) dX8_chance_101 rfl mtX8_chanceAbove lkX8_287 zd_H0 (C := RX8) rfl rfl rfl (Nat.le_of_ble_eq_true rfl) hC rfl (fun r u hq => ?_)
  refine zm_sub [5, 6] rfl ?_
  exact k r u hq
theorem gX8_chance_104 {d : Nat} {Q : Value → zm_S → Prop} {w : zm_S} {a5 : Int32} {a6 : Int64} {s0 : Int64} {Q' : Value → zm_S → Prop} (hC : zm_C zd_H d mX8_part [.long s0, .long a6, .int a5] w Q') (k : ∀ (r : Int64) (u : zm_S), Q' (.long r) u → zm_T zd_H (d + 1) mX8_chance Q 111 [] [.long r] u) : zm_T zd_H (d + 1) mX8_chance Q 104 [(5, .int a5), (6, .long a6)] [.long s0] w := by
  refine zm_lload (x := a6) 1 dX8_chance_104 rfl ?_
  refine zm_iload (x := a5) 0 dX8_chance_106 rfl ?_
  refine zm_callSl (as := [.long s0, .long a6, .int a5]) (rest := []) dX8_chance_108 rfl mtX8_part lkX8_241 rfl (Nat.le_of_ble_eq_true rfl) hC rfl (fun r u hq => ?_)
  refine zm_sub [] rfl ?_
  exact k r u hq
theorem gX8_chance_111 {d : Nat} {Q : Value → zm_S → Prop} {w : zm_S} {s0 : Int64} (k : Q (.long s0) w) : zm_T zd_H d mX8_chance Q 111 [] [.long s0] w := by
  exact zm_lreturn dX8_chance_111 rfl k
theorem gX8_share_0 {d : Nat} {Q : Value → zm_S → Prop} {w : zm_S} {a1 : Int32} {a2 : Int32} {a3 : Int32} {a4 : Int32} {a5 : Int32} {Q' : Value → zm_S → Prop} (hC : zm_C zd_H d mX8_isPupil [.int a1] w Q') (k : ∀ (r : Int32) (u : zm_S), Q' (.int r) u → zm_T zd_H (d + 1) mX8_share Q 4 [(0, .ref 0), (1, .int a1), (2, .int a2), (3, .int a3), (4, .int a4), (5, .int a5)] [.int r] u) : zm_T zd_H (d + 1) mX8_share Q 0 [(0, .ref 0), (1, .int a1), (2, .int a2), (3, .int a3), (4, .int a4), (5, .int a5)] [] w := by
  refine zm_iload_n (x := a1) 1 dX8_share_0 rfl rfl ?_
  refine zm_callSz (as := [.int a1]) (rest := []) dX8_share_1 rfl mtX8_isPupil lkX8_123 rfl (Nat.le_of_ble_eq_true rfl) hC rfl (fun r u hq => ?_)
  exact k r u hq
theorem gX8_share_4 {d : Nat} {Q : Value → zm_S → Prop} {w : zm_S} {a1 : Int32} {a2 : Int32} {a3 : Int32} {a4 : Int32} {a5 : Int32} {s0 : Int32} (kt : s0 = 0 → zm_T zd_H d mX8_share Q 36 [] [] w) (kf : ¬ s0 = 0 → zm_T zd_H d mX8_share Q 7 [(0, .ref 0), (1, .int a1), (2, .int a2), (3, .int a3), (4, .int a4), (5, .int a5)] [] w) : zm_T zd_H d mX8_share Q 4 [(0, .ref 0), (1, .int a1), (2, .int a2), (3, .int a3), (4, .int a4), (5, .int a5)] [.int s0] w := by
  refine zm_if_eq 36 dX8_share_4 (by decide) (fun h => ?_) (fun h => ?_)
  · refine zm_sub [] rfl ?_
    exact kt h
  · exact kf h
theorem gX8_share_7 {d : Nat} {Q : Value → zm_S → Prop} {w : zm_S} {a1 : Int32} {a2 : Int32} {a3 : Int32} {a4 : Int32} {a5 : Int32} {Q' : Value → zm_S → Prop} (hC : zm_C zd_H d mX8_in [.long ((a2).toInt64), .long (0 : Int64), .long (127 : Int64)] w Q') (k : ∀ (r : Int32) (u : zm_S), Q' (.int r) u → zm_T zd_H (d + 1) mX8_share Q 16 [(0, .ref 0), (1, .int a1), (2, .int a2), (3, .int a3), (4, .int a4), (5, .int a5)] [.int r] u) : zm_T zd_H (d + 1) mX8_share Q 7 [(0, .ref 0), (1, .int a1), (2, .int a2), (3, .int a3), (4, .int a4), (5, .int a5)] [] w := by
  refine zm_iload_n (x := a2) 2 dX8_share_7 rfl rfl ?_
  refine zm_i2l dX8_share_8 ?_
  refine zm_lconst dX8_share_9 (v := (0 : Int64)) (by decide) ?_
  refine zm_ldc2_w dX8_share_10 kcX8_195 ?_
  refine zm_callSz (as := [.long ((a2).toInt64), .long (0 : Int64), .long (127 : Int64)]) (rest := []) dX8_share_13 rfl mtX8_in lkX8_78 rfl (Nat.le_of_ble_eq_true rfl) hC rfl (fun r u hq => ?_)
  exact k r u hq
theorem gX8_share_16 {d : Nat} {Q : Value → zm_S → Prop} {w : zm_S} {a1 : Int32} {a2 : Int32} {a3 : Int32} {a4 : Int32} {a5 : Int32} {s0 : Int32} (kt : s0 = 0 → zm_T zd_H d mX8_share Q 36 [] [] w) (kf : ¬ s0 = 0 → zm_T zd_H d mX8_share Q 19 [(0, .ref 0), (1, .int a1), (2, .int a2), (3, .int a3), (4, .int a4), (5, .int a5)] [] w) : zm_T zd_H d mX8_share Q 16 [(0, .ref 0), (1, .int a1), (2, .int a2), (3, .int a3), (4, .int a4), (5, .int a5)] [.int s0] w := by
  refine zm_if_eq 36 dX8_share_16 (by decide) (fun h => ?_) (fun h => ?_)
  · refine zm_sub [] rfl ?_
    exact kt h
  · exact kf h
theorem gX8_share_19 {d : Nat} {Q : Value → zm_S → Prop} {w : zm_S} {a1 : Int32} {a2 : Int32} {a3 : Int32} {a4 : Int32} {a5 : Int32} {Q' : Value → zm_S → Prop} (hC : zm_C zd_H d mX8_areLots [.int a3, .int a4] w Q') (k : ∀ (r : Int32) (u : zm_S), Q' (.int r) u → zm_T zd_H (d + 1) mX8_share Q 25 [(0, .ref 0), (1, .int a1), (2, .int a2), (3, .int a3), (4, .int a4), (5, .int a5)] [.int r] u) : zm_T zd_H (d + 1) mX8_share Q 19 [(0, .ref 0), (1, .int a1), (2, .int a2), (3, .int a3), (4, .int a4), (5, .int a5)] [] w := by
  refine zm_iload_n (x := a3) 3 dX8_share_19 rfl rfl ?_
  refine zm_iload (x := a4) 4 dX8_share_20 rfl ?_
  refine zm_callSz (as := [.int a3, .int a4]) (rest := []) dX8_share_22 rfl mtX8_areLots lkX8_284 rfl (Nat.le_of_ble_eq_true rfl) hC rfl (fun r u hq => ?_)
  exact k r u hq
theorem gX8_share_25 {d : Nat} {Q : Value → zm_S → Prop} {w : zm_S} {a1 : Int32} {a2 : Int32} {a3 : Int32} {a4 : Int32} {a5 : Int32} {s0 : Int32} (kt : s0 = 0 → zm_T zd_H d mX8_share Q 36 [] [] w) (kf : ¬ s0 = 0 → zm_T zd_H d mX8_share Q 28 [(0, .ref 0), (1, .int a1), (2, .int a2), (3, .int a3), (4, .int a4), (5, .int a5)] [] w) : zm_T zd_H d mX8_share Q 25 [(0, .ref 0), (1, .int a1), (2, .int a2), (3, .int a3), (4, .int a4), (5, .int a5)] [.int s0] w := by
  refine zm_if_eq 36 dX8_share_25 (by decide) (fun h => ?_) (fun h => ?_)
  · refine zm_sub [] rfl ?_
    exact kt h
  · exact kf h
theorem gX8_share_28 {d : Nat} {Q : Value → zm_S → Prop} {w : zm_S} {a1 : Int32} {a2 : Int32} {a3 : Int32} {a4 : Int32} {a5 : Int32} {Q' : Value → zm_S → Prop} (hC : zm_C zd_H d mX8_isTwo [.int a5] w Q') (k : ∀ (r : Int32) (u : zm_S), Q' (.int r) u → zm_T zd_H (d + 1) mX8_share Q 33 [(0, .ref 0), (1, .int a1), (2, .int a2), (3, .int a3), (4, .int a4), (5, .int a5)] [.int r] u) : zm_T zd_H (d + 1) mX8_share Q 28 [(0, .ref 0), (1, .int a1), (2, .int a2), (3, .int a3), (4, .int a4), (5, .int a5)] [] w := by
  refine zm_iload (x := a5) 5 dX8_share_28 rfl ?_
  refine zm_callSz (as := [.int a5]) (rest := []) dX8_share_30 rfl mtX8_isTwo lkX8_179 rfl (Nat.le_of_ble_eq_true rfl) hC rfl (fun r u hq => ?_)
  exact k r u hq
theorem gX8_share_33 {d : Nat} {Q : Value → zm_S → Prop} {w : zm_S} {a1 : Int32} {a2 : Int32} {a3 : Int32} {a4 : Int32} {a5 : Int32} {s0 : Int32} (kt : ¬ s0 = 0 → zm_T zd_H d mX8_share Q 42 [(0, .ref 0), (1, .int a1), (2, .int a2), (3, .int a3), (4, .int a4), (5, .int a5)] [] w) (kf : s0 = 0 → zm_T zd_H d mX8_share Q 36 [] [] w) : zm_T zd_H d mX8_share Q 33 [(0, .ref 0), (1, .int a1), (2, .int a2), (3, .int a3), (4, .int a4), (5, .int a5)] [.int s0] w := by
  refine zm_if_ne 42 dX8_share_33 (by decide) (fun h => ?_) (fun h => ?_)
  · exact kt h
  · refine zm_sub [] rfl ?_
    exact kf h
theorem gX8_share_36 {d : Nat} {Q : Value → zm_S → Prop} {w : zm_S} {Q' : Value → zm_S → Prop} (hC : zm_C zd_H d mX8_no [.int (-2 : Int32)] w Q') (k : ∀ (r : Int64) (u : zm_S), Q' (.long r) u → zm_T zd_H (d + 1) mX8_share Q 41 [] [.long r] u) : zm_T zd_H (d + 1) mX8_share Q 36 [] [] w := by
  refine zm_bipush dX8_share_36 (v := (-2 : Int32)) (by decide) ?_
  refine zm_callSl (as := [.int (-2 : Int32)]) (rest := []) dX8_share_38 rfl mtX8_no lkX8_234 rfl (Nat.le_of_ble_eq_true rfl) hC rfl (fun r u hq => ?_)
  exact k r u hq
theorem gX8_share_41 {d : Nat} {Q : Value → zm_S → Prop} {w : zm_S} {s0 : Int64} (k : Q (.long s0) w) : zm_T zd_H d mX8_share Q 41 [] [.long s0] w := by
  exact zm_lreturn dX8_share_41 rfl k
theorem gX8_share_42 {d : Nat} {Q : Value → zm_S → Prop} {w : zm_S} {a1 : Int32} {a2 : Int32} {a3 : Int32} {a4 : Int32} {a5 : Int32} {Q' : Value → zm_S → Prop} (hC : zm_C zd_H d mX8_findNeeds [.ref 0] w Q') (k : ∀ (u : zm_S), Q' .null u → zm_T zd_H (d + 1) mX8_share Q 46 [(0, .ref 0), (1, .int a1), (2, .int a2), (3, .int a3), (4, .int a4), (5, .int a5)] [] u) : zm_T zd_H (d + 1) mX8_share Q 42 [(0, .ref 0), (1, .int a1), (2, .int a2), (3, .int a3), (4, .int a4), (5, .int a5)] [] w := by
  refine zm_aload_n (x := 0) 0 dX8_share_42 rfl rfl ?_
  refine zm_callVv (as := []) (rest := []) dX8_share_43 rfl mtX8_findNeeds lkX8_258 zd_H0 (C := RX8) rfl rfl rfl (Nat.le_of_ble_eq_true rfl) hC rfl (fun u hq => ?_)
  exact k u hq
theorem gX8_share_46 {d : Nat} {Q : Value → zm_S → Prop} {w : zm_S} {a1 : Int32} {a2 : Int32} {a3 : Int32} {a4 : Int32} {a5 : Int32} {Q' : Value → zm_S → Prop} (hC : zm_C zd_H d mX8_whole [.ref 0] w Q') (k : ∀ (r : Int32) (u : zm_S), Q' (.int r) u → zm_T zd_H (d + 1) mX8_share Q 51 [(0, .ref 0), (1, .int a1), (3, .int a3), (4, .int a4), (5, .int a5)] [.int r, .int a2] u) : zm_T zd_H (d + 1) mX8_share Q 46 [(0, .ref 0), (1, .int a1), (2, .int a2), (3, .int a3), (4, .int a4), (5, .int a5)] [] w := by
  refine zm_iload_n (x := a2) 2 dX8_share_46 rfl rfl ?_
  refine zm_aload_n (x := 0) 0 dX8_share_47 rfl rfl ?_
  refine zm_callVi (as := []) (rest := [.int a2]) dX8_share_48 rfl mtX8_whole lkX8_228 zd_H0 (C := RX8) rfl rfl rfl (Nat.le_of_ble_eq_true rfl) hC rfl (fun r u hq => ?_)
  refine zm_sub [0, 1, 3, 4, 5] rfl ?_
  exact k r u hq
theorem gX8_share_51 {d : Nat} {Q : Value → zm_S → Prop} {w : zm_S} {a1 : Int32} {a3 : Int32} {a4 : Int32} {a5 : Int32} {s0 : Int32} {s1 : Int32} {Q' : Value → zm_S → Prop} (hC : zm_C zd_H d mX8_isState [.ref 0, .int (s1 &&& s0)] w Q') (k : ∀ (r : Int32) (u : zm_S), Q' (.int r) u → zm_T zd_H (d + 1) mX8_share Q 60 [(0, .ref 0), (1, .int a1), (3, .int a3), (4, .int a4), (5, .int a5), (6, .int (s1 &&& s0))] [.int r] u) : zm_T zd_H (d + 1) mX8_share Q 51 [(0, .ref 0), (1, .int a1), (3, .int a3), (4, .int a4), (5, .int a5)] [.int s0, .int s1] w := by
  refine zm_iand dX8_share_51 ?_
  refine zm_istore dX8_share_52 (Nat.le_of_ble_eq_true rfl) (ls' := [(6, .int (s1 &&& s0)), (0, .ref 0), (1, .int a1), (3, .int a3), (4, .int a4), (5, .int a5)]) rfl ?_
  refine zm_aload_n (x := 0) 1 dX8_share_54 rfl rfl ?_
  refine zm_iload (x := (s1 &&& s0)) 0 dX8_share_55 rfl ?_
  refine zm_callVz (as := [.int (s1 &&& s0)]) (rest := []) dX8_share_57 rfl mtX8_isState lkX8_261 zd_H0 (C := RX8) rfl rfl rfl (Nat.le_of_ble_eq_true rfl) hC rfl (fun r u hq => ?_)
  refine zm_sub [1, 2, 3, 4, 5, 0] rfl ?_
  exact k r u hq
theorem gX8_share_60 {d : Nat} {Q : Value → zm_S → Prop} {w : zm_S} {a1 : Int32} {a3 : Int32} {a4 : Int32} {a5 : Int32} {a6 : Int32} {s0 : Int32} (kt : ¬ s0 = 0 → zm_T zd_H d mX8_share Q 69 [(0, .ref 0), (1, .int a1), (3, .int a3), (4, .int a4), (5, .int a5), (6, .int a6)] [] w) (kf : s0 = 0 → zm_T zd_H d mX8_share Q 63 [] [] w) : zm_T zd_H d mX8_share Q 60 [(0, .ref 0), (1, .int a1), (3, .int a3), (4, .int a4), (5, .int a5), (6, .int a6)] [.int s0] w := by
  refine zm_if_ne 69 dX8_share_60 (by decide) (fun h => ?_) (fun h => ?_)
  · exact kt h
  · refine zm_sub [] rfl ?_
    exact kf h
theorem gX8_share_63 {d : Nat} {Q : Value → zm_S → Prop} {w : zm_S} {Q' : Value → zm_S → Prop} (hC : zm_C zd_H d mX8_no [.int (-2 : Int32)] w Q') (k : ∀ (r : Int64) (u : zm_S), Q' (.long r) u → zm_T zd_H (d + 1) mX8_share Q 68 [] [.long r] u) : zm_T zd_H (d + 1) mX8_share Q 63 [] [] w := by
  refine zm_bipush dX8_share_63 (v := (-2 : Int32)) (by decide) ?_
  refine zm_callSl (as := [.int (-2 : Int32)]) (rest := []) dX8_share_65 rfl mtX8_no lkX8_234 rfl (Nat.le_of_ble_eq_true rfl) hC rfl (fun r u hq => ?_)
  exact k r u hq
theorem gX8_share_68 {d : Nat} {Q : Value → zm_S → Prop} {w : zm_S} {s0 : Int64} (k : Q (.long s0) w) : zm_T zd_H d mX8_share Q 68 [] [.long s0] w := by
  exact zm_lreturn dX8_share_68 rfl k
theorem gX8_share_69 {d : Nat} {Q : Value → zm_S → Prop} {w : zm_S} {a1 : Int32} {a3 : Int32} {a4 : Int32} {a5 : Int32} {a6 : Int32} (k : zm_T zd_H d mX8_share Q 75 [(0, .ref 0), (1, .int a1), (3, .int a3), (4, .int a4), (5, .int a5), (6, .int a6), (7, .long (0 : Int64)), (9, .int (0 : Int32))] [] w) : zm_T zd_H d mX8_share Q 69 [(0, .ref 0), (1, .int a1), (3, .int a3), (4, .int a4), (5, .int a5), (6, .int a6)] [] w := by
  refine zm_lconst dX8_share_69 (v := (0 : Int64)) (by decide) ?_
  refine zm_lstore dX8_share_70 (Nat.le_of_ble_eq_true rfl) (ls' := [(7, .long (0 : Int64)), (0, .ref 0), (1, .int a1), (3, .int a3), (4, .int a4), (5, .int a5), (6, .int a6)]) rfl ?_
  refine zm_iconst dX8_share_72 (v := (0 : Int32)) (by decide) ?_
  refine zm_istore dX8_share_73 (Nat.le_of_ble_eq_true rfl) (ls' := [(9, .int (0 : Int32)), (7, .long (0 : Int64)), (0, .ref 0), (1, .int a1), (3, .int a3), (4, .int a4), (5, .int a5), (6, .int a6)]) rfl ?_
  refine zm_sub [2, 3, 4, 5, 6, 7, 1, 0] rfl ?_
  exact k
theorem gX8_share_75 {d : Nat} {Q : Value → zm_S → Prop} {w : zm_S} {a1 : Int32} {a3 : Int32} {a4 : Int32} {a5 : Int32} {a6 : Int32} {a7 : Int64} {a9 : Int32} {Q' : Value → zm_S → Prop} (hC : zm_C zd_H d mX8_whole [.ref 0] w Q') (k : ∀ (r : Int32) (u : zm_S), Q' (.int r) u → zm_T zd_H (d + 1) mX8_share Q 81 [(0, .ref 0), (1, .int a1), (3, .int a3), (4, .int a4), (5, .int a5), (6, .int a6), (7, .long a7), (9, .int a9)] [.int r, .int a9] u) : zm_T zd_H (d + 1) mX8_share Q 75 [(0, .ref 0), (1, .int a1), (3, .int a3), (4, .int a4), (5, .int a5), (6, .int a6), (7, .long a7), (9, .int a9)] [] w := by
  refine zm_iload (x := a9) 7 dX8_share_75 rfl ?_
  refine zm_aload_n (x := 0) 0 dX8_share_77 rfl rfl ?_
  refine zm_callVi (as := []) (rest := [.int a9]) dX8_share_78 rfl mtX8_whole lkX8_228 zd_H0 (C := RX8) rfl rfl rfl (Nat.le_of_ble_eq_true rfl) hC rfl (fun r u hq => ?_)
  exact k r u hq
theorem gX8_share_81 {d : Nat} {Q : Value → zm_S → Prop} {w : zm_S} {a1 : Int32} {a3 : Int32} {a4 : Int32} {a5 : Int32} {a6 : Int32} {a7 : Int64} {a9 : Int32} {s0 : Int32} {s1 : Int32} (kt : s0 < s1 → zm_T zd_H d mX8_share Q 118 [(0, .ref 0), (1, .int a1), (3, .int a3), (4, .int a4), (5, .int a5), (6, .int a6), (7, .long a7)] [] w) (kf : ¬ s0 < s1 → zm_T zd_H d mX8_share Q 84 [(0, .ref 0), (1, .int a1), (3, .int a3), (4, .int a4), (5, .int a5), (6, .int a6), (7, .long a7), (9, .int a9)] [] w) : zm_T zd_H d mX8_share Q 81 [(0, .ref 0), (1, .int a1), (3, .int a3), (4, .int a4), (5, .int a5), (6, .int a6), (7, .long a7), (9, .int a9)] [.int s0, .int s1] w := by
  refine zm_icmp_gt 118 dX8_share_81 (by decide) (fun h => ?_) (fun h => ?_)
  · refine zm_sub [0, 1, 2, 3, 4, 5, 6] rfl ?_
    exact kt h
  · exact kf h
theorem gX8_share_84 {d : Nat} {Q : Value → zm_S → Prop} {w : zm_S} {a1 : Int32} {a3 : Int32} {a4 : Int32} {a5 : Int32} {a6 : Int32} {a7 : Int64} {a9 : Int32} {Q' : Value → zm_S → Prop} (hC : zm_C zd_H d mX8_isState [.ref 0, .int a9] w Q') (k : ∀ (r : Int32) (u : zm_S), Q' (.int r) u → zm_T zd_H (d + 1) mX8_share Q 92 [(0, .ref 0), (1, .int a1), (3, .int a3), (4, .int a4), (5, .int a5), (6, .int a6), (9, .int a9)] [.int r, .long a7] u) : zm_T zd_H (d + 1) mX8_share Q 84 [(0, .ref 0), (1, .int a1), (3, .int a3), (4, .int a4), (5, .int a5), (6, .int a6), (7, .long a7), (9, .int a9)] [] w := by
  refine zm_lload (x := a7) 6 dX8_share_84 rfl ?_
  refine zm_aload_n (x := 0) 0 dX8_share_86 rfl rfl ?_
  refine zm_iload (x := a9) 7 dX8_share_87 rfl ?_
  refine zm_callVz (as := [.int a9]) (rest := [.long a7]) dX8_share_89 rfl mtX8_isState lkX8_261 zd_H0 (C := RX8) rfl rfl rfl (Nat.le_of_ble_eq_true rfl) hC rfl (fun r u hq => ?_)
  refine zm_sub [0, 1, 2, 3, 4, 5, 7] rfl ?_
  exact k r u hq
theorem gX8_share_92 {d : Nat} {Q : Value → zm_S → Prop} {w : zm_S} {a1 : Int32} {a3 : Int32} {a4 : Int32} {a5 : Int32} {a6 : Int32} {a9 : Int32} {s0 : Int32} {s1 : Int64} (kt : s0 = 0 → zm_T zd_H d mX8_share Q 108 [(0, .ref 0), (1, .int a1), (3, .int a3), (4, .int a4), (5, .int a5), (6, .int a6), (9, .int a9)] [.long s1] w) (kf : ¬ s0 = 0 → zm_T zd_H d mX8_share Q 95 [(0, .ref 0), (1, .int a1), (3, .int a3), (4, .int a4), (5, .int a5), (6, .int a6), (9, .int a9)] [.long s1] w) : zm_T zd_H d mX8_share Q 92 [(0, .ref 0), (1, .int a1), (3, .int a3), (4, .int a4), (5, .int a5), (6, .int a6), (9, .int a9)] [.int s0, .long s1] w := by
  refine zm_if_eq 108 dX8_share_92 (by decide) (fun h => ?_) (fun h => ?_)
  · exact kt h
  · exact kf h
theorem gX8_share_95 {d : Nat} {Q : Value → zm_S → Prop} {w : zm_S} {a1 : Int32} {a3 : Int32} {a4 : Int32} {a5 : Int32} {a6 : Int32} {a9 : Int32} {s0 : Int64} {Q' : Value → zm_S → Prop} (hC : zm_C zd_H d mX8_chanceAbove [.ref 0, .int a1, .int a9, .int a3, .int a4] w Q') (k : ∀ (r : Int64) (u : zm_S), Q' (.long r) u → zm_T zd_H (d + 1) mX8_share Q 105 [(0, .ref 0), (1, .int a1), (3, .int a3), (4, .int a4), (5, .int a5), (6, .int a6), (9, .int a9)] [.long r, .long s0] u) : zm_T zd_H (d + 1) mX8_share Q 95 [(0, .ref 0), (1, .int a1), (3, .int a3), (4, .int a4), (5, .int a5), (6, .int a6), (9, .int a9)] [.long s0] w := by
  refine zm_aload_n (x := 0) 0 dX8_share_95 rfl rfl ?_
  refine zm_iload_n (x := a1) 1 dX8_share_96 rfl rfl ?_
  refine zm_iload (x := a9) 6 dX8_share_97 rfl ?_
  refine zm_iload_n (x := a3) 2 dX8_share_99 rfl rfl ?_
  refine zm_iload (x := a4) 3 dX8_share_100 rfl ?_
  refine zm_callVl (as := [.int a1, .int a9, .int a3, .int a4]) (rest := [.long s0]) dX8_share_102 rfl mtX8_chanceAbove lkX8_287 zd_H0 (C := RX8) rfl rfl rfl (Nat.le_of_ble_eq_true rfl) hC rfl (fun r u hq => ?_)
  exact k r u hq
theorem gX8_share_105 {d : Nat} {Q : Value → zm_S → Prop} {w : zm_S} {a1 : Int32} {a3 : Int32} {a4 : Int32} {a5 : Int32} {a6 : Int32} {a9 : Int32} {s0 : Int64} {s1 : Int64} (k : zm_T zd_H d mX8_share Q 109 [(0, .ref 0), (1, .int a1), (3, .int a3), (4, .int a4), (5, .int a5), (6, .int a6), (9, .int a9)] [.long s0, .long s1] w) : zm_T zd_H d mX8_share Q 105 [(0, .ref 0), (1, .int a1), (3, .int a3), (4, .int a4), (5, .int a5), (6, .int a6), (9, .int a9)] [.long s0, .long s1] w := by
  refine zm_goto 109 dX8_share_105 (by decide) ?_
  exact k
theorem gX8_share_108 {d : Nat} {Q : Value → zm_S → Prop} {w : zm_S} {a1 : Int32} {a3 : Int32} {a4 : Int32} {a5 : Int32} {a6 : Int32} {a9 : Int32} {s0 : Int64} (k : zm_T zd_H d mX8_share Q 109 [(0, .ref 0), (1, .int a1), (3, .int a3), (4, .int a4), (5, .int a5), (6, .int a6), (9, .int a9)] [.long (0 : Int64), .long s0] w) : zm_T zd_H d mX8_share Q 108 [(0, .ref 0), (1, .int a1), (3, .int a3), (4, .int a4), (5, .int a5), (6, .int a6), (9, .int a9)] [.long s0] w := by
  refine zm_lconst dX8_share_108 (v := (0 : Int64)) (by decide) ?_
  exact k
theorem gX8_share_109 {d : Nat} {Q : Value → zm_S → Prop} {w : zm_S} {a1 : Int32} {a3 : Int32} {a4 : Int32} {a5 : Int32} {a6 : Int32} {a9 : Int32} {s0 : Int64} {s1 : Int64} (k : zm_T zd_H d mX8_share Q 75 [(0, .ref 0), (1, .int a1), (3, .int a3), (4, .int a4), (5, .int a5), (6, .int a6), (7, .long (s1 + s0)), (9, .int (a9 + (1 : Int32)))] [] w) : zm_T zd_H d mX8_share Q 109 [(0, .ref 0), (1, .int a1), (3, .int a3), (4, .int a4), (5, .int a5), (6, .int a6), (9, .int a9)] [.long s0, .long s1] w := by
  refine zm_ladd dX8_share_109 ?_
  refine zm_lstore dX8_share_110 (Nat.le_of_ble_eq_true rfl) (ls' := [(7, .long (s1 + s0)), (0, .ref 0), (1, .int a1), (3, .int a3), (4, .int a4), (5, .int a5), (6, .int a6), (9, .int a9)]) rfl ?_
  refine zm_iinc 7 dX8_share_112 (x := a9) (v := (a9 + (1 : Int32))) rfl rfl (Nat.le_of_ble_eq_true rfl) (ls' := [(9, .int (a9 + (1 : Int32))), (7, .long (s1 + s0)), (0, .ref 0), (1, .int a1), (3, .int a3), (4, .int a4), (5, .int a5), (6, .int a6)]) rfl ?_
  refine zm_goto 75 dX8_share_115 (by decide) ?_
  refine zm_sub [2, 3, 4, 5, 6, 7, 1, 0] rfl ?_
  exact k
theorem gX8_share_118 {d : Nat} {Q : Value → zm_S → Prop} {w : zm_S} {a1 : Int32} {a3 : Int32} {a4 : Int32} {a5 : Int32} {a6 : Int32} {a7 : Int64} (kt : ¬ (lg_cmp a7 (0 : Int64)) = 0 → zm_T zd_H d mX8_share Q 133 [(0, .ref 0), (1, .int a1), (3, .int a3), (4, .int a4), (5, .int a5), (6, .int a6), (7, .long a7)] [] w) (kf : (lg_cmp a7 (0 : Int64)) = 0 → zm_T zd_H d mX8_share Q 125 [] [] w) : zm_T zd_H d mX8_share Q 118 [(0, .ref 0), (1, .int a1), (3, .int a3), (4, .int a4), (5, .int a5), (6, .int a6), (7, .long a7)] [] w := by
  refine zm_lload (x := a7) 6 dX8_share_118 rfl ?_
  refine zm_lconst dX8_share_120 (v := (0 : Int64)) (by decide) ?_
  refine zm_lcmp dX8_share_121 ?_
  refine zm_if_ne 133 dX8_share_122 (by decide) (fun h => ?_) (fun h => ?_)
  · exact kt h
  · refine zm_sub [] rfl ?_
    exact kf h
theorem gX8_share_125 {d : Nat} {Q : Value → zm_S → Prop} {w : zm_S} {Q' : Value → zm_S → Prop} (hC : zm_C zd_H d mX8_no [.int (-3 : Int32)] w Q') (k : ∀ (r : Int64) (u : zm_S), Q' (.long r) u → zm_T zd_H (d + 1) mX8_share Q 130 [] [.long r] u) : zm_T zd_H (d + 1) mX8_share Q 125 [] [] w := by
  refine zm_bipush dX8_share_125 (v := (-3 : Int32)) (by decide) ?_
  refine zm_callSl (as := [.int (-3 : Int32)]) (rest := []) dX8_share_127 rfl mtX8_no lkX8_234 rfl (Nat.le_of_ble_eq_true rfl) hC rfl (fun r u hq => ?_)
  exact k r u hq
theorem gX8_share_130 {d : Nat} {Q : Value → zm_S → Prop} {w : zm_S} {s0 : Int64} (k : zm_T zd_H d mX8_share Q 150 [] [.long s0] w) : zm_T zd_H d mX8_share Q 130 [] [.long s0] w := by
  refine zm_goto 150 dX8_share_130 (by decide) ?_
  exact k
theorem gX8_share_133 {d : Nat} {Q : Value → zm_S → Prop} {w : zm_S} {a1 : Int32} {a3 : Int32} {a4 : Int32} {a5 : Int32} {a6 : Int32} {a7 : Int64} {Q' : Value → zm_S → Prop} (hC : zm_C zd_H d mX8_chanceAbove [.ref 0, .int a1, .int a6, .int a3, .int a4] w Q') (k : ∀ (r : Int64) (u : zm_S), Q' (.long r) u → zm_T zd_H (d + 1) mX8_share Q 143 [(5, .int a5), (7, .long a7)] [.long r] u) : zm_T zd_H (d + 1) mX8_share Q 133 [(0, .ref 0), (1, .int a1), (3, .int a3), (4, .int a4), (5, .int a5), (6, .int a6), (7, .long a7)] [] w := by
  refine zm_aload_n (x := 0) 0 dX8_share_133 rfl rfl ?_
  refine zm_iload_n (x := a1) 1 dX8_share_134 rfl rfl ?_
  refine zm_iload (x := a6) 5 dX8_share_135 rfl ?_
  refine zm_iload_n (x := a3) 2 dX8_share_137 rfl rfl ?_
  refine zm_iload (x := a4) 3 dX8_share_138 rfl ?_
  refine zm_callVl (as := [.int a1, .int a6, .int a3, .int a4]) (rest := []) dX8_share_140 rfl mtX8_chanceAbove lkX8_287 zd_H0 (C := RX8) rfl rfl rfl (Nat.le_of_ble_eq_true rfl) hC rfl (fun r u hq => ?_)
  refine zm_sub [4, 6] rfl ?_
  exact k r u hq
theorem gX8_share_143 {d : Nat} {Q : Value → zm_S → Prop} {w : zm_S} {a5 : Int32} {a7 : Int64} {s0 : Int64} {Q' : Value → zm_S → Prop} (hC : zm_C zd_H d mX8_part [.long s0, .long a7, .int a5] w Q') (k : ∀ (r : Int64) (u : zm_S), Q' (.long r) u → zm_T zd_H (d + 1) mX8_share Q 150 [] [.long r] u) : zm_T zd_H (d + 1) mX8_share Q 143 [(5, .int a5), (7, .long a7)] [.long s0] w := by
  refine zm_lload (x := a7) 1 dX8_share_143 rfl ?_
  refine zm_iload (x := a5) 0 dX8_share_145 rfl ?_
  refine zm_callSl (as := [.long s0, .long a7, .int a5]) (rest := []) dX8_share_147 rfl mtX8_part lkX8_241 rfl (Nat.le_of_ble_eq_true rfl) hC rfl (fun r u hq => ?_)
  refine zm_sub [] rfl ?_
  exact k r u hq
theorem gX8_share_150 {d : Nat} {Q : Value → zm_S → Prop} {w : zm_S} {s0 : Int64} (k : Q (.long s0) w) : zm_T zd_H d mX8_share Q 150 [] [.long s0] w := by
  exact zm_lreturn dX8_share_150 rfl k
theorem gX8_likeliestOf_0 {d : Nat} {Q : Value → zm_S → Prop} {w : zm_S} {a1 : Int32} {a2 : Int32} {a3 : Int32} {Q' : Value → zm_S → Prop} (hC : zm_C zd_H d mX8_findNeeds [.ref 0] w Q') (k : ∀ (u : zm_S), Q' .null u → zm_T zd_H (d + 1) mX8_likeliestOf Q 4 [(0, .ref 0), (1, .int a1), (2, .int a2), (3, .int a3)] [] u) : zm_T zd_H (d + 1) mX8_likeliestOf Q 0 [(0, .ref 0), (1, .int a1), (2, .int a2), (3, .int a3)] [] w := by
  refine zm_aload_n (x := 0) 0 dX8_likeliestOf_0 rfl rfl ?_
  refine zm_callVv (as := []) (rest := []) dX8_likeliestOf_1 rfl mtX8_findNeeds lkX8_258 zd_H0 (C := RX8) rfl rfl rfl (Nat.le_of_ble_eq_true rfl) hC rfl (fun u hq => ?_)
  exact k u hq
theorem gX8_likeliestOf_4 {d : Nat} {Q : Value → zm_S → Prop} {w : zm_S} {a1 : Int32} {a2 : Int32} {a3 : Int32} (k : zm_T zd_H d mX8_likeliestOf Q 15 [(0, .ref 0), (1, .int a1), (2, .int a2), (3, .int a3), (4, .int (-1 : Int32)), (5, .long (-1 : Int64)), (7, .int (0 : Int32))] [] w) : zm_T zd_H d mX8_likeliestOf Q 4 [(0, .ref 0), (1, .int a1), (2, .int a2), (3, .int a3)] [] w := by
  refine zm_iconst dX8_likeliestOf_4 (v := (-1 : Int32)) (by decide) ?_
  refine zm_istore dX8_likeliestOf_5 (Nat.le_of_ble_eq_true rfl) (ls' := [(4, .int (-1 : Int32)), (0, .ref 0), (1, .int a1), (2, .int a2), (3, .int a3)]) rfl ?_
  refine zm_ldc2_w dX8_likeliestOf_7 kcX8_291 ?_
  refine zm_lstore dX8_likeliestOf_10 (Nat.le_of_ble_eq_true rfl) (ls' := [(5, .long (-1 : Int64)), (4, .int (-1 : Int32)), (0, .ref 0), (1, .int a1), (2, .int a2), (3, .int a3)]) rfl ?_
  refine zm_iconst dX8_likeliestOf_12 (v := (0 : Int32)) (by decide) ?_
  refine zm_istore dX8_likeliestOf_13 (Nat.le_of_ble_eq_true rfl) (ls' := [(7, .int (0 : Int32)), (5, .long (-1 : Int64)), (4, .int (-1 : Int32)), (0, .ref 0), (1, .int a1), (2, .int a2), (3, .int a3)]) rfl ?_
  refine zm_sub [3, 4, 5, 6, 2, 1, 0] rfl ?_
  exact k
theorem gX8_likeliestOf_15 {d : Nat} {Q : Value → zm_S → Prop} {w : zm_S} {a1 : Int32} {a2 : Int32} {a3 : Int32} {a4 : Int32} {a5 : Int64} {a7 : Int32} {Q' : Value → zm_S → Prop} (hC : zm_C zd_H d mX8_whole [.ref 0] w Q') (k : ∀ (r : Int32) (u : zm_S), Q' (.int r) u → zm_T zd_H (d + 1) mX8_likeliestOf Q 21 [(0, .ref 0), (1, .int a1), (2, .int a2), (3, .int a3), (4, .int a4), (5, .long a5), (7, .int a7)] [.int r, .int a7] u) : zm_T zd_H (d + 1) mX8_likeliestOf Q 15 [(0, .ref 0), (1, .int a1), (2, .int a2), (3, .int a3), (4, .int a4), (5, .long a5), (7, .int a7)] [] w := by
  refine zm_iload (x := a7) 6 dX8_likeliestOf_15 rfl ?_
  refine zm_aload_n (x := 0) 0 dX8_likeliestOf_17 rfl rfl ?_
  refine zm_callVi (as := []) (rest := [.int a7]) dX8_likeliestOf_18 rfl mtX8_whole lkX8_228 zd_H0 (C := RX8) rfl rfl rfl (Nat.le_of_ble_eq_true rfl) hC rfl (fun r u hq => ?_)
  exact k r u hq
theorem gX8_likeliestOf_21 {d : Nat} {Q : Value → zm_S → Prop} {w : zm_S} {a1 : Int32} {a2 : Int32} {a3 : Int32} {a4 : Int32} {a5 : Int64} {a7 : Int32} {s0 : Int32} {s1 : Int32} (kt : s0 < s1 → zm_T zd_H d mX8_likeliestOf Q 90 [(4, .int a4)] [] w) (kf : ¬ s0 < s1 → zm_T zd_H d mX8_likeliestOf Q 24 [(0, .ref 0), (1, .int a1), (2, .int a2), (3, .int a3), (4, .int a4), (5, .long a5), (7, .int a7)] [] w) : zm_T zd_H d mX8_likeliestOf Q 21 [(0, .ref 0), (1, .int a1), (2, .int a2), (3, .int a3), (4, .int a4), (5, .long a5), (7, .int a7)] [.int s0, .int s1] w := by
  refine zm_icmp_gt 90 dX8_likeliestOf_21 (by decide) (fun h => ?_) (fun h => ?_)
  · refine zm_sub [4] rfl ?_
    exact kt h
  · exact kf h
theorem gX8_likeliestOf_24 {d : Nat} {Q : Value → zm_S → Prop} {w : zm_S} {a1 : Int32} {a2 : Int32} {a3 : Int32} {a4 : Int32} {a5 : Int64} {a7 : Int32} {Q' : Value → zm_S → Prop} (hC : zm_C zd_H d mX8_isState [.ref 0, .int a7] w Q') (k : ∀ (r : Int32) (u : zm_S), Q' (.int r) u → zm_T zd_H (d + 1) mX8_likeliestOf Q 30 [(0, .ref 0), (1, .int a1), (2, .int a2), (3, .int a3), (4, .int a4), (5, .long a5), (7, .int a7)] [.int r] u) : zm_T zd_H (d + 1) mX8_likeliestOf Q 24 [(0, .ref 0), (1, .int a1), (2, .int a2), (3, .int a3), (4, .int a4), (5, .long a5), (7, .int a7)] [] w := by
  refine zm_aload_n (x := 0) 0 dX8_likeliestOf_24 rfl rfl ?_
  refine zm_iload (x := a7) 6 dX8_likeliestOf_25 rfl ?_
  refine zm_callVz (as := [.int a7]) (rest := []) dX8_likeliestOf_27 rfl mtX8_isState lkX8_261 zd_H0 (C := RX8) rfl rfl rfl (Nat.le_of_ble_eq_true rfl) hC rfl (fun r u hq => ?_)
  exact k r u hq
theorem gX8_likeliestOf_30 {d : Nat} {Q : Value → zm_S → Prop} {w : zm_S} {a1 : Int32} {a2 : Int32} {a3 : Int32} {a4 : Int32} {a5 : Int64} {a7 : Int32} {s0 : Int32} (kt : s0 = 0 → zm_T zd_H d mX8_likeliestOf Q 45 [(0, .ref 0), (1, .int a1), (2, .int a2), (3, .int a3), (4, .int a4), (5, .long a5), (7, .int a7)] [] w) (kf : ¬ s0 = 0 → zm_T zd_H d mX8_likeliestOf Q 33 [(0, .ref 0), (1, .int a1), (2, .int a2), (3, .int a3), (4, .int a4), (5, .long a5), (7, .int a7)] [] w) : zm_T zd_H d mX8_likeliestOf Q 30 [(0, .ref 0), (1, .int a1), (2, .int a2), (3, .int a3), (4, .int a4), (5, .long a5), (7, .int a7)] [.int s0] w := by
  refine zm_if_eq 45 dX8_likeliestOf_30 (by decide) (fun h => ?_) (fun h => ?_)
  · exact kt h
  · exact kf h
theorem gX8_likeliestOf_33 {d : Nat} {Q : Value → zm_S → Prop} {w : zm_S} {a1 : Int32} {a2 : Int32} {a3 : Int32} {a4 : Int32} {a5 : Int64} {a7 : Int32} {Q' : Value → zm_S → Prop} (hC : zm_C zd_H d mX8_chanceAbove [.ref 0, .int a1, .int a7, .int a2, .int a3] w Q') (k : ∀ (r : Int64) (u : zm_S), Q' (.long r) u → zm_T zd_H (d + 1) mX8_likeliestOf Q 42 [(0, .ref 0), (1, .int a1), (2, .int a2), (3, .int a3), (4, .int a4), (5, .long a5), (7, .int a7)] [.long r] u) : zm_T zd_H (d + 1) mX8_likeliestOf Q 33 [(0, .ref 0), (1, .int a1), (2, .int a2), (3, .int a3), (4, .int a4), (5, .long a5), (7, .int a7)] [] w := by
  refine zm_aload_n (x := 0) 0 dX8_likeliestOf_33 rfl rfl ?_
  refine zm_iload_n (x := a1) 1 dX8_likeliestOf_34 rfl rfl ?_
  refine zm_iload (x := a7) 6 dX8_likeliestOf_35 rfl ?_
  refine zm_iload_n (x := a2) 2 dX8_likeliestOf_37 rfl rfl ?_
  refine zm_iload_n (x := a3) 3 dX8_likeliestOf_38 rfl rfl ?_
  refine zm_callVl (as := [.int a1, .int a7, .int a2, .int a3]) (rest := []) dX8_likeliestOf_39 rfl mtX8_chanceAbove lkX8_287 zd_H0 (C := RX8) rfl rfl rfl (Nat.le_of_ble_eq_true rfl) hC rfl (fun r u hq => ?_)
  exact k r u hq
theorem gX8_likeliestOf_42 {d : Nat} {Q : Value → zm_S → Prop} {w : zm_S} {a1 : Int32} {a2 : Int32} {a3 : Int32} {a4 : Int32} {a5 : Int64} {a7 : Int32} {s0 : Int64} (k : zm_T zd_H d mX8_likeliestOf Q 48 [(0, .ref 0), (1, .int a1), (2, .int a2), (3, .int a3), (4, .int a4), (5, .long a5), (7, .int a7)] [.long s0] w) : zm_T zd_H d mX8_likeliestOf Q 42 [(0, .ref 0), (1, .int a1), (2, .int a2), (3, .int a3), (4, .int a4), (5, .long a5), (7, .int a7)] [.long s0] w := by
  refine zm_goto 48 dX8_likeliestOf_42 (by decide) ?_
  exact k
theorem gX8_likeliestOf_45 {d : Nat} {Q : Value → zm_S → Prop} {w : zm_S} {a1 : Int32} {a2 : Int32} {a3 : Int32} {a4 : Int32} {a5 : Int64} {a7 : Int32} (k : zm_T zd_H d mX8_likeliestOf Q 48 [(0, .ref 0), (1, .int a1), (2, .int a2), (3, .int a3), (4, .int a4), (5, .long a5), (7, .int a7)] [.long (-1 : Int64)] w) : zm_T zd_H d mX8_likeliestOf Q 45 [(0, .ref 0), (1, .int a1), (2, .int a2), (3, .int a3), (4, .int a4), (5, .long a5), (7, .int a7)] [] w := by
  refine zm_ldc2_w dX8_likeliestOf_45 kcX8_291 ?_
  exact k
theorem gX8_likeliestOf_48 {d : Nat} {Q : Value → zm_S → Prop} {w : zm_S} {a1 : Int32} {a2 : Int32} {a3 : Int32} {a4 : Int32} {a5 : Int64} {a7 : Int32} {s0 : Int64} (kt : (lg_cmp s0 a5) ≤ 0 → zm_T zd_H d mX8_likeliestOf Q 63 [(0, .ref 0), (1, .int a1), (2, .int a2), (3, .int a3), (4, .int a4), (5, .long a5), (7, .int a7), (8, .long s0)] [] w) (kf : ¬ (lg_cmp s0 a5) ≤ 0 → zm_T zd_H d mX8_likeliestOf Q 58 [(0, .ref 0), (1, .int a1), (2, .int a2), (3, .int a3), (5, .long a5), (7, .int a7), (8, .long s0)] [] w) : zm_T zd_H d mX8_likeliestOf Q 48 [(0, .ref 0), (1, .int a1), (2, .int a2), (3, .int a3), (4, .int a4), (5, .long a5), (7, .int a7)] [.long s0] w := by
  refine zm_lstore dX8_likeliestOf_48 (Nat.le_of_ble_eq_true rfl) (ls' := [(8, .long s0), (0, .ref 0), (1, .int a1), (2, .int a2), (3, .int a3), (4, .int a4), (5, .long a5), (7, .int a7)]) rfl ?_
  refine zm_lload (x := s0) 0 dX8_likeliestOf_50 rfl ?_
  refine zm_lload (x := a5) 6 dX8_likeliestOf_52 rfl ?_
  refine zm_lcmp dX8_likeliestOf_54 ?_
  refine zm_if_le 63 dX8_likeliestOf_55 (by decide) (fun h => ?_) (fun h => ?_)
  · refine zm_sub [1, 2, 3, 4, 5, 6, 7, 0] rfl ?_
    exact kt h
  · refine zm_sub [1, 2, 3, 4, 6, 7, 0] rfl ?_
    exact kf h
theorem gX8_likeliestOf_58 {d : Nat} {Q : Value → zm_S → Prop} {w : zm_S} {a1 : Int32} {a2 : Int32} {a3 : Int32} {a5 : Int64} {a7 : Int32} {a8 : Int64} (k : zm_T zd_H d mX8_likeliestOf Q 65 [(0, .ref 0), (1, .int a1), (2, .int a2), (3, .int a3), (5, .long a5), (7, .int a7), (8, .long a8)] [.int a7] w) : zm_T zd_H d mX8_likeliestOf Q 58 [(0, .ref 0), (1, .int a1), (2, .int a2), (3, .int a3), (5, .long a5), (7, .int a7), (8, .long a8)] [] w := by
  refine zm_iload (x := a7) 5 dX8_likeliestOf_58 rfl ?_
  refine zm_goto 65 dX8_likeliestOf_60 (by decide) ?_
  exact k
theorem gX8_likeliestOf_63 {d : Nat} {Q : Value → zm_S → Prop} {w : zm_S} {a1 : Int32} {a2 : Int32} {a3 : Int32} {a4 : Int32} {a5 : Int64} {a7 : Int32} {a8 : Int64} (k : zm_T zd_H d mX8_likeliestOf Q 65 [(0, .ref 0), (1, .int a1), (2, .int a2), (3, .int a3), (5, .long a5), (7, .int a7), (8, .long a8)] [.int a4] w) : zm_T zd_H d mX8_likeliestOf Q 63 [(0, .ref 0), (1, .int a1), (2, .int a2), (3, .int a3), (4, .int a4), (5, .long a5), (7, .int a7), (8, .long a8)] [] w := by
  refine zm_iload (x := a4) 4 dX8_likeliestOf_63 rfl ?_
  refine zm_sub [0, 1, 2, 3, 5, 6, 7] rfl ?_
  exact k
theorem gX8_likeliestOf_65 {d : Nat} {Q : Value → zm_S → Prop} {w : zm_S} {a1 : Int32} {a2 : Int32} {a3 : Int32} {a5 : Int64} {a7 : Int32} {a8 : Int64} {s0 : Int32} (kt : (lg_cmp a8 a5) ≤ 0 → zm_T zd_H d mX8_likeliestOf Q 80 [(0, .ref 0), (1, .int a1), (2, .int a2), (3, .int a3), (4, .int s0), (5, .long a5), (7, .int a7)] [] w) (kf : ¬ (lg_cmp a8 a5) ≤ 0 → zm_T zd_H d mX8_likeliestOf Q 75 [(0, .ref 0), (1, .int a1), (2, .int a2), (3, .int a3), (4, .int s0), (7, .int a7), (8, .long a8)] [] w) : zm_T zd_H d mX8_likeliestOf Q 65 [(0, .ref 0), (1, .int a1), (2, .int a2), (3, .int a3), (5, .long a5), (7, .int a7), (8, .long a8)] [.int s0] w := by
  refine zm_istore dX8_likeliestOf_65 (Nat.le_of_ble_eq_true rfl) (ls' := [(4, .int s0), (0, .ref 0), (1, .int a1), (2, .int a2), (3, .int a3), (5, .long a5), (7, .int a7), (8, .long a8)]) rfl ?_
  refine zm_lload (x := a8) 7 dX8_likeliestOf_67 rfl ?_
  refine zm_lload (x := a5) 5 dX8_likeliestOf_69 rfl ?_
  refine zm_lcmp dX8_likeliestOf_71 ?_
  refine zm_if_le 80 dX8_likeliestOf_72 (by decide) (fun h => ?_) (fun h => ?_)
  · refine zm_sub [1, 2, 3, 4, 0, 5, 6] rfl ?_
    exact kt h
  · refine zm_sub [1, 2, 3, 4, 0, 6, 7] rfl ?_
    exact kf h
theorem gX8_likeliestOf_75 {d : Nat} {Q : Value → zm_S → Prop} {w : zm_S} {a1 : Int32} {a2 : Int32} {a3 : Int32} {a4 : Int32} {a7 : Int32} {a8 : Int64} (k : zm_T zd_H d mX8_likeliestOf Q 82 [(0, .ref 0), (1, .int a1), (2, .int a2), (3, .int a3), (4, .int a4), (7, .int a7)] [.long a8] w) : zm_T zd_H d mX8_likeliestOf Q 75 [(0, .ref 0), (1, .int a1), (2, .int a2), (3, .int a3), (4, .int a4), (7, .int a7), (8, .long a8)] [] w := by
  refine zm_lload (x := a8) 6 dX8_likeliestOf_75 rfl ?_
  refine zm_goto 82 dX8_likeliestOf_77 (by decide) ?_
  refine zm_sub [0, 1, 2, 3, 4, 5] rfl ?_
  exact k
theorem gX8_likeliestOf_80 {d : Nat} {Q : Value → zm_S → Prop} {w : zm_S} {a1 : Int32} {a2 : Int32} {a3 : Int32} {a4 : Int32} {a5 : Int64} {a7 : Int32} (k : zm_T zd_H d mX8_likeliestOf Q 82 [(0, .ref 0), (1, .int a1), (2, .int a2), (3, .int a3), (4, .int a4), (7, .int a7)] [.long a5] w) : zm_T zd_H d mX8_likeliestOf Q 80 [(0, .ref 0), (1, .int a1), (2, .int a2), (3, .int a3), (4, .int a4), (5, .long a5), (7, .int a7)] [] w := by
  refine zm_lload (x := a5) 5 dX8_likeliestOf_80 rfl ?_
  refine zm_sub [0, 1, 2, 3, 4, 6] rfl ?_
  exact k
theorem gX8_likeliestOf_82 {d : Nat} {Q : Value → zm_S → Prop} {w : zm_S} {a1 : Int32} {a2 : Int32} {a3 : Int32} {a4 : Int32} {a7 : Int32} {s0 : Int64} (k : zm_T zd_H d mX8_likeliestOf Q 15 [(0, .ref 0), (1, .int a1), (2, .int a2), (3, .int a3), (4, .int a4), (5, .long s0), (7, .int (a7 + (1 : Int32)))] [] w) : zm_T zd_H d mX8_likeliestOf Q 82 [(0, .ref 0), (1, .int a1), (2, .int a2), (3, .int a3), (4, .int a4), (7, .int a7)] [.long s0] w := by
  refine zm_lstore dX8_likeliestOf_82 (Nat.le_of_ble_eq_true rfl) (ls' := [(5, .long s0), (0, .ref 0), (1, .int a1), (2, .int a2), (3, .int a3), (4, .int a4), (7, .int a7)]) rfl ?_
  refine zm_iinc 6 dX8_likeliestOf_84 (x := a7) (v := (a7 + (1 : Int32))) rfl rfl (Nat.le_of_ble_eq_true rfl) (ls' := [(7, .int (a7 + (1 : Int32))), (5, .long s0), (0, .ref 0), (1, .int a1), (2, .int a2), (3, .int a3), (4, .int a4)]) rfl ?_
  refine zm_goto 15 dX8_likeliestOf_87 (by decide) ?_
  refine zm_sub [2, 3, 4, 5, 6, 1, 0] rfl ?_
  exact k
theorem gX8_likeliestOf_90 {d : Nat} {Q : Value → zm_S → Prop} {w : zm_S} {a4 : Int32} (k : Q (.int a4) w) : zm_T zd_H d mX8_likeliestOf Q 90 [(4, .int a4)] [] w := by
  refine zm_iload (x := a4) 0 dX8_likeliestOf_90 rfl ?_
  exact zm_ireturn dX8_likeliestOf_92 rfl k
theorem gX8_likeliest_0 {d : Nat} {Q : Value → zm_S → Prop} {w : zm_S} {a1 : Int32} {a2 : Int32} {a3 : Int32} {Q' : Value → zm_S → Prop} (hC : zm_C zd_H d mX8_isPupil [.int a1] w Q') (k : ∀ (r : Int32) (u : zm_S), Q' (.int r) u → zm_T zd_H (d + 1) mX8_likeliest Q 4 [(0, .ref 0), (1, .int a1), (2, .int a2), (3, .int a3)] [.int r] u) : zm_T zd_H (d + 1) mX8_likeliest Q 0 [(0, .ref 0), (1, .int a1), (2, .int a2), (3, .int a3)] [] w := by
  refine zm_iload_n (x := a1) 1 dX8_likeliest_0 rfl rfl ?_
  refine zm_callSz (as := [.int a1]) (rest := []) dX8_likeliest_1 rfl mtX8_isPupil lkX8_123 rfl (Nat.le_of_ble_eq_true rfl) hC rfl (fun r u hq => ?_)
  exact k r u hq
theorem gX8_likeliest_4 {d : Nat} {Q : Value → zm_S → Prop} {w : zm_S} {a1 : Int32} {a2 : Int32} {a3 : Int32} {s0 : Int32} (kt : s0 = 0 → zm_T zd_H d mX8_likeliest Q 25 [] [] w) (kf : ¬ s0 = 0 → zm_T zd_H d mX8_likeliest Q 7 [(0, .ref 0), (1, .int a1), (2, .int a2), (3, .int a3)] [] w) : zm_T zd_H d mX8_likeliest Q 4 [(0, .ref 0), (1, .int a1), (2, .int a2), (3, .int a3)] [.int s0] w := by
  refine zm_if_eq 25 dX8_likeliest_4 (by decide) (fun h => ?_) (fun h => ?_)
  · refine zm_sub [] rfl ?_
    exact kt h
  · exact kf h
theorem gX8_likeliest_7 {d : Nat} {Q : Value → zm_S → Prop} {w : zm_S} {a1 : Int32} {a2 : Int32} {a3 : Int32} {Q' : Value → zm_S → Prop} (hC : zm_C zd_H d mX8_areLots [.int a2, .int a3] w Q') (k : ∀ (r : Int32) (u : zm_S), Q' (.int r) u → zm_T zd_H (d + 1) mX8_likeliest Q 12 [(0, .ref 0), (1, .int a1), (2, .int a2), (3, .int a3)] [.int r] u) : zm_T zd_H (d + 1) mX8_likeliest Q 7 [(0, .ref 0), (1, .int a1), (2, .int a2), (3, .int a3)] [] w := by
  refine zm_iload_n (x := a2) 2 dX8_likeliest_7 rfl rfl ?_
  refine zm_iload_n (x := a3) 3 dX8_likeliest_8 rfl rfl ?_
  refine zm_callSz (as := [.int a2, .int a3]) (rest := []) dX8_likeliest_9 rfl mtX8_areLots lkX8_284 rfl (Nat.le_of_ble_eq_true rfl) hC rfl (fun r u hq => ?_)
  exact k r u hq
theorem gX8_likeliest_12 {d : Nat} {Q : Value → zm_S → Prop} {w : zm_S} {a1 : Int32} {a2 : Int32} {a3 : Int32} {s0 : Int32} (kt : s0 = 0 → zm_T zd_H d mX8_likeliest Q 25 [] [] w) (kf : ¬ s0 = 0 → zm_T zd_H d mX8_likeliest Q 15 [(0, .ref 0), (1, .int a1), (2, .int a2), (3, .int a3)] [] w) : zm_T zd_H d mX8_likeliest Q 12 [(0, .ref 0), (1, .int a1), (2, .int a2), (3, .int a3)] [.int s0] w := by
  refine zm_if_eq 25 dX8_likeliest_12 (by decide) (fun h => ?_) (fun h => ?_)
  · refine zm_sub [] rfl ?_
    exact kt h
  · exact kf h
theorem gX8_likeliest_15 {d : Nat} {Q : Value → zm_S → Prop} {w : zm_S} {a1 : Int32} {a2 : Int32} {a3 : Int32} {Q' : Value → zm_S → Prop} (hC : zm_C zd_H d mX8_likeliestOf [.ref 0, .int a1, .int a2, .int a3] w Q') (k : ∀ (r : Int32) (u : zm_S), Q' (.int r) u → zm_T zd_H (d + 1) mX8_likeliest Q 22 [] [.int r] u) : zm_T zd_H (d + 1) mX8_likeliest Q 15 [(0, .ref 0), (1, .int a1), (2, .int a2), (3, .int a3)] [] w := by
  refine zm_aload_n (x := 0) 0 dX8_likeliest_15 rfl rfl ?_
  refine zm_iload_n (x := a1) 1 dX8_likeliest_16 rfl rfl ?_
  refine zm_iload_n (x := a2) 2 dX8_likeliest_17 rfl rfl ?_
  refine zm_iload_n (x := a3) 3 dX8_likeliest_18 rfl rfl ?_
  refine zm_callVi (as := [.int a1, .int a2, .int a3]) (rest := []) dX8_likeliest_19 rfl mtX8_likeliestOf lkX8_293 zd_H0 (C := RX8) rfl rfl rfl (Nat.le_of_ble_eq_true rfl) hC rfl (fun r u hq => ?_)
  refine zm_sub [] rfl ?_
  exact k r u hq
theorem gX8_likeliest_22 {d : Nat} {Q : Value → zm_S → Prop} {w : zm_S} {s0 : Int32} (k : Q (.int s0) w) : zm_T zd_H d mX8_likeliest Q 22 [] [.int s0] w := by
  refine zm_goto 27 dX8_likeliest_22 (by decide) ?_
  exact zm_ireturn dX8_likeliest_27 rfl k
theorem gX8_likeliest_25 {d : Nat} {Q : Value → zm_S → Prop} {w : zm_S} (k : Q (.int (-2 : Int32)) w) : zm_T zd_H d mX8_likeliest Q 25 [] [] w := by
  refine zm_bipush dX8_likeliest_25 (v := (-2 : Int32)) (by decide) ?_
  exact zm_ireturn dX8_likeliest_27 rfl k
theorem gX8_power_0 {d : Nat} {Q : Value → zm_S → Prop} {w : zm_S} {a0 : Int32} {a1 : Int32} (k : zm_T zd_H d mX8_power Q 4 [(0, .int a0), (1, .int a1), (2, .int (1 : Int32)), (3, .int (0 : Int32))] [] w) : zm_T zd_H d mX8_power Q 0 [(0, .int a0), (1, .int a1)] [] w := by
  refine zm_iconst dX8_power_0 (v := (1 : Int32)) (by decide) ?_
  refine zm_istore_n dX8_power_1 rfl (Nat.le_of_ble_eq_true rfl) (ls' := [(2, .int (1 : Int32)), (0, .int a0), (1, .int a1)]) rfl ?_
  refine zm_iconst dX8_power_2 (v := (0 : Int32)) (by decide) ?_
  refine zm_istore_n dX8_power_3 rfl (Nat.le_of_ble_eq_true rfl) (ls' := [(3, .int (0 : Int32)), (2, .int (1 : Int32)), (0, .int a0), (1, .int a1)]) rfl ?_
  refine zm_sub [2, 3, 1, 0] rfl ?_
  exact k
theorem gX8_power_4 {d : Nat} {Q : Value → zm_S → Prop} {w : zm_S} {a0 : Int32} {a1 : Int32} {a2 : Int32} {a3 : Int32} (kt : a1 ≤ a3 → zm_T zd_H d mX8_power Q 19 [(2, .int a2)] [] w) (kf : ¬ a1 ≤ a3 → zm_T zd_H d mX8_power Q 9 [(0, .int a0), (1, .int a1), (2, .int a2), (3, .int a3)] [] w) : zm_T zd_H d mX8_power Q 4 [(0, .int a0), (1, .int a1), (2, .int a2), (3, .int a3)] [] w := by
  refine zm_iload_n (x := a3) 3 dX8_power_4 rfl rfl ?_
  refine zm_iload_n (x := a1) 1 dX8_power_5 rfl rfl ?_
  refine zm_icmp_ge 19 dX8_power_6 (by decide) (fun h => ?_) (fun h => ?_)
  · refine zm_sub [2] rfl ?_
    exact kt h
  · exact kf h
theorem gX8_power_9 {d : Nat} {Q : Value → zm_S → Prop} {w : zm_S} {a0 : Int32} {a1 : Int32} {a2 : Int32} {a3 : Int32} (k : zm_T zd_H d mX8_power Q 4 [(0, .int a0), (1, .int a1), (2, .int (a2 * a0)), (3, .int (a3 + (1 : Int32)))] [] w) : zm_T zd_H d mX8_power Q 9 [(0, .int a0), (1, .int a1), (2, .int a2), (3, .int a3)] [] w := by
  refine zm_iload_n (x := a2) 2 dX8_power_9 rfl rfl ?_
  refine zm_iload_n (x := a0) 0 dX8_power_10 rfl rfl ?_
  refine zm_imul dX8_power_11 ?_
  refine zm_istore_n dX8_power_12 rfl (Nat.le_of_ble_eq_true rfl) (ls' := [(2, .int (a2 * a0)), (0, .int a0), (1, .int a1), (3, .int a3)]) rfl ?_
  refine zm_iinc 3 dX8_power_13 (x := a3) (v := (a3 + (1 : Int32))) rfl rfl (Nat.le_of_ble_eq_true rfl) (ls' := [(3, .int (a3 + (1 : Int32))), (2, .int (a2 * a0)), (0, .int a0), (1, .int a1)]) rfl ?_
  refine zm_goto 4 dX8_power_16 (by decide) ?_
  refine zm_sub [2, 3, 1, 0] rfl ?_
  exact k
theorem gX8_power_19 {d : Nat} {Q : Value → zm_S → Prop} {w : zm_S} {a2 : Int32} (k : Q (.int a2) w) : zm_T zd_H d mX8_power Q 19 [(2, .int a2)] [] w := by
  refine zm_iload_n (x := a2) 0 dX8_power_19 rfl rfl ?_
  exact zm_ireturn dX8_power_20 rfl k
theorem gX8_isSome_0 {d : Nat} {Q : Value → zm_S → Prop} {w : zm_S} {a1 : Int32} {Q' : Value → zm_S → Prop} (hC : zm_C zd_H d mX8_bits [.ref 0, .int a1, .int (0 : Int32)] w Q') (k : ∀ (r : Int32) (u : zm_S), Q' (.int r) u → zm_T zd_H (d + 1) mX8_isSome Q 6 [(0, .ref 0), (1, .int a1)] [.int r] u) : zm_T zd_H (d + 1) mX8_isSome Q 0 [(0, .ref 0), (1, .int a1)] [] w := by
  refine zm_aload_n (x := 0) 0 dX8_isSome_0 rfl rfl ?_
  refine zm_iload_n (x := a1) 1 dX8_isSome_1 rfl rfl ?_
  refine zm_iconst dX8_isSome_2 (v := (0 : Int32)) (by decide) ?_
  refine zm_callVi (as := [.int a1, .int (0 : Int32)]) (rest := []) dX8_isSome_3 rfl mtX8_bits lkX8_189 zd_H0 (C := RX8) rfl rfl rfl (Nat.le_of_ble_eq_true rfl) hC rfl (fun r u hq => ?_)
  exact k r u hq
theorem gX8_isSome_6 {d : Nat} {Q : Value → zm_S → Prop} {w : zm_S} {a1 : Int32} {s0 : Int32} {Q' : Value → zm_S → Prop} (hC : zm_C zd_H d mX8_bits [.ref 0, .int a1, .int (1 : Int32)] w Q') (k : ∀ (r : Int32) (u : zm_S), Q' (.int r) u → zm_T zd_H (d + 1) mX8_isSome Q 12 [] [.int r, .int s0] u) : zm_T zd_H (d + 1) mX8_isSome Q 6 [(0, .ref 0), (1, .int a1)] [.int s0] w := by
  refine zm_aload_n (x := 0) 0 dX8_isSome_6 rfl rfl ?_
  refine zm_iload_n (x := a1) 1 dX8_isSome_7 rfl rfl ?_
  refine zm_iconst dX8_isSome_8 (v := (1 : Int32)) (by decide) ?_
  refine zm_callVi (as := [.int a1, .int (1 : Int32)]) (rest := [.int s0]) dX8_isSome_9 rfl mtX8_bits lkX8_189 zd_H0 (C := RX8) rfl rfl rfl (Nat.le_of_ble_eq_true rfl) hC rfl (fun r u hq => ?_)
  refine zm_sub [] rfl ?_
  exact k r u hq
theorem gX8_isSome_12 {d : Nat} {Q : Value → zm_S → Prop} {w : zm_S} {s0 : Int32} {s1 : Int32} (kt : (s1 ||| s0) = 0 → zm_T zd_H d mX8_isSome Q 20 [] [] w) (kf : ¬ (s1 ||| s0) = 0 → zm_T zd_H d mX8_isSome Q 16 [] [] w) : zm_T zd_H d mX8_isSome Q 12 [] [.int s0, .int s1] w := by
  refine zm_ior dX8_isSome_12 ?_
  refine zm_if_eq 20 dX8_isSome_13 (by decide) (fun h => ?_) (fun h => ?_)
  · exact kt h
  · exact kf h
theorem gX8_isSome_16 {d : Nat} {Q : Value → zm_S → Prop} {w : zm_S} (k : Q (.int (1 : Int32)) w) : zm_T zd_H d mX8_isSome Q 16 [] [] w := by
  refine zm_iconst dX8_isSome_16 (v := (1 : Int32)) (by decide) ?_
  refine zm_goto 21 dX8_isSome_17 (by decide) ?_
  exact zm_zreturn dX8_isSome_21 rfl (by decide) k
theorem gX8_isSome_20 {d : Nat} {Q : Value → zm_S → Prop} {w : zm_S} (k : Q (.int (0 : Int32)) w) : zm_T zd_H d mX8_isSome Q 20 [] [] w := by
  refine zm_iconst dX8_isSome_20 (v := (0 : Int32)) (by decide) ?_
  exact zm_zreturn dX8_isSome_21 rfl (by decide) k
theorem gX8_learnt_0 {d : Nat} {Q : Value → zm_S → Prop} {w : zm_S} {a1 : Int32} {a2 : Int32} (k : zm_T zd_H d mX8_learnt Q 5 [(0, .ref 0), (1, .int a1), (2, .int a2), (3, .int (0 : Int32)), (4, .int (0 : Int32))] [] w) : zm_T zd_H d mX8_learnt Q 0 [(0, .ref 0), (1, .int a1), (2, .int a2)] [] w := by
  refine zm_iconst dX8_learnt_0 (v := (0 : Int32)) (by decide) ?_
  refine zm_istore_n dX8_learnt_1 rfl (Nat.le_of_ble_eq_true rfl) (ls' := [(3, .int (0 : Int32)), (0, .ref 0), (1, .int a1), (2, .int a2)]) rfl ?_
  refine zm_iconst dX8_learnt_2 (v := (0 : Int32)) (by decide) ?_
  refine zm_istore dX8_learnt_3 (Nat.le_of_ble_eq_true rfl) (ls' := [(4, .int (0 : Int32)), (3, .int (0 : Int32)), (0, .ref 0), (1, .int a1), (2, .int a2)]) rfl ?_
  refine zm_sub [2, 3, 4, 1, 0] rfl ?_
  exact k
theorem gX8_learnt_5 {d : Nat} {Q : Value → zm_S → Prop} {w : zm_S} {a1 : Int32} {a2 : Int32} {a3 : Int32} {a4 : Int32} (kt : (12 : Int32) ≤ a4 → zm_T zd_H d mX8_learnt Q 106 [(3, .int a3)] [] w) (kf : ¬ (12 : Int32) ≤ a4 → zm_T zd_H d mX8_learnt Q 12 [(0, .ref 0), (1, .int a1), (2, .int a2), (3, .int a3), (4, .int a4)] [] w) : zm_T zd_H d mX8_learnt Q 5 [(0, .ref 0), (1, .int a1), (2, .int a2), (3, .int a3), (4, .int a4)] [] w := by
  refine zm_iload (x := a4) 4 dX8_learnt_5 rfl ?_
  refine zm_bipush dX8_learnt_7 (v := (12 : Int32)) (by decide) ?_
  refine zm_icmp_ge 106 dX8_learnt_9 (by decide) (fun h => ?_) (fun h => ?_)
  · refine zm_sub [3] rfl ?_
    exact kt h
  · exact kf h
theorem gX8_learnt_12 {d : Nat} {Q : Value → zm_S → Prop} {w : zm_S} {a1 : Int32} {a2 : Int32} {a3 : Int32} {a4 : Int32} (hi18 : vp_in a4 12) (k : zm_T zd_H d mX8_learnt Q 24 [(0, .ref 0), (1, .int a1), (2, .int a2), (3, .int a3), (4, .int a4), (5, .int (w.1 21 (a4).toNatClampNeg)), (6, .int (0 : Int32))] [] w) : zm_T zd_H d mX8_learnt Q 12 [(0, .ref 0), (1, .int a1), (2, .int a2), (3, .int a3), (4, .int a4)] [] w := by
  refine zm_aload_n (x := 0) 0 dX8_learnt_12 rfl rfl ?_
  refine zm_getf (v := .ref 21) (j := 27) dX8_learnt_13 clX8 flX8_70 (Nat.le_of_ble_eq_true rfl) zd_H0 rfl rfl ?_
  refine zm_iload (x := a4) 4 dX8_learnt_16 rfl ?_
  refine zm_iald dX8_learnt_18 zd_H21 hi18 ?_
  refine zm_istore dX8_learnt_19 (Nat.le_of_ble_eq_true rfl) (ls' := [(5, .int (w.1 21 (a4).toNatClampNeg)), (0, .ref 0), (1, .int a1), (2, .int a2), (3, .int a3), (4, .int a4)]) rfl ?_
  refine zm_iconst dX8_learnt_21 (v := (0 : Int32)) (by decide) ?_
  refine zm_istore dX8_learnt_22 (Nat.le_of_ble_eq_true rfl) (ls' := [(6, .int (0 : Int32)), (5, .int (w.1 21 (a4).toNatClampNeg)), (0, .ref 0), (1, .int a1), (2, .int a2), (3, .int a3), (4, .int a4)]) rfl ?_
  refine zm_sub [2, 3, 4, 5, 6, 1, 0] rfl ?_
  exact k
theorem gX8_learnt_24 {d : Nat} {Q : Value → zm_S → Prop} {w : zm_S} {a1 : Int32} {a2 : Int32} {a3 : Int32} {a4 : Int32} {a5 : Int32} {a6 : Int32} (kt : a2 ≤ a6 → zm_T zd_H d mX8_learnt Q 100 [(0, .ref 0), (1, .int a1), (2, .int a2), (3, .int a3), (4, .int a4)] [] w) (kf : ¬ a2 ≤ a6 → zm_T zd_H d mX8_learnt Q 30 [(0, .ref 0), (1, .int a1), (2, .int a2), (3, .int a3), (4, .int a4), (5, .int a5), (6, .int a6)] [] w) : zm_T zd_H d mX8_learnt Q 24 [(0, .ref 0), (1, .int a1), (2, .int a2), (3, .int a3), (4, .int a4), (5, .int a5), (6, .int a6)] [] w := by
  refine zm_iload (x := a6) 6 dX8_learnt_24 rfl ?_
  refine zm_iload_n (x := a2) 2 dX8_learnt_26 rfl rfl ?_
  refine zm_icmp_ge 100 dX8_learnt_27 (by decide) (fun h => ?_) (fun h => ?_)
  · refine zm_sub [0, 1, 2, 3, 4] rfl ?_
    exact kt h
  · exact kf h
theorem gX8_learnt_30 {d : Nat} {Q : Value → zm_S → Prop} {w : zm_S} {a1 : Int32} {a2 : Int32} {a3 : Int32} {a4 : Int32} {a5 : Int32} {a6 : Int32} (kt : a5 = (-1 : Int32) → zm_T zd_H d mX8_learnt Q 100 [(0, .ref 0), (1, .int a1), (2, .int a2), (3, .int a3), (4, .int a4)] [] w) (kf : ¬ a5 = (-1 : Int32) → zm_T zd_H d mX8_learnt Q 36 [(0, .ref 0), (1, .int a1), (2, .int a2), (3, .int a3), (4, .int a4), (5, .int a5), (6, .int a6)] [] w) : zm_T zd_H d mX8_learnt Q 30 [(0, .ref 0), (1, .int a1), (2, .int a2), (3, .int a3), (4, .int a4), (5, .int a5), (6, .int a6)] [] w := by
  refine zm_iload (x := a5) 5 dX8_learnt_30 rfl ?_
  refine zm_iconst dX8_learnt_32 (v := (-1 : Int32)) (by decide) ?_
  refine zm_icmp_eq 100 dX8_learnt_33 (by decide) (fun h => ?_) (fun h => ?_)
  · refine zm_sub [0, 1, 2, 3, 4] rfl ?_
    exact kt h
  · exact kf h
theorem gX8_learnt_36 {d : Nat} {Q : Value → zm_S → Prop} {w : zm_S} {a1 : Int32} {a2 : Int32} {a3 : Int32} {a4 : Int32} {a5 : Int32} {a6 : Int32} {Q' : Value → zm_S → Prop} (hC : zm_C zd_H d mX8_n [.ref 0] w Q') (k : ∀ (r : Int32) (u : zm_S), Q' (.int r) u → zm_T zd_H (d + 1) mX8_learnt Q 41 [(0, .ref 0), (1, .int a1), (2, .int a2), (3, .int a3), (4, .int a4), (5, .int a5), (6, .int a6)] [.int r, .int a1] u) : zm_T zd_H (d + 1) mX8_learnt Q 36 [(0, .ref 0), (1, .int a1), (2, .int a2), (3, .int a3), (4, .int a4), (5, .int a5), (6, .int a6)] [] w := by
  refine zm_iload_n (x := a1) 1 dX8_learnt_36 rfl rfl ?_
  refine zm_aload_n (x := 0) 0 dX8_learnt_37 rfl rfl ?_
  refine zm_callVi (as := []) (rest := [.int a1]) dX8_learnt_38 rfl mtX8_n lkX8_111 zd_H0 (C := RX8) rfl rfl rfl (Nat.le_of_ble_eq_true rfl) hC rfl (fun r u hq => ?_)
  exact k r u hq
theorem gX8_learnt_41 {d : Nat} {Q : Value → zm_S → Prop} {w : zm_S} {a1 : Int32} {a2 : Int32} {a3 : Int32} {a4 : Int32} {a5 : Int32} {a6 : Int32} {s0 : Int32} {s1 : Int32} {Q' : Value → zm_S → Prop} (hC : zm_C zd_H d mX8_power [.int s0, .int ((a2 - (1 : Int32)) - a6)] w Q') (k : ∀ (r : Int32) (u : zm_S), Q' (.int r) u → zm_T zd_H (d + 1) mX8_learnt Q 50 [(0, .ref 0), (1, .int a1), (2, .int a2), (3, .int a3), (4, .int a4), (5, .int a5), (6, .int a6)] [.int r, .int s1] u) : zm_T zd_H (d + 1) mX8_learnt Q 41 [(0, .ref 0), (1, .int a1), (2, .int a2), (3, .int a3), (4, .int a4), (5, .int a5), (6, .int a6)] [.int s0, .int s1] w := by
  refine zm_iload_n (x := a2) 2 dX8_learnt_41 rfl rfl ?_
  refine zm_iconst dX8_learnt_42 (v := (1 : Int32)) (by decide) ?_
  refine zm_isub dX8_learnt_43 ?_
  refine zm_iload (x := a6) 6 dX8_learnt_44 rfl ?_
  refine zm_isub dX8_learnt_46 ?_
  refine zm_callSi (as := [.int s0, .int ((a2 - (1 : Int32)) - a6)]) (rest := [.int s1]) dX8_learnt_47 rfl mtX8_power lkX8_296 rfl (Nat.le_of_ble_eq_true rfl) hC rfl (fun r u hq => ?_)
  exact k r u hq
theorem gX8_learnt_50 {d : Nat} {Q : Value → zm_S → Prop} {w : zm_S} {a1 : Int32} {a2 : Int32} {a3 : Int32} {a4 : Int32} {a5 : Int32} {a6 : Int32} {s0 : Int32} {s1 : Int32} {Q' : Value → zm_S → Prop} (hn50 : ¬ s0 = 0) (hC : zm_C zd_H d mX8_n [.ref 0] w Q') (k : ∀ (r : Int32) (u : zm_S), Q' (.int r) u → zm_T zd_H (d + 1) mX8_learnt Q 55 [(0, .ref 0), (1, .int a1), (2, .int a2), (3, .int a3), (4, .int a4), (5, .int a5), (6, .int a6)] [.int r, .int (s1 / s0)] u) : zm_T zd_H (d + 1) mX8_learnt Q 50 [(0, .ref 0), (1, .int a1), (2, .int a2), (3, .int a3), (4, .int a4), (5, .int a5), (6, .int a6)] [.int s0, .int s1] w := by
  refine zm_idiv dX8_learnt_50 hn50 ?_
  refine zm_aload_n (x := 0) 0 dX8_learnt_51 rfl rfl ?_
  refine zm_callVi (as := []) (rest := [.int (s1 / s0)]) dX8_learnt_52 rfl mtX8_n lkX8_111 zd_H0 (C := RX8) rfl rfl rfl (Nat.le_of_ble_eq_true rfl) hC rfl (fun r u hq => ?_)
  exact k r u hq
theorem gX8_learnt_55 {d : Nat} {Q : Value → zm_S → Prop} {w : zm_S} {a1 : Int32} {a2 : Int32} {a3 : Int32} {a4 : Int32} {a5 : Int32} {a6 : Int32} {s0 : Int32} {s1 : Int32} {Q' : Value → zm_S → Prop} (hn55 : ¬ s0 = 0) (hC : zm_C zd_H d mX8_isIn [.int a5, .int (s1 - s1 / s0 * s0)] w Q') (k : ∀ (r : Int32) (u : zm_S), Q' (.int r) u → zm_T zd_H (d + 1) mX8_learnt Q 65 [(0, .ref 0), (1, .int a1), (2, .int a2), (3, .int a3), (4, .int a4), (5, .int a5), (6, .int a6), (7, .int (s1 - s1 / s0 * s0))] [.int r] u) : zm_T zd_H (d + 1) mX8_learnt Q 55 [(0, .ref 0), (1, .int a1), (2, .int a2), (3, .int a3), (4, .int a4), (5, .int a5), (6, .int a6)] [.int s0, .int s1] w := by
  refine zm_irem dX8_learnt_55 hn55 ?_
  refine zm_istore dX8_learnt_56 (Nat.le_of_ble_eq_true rfl) (ls' := [(7, .int (s1 - s1 / s0 * s0)), (0, .ref 0), (1, .int a1), (2, .int a2), (3, .int a3), (4, .int a4), (5, .int a5), (6, .int a6)]) rfl ?_
  refine zm_iload (x := a5) 6 dX8_learnt_58 rfl ?_
  refine zm_iload (x := (s1 - s1 / s0 * s0)) 0 dX8_learnt_60 rfl ?_
  refine zm_callSz (as := [.int a5, .int (s1 - s1 / s0 * s0)]) (rest := []) dX8_learnt_62 rfl mtX8_isIn lkX8_153 rfl (Nat.le_of_ble_eq_true rfl) hC rfl (fun r u hq => ?_)
  refine zm_sub [1, 2, 3, 4, 5, 6, 7, 0] rfl ?_
  exact k r u hq
theorem gX8_learnt_65 {d : Nat} {Q : Value → zm_S → Prop} {w : zm_S} {a1 : Int32} {a2 : Int32} {a3 : Int32} {a4 : Int32} {a5 : Int32} {a6 : Int32} {a7 : Int32} {s0 : Int32} (kt : ¬ s0 = 0 → zm_T zd_H d mX8_learnt Q 94 [(0, .ref 0), (1, .int a1), (2, .int a2), (3, .int a3), (4, .int a4), (5, .int a5), (6, .int a6)] [] w) (kf : s0 = 0 → zm_T zd_H d mX8_learnt Q 68 [(0, .ref 0), (1, .int a1), (2, .int a2), (3, .int a3), (4, .int a4), (5, .int a5), (6, .int a6), (7, .int a7)] [] w) : zm_T zd_H d mX8_learnt Q 65 [(0, .ref 0), (1, .int a1), (2, .int a2), (3, .int a3), (4, .int a4), (5, .int a5), (6, .int a6), (7, .int a7)] [.int s0] w := by
  refine zm_if_ne 94 dX8_learnt_65 (by decide) (fun h => ?_) (fun h => ?_)
  · refine zm_sub [0, 1, 2, 3, 4, 5, 6] rfl ?_
    exact kt h
  · exact kf h
theorem gX8_learnt_68 {d : Nat} {Q : Value → zm_S → Prop} {w : zm_S} {a1 : Int32} {a2 : Int32} {a3 : Int32} {a4 : Int32} {a5 : Int32} {a6 : Int32} {a7 : Int32} {Q' : Value → zm_S → Prop} (hC : zm_C zd_H d mX8_isState [.ref 0, .int (a5 ||| ((1 : Int32) <<< (a7 &&& 31)))] w Q') (k : ∀ (r : Int32) (u : zm_S), Q' (.int r) u → zm_T zd_H (d + 1) mX8_learnt Q 79 [(0, .ref 0), (1, .int a1), (2, .int a2), (3, .int a3), (4, .int a4), (5, .int a5), (6, .int a6), (7, .int a7)] [.int r] u) : zm_T zd_H (d + 1) mX8_learnt Q 68 [(0, .ref 0), (1, .int a1), (2, .int a2), (3, .int a3), (4, .int a4), (5, .int a5), (6, .int a6), (7, .int a7)] [] w := by
  refine zm_aload_n (x := 0) 0 dX8_learnt_68 rfl rfl ?_
  refine zm_iload (x := a5) 5 dX8_learnt_69 rfl ?_
  refine zm_iconst dX8_learnt_71 (v := (1 : Int32)) (by decide) ?_
  refine zm_iload (x := a7) 7 dX8_learnt_72 rfl ?_
  refine zm_ishl dX8_learnt_74 ?_
  refine zm_ior dX8_learnt_75 ?_
  refine zm_callVz (as := [.int (a5 ||| ((1 : Int32) <<< (a7 &&& 31)))]) (rest := []) dX8_learnt_76 rfl mtX8_isState lkX8_261 zd_H0 (C := RX8) rfl rfl rfl (Nat.le_of_ble_eq_true rfl) hC rfl (fun r u hq => ?_)
  exact k r u hq
theorem gX8_learnt_79 {d : Nat} {Q : Value → zm_S → Prop} {w : zm_S} {a1 : Int32} {a2 : Int32} {a3 : Int32} {a4 : Int32} {a5 : Int32} {a6 : Int32} {a7 : Int32} {s0 : Int32} (kt : s0 = 0 → zm_T zd_H d mX8_learnt Q 94 [(0, .ref 0), (1, .int a1), (2, .int a2), (3, .int a3), (4, .int a4), (5, .int a5), (6, .int a6)] [] w) (kf : ¬ s0 = 0 → zm_T zd_H d mX8_learnt Q 82 [(0, .ref 0), (1, .int a1), (2, .int a2), (3, .int a3), (4, .int a4), (5, .int a5), (6, .int a6), (7, .int a7)] [] w) : zm_T zd_H d mX8_learnt Q 79 [(0, .ref 0), (1, .int a1), (2, .int a2), (3, .int a3), (4, .int a4), (5, .int a5), (6, .int a6), (7, .int a7)] [.int s0] w := by
  refine zm_if_eq 94 dX8_learnt_79 (by decide) (fun h => ?_) (fun h => ?_)
  · refine zm_sub [0, 1, 2, 3, 4, 5, 6] rfl ?_
    exact kt h
  · exact kf h
theorem gX8_learnt_82 {d : Nat} {Q : Value → zm_S → Prop} {w : zm_S} {a1 : Int32} {a2 : Int32} {a3 : Int32} {a4 : Int32} {a5 : Int32} {a6 : Int32} {a7 : Int32} (k : zm_T zd_H d mX8_learnt Q 94 [(0, .ref 0), (1, .int a1), (2, .int a2), (3, .int (a3 + (1 : Int32))), (4, .int a4), (5, .int (a5 ||| ((1 : Int32) <<< (a7 &&& 31)))), (6, .int a6)] [] w) : zm_T zd_H d mX8_learnt Q 82 [(0, .ref 0), (1, .int a1), (2, .int a2), (3, .int a3), (4, .int a4), (5, .int a5), (6, .int a6), (7, .int a7)] [] w := by
  refine zm_iload (x := a5) 5 dX8_learnt_82 rfl ?_
  refine zm_iconst dX8_learnt_84 (v := (1 : Int32)) (by decide) ?_
  refine zm_iload (x := a7) 7 dX8_learnt_85 rfl ?_
  refine zm_ishl dX8_learnt_87 ?_
  refine zm_ior dX8_learnt_88 ?_
  refine zm_istore dX8_learnt_89 (Nat.le_of_ble_eq_true rfl) (ls' := [(5, .int (a5 ||| ((1 : Int32) <<< (a7 &&& 31)))), (0, .ref 0), (1, .int a1), (2, .int a2), (3, .int a3), (4, .int a4), (6, .int a6), (7, .int a7)]) rfl ?_
  refine zm_iinc 4 dX8_learnt_91 (x := a3) (v := (a3 + (1 : Int32))) rfl rfl (Nat.le_of_ble_eq_true rfl) (ls' := [(3, .int (a3 + (1 : Int32))), (5, .int (a5 ||| ((1 : Int32) <<< (a7 &&& 31)))), (0, .ref 0), (1, .int a1), (2, .int a2), (4, .int a4), (6, .int a6), (7, .int a7)]) rfl ?_
  refine zm_sub [2, 3, 4, 0, 5, 1, 6] rfl ?_
  exact k
theorem gX8_learnt_94 {d : Nat} {Q : Value → zm_S → Prop} {w : zm_S} {a1 : Int32} {a2 : Int32} {a3 : Int32} {a4 : Int32} {a5 : Int32} {a6 : Int32} (k : zm_T zd_H d mX8_learnt Q 24 [(0, .ref 0), (1, .int a1), (2, .int a2), (3, .int a3), (4, .int a4), (5, .int a5), (6, .int (a6 + (1 : Int32)))] [] w) : zm_T zd_H d mX8_learnt Q 94 [(0, .ref 0), (1, .int a1), (2, .int a2), (3, .int a3), (4, .int a4), (5, .int a5), (6, .int a6)] [] w := by
  refine zm_iinc 6 dX8_learnt_94 (x := a6) (v := (a6 + (1 : Int32))) rfl rfl (Nat.le_of_ble_eq_true rfl) (ls' := [(6, .int (a6 + (1 : Int32))), (0, .ref 0), (1, .int a1), (2, .int a2), (3, .int a3), (4, .int a4), (5, .int a5)]) rfl ?_
  refine zm_goto 24 dX8_learnt_97 (by decide) ?_
  refine zm_sub [1, 2, 3, 4, 5, 6, 0] rfl ?_
  exact k
theorem gX8_learnt_100 {d : Nat} {Q : Value → zm_S → Prop} {w : zm_S} {a1 : Int32} {a2 : Int32} {a3 : Int32} {a4 : Int32} (k : zm_T zd_H d mX8_learnt Q 5 [(0, .ref 0), (1, .int a1), (2, .int a2), (3, .int a3), (4, .int (a4 + (1 : Int32)))] [] w) : zm_T zd_H d mX8_learnt Q 100 [(0, .ref 0), (1, .int a1), (2, .int a2), (3, .int a3), (4, .int a4)] [] w := by
  refine zm_iinc 4 dX8_learnt_100 (x := a4) (v := (a4 + (1 : Int32))) rfl rfl (Nat.le_of_ble_eq_true rfl) (ls' := [(4, .int (a4 + (1 : Int32))), (0, .ref 0), (1, .int a1), (2, .int a2), (3, .int a3)]) rfl ?_
  refine zm_goto 5 dX8_learnt_103 (by decide) ?_
  refine zm_sub [1, 2, 3, 4, 0] rfl ?_
  exact k
theorem gX8_learnt_106 {d : Nat} {Q : Value → zm_S → Prop} {w : zm_S} {a3 : Int32} (k : Q (.int a3) w) : zm_T zd_H d mX8_learnt Q 106 [(3, .int a3)] [] w := by
  refine zm_iload_n (x := a3) 0 dX8_learnt_106 rfl rfl ?_
  exact zm_ireturn dX8_learnt_107 rfl k
theorem gX8_lessonsOf_0 {d : Nat} {Q : Value → zm_S → Prop} {w : zm_S} {a1 : Int32} {a2 : Int32} (k : zm_T zd_H d mX8_lessonsOf Q 2 [(0, .ref 0), (1, .int a1), (2, .int a2), (3, .int (0 : Int32))] [] w) : zm_T zd_H d mX8_lessonsOf Q 0 [(0, .ref 0), (1, .int a1), (2, .int a2)] [] w := by
  refine zm_iconst dX8_lessonsOf_0 (v := (0 : Int32)) (by decide) ?_
  refine zm_istore_n dX8_lessonsOf_1 rfl (Nat.le_of_ble_eq_true rfl) (ls' := [(3, .int (0 : Int32)), (0, .ref 0), (1, .int a1), (2, .int a2)]) rfl ?_
  refine zm_sub [1, 2, 3, 0] rfl ?_
  exact k
theorem gX8_lessonsOf_2 {d : Nat} {Q : Value → zm_S → Prop} {w : zm_S} {a1 : Int32} {a2 : Int32} {a3 : Int32} (kt : (12 : Int32) ≤ a3 → zm_T zd_H d mX8_lessonsOf Q 42 [(0, .ref 0), (1, .int a1), (2, .int a2)] [] w) (kf : ¬ (12 : Int32) ≤ a3 → zm_T zd_H d mX8_lessonsOf Q 8 [(0, .ref 0), (1, .int a1), (2, .int a2), (3, .int a3)] [] w) : zm_T zd_H d mX8_lessonsOf Q 2 [(0, .ref 0), (1, .int a1), (2, .int a2), (3, .int a3)] [] w := by
  refine zm_iload_n (x := a3) 3 dX8_lessonsOf_2 rfl rfl ?_
  refine zm_bipush dX8_lessonsOf_3 (v := (12 : Int32)) (by decide) ?_
  refine zm_icmp_ge 42 dX8_lessonsOf_5 (by decide) (fun h => ?_) (fun h => ?_)
  · refine zm_sub [0, 1, 2] rfl ?_
    exact kt h
  · exact kf h
theorem gX8_lessonsOf_8 {d : Nat} {Q : Value → zm_S → Prop} {w : zm_S} {a1 : Int32} {a2 : Int32} {a3 : Int32} {Q' : Value → zm_S → Prop} (hC : zm_C zd_H d mX8_belongsOf [.ref 0, .int a3, .int (0 : Int32)] w Q') (k : ∀ (r : Int32) (u : zm_S), Q' (.int r) u → zm_T zd_H (d + 1) mX8_lessonsOf Q 14 [(0, .ref 0), (1, .int a1), (2, .int a2), (3, .int a3)] [.int r] u) : zm_T zd_H (d + 1) mX8_lessonsOf Q 8 [(0, .ref 0), (1, .int a1), (2, .int a2), (3, .int a3)] [] w := by
  refine zm_aload_n (x := 0) 0 dX8_lessonsOf_8 rfl rfl ?_
  refine zm_iload_n (x := a3) 3 dX8_lessonsOf_9 rfl rfl ?_
  refine zm_iconst dX8_lessonsOf_10 (v := (0 : Int32)) (by decide) ?_
  refine zm_callVi (as := [.int a3, .int (0 : Int32)]) (rest := []) dX8_lessonsOf_11 rfl mtX8_belongsOf lkX8_267 zd_H0 (C := RX8) rfl rfl rfl (Nat.le_of_ble_eq_true rfl) hC rfl (fun r u hq => ?_)
  exact k r u hq
theorem gX8_lessonsOf_14 {d : Nat} {Q : Value → zm_S → Prop} {w : zm_S} {a1 : Int32} {a2 : Int32} {a3 : Int32} {s0 : Int32} {Q' : Value → zm_S → Prop} (hC : zm_C zd_H d mX8_isSome [.ref 0, .int a3] w Q') (k : ∀ (r : Int32) (u : zm_S), Q' (.int r) u → zm_T zd_H (d + 1) mX8_lessonsOf Q 26 [(0, .ref 0), (1, .int a1), (2, .int a2), (3, .int a3), (4, .int s0)] [.int r, .int a3, .ref 21] u) : zm_T zd_H (d + 1) mX8_lessonsOf Q 14 [(0, .ref 0), (1, .int a1), (2, .int a2), (3, .int a3)] [.int s0] w := by
  refine zm_istore dX8_lessonsOf_14 (Nat.le_of_ble_eq_true rfl) (ls' := [(4, .int s0), (0, .ref 0), (1, .int a1), (2, .int a2), (3, .int a3)]) rfl ?_
  refine zm_aload_n (x := 0) 1 dX8_lessonsOf_16 rfl rfl ?_
  refine zm_getf (v := .ref 21) (j := 27) dX8_lessonsOf_17 clX8 flX8_70 (Nat.le_of_ble_eq_true rfl) zd_H0 rfl rfl ?_
  refine zm_iload_n (x := a3) 4 dX8_lessonsOf_20 rfl rfl ?_
  refine zm_aload_n (x := 0) 1 dX8_lessonsOf_21 rfl rfl ?_
  refine zm_iload_n (x := a3) 4 dX8_lessonsOf_22 rfl rfl ?_
  refine zm_callVz (as := [.int a3]) (rest := [.int a3, .ref 21]) dX8_lessonsOf_23 rfl mtX8_isSome lkX8_299 zd_H0 (C := RX8) rfl rfl rfl (Nat.le_of_ble_eq_true rfl) hC rfl (fun r u hq => ?_)
  refine zm_sub [1, 2, 3, 4, 0] rfl ?_
  exact k r u hq
theorem gX8_lessonsOf_26 {d : Nat} {Q : Value → zm_S → Prop} {w : zm_S} {a1 : Int32} {a2 : Int32} {a3 : Int32} {a4 : Int32} {s0 : Int32} {s1 : Int32} (kt : s0 = 0 → zm_T zd_H d mX8_lessonsOf Q 34 [(0, .ref 0), (1, .int a1), (2, .int a2), (3, .int a3)] [.int s1, .ref 21] w) (kf : ¬ s0 = 0 → zm_T zd_H d mX8_lessonsOf Q 29 [(0, .ref 0), (1, .int a1), (2, .int a2), (3, .int a3), (4, .int a4)] [.int s1, .ref 21] w) : zm_T zd_H d mX8_lessonsOf Q 26 [(0, .ref 0), (1, .int a1), (2, .int a2), (3, .int a3), (4, .int a4)] [.int s0, .int s1, .ref 21] w := by
  refine zm_if_eq 34 dX8_lessonsOf_26 (by decide) (fun h => ?_) (fun h => ?_)
  · refine zm_sub [0, 1, 2, 3] rfl ?_
    exact kt h
  · exact kf h
theorem gX8_lessonsOf_29 {d : Nat} {Q : Value → zm_S → Prop} {w : zm_S} {a1 : Int32} {a2 : Int32} {a3 : Int32} {a4 : Int32} {s0 : Int32} (k : zm_T zd_H d mX8_lessonsOf Q 35 [(0, .ref 0), (1, .int a1), (2, .int a2), (3, .int a3)] [.int a4, .int s0, .ref 21] w) : zm_T zd_H d mX8_lessonsOf Q 29 [(0, .ref 0), (1, .int a1), (2, .int a2), (3, .int a3), (4, .int a4)] [.int s0, .ref 21] w := by
  refine zm_iload (x := a4) 4 dX8_lessonsOf_29 rfl ?_
  refine zm_goto 35 dX8_lessonsOf_31 (by decide) ?_
  refine zm_sub [0, 1, 2, 3] rfl ?_
  exact k
theorem gX8_lessonsOf_34 {d : Nat} {Q : Value → zm_S → Prop} {w : zm_S} {a1 : Int32} {a2 : Int32} {a3 : Int32} {s0 : Int32} (k : zm_T zd_H d mX8_lessonsOf Q 35 [(0, .ref 0), (1, .int a1), (2, .int a2), (3, .int a3)] [.int (-1 : Int32), .int s0, .ref 21] w) : zm_T zd_H d mX8_lessonsOf Q 34 [(0, .ref 0), (1, .int a1), (2, .int a2), (3, .int a3)] [.int s0, .ref 21] w := by
  refine zm_iconst dX8_lessonsOf_34 (v := (-1 : Int32)) (by decide) ?_
  exact k
theorem gX8_lessonsOf_35 {d : Nat} {Q : Value → zm_S → Prop} {w : zm_S} {a1 : Int32} {a2 : Int32} {a3 : Int32} {s0 : Int32} {s1 : Int32} (hi35 : vp_in s1 12) (k : zm_T zd_H d mX8_lessonsOf Q 2 [(0, .ref 0), (1, .int a1), (2, .int a2), (3, .int (a3 + (1 : Int32)))] [] (zm_pi w 21 (s1).toNatClampNeg s0)) : zm_T zd_H d mX8_lessonsOf Q 35 [(0, .ref 0), (1, .int a1), (2, .int a2), (3, .int a3)] [.int s0, .int s1, .ref 21] w := by
  refine zm_iast dX8_lessonsOf_35 zd_H21 hi35 ?_
  refine zm_iinc 3 dX8_lessonsOf_36 (x := a3) (v := (a3 + (1 : Int32))) rfl rfl (Nat.le_of_ble_eq_true rfl) (ls' := [(3, .int (a3 + (1 : Int32))), (0, .ref 0), (1, .int a1), (2, .int a2)]) rfl ?_
  refine zm_goto 2 dX8_lessonsOf_39 (by decide) ?_
  refine zm_sub [1, 2, 3, 0] rfl ?_
  exact k
theorem gX8_lessonsOf_42 {d : Nat} {Q : Value → zm_S → Prop} {w : zm_S} {a1 : Int32} {a2 : Int32} (k : zm_T zd_H d mX8_lessonsOf Q 50 [(0, .ref 0), (1, .int a1), (2, .int a2), (3, .int (0 : Int32)), (4, .int (-1 : Int32)), (5, .int (0 : Int32))] [] w) : zm_T zd_H d mX8_lessonsOf Q 42 [(0, .ref 0), (1, .int a1), (2, .int a2)] [] w := by
  refine zm_iconst dX8_lessonsOf_42 (v := (0 : Int32)) (by decide) ?_
  refine zm_istore_n dX8_lessonsOf_43 rfl (Nat.le_of_ble_eq_true rfl) (ls' := [(3, .int (0 : Int32)), (0, .ref 0), (1, .int a1), (2, .int a2)]) rfl ?_
  refine zm_iconst dX8_lessonsOf_44 (v := (-1 : Int32)) (by decide) ?_
  refine zm_istore dX8_lessonsOf_45 (Nat.le_of_ble_eq_true rfl) (ls' := [(4, .int (-1 : Int32)), (3, .int (0 : Int32)), (0, .ref 0), (1, .int a1), (2, .int a2)]) rfl ?_
  refine zm_iconst dX8_lessonsOf_47 (v := (0 : Int32)) (by decide) ?_
  refine zm_istore dX8_lessonsOf_48 (Nat.le_of_ble_eq_true rfl) (ls' := [(5, .int (0 : Int32)), (4, .int (-1 : Int32)), (3, .int (0 : Int32)), (0, .ref 0), (1, .int a1), (2, .int a2)]) rfl ?_
  refine zm_sub [3, 4, 5, 2, 1, 0] rfl ?_
  exact k
theorem gX8_lessonsOf_50 {d : Nat} {Q : Value → zm_S → Prop} {w : zm_S} {a1 : Int32} {a2 : Int32} {a3 : Int32} {a4 : Int32} {a5 : Int32} {Q' : Value → zm_S → Prop} (hC : zm_C zd_H d mX8_n [.ref 0] w Q') (k : ∀ (r : Int32) (u : zm_S), Q' (.int r) u → zm_T zd_H (d + 1) mX8_lessonsOf Q 56 [(0, .ref 0), (1, .int a1), (2, .int a2), (3, .int a3), (4, .int a4), (5, .int a5)] [.int r, .int a5] u) : zm_T zd_H (d + 1) mX8_lessonsOf Q 50 [(0, .ref 0), (1, .int a1), (2, .int a2), (3, .int a3), (4, .int a4), (5, .int a5)] [] w := by
  refine zm_iload (x := a5) 5 dX8_lessonsOf_50 rfl ?_
  refine zm_aload_n (x := 0) 0 dX8_lessonsOf_52 rfl rfl ?_
  refine zm_callVi (as := []) (rest := [.int a5]) dX8_lessonsOf_53 rfl mtX8_n lkX8_111 zd_H0 (C := RX8) rfl rfl rfl (Nat.le_of_ble_eq_true rfl) hC rfl (fun r u hq => ?_)
  exact k r u hq
theorem gX8_lessonsOf_56 {d : Nat} {Q : Value → zm_S → Prop} {w : zm_S} {a1 : Int32} {a2 : Int32} {a3 : Int32} {a4 : Int32} {a5 : Int32} {s0 : Int32} {s1 : Int32} {Q' : Value → zm_S → Prop} (hC : zm_C zd_H d mX8_power [.int s0, .int a1] w Q') (k : ∀ (r : Int32) (u : zm_S), Q' (.int r) u → zm_T zd_H (d + 1) mX8_lessonsOf Q 60 [(0, .ref 0), (1, .int a1), (2, .int a2), (3, .int a3), (4, .int a4), (5, .int a5)] [.int r, .int s1] u) : zm_T zd_H (d + 1) mX8_lessonsOf Q 56 [(0, .ref 0), (1, .int a1), (2, .int a2), (3, .int a3), (4, .int a4), (5, .int a5)] [.int s0, .int s1] w := by
  refine zm_iload_n (x := a1) 1 dX8_lessonsOf_56 rfl rfl ?_
  refine zm_callSi (as := [.int s0, .int a1]) (rest := [.int s1]) dX8_lessonsOf_57 rfl mtX8_power lkX8_296 rfl (Nat.le_of_ble_eq_true rfl) hC rfl (fun r u hq => ?_)
  exact k r u hq
theorem gX8_lessonsOf_60 {d : Nat} {Q : Value → zm_S → Prop} {w : zm_S} {a1 : Int32} {a2 : Int32} {a3 : Int32} {a4 : Int32} {a5 : Int32} {s0 : Int32} {s1 : Int32} (kt : s0 ≤ s1 → zm_T zd_H d mX8_lessonsOf Q 108 [(0, .ref 0), (1, .int a1), (2, .int a2), (3, .int a3), (4, .int a4)] [] w) (kf : ¬ s0 ≤ s1 → zm_T zd_H d mX8_lessonsOf Q 63 [(0, .ref 0), (1, .int a1), (2, .int a2), (3, .int a3), (4, .int a4), (5, .int a5)] [] w) : zm_T zd_H d mX8_lessonsOf Q 60 [(0, .ref 0), (1, .int a1), (2, .int a2), (3, .int a3), (4, .int a4), (5, .int a5)] [.int s0, .int s1] w := by
  refine zm_icmp_ge 108 dX8_lessonsOf_60 (by decide) (fun h => ?_) (fun h => ?_)
  · refine zm_sub [0, 1, 2, 3, 4] rfl ?_
    exact kt h
  · exact kf h
theorem gX8_lessonsOf_63 {d : Nat} {Q : Value → zm_S → Prop} {w : zm_S} {a1 : Int32} {a2 : Int32} {a3 : Int32} {a4 : Int32} {a5 : Int32} {Q' : Value → zm_S → Prop} (hC : zm_C zd_H d mX8_learnt [.ref 0, .int a5, .int a1] w Q') (k : ∀ (r : Int32) (u : zm_S), Q' (.int r) u → zm_T zd_H (d + 1) mX8_lessonsOf Q 70 [(0, .ref 0), (1, .int a1), (2, .int a2), (3, .int a3), (4, .int a4), (5, .int a5)] [.int r] u) : zm_T zd_H (d + 1) mX8_lessonsOf Q 63 [(0, .ref 0), (1, .int a1), (2, .int a2), (3, .int a3), (4, .int a4), (5, .int a5)] [] w := by
  refine zm_aload_n (x := 0) 0 dX8_lessonsOf_63 rfl rfl ?_
  refine zm_iload (x := a5) 5 dX8_lessonsOf_64 rfl ?_
  refine zm_iload_n (x := a1) 1 dX8_lessonsOf_66 rfl rfl ?_
  refine zm_callVi (as := [.int a5, .int a1]) (rest := []) dX8_lessonsOf_67 rfl mtX8_learnt lkX8_302 zd_H0 (C := RX8) rfl rfl rfl (Nat.le_of_ble_eq_true rfl) hC rfl (fun r u hq => ?_)
  exact k r u hq
theorem gX8_lessonsOf_70 {d : Nat} {Q : Value → zm_S → Prop} {w : zm_S} {a1 : Int32} {a2 : Int32} {a3 : Int32} {a4 : Int32} {a5 : Int32} {s0 : Int32} (kt : s0 ≤ a4 → zm_T zd_H d mX8_lessonsOf Q 84 [(0, .ref 0), (1, .int a1), (2, .int a2), (3, .int a3), (4, .int a4), (5, .int a5), (6, .int s0)] [] w) (kf : ¬ s0 ≤ a4 → zm_T zd_H d mX8_lessonsOf Q 79 [(0, .ref 0), (1, .int a1), (2, .int a2), (4, .int a4), (5, .int a5), (6, .int s0)] [] w) : zm_T zd_H d mX8_lessonsOf Q 70 [(0, .ref 0), (1, .int a1), (2, .int a2), (3, .int a3), (4, .int a4), (5, .int a5)] [.int s0] w := by
  refine zm_istore dX8_lessonsOf_70 (Nat.le_of_ble_eq_true rfl) (ls' := [(6, .int s0), (0, .ref 0), (1, .int a1), (2, .int a2), (3, .int a3), (4, .int a4), (5, .int a5)]) rfl ?_
  refine zm_iload (x := s0) 0 dX8_lessonsOf_72 rfl ?_
  refine zm_iload (x := a4) 5 dX8_lessonsOf_74 rfl ?_
  refine zm_icmp_le 84 dX8_lessonsOf_76 (by decide) (fun h => ?_) (fun h => ?_)
  · refine zm_sub [1, 2, 3, 4, 5, 6, 0] rfl ?_
    exact kt h
  · refine zm_sub [1, 2, 3, 5, 6, 0] rfl ?_
    exact kf h
theorem gX8_lessonsOf_79 {d : Nat} {Q : Value → zm_S → Prop} {w : zm_S} {a1 : Int32} {a2 : Int32} {a4 : Int32} {a5 : Int32} {a6 : Int32} (k : zm_T zd_H d mX8_lessonsOf Q 85 [(0, .ref 0), (1, .int a1), (2, .int a2), (4, .int a4), (5, .int a5), (6, .int a6)] [.int a5] w) : zm_T zd_H d mX8_lessonsOf Q 79 [(0, .ref 0), (1, .int a1), (2, .int a2), (4, .int a4), (5, .int a5), (6, .int a6)] [] w := by
  refine zm_iload (x := a5) 4 dX8_lessonsOf_79 rfl ?_
  refine zm_goto 85 dX8_lessonsOf_81 (by decide) ?_
  exact k
theorem gX8_lessonsOf_84 {d : Nat} {Q : Value → zm_S → Prop} {w : zm_S} {a1 : Int32} {a2 : Int32} {a3 : Int32} {a4 : Int32} {a5 : Int32} {a6 : Int32} (k : zm_T zd_H d mX8_lessonsOf Q 85 [(0, .ref 0), (1, .int a1), (2, .int a2), (4, .int a4), (5, .int a5), (6, .int a6)] [.int a3] w) : zm_T zd_H d mX8_lessonsOf Q 84 [(0, .ref 0), (1, .int a1), (2, .int a2), (3, .int a3), (4, .int a4), (5, .int a5), (6, .int a6)] [] w := by
  refine zm_iload_n (x := a3) 3 dX8_lessonsOf_84 rfl rfl ?_
  refine zm_sub [0, 1, 2, 4, 5, 6] rfl ?_
  exact k
theorem gX8_lessonsOf_85 {d : Nat} {Q : Value → zm_S → Prop} {w : zm_S} {a1 : Int32} {a2 : Int32} {a4 : Int32} {a5 : Int32} {a6 : Int32} {s0 : Int32} (kt : a6 ≤ a4 → zm_T zd_H d mX8_lessonsOf Q 98 [(0, .ref 0), (1, .int a1), (2, .int a2), (3, .int s0), (4, .int a4), (5, .int a5)] [] w) (kf : ¬ a6 ≤ a4 → zm_T zd_H d mX8_lessonsOf Q 93 [(0, .ref 0), (1, .int a1), (2, .int a2), (3, .int s0), (5, .int a5), (6, .int a6)] [] w) : zm_T zd_H d mX8_lessonsOf Q 85 [(0, .ref 0), (1, .int a1), (2, .int a2), (4, .int a4), (5, .int a5), (6, .int a6)] [.int s0] w := by
  refine zm_istore_n dX8_lessonsOf_85 rfl (Nat.le_of_ble_eq_true rfl) (ls' := [(3, .int s0), (0, .ref 0), (1, .int a1), (2, .int a2), (4, .int a4), (5, .int a5), (6, .int a6)]) rfl ?_
  refine zm_iload (x := a6) 6 dX8_lessonsOf_86 rfl ?_
  refine zm_iload (x := a4) 4 dX8_lessonsOf_88 rfl ?_
  refine zm_icmp_le 98 dX8_lessonsOf_90 (by decide) (fun h => ?_) (fun h => ?_)
  · refine zm_sub [1, 2, 3, 0, 4, 5] rfl ?_
    exact kt h
  · refine zm_sub [1, 2, 3, 0, 5, 6] rfl ?_
    exact kf h
theorem gX8_lessonsOf_93 {d : Nat} {Q : Value → zm_S → Prop} {w : zm_S} {a1 : Int32} {a2 : Int32} {a3 : Int32} {a5 : Int32} {a6 : Int32} (k : zm_T zd_H d mX8_lessonsOf Q 100 [(0, .ref 0), (1, .int a1), (2, .int a2), (3, .int a3), (5, .int a5)] [.int a6] w) : zm_T zd_H d mX8_lessonsOf Q 93 [(0, .ref 0), (1, .int a1), (2, .int a2), (3, .int a3), (5, .int a5), (6, .int a6)] [] w := by
  refine zm_iload (x := a6) 5 dX8_lessonsOf_93 rfl ?_
  refine zm_goto 100 dX8_lessonsOf_95 (by decide) ?_
  refine zm_sub [0, 1, 2, 3, 4] rfl ?_
  exact k
theorem gX8_lessonsOf_98 {d : Nat} {Q : Value → zm_S → Prop} {w : zm_S} {a1 : Int32} {a2 : Int32} {a3 : Int32} {a4 : Int32} {a5 : Int32} (k : zm_T zd_H d mX8_lessonsOf Q 100 [(0, .ref 0), (1, .int a1), (2, .int a2), (3, .int a3), (5, .int a5)] [.int a4] w) : zm_T zd_H d mX8_lessonsOf Q 98 [(0, .ref 0), (1, .int a1), (2, .int a2), (3, .int a3), (4, .int a4), (5, .int a5)] [] w := by
  refine zm_iload (x := a4) 4 dX8_lessonsOf_98 rfl ?_
  refine zm_sub [0, 1, 2, 3, 5] rfl ?_
  exact k
theorem gX8_lessonsOf_100 {d : Nat} {Q : Value → zm_S → Prop} {w : zm_S} {a1 : Int32} {a2 : Int32} {a3 : Int32} {a5 : Int32} {s0 : Int32} (k : zm_T zd_H d mX8_lessonsOf Q 50 [(0, .ref 0), (1, .int a1), (2, .int a2), (3, .int a3), (4, .int s0), (5, .int (a5 + (1 : Int32)))] [] w) : zm_T zd_H d mX8_lessonsOf Q 100 [(0, .ref 0), (1, .int a1), (2, .int a2), (3, .int a3), (5, .int a5)] [.int s0] w := by
  refine zm_istore dX8_lessonsOf_100 (Nat.le_of_ble_eq_true rfl) (ls' := [(4, .int s0), (0, .ref 0), (1, .int a1), (2, .int a2), (3, .int a3), (5, .int a5)]) rfl ?_
  refine zm_iinc 5 dX8_lessonsOf_102 (x := a5) (v := (a5 + (1 : Int32))) rfl rfl (Nat.le_of_ble_eq_true rfl) (ls' := [(5, .int (a5 + (1 : Int32))), (4, .int s0), (0, .ref 0), (1, .int a1), (2, .int a2), (3, .int a3)]) rfl ?_
  refine zm_goto 50 dX8_lessonsOf_105 (by decide) ?_
  refine zm_sub [2, 3, 4, 5, 1, 0] rfl ?_
  exact k
theorem gX8_lessonsOf_108 {d : Nat} {Q : Value → zm_S → Prop} {w : zm_S} {a1 : Int32} {a2 : Int32} {a3 : Int32} {a4 : Int32} (kt : ¬ a2 = (-1 : Int32) → zm_T zd_H d mX8_lessonsOf Q 118 [(0, .ref 0), (1, .int a1), (2, .int a2), (3, .int a3)] [] w) (kf : a2 = (-1 : Int32) → zm_T zd_H d mX8_lessonsOf Q 113 [(4, .int a4)] [] w) : zm_T zd_H d mX8_lessonsOf Q 108 [(0, .ref 0), (1, .int a1), (2, .int a2), (3, .int a3), (4, .int a4)] [] w := by
  refine zm_iload_n (x := a2) 2 dX8_lessonsOf_108 rfl rfl ?_
  refine zm_iconst dX8_lessonsOf_109 (v := (-1 : Int32)) (by decide) ?_
  refine zm_icmp_ne 118 dX8_lessonsOf_110 (by decide) (fun h => ?_) (fun h => ?_)
  · refine zm_sub [0, 1, 2, 3] rfl ?_
    exact kt h
  · refine zm_sub [4] rfl ?_
    exact kf h
theorem gX8_lessonsOf_113 {d : Nat} {Q : Value → zm_S → Prop} {w : zm_S} {a4 : Int32} (k : Q (.int a4) w) : zm_T zd_H d mX8_lessonsOf Q 113 [(4, .int a4)] [] w := by
  refine zm_iload (x := a4) 0 dX8_lessonsOf_113 rfl ?_
  refine zm_goto 137 dX8_lessonsOf_115 (by decide) ?_
  exact zm_ireturn dX8_lessonsOf_137 rfl k
theorem gX8_lessonsOf_118 {d : Nat} {Q : Value → zm_S → Prop} {w : zm_S} {a1 : Int32} {a2 : Int32} {a3 : Int32} {Q' : Value → zm_S → Prop} (hC : zm_C zd_H d mX8_n [.ref 0] w Q') (k : ∀ (r : Int32) (u : zm_S), Q' (.int r) u → zm_T zd_H (d + 1) mX8_lessonsOf Q 123 [(0, .ref 0), (1, .int a1), (2, .int a2)] [.int r, .int a3] u) : zm_T zd_H (d + 1) mX8_lessonsOf Q 118 [(0, .ref 0), (1, .int a1), (2, .int a2), (3, .int a3)] [] w := by
  refine zm_iload_n (x := a3) 3 dX8_lessonsOf_118 rfl rfl ?_
  refine zm_aload_n (x := 0) 0 dX8_lessonsOf_119 rfl rfl ?_
  refine zm_callVi (as := []) (rest := [.int a3]) dX8_lessonsOf_120 rfl mtX8_n lkX8_111 zd_H0 (C := RX8) rfl rfl rfl (Nat.le_of_ble_eq_true rfl) hC rfl (fun r u hq => ?_)
  refine zm_sub [0, 1, 2] rfl ?_
  exact k r u hq
theorem gX8_lessonsOf_123 {d : Nat} {Q : Value → zm_S → Prop} {w : zm_S} {a1 : Int32} {a2 : Int32} {s0 : Int32} {s1 : Int32} {Q' : Value → zm_S → Prop} (hC : zm_C zd_H d mX8_power [.int s0, .int ((a1 - (1 : Int32)) - a2)] w Q') (k : ∀ (r : Int32) (u : zm_S), Q' (.int r) u → zm_T zd_H (d + 1) mX8_lessonsOf Q 131 [(0, .ref 0)] [.int r, .int s1] u) : zm_T zd_H (d + 1) mX8_lessonsOf Q 123 [(0, .ref 0), (1, .int a1), (2, .int a2)] [.int s0, .int s1] w := by
  refine zm_iload_n (x := a1) 1 dX8_lessonsOf_123 rfl rfl ?_
  refine zm_iconst dX8_lessonsOf_124 (v := (1 : Int32)) (by decide) ?_
  refine zm_isub dX8_lessonsOf_125 ?_
  refine zm_iload_n (x := a2) 2 dX8_lessonsOf_126 rfl rfl ?_
  refine zm_isub dX8_lessonsOf_127 ?_
  refine zm_callSi (as := [.int s0, .int ((a1 - (1 : Int32)) - a2)]) (rest := [.int s1]) dX8_lessonsOf_128 rfl mtX8_power lkX8_296 rfl (Nat.le_of_ble_eq_true rfl) hC rfl (fun r u hq => ?_)
  refine zm_sub [0] rfl ?_
  exact k r u hq
theorem gX8_lessonsOf_131 {d : Nat} {Q : Value → zm_S → Prop} {w : zm_S} {s0 : Int32} {s1 : Int32} {Q' : Value → zm_S → Prop} (hn131 : ¬ s0 = 0) (hC : zm_C zd_H d mX8_n [.ref 0] w Q') (k : ∀ (r : Int32) (u : zm_S), Q' (.int r) u → zm_T zd_H (d + 1) mX8_lessonsOf Q 136 [] [.int r, .int (s1 / s0)] u) : zm_T zd_H (d + 1) mX8_lessonsOf Q 131 [(0, .ref 0)] [.int s0, .int s1] w := by
  refine zm_idiv dX8_lessonsOf_131 hn131 ?_
  refine zm_aload_n (x := 0) 0 dX8_lessonsOf_132 rfl rfl ?_
  refine zm_callVi (as := []) (rest := [.int (s1 / s0)]) dX8_lessonsOf_133 rfl mtX8_n lkX8_111 zd_H0 (C := RX8) rfl rfl rfl (Nat.le_of_ble_eq_true rfl) hC rfl (fun r u hq => ?_)
  refine zm_sub [] rfl ?_
  exact k r u hq
theorem gX8_lessonsOf_136 {d : Nat} {Q : Value → zm_S → Prop} {w : zm_S} {s0 : Int32} {s1 : Int32} (hn136 : ¬ s0 = 0) (k : Q (.int (s1 - s1 / s0 * s0)) w) : zm_T zd_H d mX8_lessonsOf Q 136 [] [.int s0, .int s1] w := by
  refine zm_irem dX8_lessonsOf_136 hn136 ?_
  exact zm_ireturn dX8_lessonsOf_137 rfl k
theorem gX8_lessons_0 {d : Nat} {Q : Value → zm_S → Prop} {w : zm_S} {a1 : Int32} {a2 : Int32} {Q' : Value → zm_S → Prop} (hC : zm_C zd_H d mX8_in [.long ((a1).toInt64), .long (0 : Int64), .long (4 : Int64)] w Q') (k : ∀ (r : Int32) (u : zm_S), Q' (.int r) u → zm_T zd_H (d + 1) mX8_lessons Q 9 [(0, .ref 0), (1, .int a1), (2, .int a2)] [.int r] u) : zm_T zd_H (d + 1) mX8_lessons Q 0 [(0, .ref 0), (1, .int a1), (2, .int a2)] [] w := by
  refine zm_iload_n (x := a1) 1 dX8_lessons_0 rfl rfl ?_
  refine zm_i2l dX8_lessons_1 ?_
  refine zm_lconst dX8_lessons_2 (v := (0 : Int64)) (by decide) ?_
  refine zm_ldc2_w dX8_lessons_3 kcX8_305 ?_
  refine zm_callSz (as := [.long ((a1).toInt64), .long (0 : Int64), .long (4 : Int64)]) (rest := []) dX8_lessons_6 rfl mtX8_in lkX8_78 rfl (Nat.le_of_ble_eq_true rfl) hC rfl (fun r u hq => ?_)
  exact k r u hq
theorem gX8_lessons_9 {d : Nat} {Q : Value → zm_S → Prop} {w : zm_S} {a1 : Int32} {a2 : Int32} {s0 : Int32} (kt : s0 = 0 → zm_T zd_H d mX8_lessons Q 36 [] [] w) (kf : ¬ s0 = 0 → zm_T zd_H d mX8_lessons Q 12 [(0, .ref 0), (1, .int a1), (2, .int a2)] [] w) : zm_T zd_H d mX8_lessons Q 9 [(0, .ref 0), (1, .int a1), (2, .int a2)] [.int s0] w := by
  refine zm_if_eq 36 dX8_lessons_9 (by decide) (fun h => ?_) (fun h => ?_)
  · refine zm_sub [] rfl ?_
    exact kt h
  · exact kf h
theorem gX8_lessons_12 {d : Nat} {Q : Value → zm_S → Prop} {w : zm_S} {a1 : Int32} {a2 : Int32} {Q' : Value → zm_S → Prop} (hC : zm_C zd_H d mX8_in [.long ((a2).toInt64), .long (-1 : Int64), .long (((a1 - (1 : Int32))).toInt64)] w Q') (k : ∀ (r : Int32) (u : zm_S), Q' (.int r) u → zm_T zd_H (d + 1) mX8_lessons Q 24 [(0, .ref 0), (1, .int a1), (2, .int a2)] [.int r] u) : zm_T zd_H (d + 1) mX8_lessons Q 12 [(0, .ref 0), (1, .int a1), (2, .int a2)] [] w := by
  refine zm_iload_n (x := a2) 2 dX8_lessons_12 rfl rfl ?_
  refine zm_i2l dX8_lessons_13 ?_
  refine zm_ldc2_w dX8_lessons_14 kcX8_291 ?_
  refine zm_iload_n (x := a1) 1 dX8_lessons_17 rfl rfl ?_
  refine zm_iconst dX8_lessons_18 (v := (1 : Int32)) (by decide) ?_
  refine zm_isub dX8_lessons_19 ?_
  refine zm_i2l dX8_lessons_20 ?_
  refine zm_callSz (as := [.long ((a2).toInt64), .long (-1 : Int64), .long (((a1 - (1 : Int32))).toInt64)]) (rest := []) dX8_lessons_21 rfl mtX8_in lkX8_78 rfl (Nat.le_of_ble_eq_true rfl) hC rfl (fun r u hq => ?_)
  exact k r u hq
theorem gX8_lessons_24 {d : Nat} {Q : Value → zm_S → Prop} {w : zm_S} {a1 : Int32} {a2 : Int32} {s0 : Int32} (kt : s0 = 0 → zm_T zd_H d mX8_lessons Q 36 [] [] w) (kf : ¬ s0 = 0 → zm_T zd_H d mX8_lessons Q 27 [(0, .ref 0), (1, .int a1), (2, .int a2)] [] w) : zm_T zd_H d mX8_lessons Q 24 [(0, .ref 0), (1, .int a1), (2, .int a2)] [.int s0] w := by
  refine zm_if_eq 36 dX8_lessons_24 (by decide) (fun h => ?_) (fun h => ?_)
  · refine zm_sub [] rfl ?_
    exact kt h
  · exact kf h
theorem gX8_lessons_27 {d : Nat} {Q : Value → zm_S → Prop} {w : zm_S} {a1 : Int32} {a2 : Int32} {Q' : Value → zm_S → Prop} (hC : zm_C zd_H d mX8_lessonsOf [.ref 0, .int a1, .int a2] w Q') (k : ∀ (r : Int32) (u : zm_S), Q' (.int r) u → zm_T zd_H (d + 1) mX8_lessons Q 33 [] [.int r] u) : zm_T zd_H (d + 1) mX8_lessons Q 27 [(0, .ref 0), (1, .int a1), (2, .int a2)] [] w := by
  refine zm_aload_n (x := 0) 0 dX8_lessons_27 rfl rfl ?_
  refine zm_iload_n (x := a1) 1 dX8_lessons_28 rfl rfl ?_
  refine zm_iload_n (x := a2) 2 dX8_lessons_29 rfl rfl ?_
  refine zm_callVi (as := [.int a1, .int a2]) (rest := []) dX8_lessons_30 rfl mtX8_lessonsOf lkX8_307 zd_H0 (C := RX8) rfl rfl rfl (Nat.le_of_ble_eq_true rfl) hC rfl (fun r u hq => ?_)
  refine zm_sub [] rfl ?_
  exact k r u hq
theorem gX8_lessons_33 {d : Nat} {Q : Value → zm_S → Prop} {w : zm_S} {s0 : Int32} (k : Q (.int s0) w) : zm_T zd_H d mX8_lessons Q 33 [] [.int s0] w := by
  refine zm_goto 38 dX8_lessons_33 (by decide) ?_
  exact zm_ireturn dX8_lessons_38 rfl k
theorem gX8_lessons_36 {d : Nat} {Q : Value → zm_S → Prop} {w : zm_S} (k : Q (.int (-2 : Int32)) w) : zm_T zd_H d mX8_lessons Q 36 [] [] w := by
  refine zm_bipush dX8_lessons_36 (v := (-2 : Int32)) (by decide) ?_
  exact zm_ireturn dX8_lessons_38 rfl k
theorem gX8_write_0 {d : Nat} {Q : Value → zm_S → Prop} {w : zm_S} {a1 : Int32} {Q' : Value → zm_S → Prop} (hC : zm_C zd_H d mX8_isSheet [.int a1] w Q') (k : ∀ (r : Int32) (u : zm_S), Q' (.int r) u → zm_T zd_H (d + 1) mX8_write Q 4 [(0, .ref 0), (1, .int a1)] [.int r] u) : zm_T zd_H (d + 1) mX8_write Q 0 [(0, .ref 0), (1, .int a1)] [] w := by
  refine zm_iload_n (x := a1) 1 dX8_write_0 rfl rfl ?_
  refine zm_callSz (as := [.int a1]) (rest := []) dX8_write_1 rfl mtX8_isSheet lkX8_88 rfl (Nat.le_of_ble_eq_true rfl) hC rfl (fun r u hq => ?_)
  exact k r u hq
theorem gX8_write_4 {d : Nat} {Q : Value → zm_S → Prop} {w : zm_S} {a1 : Int32} {s0 : Int32} (kt : ¬ s0 = 0 → zm_T zd_H d mX8_write Q 10 [(0, .ref 0), (1, .int a1)] [] w) (kf : s0 = 0 → zm_T zd_H d mX8_write Q 7 [] [] w) : zm_T zd_H d mX8_write Q 4 [(0, .ref 0), (1, .int a1)] [.int s0] w := by
  refine zm_if_ne 10 dX8_write_4 (by decide) (fun h => ?_) (fun h => ?_)
  · exact kt h
  · refine zm_sub [] rfl ?_
    exact kf h
theorem gX8_write_7 {d : Nat} {Q : Value → zm_S → Prop} {w : zm_S} (k : Q (.int (-2 : Int32)) w) : zm_T zd_H d mX8_write Q 7 [] [] w := by
  refine zm_bipush dX8_write_7 (v := (-2 : Int32)) (by decide) ?_
  exact zm_ireturn dX8_write_9 rfl k
theorem gX8_write_10 {d : Nat} {Q : Value → zm_S → Prop} {w : zm_S} {a1 : Int32} (hi15 : vp_in a1 4) (kt : 0 ≤ (w.1 1 (a1).toNatClampNeg) → zm_T zd_H d mX8_write Q 25 [(0, .ref 0), (1, .int a1)] [] w) (kf : ¬ 0 ≤ (w.1 1 (a1).toNatClampNeg) → zm_T zd_H d mX8_write Q 19 [(0, .ref 0)] [] w) : zm_T zd_H d mX8_write Q 10 [(0, .ref 0), (1, .int a1)] [] w := by
  refine zm_aload_n (x := 0) 0 dX8_write_10 rfl rfl ?_
  refine zm_getf (v := .ref 1) (j := 0) dX8_write_11 clX8 flX8_7 (Nat.le_of_ble_eq_true rfl) zd_H0 rfl rfl ?_
  refine zm_iload_n (x := a1) 1 dX8_write_14 rfl rfl ?_
  refine zm_iald dX8_write_15 zd_H1 hi15 ?_
  refine zm_if_ge 25 dX8_write_16 (by decide) (fun h => ?_) (fun h => ?_)
  · exact kt h
  · refine zm_sub [0] rfl ?_
    exact kf h
theorem gX8_write_19 {d : Nat} {Q : Value → zm_S → Prop} {w : zm_S} {Q' : Value → zm_S → Prop} (hC : zm_C zd_H d mX8_met [.ref 0, .int (1 : Int32)] w Q') (k : ∀ (r : Int32) (u : zm_S), Q' (.int r) u → zm_T zd_H (d + 1) mX8_write Q 24 [] [.int r] u) : zm_T zd_H (d + 1) mX8_write Q 19 [(0, .ref 0)] [] w := by
  refine zm_aload_n (x := 0) 0 dX8_write_19 rfl rfl ?_
  refine zm_iconst dX8_write_20 (v := (1 : Int32)) (by decide) ?_
  refine zm_callVi (as := [.int (1 : Int32)]) (rest := []) dX8_write_21 rfl mtX8_met lkX8_94 zd_H0 (C := RX8) rfl rfl rfl (Nat.le_of_ble_eq_true rfl) hC rfl (fun r u hq => ?_)
  refine zm_sub [] rfl ?_
  exact k r u hq
theorem gX8_write_24 {d : Nat} {Q : Value → zm_S → Prop} {w : zm_S} {s0 : Int32} (k : Q (.int s0) w) : zm_T zd_H d mX8_write Q 24 [] [.int s0] w := by
  exact zm_ireturn dX8_write_24 rfl k
theorem gX8_write_25 {d : Nat} {Q : Value → zm_S → Prop} {w : zm_S} {a1 : Int32} (hi30 : vp_in a1 4) (kt : (12 : Int32) ≤ (w.1 2 (a1).toNatClampNeg) → zm_T zd_H d mX8_write Q 45 [(0, .ref 0), (1, .int a1)] [] w) (kf : ¬ (12 : Int32) ≤ (w.1 2 (a1).toNatClampNeg) → zm_T zd_H d mX8_write Q 36 [(0, .ref 0), (1, .int a1)] [] w) : zm_T zd_H d mX8_write Q 25 [(0, .ref 0), (1, .int a1)] [] w := by
  refine zm_aload_n (x := 0) 0 dX8_write_25 rfl rfl ?_
  refine zm_getf (v := .ref 2) (j := 1) dX8_write_26 clX8 flX8_13 (Nat.le_of_ble_eq_true rfl) zd_H0 rfl rfl ?_
  refine zm_iload_n (x := a1) 1 dX8_write_29 rfl rfl ?_
  refine zm_iald dX8_write_30 zd_H2 hi30 ?_
  refine zm_bipush dX8_write_31 (v := (12 : Int32)) (by decide) ?_
  refine zm_icmp_ge 45 dX8_write_33 (by decide) (fun h => ?_) (fun h => ?_)
  · exact kt h
  · exact kf h
theorem gX8_write_36 {d : Nat} {Q : Value → zm_S → Prop} {w : zm_S} {a1 : Int32} (hi41 : vp_in a1 4) (k : zm_T zd_H d mX8_write Q 47 [(0, .ref 0), (1, .int a1)] [.int (w.1 2 (a1).toNatClampNeg)] w) : zm_T zd_H d mX8_write Q 36 [(0, .ref 0), (1, .int a1)] [] w := by
  refine zm_aload_n (x := 0) 0 dX8_write_36 rfl rfl ?_
  refine zm_getf (v := .ref 2) (j := 1) dX8_write_37 clX8 flX8_13 (Nat.le_of_ble_eq_true rfl) zd_H0 rfl rfl ?_
  refine zm_iload_n (x := a1) 1 dX8_write_40 rfl rfl ?_
  refine zm_iald dX8_write_41 zd_H2 hi41 ?_
  refine zm_goto 47 dX8_write_42 (by decide) ?_
  exact k
theorem gX8_write_45 {d : Nat} {Q : Value → zm_S → Prop} {w : zm_S} {a1 : Int32} (k : zm_T zd_H d mX8_write Q 47 [(0, .ref 0), (1, .int a1)] [.int (12 : Int32)] w) : zm_T zd_H d mX8_write Q 45 [(0, .ref 0), (1, .int a1)] [] w := by
  refine zm_bipush dX8_write_45 (v := (12 : Int32)) (by decide) ?_
  exact k
theorem gX8_write_47 {d : Nat} {Q : Value → zm_S → Prop} {w : zm_S} {a1 : Int32} {s0 : Int32} (k : zm_T zd_H d mX8_write Q 50 [(0, .ref 0), (1, .int a1), (2, .int s0), (3, .int (0 : Int32))] [] w) : zm_T zd_H d mX8_write Q 47 [(0, .ref 0), (1, .int a1)] [.int s0] w := by
  refine zm_istore_n dX8_write_47 rfl (Nat.le_of_ble_eq_true rfl) (ls' := [(2, .int s0), (0, .ref 0), (1, .int a1)]) rfl ?_
  refine zm_iconst dX8_write_48 (v := (0 : Int32)) (by decide) ?_
  refine zm_istore_n dX8_write_49 rfl (Nat.le_of_ble_eq_true rfl) (ls' := [(3, .int (0 : Int32)), (2, .int s0), (0, .ref 0), (1, .int a1)]) rfl ?_
  refine zm_sub [2, 3, 1, 0] rfl ?_
  exact k
theorem gX8_write_50 {d : Nat} {Q : Value → zm_S → Prop} {w : zm_S} {a1 : Int32} {a2 : Int32} {a3 : Int32} (kt : a2 ≤ a3 → zm_T zd_H d mX8_write Q 87 [(2, .int a2)] [] w) (kf : ¬ a2 ≤ a3 → zm_T zd_H d mX8_write Q 55 [(0, .ref 0), (1, .int a1), (2, .int a2), (3, .int a3)] [] w) : zm_T zd_H d mX8_write Q 50 [(0, .ref 0), (1, .int a1), (2, .int a2), (3, .int a3)] [] w := by
  refine zm_iload_n (x := a3) 3 dX8_write_50 rfl rfl ?_
  refine zm_iload_n (x := a2) 2 dX8_write_51 rfl rfl ?_
  refine zm_icmp_ge 87 dX8_write_52 (by decide) (fun h => ?_) (fun h => ?_)
  · refine zm_sub [2] rfl ?_
    exact kt h
  · exact kf h
theorem gX8_write_55 {d : Nat} {Q : Value → zm_S → Prop} {w : zm_S} {a1 : Int32} {a2 : Int32} {a3 : Int32} {Q' : Value → zm_S → Prop} (hi70 : vp_in a1 4) (hC : zm_C zd_H d mX8_belongsOf [.ref 0, .int a3, .int (0 : Int32)] w Q') (k : ∀ (r : Int32) (u : zm_S), Q' (.int r) u → zm_T zd_H (d + 1) mX8_write Q 77 [(0, .ref 0), (1, .int a1), (2, .int a2), (3, .int a3)] [.int r, .int (w.1 1 (a1).toNatClampNeg), .int (((60 : Int32) * a1) + a3), .ref 3] u) : zm_T zd_H (d + 1) mX8_write Q 55 [(0, .ref 0), (1, .int a1), (2, .int a2), (3, .int a3)] [] w := by
  refine zm_aload_n (x := 0) 0 dX8_write_55 rfl rfl ?_
  refine zm_getf (v := .ref 3) (j := 2) dX8_write_56 clX8 flX8_16 (Nat.le_of_ble_eq_true rfl) zd_H0 rfl rfl ?_
  refine zm_bipush dX8_write_59 (v := (60 : Int32)) (by decide) ?_
  refine zm_iload_n (x := a1) 1 dX8_write_61 rfl rfl ?_
  refine zm_imul dX8_write_62 ?_
  refine zm_iload_n (x := a3) 3 dX8_write_63 rfl rfl ?_
  refine zm_iadd dX8_write_64 ?_
  refine zm_aload_n (x := 0) 0 dX8_write_65 rfl rfl ?_
  refine zm_getf (v := .ref 1) (j := 0) dX8_write_66 clX8 flX8_7 (Nat.le_of_ble_eq_true rfl) zd_H0 rfl rfl ?_
  refine zm_iload_n (x := a1) 1 dX8_write_69 rfl rfl ?_
  refine zm_iald dX8_write_70 zd_H1 hi70 ?_
  refine zm_aload_n (x := 0) 0 dX8_write_71 rfl rfl ?_
  refine zm_iload_n (x := a3) 3 dX8_write_72 rfl rfl ?_
  refine zm_iconst dX8_write_73 (v := (0 : Int32)) (by decide) ?_
  refine zm_callVi (as := [.int a3, .int (0 : Int32)]) (rest := [.int (w.1 1 (a1).toNatClampNeg), .int (((60 : Int32) * a1) + a3), .ref 3]) dX8_write_74 rfl mtX8_belongsOf lkX8_267 zd_H0 (C := RX8) rfl rfl rfl (Nat.le_of_ble_eq_true rfl) hC rfl (fun r u hq => ?_)
  exact k r u hq
theorem gX8_write_77 {d : Nat} {Q : Value → zm_S → Prop} {w : zm_S} {a1 : Int32} {a2 : Int32} {a3 : Int32} {s0 : Int32} {s1 : Int32} {s2 : Int32} {Q' : Value → zm_S → Prop} (hC : zm_C zd_H d mX8_cut [.int s1, .int s0] w Q') (k : ∀ (r : Int32) (u : zm_S), Q' (.int r) u → zm_T zd_H (d + 1) mX8_write Q 80 [(0, .ref 0), (1, .int a1), (2, .int a2), (3, .int a3)] [.int r, .int s2, .ref 3] u) : zm_T zd_H (d + 1) mX8_write Q 77 [(0, .ref 0), (1, .int a1), (2, .int a2), (3, .int a3)] [.int s0, .int s1, .int s2, .ref 3] w := by
  refine zm_callSi (as := [.int s1, .int s0]) (rest := [.int s2, .ref 3]) dX8_write_77 rfl mtX8_cut lkX8_102 rfl (Nat.le_of_ble_eq_true rfl) hC rfl (fun r u hq => ?_)
  exact k r u hq
theorem gX8_write_80 {d : Nat} {Q : Value → zm_S → Prop} {w : zm_S} {a1 : Int32} {a2 : Int32} {a3 : Int32} {s0 : Int32} {s1 : Int32} (hi80 : vp_in s1 240) (k : zm_T zd_H d mX8_write Q 50 [(0, .ref 0), (1, .int a1), (2, .int a2), (3, .int (a3 + (1 : Int32)))] [] (zm_pi w 3 (s1).toNatClampNeg s0)) : zm_T zd_H d mX8_write Q 80 [(0, .ref 0), (1, .int a1), (2, .int a2), (3, .int a3)] [.int s0, .int s1, .ref 3] w := by
  refine zm_iast dX8_write_80 zd_H3 hi80 ?_
  refine zm_iinc 3 dX8_write_81 (x := a3) (v := (a3 + (1 : Int32))) rfl rfl (Nat.le_of_ble_eq_true rfl) (ls' := [(3, .int (a3 + (1 : Int32))), (0, .ref 0), (1, .int a1), (2, .int a2)]) rfl ?_
  refine zm_goto 50 dX8_write_84 (by decide) ?_
  refine zm_sub [1, 2, 3, 0] rfl ?_
  exact k
theorem gX8_write_87 {d : Nat} {Q : Value → zm_S → Prop} {w : zm_S} {a2 : Int32} (k : Q (.int a2) w) : zm_T zd_H d mX8_write Q 87 [(2, .int a2)] [] w := by
  refine zm_iload_n (x := a2) 0 dX8_write_87 rfl rfl ?_
  exact zm_ireturn dX8_write_88 rfl k
theorem gX8_pupilsWith_0 {d : Nat} {Q : Value → zm_S → Prop} {w : zm_S} (k : zm_T zd_H d mX8_pupilsWith Q 4 [(0, .ref 0), (1, .int (0 : Int32)), (2, .int (0 : Int32))] [] w) : zm_T zd_H d mX8_pupilsWith Q 0 [(0, .ref 0)] [] w := by
  refine zm_iconst dX8_pupilsWith_0 (v := (0 : Int32)) (by decide) ?_
  refine zm_istore_n dX8_pupilsWith_1 rfl (Nat.le_of_ble_eq_true rfl) (ls' := [(1, .int (0 : Int32)), (0, .ref 0)]) rfl ?_
  refine zm_iconst dX8_pupilsWith_2 (v := (0 : Int32)) (by decide) ?_
  refine zm_istore_n dX8_pupilsWith_3 rfl (Nat.le_of_ble_eq_true rfl) (ls' := [(2, .int (0 : Int32)), (1, .int (0 : Int32)), (0, .ref 0)]) rfl ?_
  refine zm_sub [2, 1, 0] rfl ?_
  exact k
theorem gX8_pupilsWith_4 {d : Nat} {Q : Value → zm_S → Prop} {w : zm_S} {a1 : Int32} {a2 : Int32} (kt : (12 : Int32) ≤ a2 → zm_T zd_H d mX8_pupilsWith Q 32 [(1, .int a1)] [] w) (kf : ¬ (12 : Int32) ≤ a2 → zm_T zd_H d mX8_pupilsWith Q 10 [(0, .ref 0), (1, .int a1), (2, .int a2)] [] w) : zm_T zd_H d mX8_pupilsWith Q 4 [(0, .ref 0), (1, .int a1), (2, .int a2)] [] w := by
  refine zm_iload_n (x := a2) 2 dX8_pupilsWith_4 rfl rfl ?_
  refine zm_bipush dX8_pupilsWith_5 (v := (12 : Int32)) (by decide) ?_
  refine zm_icmp_ge 32 dX8_pupilsWith_7 (by decide) (fun h => ?_) (fun h => ?_)
  · refine zm_sub [1] rfl ?_
    exact kt h
  · exact kf h
theorem gX8_pupilsWith_10 {d : Nat} {Q : Value → zm_S → Prop} {w : zm_S} {a1 : Int32} {a2 : Int32} {Q' : Value → zm_S → Prop} (hC : zm_C zd_H d mX8_isSome [.ref 0, .int a2] w Q') (k : ∀ (r : Int32) (u : zm_S), Q' (.int r) u → zm_T zd_H (d + 1) mX8_pupilsWith Q 16 [(0, .ref 0), (2, .int a2)] [.int r, .int a1] u) : zm_T zd_H (d + 1) mX8_pupilsWith Q 10 [(0, .ref 0), (1, .int a1), (2, .int a2)] [] w := by
  refine zm_iload_n (x := a1) 1 dX8_pupilsWith_10 rfl rfl ?_
  refine zm_aload_n (x := 0) 0 dX8_pupilsWith_11 rfl rfl ?_
  refine zm_iload_n (x := a2) 2 dX8_pupilsWith_12 rfl rfl ?_
  refine zm_callVz (as := [.int a2]) (rest := [.int a1]) dX8_pupilsWith_13 rfl mtX8_isSome lkX8_299 zd_H0 (C := RX8) rfl rfl rfl (Nat.le_of_ble_eq_true rfl) hC rfl (fun r u hq => ?_)
  refine zm_sub [0, 2] rfl ?_
  exact k r u hq
theorem gX8_pupilsWith_16 {d : Nat} {Q : Value → zm_S → Prop} {w : zm_S} {a2 : Int32} {s0 : Int32} {s1 : Int32} (kt : s0 = 0 → zm_T zd_H d mX8_pupilsWith Q 23 [(0, .ref 0), (2, .int a2)] [.int s1] w) (kf : ¬ s0 = 0 → zm_T zd_H d mX8_pupilsWith Q 19 [(0, .ref 0), (2, .int a2)] [.int s1] w) : zm_T zd_H d mX8_pupilsWith Q 16 [(0, .ref 0), (2, .int a2)] [.int s0, .int s1] w := by
  refine zm_if_eq 23 dX8_pupilsWith_16 (by decide) (fun h => ?_) (fun h => ?_)
  · exact kt h
  · exact kf h
theorem gX8_pupilsWith_19 {d : Nat} {Q : Value → zm_S → Prop} {w : zm_S} {a2 : Int32} {s0 : Int32} (k : zm_T zd_H d mX8_pupilsWith Q 24 [(0, .ref 0), (2, .int a2)] [.int (1 : Int32), .int s0] w) : zm_T zd_H d mX8_pupilsWith Q 19 [(0, .ref 0), (2, .int a2)] [.int s0] w := by
  refine zm_iconst dX8_pupilsWith_19 (v := (1 : Int32)) (by decide) ?_
  refine zm_goto 24 dX8_pupilsWith_20 (by decide) ?_
  exact k
theorem gX8_pupilsWith_23 {d : Nat} {Q : Value → zm_S → Prop} {w : zm_S} {a2 : Int32} {s0 : Int32} (k : zm_T zd_H d mX8_pupilsWith Q 24 [(0, .ref 0), (2, .int a2)] [.int (0 : Int32), .int s0] w) : zm_T zd_H d mX8_pupilsWith Q 23 [(0, .ref 0), (2, .int a2)] [.int s0] w := by
  refine zm_iconst dX8_pupilsWith_23 (v := (0 : Int32)) (by decide) ?_
  exact k
theorem gX8_pupilsWith_24 {d : Nat} {Q : Value → zm_S → Prop} {w : zm_S} {a2 : Int32} {s0 : Int32} {s1 : Int32} (k : zm_T zd_H d mX8_pupilsWith Q 4 [(0, .ref 0), (1, .int (s1 + s0)), (2, .int (a2 + (1 : Int32)))] [] w) : zm_T zd_H d mX8_pupilsWith Q 24 [(0, .ref 0), (2, .int a2)] [.int s0, .int s1] w := by
  refine zm_iadd dX8_pupilsWith_24 ?_
  refine zm_istore_n dX8_pupilsWith_25 rfl (Nat.le_of_ble_eq_true rfl) (ls' := [(1, .int (s1 + s0)), (0, .ref 0), (2, .int a2)]) rfl ?_
  refine zm_iinc 2 dX8_pupilsWith_26 (x := a2) (v := (a2 + (1 : Int32))) rfl rfl (Nat.le_of_ble_eq_true rfl) (ls' := [(2, .int (a2 + (1 : Int32))), (1, .int (s1 + s0)), (0, .ref 0)]) rfl ?_
  refine zm_goto 4 dX8_pupilsWith_29 (by decide) ?_
  refine zm_sub [2, 1, 0] rfl ?_
  exact k
theorem gX8_pupilsWith_32 {d : Nat} {Q : Value → zm_S → Prop} {w : zm_S} {a1 : Int32} (k : Q (.int a1) w) : zm_T zd_H d mX8_pupilsWith Q 32 [(1, .int a1)] [] w := by
  refine zm_iload_n (x := a1) 0 dX8_pupilsWith_32 rfl rfl ?_
  exact zm_ireturn dX8_pupilsWith_33 rfl k
theorem gX8_count_0 {d : Nat} {Q : Value → zm_S → Prop} {w : zm_S} {a1 : Int32} {Q' : Value → zm_S → Prop} (hC : zm_C zd_H d mX8_find [.ref 0] w Q') (k : ∀ (u : zm_S), Q' .null u → zm_T zd_H (d + 1) mX8_count Q 4 [(0, .ref 0), (1, .int a1)] [] u) : zm_T zd_H (d + 1) mX8_count Q 0 [(0, .ref 0), (1, .int a1)] [] w := by
  refine zm_aload_n (x := 0) 0 dX8_count_0 rfl rfl ?_
  refine zm_callVv (as := []) (rest := []) dX8_count_1 rfl mtX8_find lkX8_182 zd_H0 (C := RX8) rfl rfl rfl (Nat.le_of_ble_eq_true rfl) hC rfl (fun u hq => ?_)
  exact k u hq
theorem gX8_count_4 {d : Nat} {Q : Value → zm_S → Prop} {w : zm_S} {a1 : Int32} (k0 : a1 = (0 : Int32) → zm_T zd_H d mX8_count Q 56 [(0, .ref 0)] [] w) (k1 : a1 = (1 : Int32) → zm_T zd_H d mX8_count Q 61 [(0, .ref 0)] [] w) (k2 : a1 = (2 : Int32) → zm_T zd_H d mX8_count Q 66 [(0, .ref 0)] [] w) (k3 : a1 = (3 : Int32) → zm_T zd_H d mX8_count Q 78 [(0, .ref 0)] [] w) (k4 : a1 = (4 : Int32) → zm_T zd_H d mX8_count Q 84 [(0, .ref 0)] [] w) (k5 : a1 = (5 : Int32) → zm_T zd_H d mX8_count Q 89 [(0, .ref 0)] [] w) (k6 : a1 = (6 : Int32) → zm_T zd_H d mX8_count Q 94 [(0, .ref 0)] [] w) (k7 : a1 = (7 : Int32) → zm_T zd_H d mX8_count Q 99 [(0, .ref 0)] [] w) (k8 : a1 = (8 : Int32) → zm_T zd_H d mX8_count Q 106 [(0, .ref 0)] [] w) (kd : (a1.toInt < 0 ∨ 8 < a1.toInt) → zm_T zd_H d mX8_count Q 111 [] [] w) : zm_T zd_H d mX8_count Q 4 [(0, .ref 0), (1, .int a1)] [] w := by
  refine zm_iload_n (x := a1) 1 dX8_count_4 rfl rfl ?_
  by_cases hlo : (a1).toInt < 0
  · refine zm_tableOut 111 dX8_count_5 (Or.inl hlo) (by decide) ?_
    refine zm_sub [] rfl ?_
    exact kd (Or.inl hlo)
  by_cases hhi : 8 < (a1).toInt
  · refine zm_tableOut 111 dX8_count_5 (Or.inr hhi) (by decide) ?_
    refine zm_sub [] rfl ?_
    exact kd (Or.inr hhi)
  have hcs : a1 = (0 : Int32) ∨ a1 = (1 : Int32) ∨ a1 = (2 : Int32) ∨ a1 = (3 : Int32) ∨ a1 = (4 : Int32) ∨ a1 = (5 : Int32) ∨ a1 = (6 : Int32) ∨ a1 = (7 : Int32) ∨ a1 = (8 : Int32) := by
    have hv : (a1).toInt = 0 ∨ (a1).toInt = 1 ∨ (a1).toInt = 2 ∨ (a1).toInt = 3 ∨ (a1).toInt = 4 ∨ (a1).toInt = 5 ∨ (a1).toInt = 6 ∨ (a1).toInt = 7 ∨ (a1).toInt = 8 := by omega
    rcases hv with h | h | h | h | h | h | h | h | h
    · exact Or.inl (Int32.toInt_inj.mp h)
    · exact Or.inr (Or.inl (Int32.toInt_inj.mp h))
    · exact Or.inr (Or.inr (Or.inl (Int32.toInt_inj.mp h)))
    · exact Or.inr (Or.inr (Or.inr (Or.inl (Int32.toInt_inj.mp h))))
    · exact Or.inr (Or.inr (Or.inr (Or.inr (Or.inl (Int32.toInt_inj.mp h)))))
    · exact Or.inr (Or.inr (Or.inr (Or.inr (Or.inr (Or.inl (Int32.toInt_inj.mp h))))))
    · exact Or.inr (Or.inr (Or.inr (Or.inr (Or.inr (Or.inr (Or.inl (Int32.toInt_inj.mp h)))))))
    · exact Or.inr (Or.inr (Or.inr (Or.inr (Or.inr (Or.inr (Or.inr (Or.inl (Int32.toInt_inj.mp h))))))))
    · exact Or.inr (Or.inr (Or.inr (Or.inr (Or.inr (Or.inr (Or.inr (Or.inr ((Int32.toInt_inj.mp h)))))))))
  rcases hcs with h | h | h | h | h | h | h | h | h
  · refine zm_tableIn 56 dX8_count_5 (by rw [h]; decide) (by rw [h]; decide) (by rw [h]; rfl) (by decide) ?_
    refine zm_sub [0] rfl ?_
    exact k0 h
  · refine zm_tableIn 61 dX8_count_5 (by rw [h]; decide) (by rw [h]; decide) (by rw [h]; rfl) (by decide) ?_
    refine zm_sub [0] rfl ?_
    exact k1 h
  · refine zm_tableIn 66 dX8_count_5 (by rw [h]; decide) (by rw [h]; decide) (by rw [h]; rfl) (by decide) ?_
    refine zm_sub [0] rfl ?_
    exact k2 h
  · refine zm_tableIn 78 dX8_count_5 (by rw [h]; decide) (by rw [h]; decide) (by rw [h]; rfl) (by decide) ?_
    refine zm_sub [0] rfl ?_
    exact k3 h
  · refine zm_tableIn 84 dX8_count_5 (by rw [h]; decide) (by rw [h]; decide) (by rw [h]; rfl) (by decide) ?_
    refine zm_sub [0] rfl ?_
    exact k4 h
  · refine zm_tableIn 89 dX8_count_5 (by rw [h]; decide) (by rw [h]; decide) (by rw [h]; rfl) (by decide) ?_
    refine zm_sub [0] rfl ?_
    exact k5 h
  · refine zm_tableIn 94 dX8_count_5 (by rw [h]; decide) (by rw [h]; decide) (by rw [h]; rfl) (by decide) ?_
    refine zm_sub [0] rfl ?_
    exact k6 h
  · refine zm_tableIn 99 dX8_count_5 (by rw [h]; decide) (by rw [h]; decide) (by rw [h]; rfl) (by decide) ?_
    refine zm_sub [0] rfl ?_
    exact k7 h
  · refine zm_tableIn 106 dX8_count_5 (by rw [h]; decide) (by rw [h]; decide) (by rw [h]; rfl) (by decide) ?_
    refine zm_sub [0] rfl ?_
    exact k8 h
theorem gX8_count_56 {d : Nat} {Q : Value → zm_S → Prop} {w : zm_S} {Q' : Value → zm_S → Prop} (hC : zm_C zd_H d mX8_n [.ref 0] w Q') (k : ∀ (r : Int32) (u : zm_S), Q' (.int r) u → zm_T zd_H (d + 1) mX8_count Q 60 [] [.int r] u) : zm_T zd_H (d + 1) mX8_count Q 56 [(0, .ref 0)] [] w := by
  refine zm_aload_n (x := 0) 0 dX8_count_56 rfl rfl ?_
  refine zm_callVi (as := []) (rest := []) dX8_count_57 rfl mtX8_n lkX8_111 zd_H0 (C := RX8) rfl rfl rfl (Nat.le_of_ble_eq_true rfl) hC rfl (fun r u hq => ?_)
  refine zm_sub [] rfl ?_
  exact k r u hq
theorem gX8_count_60 {d : Nat} {Q : Value → zm_S → Prop} {w : zm_S} {s0 : Int32} (k : Q (.int s0) w) : zm_T zd_H d mX8_count Q 60 [] [.int s0] w := by
  exact zm_ireturn dX8_count_60 rfl k
theorem gX8_count_61 {d : Nat} {Q : Value → zm_S → Prop} {w : zm_S} (k : Q (.int (w.1 0 6)) w) : zm_T zd_H d mX8_count Q 61 [(0, .ref 0)] [] w := by
  refine zm_aload_n (x := 0) 0 dX8_count_61 rfl rfl ?_
  refine zm_getf (v := .int (w.1 0 6)) (j := 6) dX8_count_62 clX8 flX8_118 (Nat.le_of_ble_eq_true rfl) zd_H0 rfl rfl ?_
  exact zm_ireturn dX8_count_65 rfl k
theorem gX8_count_66 {d : Nat} {Q : Value → zm_S → Prop} {w : zm_S} {Q' : Value → zm_S → Prop} (hC : zm_C zd_H d mX8_allAnswers [.ref 0, .int (0 : Int32)] w Q') (k : ∀ (r : Int32) (u : zm_S), Q' (.int r) u → zm_T zd_H (d + 1) mX8_count Q 71 [(0, .ref 0)] [.int r] u) : zm_T zd_H (d + 1) mX8_count Q 66 [(0, .ref 0)] [] w := by
  refine zm_aload_n (x := 0) 0 dX8_count_66 rfl rfl ?_
  refine zm_iconst dX8_count_67 (v := (0 : Int32)) (by decide) ?_
  refine zm_callVi (as := [.int (0 : Int32)]) (rest := []) dX8_count_68 rfl mtX8_allAnswers lkX8_231 zd_H0 (C := RX8) rfl rfl rfl (Nat.le_of_ble_eq_true rfl) hC rfl (fun r u hq => ?_)
  exact k r u hq
theorem gX8_count_71 {d : Nat} {Q : Value → zm_S → Prop} {w : zm_S} {s0 : Int32} {Q' : Value → zm_S → Prop} (hC : zm_C zd_H d mX8_allAnswers [.ref 0, .int (1 : Int32)] w Q') (k : ∀ (r : Int32) (u : zm_S), Q' (.int r) u → zm_T zd_H (d + 1) mX8_count Q 76 [] [.int r, .int s0] u) : zm_T zd_H (d + 1) mX8_count Q 71 [(0, .ref 0)] [.int s0] w := by
  refine zm_aload_n (x := 0) 0 dX8_count_71 rfl rfl ?_
  refine zm_iconst dX8_count_72 (v := (1 : Int32)) (by decide) ?_
  refine zm_callVi (as := [.int (1 : Int32)]) (rest := [.int s0]) dX8_count_73 rfl mtX8_allAnswers lkX8_231 zd_H0 (C := RX8) rfl rfl rfl (Nat.le_of_ble_eq_true rfl) hC rfl (fun r u hq => ?_)
  refine zm_sub [] rfl ?_
  exact k r u hq
theorem gX8_count_76 {d : Nat} {Q : Value → zm_S → Prop} {w : zm_S} {s0 : Int32} {s1 : Int32} (k : Q (.int (s1 + s0)) w) : zm_T zd_H d mX8_count Q 76 [] [.int s0, .int s1] w := by
  refine zm_iadd dX8_count_76 ?_
  exact zm_ireturn dX8_count_77 rfl k
theorem gX8_count_78 {d : Nat} {Q : Value → zm_S → Prop} {w : zm_S} {Q' : Value → zm_S → Prop} (hC : zm_C zd_H d mX8_allAnswers [.ref 0, .int (1 : Int32)] w Q') (k : ∀ (r : Int32) (u : zm_S), Q' (.int r) u → zm_T zd_H (d + 1) mX8_count Q 83 [] [.int r] u) : zm_T zd_H (d + 1) mX8_count Q 78 [(0, .ref 0)] [] w := by
  refine zm_aload_n (x := 0) 0 dX8_count_78 rfl rfl ?_
  refine zm_iconst dX8_count_79 (v := (1 : Int32)) (by decide) ?_
  refine zm_callVi (as := [.int (1 : Int32)]) (rest := []) dX8_count_80 rfl mtX8_allAnswers lkX8_231 zd_H0 (C := RX8) rfl rfl rfl (Nat.le_of_ble_eq_true rfl) hC rfl (fun r u hq => ?_)
  refine zm_sub [] rfl ?_
  exact k r u hq
theorem gX8_count_83 {d : Nat} {Q : Value → zm_S → Prop} {w : zm_S} {s0 : Int32} (k : Q (.int s0) w) : zm_T zd_H d mX8_count Q 83 [] [.int s0] w := by
  exact zm_ireturn dX8_count_83 rfl k
theorem gX8_count_84 {d : Nat} {Q : Value → zm_S → Prop} {w : zm_S} {Q' : Value → zm_S → Prop} (hC : zm_C zd_H d mX8_pupilsWith [.ref 0] w Q') (k : ∀ (r : Int32) (u : zm_S), Q' (.int r) u → zm_T zd_H (d + 1) mX8_count Q 88 [] [.int r] u) : zm_T zd_H (d + 1) mX8_count Q 84 [(0, .ref 0)] [] w := by
  refine zm_aload_n (x := 0) 0 dX8_count_84 rfl rfl ?_
  refine zm_callVi (as := []) (rest := []) dX8_count_85 rfl mtX8_pupilsWith lkX8_310 zd_H0 (C := RX8) rfl rfl rfl (Nat.le_of_ble_eq_true rfl) hC rfl (fun r u hq => ?_)
  refine zm_sub [] rfl ?_
  exact k r u hq
theorem gX8_count_88 {d : Nat} {Q : Value → zm_S → Prop} {w : zm_S} {s0 : Int32} (k : Q (.int s0) w) : zm_T zd_H d mX8_count Q 88 [] [.int s0] w := by
  exact zm_ireturn dX8_count_88 rfl k
theorem gX8_count_89 {d : Nat} {Q : Value → zm_S → Prop} {w : zm_S} (k : Q (.int (w.1 0 13)) w) : zm_T zd_H d mX8_count Q 89 [(0, .ref 0)] [] w := by
  refine zm_aload_n (x := 0) 0 dX8_count_89 rfl rfl ?_
  refine zm_getf (v := .int (w.1 0 13)) (j := 13) dX8_count_90 clX8 flX8_141 (Nat.le_of_ble_eq_true rfl) zd_H0 rfl rfl ?_
  exact zm_ireturn dX8_count_93 rfl k
theorem gX8_count_94 {d : Nat} {Q : Value → zm_S → Prop} {w : zm_S} (k : Q (.int (w.1 0 15)) w) : zm_T zd_H d mX8_count Q 94 [(0, .ref 0)] [] w := by
  refine zm_aload_n (x := 0) 0 dX8_count_94 rfl rfl ?_
  refine zm_getf (v := .int (w.1 0 15)) (j := 15) dX8_count_95 clX8 flX8_147 (Nat.le_of_ble_eq_true rfl) zd_H0 rfl rfl ?_
  exact zm_ireturn dX8_count_98 rfl k
theorem gX8_count_99 {d : Nat} {Q : Value → zm_S → Prop} {w : zm_S} (hi104 : vp_in (2 : Int32) 4) (k : Q (.int (w.1 5 ((2 : Int32)).toNatClampNeg)) w) : zm_T zd_H d mX8_count Q 99 [(0, .ref 0)] [] w := by
  refine zm_aload_n (x := 0) 0 dX8_count_99 rfl rfl ?_
  refine zm_getf (v := .ref 5) (j := 5) dX8_count_100 clX8 flX8_22 (Nat.le_of_ble_eq_true rfl) zd_H0 rfl rfl ?_
  refine zm_iconst dX8_count_103 (v := (2 : Int32)) (by decide) ?_
  refine zm_iald dX8_count_104 zd_H5 hi104 ?_
  exact zm_ireturn dX8_count_105 rfl k
theorem gX8_count_106 {d : Nat} {Q : Value → zm_S → Prop} {w : zm_S} (k : Q (.int (w.1 0 4)) w) : zm_T zd_H d mX8_count Q 106 [(0, .ref 0)] [] w := by
  refine zm_aload_n (x := 0) 0 dX8_count_106 rfl rfl ?_
  refine zm_getf (v := .int (w.1 0 4)) (j := 4) dX8_count_107 clX8 flX8_82 (Nat.le_of_ble_eq_true rfl) zd_H0 rfl rfl ?_
  exact zm_ireturn dX8_count_110 rfl k
theorem gX8_count_111 {d : Nat} {Q : Value → zm_S → Prop} {w : zm_S} (k : Q (.int (-2 : Int32)) w) : zm_T zd_H d mX8_count Q 111 [] [] w := by
  refine zm_bipush dX8_count_111 (v := (-2 : Int32)) (by decide) ?_
  exact zm_ireturn dX8_count_113 rfl k
theorem gX8_digest_0 {d : Nat} {Q : Value → zm_S → Prop} {w : zm_S} (k : zm_T zd_H d mX8_digest Q 6 [(0, .ref 0), (1, .long (17 : Int64)), (3, .int (0 : Int32))] [] w) : zm_T zd_H d mX8_digest Q 0 [(0, .ref 0)] [] w := by
  refine zm_ldc2_w dX8_digest_0 kcX8_313 ?_
  refine zm_lstore_n dX8_digest_3 rfl (Nat.le_of_ble_eq_true rfl) (ls' := [(1, .long (17 : Int64)), (0, .ref 0)]) rfl ?_
  refine zm_iconst dX8_digest_4 (v := (0 : Int32)) (by decide) ?_
  refine zm_istore_n dX8_digest_5 rfl (Nat.le_of_ble_eq_true rfl) (ls' := [(3, .int (0 : Int32)), (1, .long (17 : Int64)), (0, .ref 0)]) rfl ?_
  refine zm_sub [2, 1, 0] rfl ?_
  exact k
theorem gX8_digest_6 {d : Nat} {Q : Value → zm_S → Prop} {w : zm_S} {a1 : Int64} {a3 : Int32} (kt : (8 : Int32) ≤ a3 → zm_T zd_H d mX8_digest Q 31 [(0, .ref 0), (1, .long a1)] [] w) (kf : ¬ (8 : Int32) ≤ a3 → zm_T zd_H d mX8_digest Q 12 [(0, .ref 0), (1, .long a1), (3, .int a3)] [] w) : zm_T zd_H d mX8_digest Q 6 [(0, .ref 0), (1, .long a1), (3, .int a3)] [] w := by
  refine zm_iload_n (x := a3) 2 dX8_digest_6 rfl rfl ?_
  refine zm_bipush dX8_digest_7 (v := (8 : Int32)) (by decide) ?_
  refine zm_icmp_ge 31 dX8_digest_9 (by decide) (fun h => ?_) (fun h => ?_)
  · refine zm_sub [0, 1] rfl ?_
    exact kt h
  · exact kf h
theorem gX8_digest_12 {d : Nat} {Q : Value → zm_S → Prop} {w : zm_S} {a1 : Int64} {a3 : Int32} {Q' : Value → zm_S → Prop} (hC : zm_C zd_H d mX8_count [.ref 0, .int a3] w Q') (k : ∀ (r : Int32) (u : zm_S), Q' (.int r) u → zm_T zd_H (d + 1) mX8_digest Q 22 [(0, .ref 0), (3, .int a3)] [.int r, .long ((31 : Int64) * a1)] u) : zm_T zd_H (d + 1) mX8_digest Q 12 [(0, .ref 0), (1, .long a1), (3, .int a3)] [] w := by
  refine zm_ldc2_w dX8_digest_12 kcX8_315 ?_
  refine zm_lload_n (x := a1) 1 dX8_digest_15 rfl rfl ?_
  refine zm_lmul dX8_digest_16 ?_
  refine zm_aload_n (x := 0) 0 dX8_digest_17 rfl rfl ?_
  refine zm_iload_n (x := a3) 2 dX8_digest_18 rfl rfl ?_
  refine zm_callVi (as := [.int a3]) (rest := [.long ((31 : Int64) * a1)]) dX8_digest_19 rfl mtX8_count lkX8_317 zd_H0 (C := RX8) rfl rfl rfl (Nat.le_of_ble_eq_true rfl) hC rfl (fun r u hq => ?_)
  refine zm_sub [0, 2] rfl ?_
  exact k r u hq
theorem gX8_digest_22 {d : Nat} {Q : Value → zm_S → Prop} {w : zm_S} {a3 : Int32} {s0 : Int32} {s1 : Int64} (k : zm_T zd_H d mX8_digest Q 6 [(0, .ref 0), (1, .long (s1 + ((s0).toInt64))), (3, .int (a3 + (1 : Int32)))] [] w) : zm_T zd_H d mX8_digest Q 22 [(0, .ref 0), (3, .int a3)] [.int s0, .long s1] w := by
  refine zm_i2l dX8_digest_22 ?_
  refine zm_ladd dX8_digest_23 ?_
  refine zm_lstore_n dX8_digest_24 rfl (Nat.le_of_ble_eq_true rfl) (ls' := [(1, .long (s1 + ((s0).toInt64))), (0, .ref 0), (3, .int a3)]) rfl ?_
  refine zm_iinc 2 dX8_digest_25 (x := a3) (v := (a3 + (1 : Int32))) rfl rfl (Nat.le_of_ble_eq_true rfl) (ls' := [(3, .int (a3 + (1 : Int32))), (1, .long (s1 + ((s0).toInt64))), (0, .ref 0)]) rfl ?_
  refine zm_goto 6 dX8_digest_28 (by decide) ?_
  refine zm_sub [2, 1, 0] rfl ?_
  exact k
theorem gX8_digest_31 {d : Nat} {Q : Value → zm_S → Prop} {w : zm_S} {a1 : Int64} {Q' : Value → zm_S → Prop} (hC : zm_C zd_H d mX8_reads [.ref 0] w Q') (k : ∀ (r : Int32) (u : zm_S), Q' (.int r) u → zm_T zd_H (d + 1) mX8_digest Q 40 [(0, .ref 0)] [.int r, .long ((31 : Int64) * a1)] u) : zm_T zd_H (d + 1) mX8_digest Q 31 [(0, .ref 0), (1, .long a1)] [] w := by
  refine zm_ldc2_w dX8_digest_31 kcX8_315 ?_
  refine zm_lload_n (x := a1) 1 dX8_digest_34 rfl rfl ?_
  refine zm_lmul dX8_digest_35 ?_
  refine zm_aload_n (x := 0) 0 dX8_digest_36 rfl rfl ?_
  refine zm_callVi (as := []) (rest := [.long ((31 : Int64) * a1)]) dX8_digest_37 rfl mtX8_reads lkX8_170 zd_H0 (C := RX8) rfl rfl rfl (Nat.le_of_ble_eq_true rfl) hC rfl (fun r u hq => ?_)
  refine zm_sub [0] rfl ?_
  exact k r u hq
theorem gX8_digest_40 {d : Nat} {Q : Value → zm_S → Prop} {w : zm_S} {s0 : Int32} {s1 : Int64} {Q' : Value → zm_S → Prop} (hC : zm_C zd_H d mX8_findBest [.ref 0] w Q') (k : ∀ (u : zm_S), Q' .null u → zm_T zd_H (d + 1) mX8_digest Q 47 [(0, .ref 0), (1, .long (s1 + ((s0).toInt64)))] [] u) : zm_T zd_H (d + 1) mX8_digest Q 40 [(0, .ref 0)] [.int s0, .long s1] w := by
  refine zm_i2l dX8_digest_40 ?_
  refine zm_ladd dX8_digest_41 ?_
  refine zm_lstore_n dX8_digest_42 rfl (Nat.le_of_ble_eq_true rfl) (ls' := [(1, .long (s1 + ((s0).toInt64))), (0, .ref 0)]) rfl ?_
  refine zm_aload_n (x := 0) 1 dX8_digest_43 rfl rfl ?_
  refine zm_callVv (as := []) (rest := []) dX8_digest_44 rfl mtX8_findBest lkX8_222 zd_H0 (C := RX8) rfl rfl rfl (Nat.le_of_ble_eq_true rfl) hC rfl (fun u hq => ?_)
  refine zm_sub [1, 0] rfl ?_
  exact k u hq
theorem gX8_digest_47 {d : Nat} {Q : Value → zm_S → Prop} {w : zm_S} {a1 : Int64} (k : zm_T zd_H d mX8_digest Q 67 [(0, .ref 0), (1, .long a1), (3, .int (w.1 0 21)), (4, .int (w.1 0 22)), (5, .int (-1 : Int32)), (6, .int (0 : Int32)), (7, .int (0 : Int32))] [] w) : zm_T zd_H d mX8_digest Q 47 [(0, .ref 0), (1, .long a1)] [] w := by
  refine zm_aload_n (x := 0) 0 dX8_digest_47 rfl rfl ?_
  refine zm_getf (v := .int (w.1 0 21)) (j := 21) dX8_digest_48 clX8 flX8_207 (Nat.le_of_ble_eq_true rfl) zd_H0 rfl rfl ?_
  refine zm_istore_n dX8_digest_51 rfl (Nat.le_of_ble_eq_true rfl) (ls' := [(3, .int (w.1 0 21)), (0, .ref 0), (1, .long a1)]) rfl ?_
  refine zm_aload_n (x := 0) 1 dX8_digest_52 rfl rfl ?_
  refine zm_getf (v := .int (w.1 0 22)) (j := 22) dX8_digest_53 clX8 flX8_210 (Nat.le_of_ble_eq_true rfl) zd_H0 rfl rfl ?_
  refine zm_istore dX8_digest_56 (Nat.le_of_ble_eq_true rfl) (ls' := [(4, .int (w.1 0 22)), (3, .int (w.1 0 21)), (0, .ref 0), (1, .long a1)]) rfl ?_
  refine zm_iconst dX8_digest_58 (v := (-1 : Int32)) (by decide) ?_
  refine zm_istore dX8_digest_59 (Nat.le_of_ble_eq_true rfl) (ls' := [(5, .int (-1 : Int32)), (4, .int (w.1 0 22)), (3, .int (w.1 0 21)), (0, .ref 0), (1, .long a1)]) rfl ?_
  refine zm_iconst dX8_digest_61 (v := (0 : Int32)) (by decide) ?_
  refine zm_istore dX8_digest_62 (Nat.le_of_ble_eq_true rfl) (ls' := [(6, .int (0 : Int32)), (5, .int (-1 : Int32)), (4, .int (w.1 0 22)), (3, .int (w.1 0 21)), (0, .ref 0), (1, .long a1)]) rfl ?_
  refine zm_iconst dX8_digest_64 (v := (0 : Int32)) (by decide) ?_
  refine zm_istore dX8_digest_65 (Nat.le_of_ble_eq_true rfl) (ls' := [(7, .int (0 : Int32)), (6, .int (0 : Int32)), (5, .int (-1 : Int32)), (4, .int (w.1 0 22)), (3, .int (w.1 0 21)), (0, .ref 0), (1, .long a1)]) rfl ?_
  refine zm_sub [5, 6, 4, 3, 2, 1, 0] rfl ?_
  exact k
theorem gX8_digest_67 {d : Nat} {Q : Value → zm_S → Prop} {w : zm_S} {a1 : Int64} {a3 : Int32} {a4 : Int32} {a5 : Int32} {a6 : Int32} {a7 : Int32} (kt : (12 : Int32) ≤ a7 → zm_T zd_H d mX8_digest Q 193 [(0, .ref 0), (1, .long a1), (3, .int a3), (4, .int a4), (5, .int a5)] [] w) (kf : ¬ (12 : Int32) ≤ a7 → zm_T zd_H d mX8_digest Q 74 [(0, .ref 0), (1, .long a1), (3, .int a3), (4, .int a4), (5, .int a5), (6, .int a6), (7, .int a7)] [] w) : zm_T zd_H d mX8_digest Q 67 [(0, .ref 0), (1, .long a1), (3, .int a3), (4, .int a4), (5, .int a5), (6, .int a6), (7, .int a7)] [] w := by
  refine zm_iload (x := a7) 6 dX8_digest_67 rfl ?_
  refine zm_bipush dX8_digest_69 (v := (12 : Int32)) (by decide) ?_
  refine zm_icmp_ge 193 dX8_digest_71 (by decide) (fun h => ?_) (fun h => ?_)
  · refine zm_sub [0, 1, 2, 3, 4] rfl ?_
    exact kt h
  · exact kf h
theorem gX8_digest_74 {d : Nat} {Q : Value → zm_S → Prop} {w : zm_S} {a1 : Int64} {a3 : Int32} {a4 : Int32} {a5 : Int32} {a6 : Int32} {a7 : Int32} {Q' : Value → zm_S → Prop} (hC : zm_C zd_H d mX8_stepOf [.ref 0, .int a7, .int (1 : Int32)] w Q') (k : ∀ (r : Int32) (u : zm_S), Q' (.int r) u → zm_T zd_H (d + 1) mX8_digest Q 81 [(0, .ref 0), (1, .long a1), (3, .int a3), (4, .int a4), (5, .int a5), (6, .int a6), (7, .int a7)] [.int r] u) : zm_T zd_H (d + 1) mX8_digest Q 74 [(0, .ref 0), (1, .long a1), (3, .int a3), (4, .int a4), (5, .int a5), (6, .int a6), (7, .int a7)] [] w := by
  refine zm_aload_n (x := 0) 0 dX8_digest_74 rfl rfl ?_
  refine zm_iload (x := a7) 6 dX8_digest_75 rfl ?_
  refine zm_iconst dX8_digest_77 (v := (1 : Int32)) (by decide) ?_
  refine zm_callVi (as := [.int a7, .int (1 : Int32)]) (rest := []) dX8_digest_78 rfl mtX8_stepOf lkX8_225 zd_H0 (C := RX8) rfl rfl rfl (Nat.le_of_ble_eq_true rfl) hC rfl (fun r u hq => ?_)
  exact k r u hq
theorem gX8_digest_81 {d : Nat} {Q : Value → zm_S → Prop} {w : zm_S} {a1 : Int64} {a3 : Int32} {a4 : Int32} {a5 : Int32} {a6 : Int32} {a7 : Int32} {s0 : Int32} (kt : s0 ≤ a6 → zm_T zd_H d mX8_digest Q 95 [(0, .ref 0), (1, .long a1), (3, .int a3), (4, .int a4), (5, .int a5), (6, .int a6), (7, .int a7), (8, .int s0)] [] w) (kf : ¬ s0 ≤ a6 → zm_T zd_H d mX8_digest Q 90 [(0, .ref 0), (1, .long a1), (3, .int a3), (4, .int a4), (6, .int a6), (7, .int a7), (8, .int s0)] [] w) : zm_T zd_H d mX8_digest Q 81 [(0, .ref 0), (1, .long a1), (3, .int a3), (4, .int a4), (5, .int a5), (6, .int a6), (7, .int a7)] [.int s0] w := by
  refine zm_istore dX8_digest_81 (Nat.le_of_ble_eq_true rfl) (ls' := [(8, .int s0), (0, .ref 0), (1, .long a1), (3, .int a3), (4, .int a4), (5, .int a5), (6, .int a6), (7, .int a7)]) rfl ?_
  refine zm_iload (x := s0) 0 dX8_digest_83 rfl ?_
  refine zm_iload (x := a6) 6 dX8_digest_85 rfl ?_
  refine zm_icmp_le 95 dX8_digest_87 (by decide) (fun h => ?_) (fun h => ?_)
  · refine zm_sub [1, 2, 3, 4, 5, 6, 7, 0] rfl ?_
    exact kt h
  · refine zm_sub [1, 2, 3, 4, 6, 7, 0] rfl ?_
    exact kf h
theorem gX8_digest_90 {d : Nat} {Q : Value → zm_S → Prop} {w : zm_S} {a1 : Int64} {a3 : Int32} {a4 : Int32} {a6 : Int32} {a7 : Int32} {a8 : Int32} (k : zm_T zd_H d mX8_digest Q 97 [(0, .ref 0), (1, .long a1), (3, .int a3), (4, .int a4), (6, .int a6), (7, .int a7), (8, .int a8)] [.int a7] w) : zm_T zd_H d mX8_digest Q 90 [(0, .ref 0), (1, .long a1), (3, .int a3), (4, .int a4), (6, .int a6), (7, .int a7), (8, .int a8)] [] w := by
  refine zm_iload (x := a7) 5 dX8_digest_90 rfl ?_
  refine zm_goto 97 dX8_digest_92 (by decide) ?_
  exact k
theorem gX8_digest_95 {d : Nat} {Q : Value → zm_S → Prop} {w : zm_S} {a1 : Int64} {a3 : Int32} {a4 : Int32} {a5 : Int32} {a6 : Int32} {a7 : Int32} {a8 : Int32} (k : zm_T zd_H d mX8_digest Q 97 [(0, .ref 0), (1, .long a1), (3, .int a3), (4, .int a4), (6, .int a6), (7, .int a7), (8, .int a8)] [.int a5] w) : zm_T zd_H d mX8_digest Q 95 [(0, .ref 0), (1, .long a1), (3, .int a3), (4, .int a4), (5, .int a5), (6, .int a6), (7, .int a7), (8, .int a8)] [] w := by
  refine zm_iload (x := a5) 4 dX8_digest_95 rfl ?_
  refine zm_sub [0, 1, 2, 3, 5, 6, 7] rfl ?_
  exact k
theorem gX8_digest_97 {d : Nat} {Q : Value → zm_S → Prop} {w : zm_S} {a1 : Int64} {a3 : Int32} {a4 : Int32} {a6 : Int32} {a7 : Int32} {a8 : Int32} {s0 : Int32} (kt : a8 ≤ a6 → zm_T zd_H d mX8_digest Q 111 [(0, .ref 0), (1, .long a1), (3, .int a3), (4, .int a4), (5, .int s0), (6, .int a6), (7, .int a7), (8, .int a8)] [] w) (kf : ¬ a8 ≤ a6 → zm_T zd_H d mX8_digest Q 106 [(0, .ref 0), (1, .long a1), (3, .int a3), (4, .int a4), (5, .int s0), (7, .int a7), (8, .int a8)] [] w) : zm_T zd_H d mX8_digest Q 97 [(0, .ref 0), (1, .long a1), (3, .int a3), (4, .int a4), (6, .int a6), (7, .int a7), (8, .int a8)] [.int s0] w := by
  refine zm_istore dX8_digest_97 (Nat.le_of_ble_eq_true rfl) (ls' := [(5, .int s0), (0, .ref 0), (1, .long a1), (3, .int a3), (4, .int a4), (6, .int a6), (7, .int a7), (8, .int a8)]) rfl ?_
  refine zm_iload (x := a8) 7 dX8_digest_99 rfl ?_
  refine zm_iload (x := a6) 5 dX8_digest_101 rfl ?_
  refine zm_icmp_le 111 dX8_digest_103 (by decide) (fun h => ?_) (fun h => ?_)
  · refine zm_sub [1, 2, 3, 4, 0, 5, 6, 7] rfl ?_
    exact kt h
  · refine zm_sub [1, 2, 3, 4, 0, 6, 7] rfl ?_
    exact kf h
theorem gX8_digest_106 {d : Nat} {Q : Value → zm_S → Prop} {w : zm_S} {a1 : Int64} {a3 : Int32} {a4 : Int32} {a5 : Int32} {a7 : Int32} {a8 : Int32} (k : zm_T zd_H d mX8_digest Q 113 [(0, .ref 0), (1, .long a1), (3, .int a3), (4, .int a4), (5, .int a5), (7, .int a7), (8, .int a8)] [.int a8] w) : zm_T zd_H d mX8_digest Q 106 [(0, .ref 0), (1, .long a1), (3, .int a3), (4, .int a4), (5, .int a5), (7, .int a7), (8, .int a8)] [] w := by
  refine zm_iload (x := a8) 6 dX8_digest_106 rfl ?_
  refine zm_goto 113 dX8_digest_108 (by decide) ?_
  exact k
theorem gX8_digest_111 {d : Nat} {Q : Value → zm_S → Prop} {w : zm_S} {a1 : Int64} {a3 : Int32} {a4 : Int32} {a5 : Int32} {a6 : Int32} {a7 : Int32} {a8 : Int32} (k : zm_T zd_H d mX8_digest Q 113 [(0, .ref 0), (1, .long a1), (3, .int a3), (4, .int a4), (5, .int a5), (7, .int a7), (8, .int a8)] [.int a6] w) : zm_T zd_H d mX8_digest Q 111 [(0, .ref 0), (1, .long a1), (3, .int a3), (4, .int a4), (5, .int a5), (6, .int a6), (7, .int a7), (8, .int a8)] [] w := by
  refine zm_iload (x := a6) 5 dX8_digest_111 rfl ?_
  refine zm_sub [0, 1, 2, 3, 4, 6, 7] rfl ?_
  exact k
theorem gX8_digest_113 {d : Nat} {Q : Value → zm_S → Prop} {w : zm_S} {a1 : Int64} {a3 : Int32} {a4 : Int32} {a5 : Int32} {a7 : Int32} {a8 : Int32} {s0 : Int32} {Q' : Value → zm_S → Prop} (hC : zm_C zd_H d mX8_stepOf [.ref 0, .int a7, .int (0 : Int32)] w Q') (k : ∀ (r : Int32) (u : zm_S), Q' (.int r) u → zm_T zd_H (d + 1) mX8_digest Q 127 [(0, .ref 0), (3, .int a3), (4, .int a4), (5, .int a5), (6, .int s0), (7, .int a7), (8, .int a8)] [.int r, .long ((31 : Int64) * a1)] u) : zm_T zd_H (d + 1) mX8_digest Q 113 [(0, .ref 0), (1, .long a1), (3, .int a3), (4, .int a4), (5, .int a5), (7, .int a7), (8, .int a8)] [.int s0] w := by
  refine zm_istore dX8_digest_113 (Nat.le_of_ble_eq_true rfl) (ls' := [(6, .int s0), (0, .ref 0), (1, .long a1), (3, .int a3), (4, .int a4), (5, .int a5), (7, .int a7), (8, .int a8)]) rfl ?_
  refine zm_ldc2_w dX8_digest_115 kcX8_315 ?_
  refine zm_lload_n (x := a1) 2 dX8_digest_118 rfl rfl ?_
  refine zm_lmul dX8_digest_119 ?_
  refine zm_aload_n (x := 0) 1 dX8_digest_120 rfl rfl ?_
  refine zm_iload (x := a7) 6 dX8_digest_121 rfl ?_
  refine zm_iconst dX8_digest_123 (v := (0 : Int32)) (by decide) ?_
  refine zm_callVi (as := [.int a7, .int (0 : Int32)]) (rest := [.long ((31 : Int64) * a1)]) dX8_digest_124 rfl mtX8_stepOf lkX8_225 zd_H0 (C := RX8) rfl rfl rfl (Nat.le_of_ble_eq_true rfl) hC rfl (fun r u hq => ?_)
  refine zm_sub [1, 3, 4, 5, 0, 6, 7] rfl ?_
  exact k r u hq
theorem gX8_digest_127 {d : Nat} {Q : Value → zm_S → Prop} {w : zm_S} {a3 : Int32} {a4 : Int32} {a5 : Int32} {a6 : Int32} {a7 : Int32} {a8 : Int32} {s0 : Int32} {s1 : Int64} (k : zm_T zd_H d mX8_digest Q 143 [(0, .ref 0), (1, .long (((31 : Int64) * (s1 + ((s0).toInt64))) + ((a8).toInt64))), (3, .int a3), (4, .int a4), (5, .int a5), (6, .int a6), (7, .int a7), (9, .int (0 : Int32))] [] w) : zm_T zd_H d mX8_digest Q 127 [(0, .ref 0), (3, .int a3), (4, .int a4), (5, .int a5), (6, .int a6), (7, .int a7), (8, .int a8)] [.int s0, .long s1] w := by
  refine zm_i2l dX8_digest_127 ?_
  refine zm_ladd dX8_digest_128 ?_
  refine zm_lstore_n dX8_digest_129 rfl (Nat.le_of_ble_eq_true rfl) (ls' := [(1, .long (s1 + ((s0).toInt64))), (0, .ref 0), (3, .int a3), (4, .int a4), (5, .int a5), (6, .int a6), (7, .int a7), (8, .int a8)]) rfl ?_
  refine zm_ldc2_w dX8_digest_130 kcX8_315 ?_
  refine zm_lload_n (x := (s1 + ((s0).toInt64))) 0 dX8_digest_133 rfl rfl ?_
  refine zm_lmul dX8_digest_134 ?_
  refine zm_iload (x := a8) 7 dX8_digest_135 rfl ?_
  refine zm_i2l dX8_digest_137 ?_
  refine zm_ladd dX8_digest_138 ?_
  refine zm_lstore_n dX8_digest_139 rfl (Nat.le_of_ble_eq_true rfl) (ls' := [(1, .long (((31 : Int64) * (s1 + ((s0).toInt64))) + ((a8).toInt64))), (0, .ref 0), (3, .int a3), (4, .int a4), (5, .int a5), (6, .int a6), (7, .int a7), (8, .int a8)]) rfl ?_
  refine zm_iconst dX8_digest_140 (v := (0 : Int32)) (by decide) ?_
  refine zm_istore dX8_digest_141 (Nat.le_of_ble_eq_true rfl) (ls' := [(9, .int (0 : Int32)), (1, .long (((31 : Int64) * (s1 + ((s0).toInt64))) + ((a8).toInt64))), (0, .ref 0), (3, .int a3), (4, .int a4), (5, .int a5), (6, .int a6), (7, .int a7), (8, .int a8)]) rfl ?_
  refine zm_sub [2, 1, 3, 4, 5, 6, 7, 0] rfl ?_
  exact k
theorem gX8_digest_143 {d : Nat} {Q : Value → zm_S → Prop} {w : zm_S} {a1 : Int64} {a3 : Int32} {a4 : Int32} {a5 : Int32} {a6 : Int32} {a7 : Int32} {a9 : Int32} (kt : (3 : Int32) ≤ a9 → zm_T zd_H d mX8_digest Q 171 [(0, .ref 0), (1, .long a1), (3, .int a3), (4, .int a4), (5, .int a5), (6, .int a6), (7, .int a7)] [] w) (kf : ¬ (3 : Int32) ≤ a9 → zm_T zd_H d mX8_digest Q 149 [(0, .ref 0), (1, .long a1), (3, .int a3), (4, .int a4), (5, .int a5), (6, .int a6), (7, .int a7), (9, .int a9)] [] w) : zm_T zd_H d mX8_digest Q 143 [(0, .ref 0), (1, .long a1), (3, .int a3), (4, .int a4), (5, .int a5), (6, .int a6), (7, .int a7), (9, .int a9)] [] w := by
  refine zm_iload (x := a9) 7 dX8_digest_143 rfl ?_
  refine zm_iconst dX8_digest_145 (v := (3 : Int32)) (by decide) ?_
  refine zm_icmp_ge 171 dX8_digest_146 (by decide) (fun h => ?_) (fun h => ?_)
  · refine zm_sub [0, 1, 2, 3, 4, 5, 6] rfl ?_
    exact kt h
  · exact kf h
theorem gX8_digest_149 {d : Nat} {Q : Value → zm_S → Prop} {w : zm_S} {a1 : Int64} {a3 : Int32} {a4 : Int32} {a5 : Int32} {a6 : Int32} {a7 : Int32} {a9 : Int32} {Q' : Value → zm_S → Prop} (hC : zm_C zd_H d mX8_belongsOf [.ref 0, .int a7, .int a9] w Q') (k : ∀ (r : Int32) (u : zm_S), Q' (.int r) u → zm_T zd_H (d + 1) mX8_digest Q 162 [(0, .ref 0), (3, .int a3), (4, .int a4), (5, .int a5), (6, .int a6), (7, .int a7), (9, .int a9)] [.int r, .long ((31 : Int64) * a1)] u) : zm_T zd_H (d + 1) mX8_digest Q 149 [(0, .ref 0), (1, .long a1), (3, .int a3), (4, .int a4), (5, .int a5), (6, .int a6), (7, .int a7), (9, .int a9)] [] w := by
  refine zm_ldc2_w dX8_digest_149 kcX8_315 ?_
  refine zm_lload_n (x := a1) 1 dX8_digest_152 rfl rfl ?_
  refine zm_lmul dX8_digest_153 ?_
  refine zm_aload_n (x := 0) 0 dX8_digest_154 rfl rfl ?_
  refine zm_iload (x := a7) 6 dX8_digest_155 rfl ?_
  refine zm_iload (x := a9) 7 dX8_digest_157 rfl ?_
  refine zm_callVi (as := [.int a7, .int a9]) (rest := [.long ((31 : Int64) * a1)]) dX8_digest_159 rfl mtX8_belongsOf lkX8_267 zd_H0 (C := RX8) rfl rfl rfl (Nat.le_of_ble_eq_true rfl) hC rfl (fun r u hq => ?_)
  refine zm_sub [0, 2, 3, 4, 5, 6, 7] rfl ?_
  exact k r u hq
theorem gX8_digest_162 {d : Nat} {Q : Value → zm_S → Prop} {w : zm_S} {a3 : Int32} {a4 : Int32} {a5 : Int32} {a6 : Int32} {a7 : Int32} {a9 : Int32} {s0 : Int32} {s1 : Int64} (k : zm_T zd_H d mX8_digest Q 143 [(0, .ref 0), (1, .long (s1 + ((s0).toInt64))), (3, .int a3), (4, .int a4), (5, .int a5), (6, .int a6), (7, .int a7), (9, .int (a9 + (1 : Int32)))] [] w) : zm_T zd_H d mX8_digest Q 162 [(0, .ref 0), (3, .int a3), (4, .int a4), (5, .int a5), (6, .int a6), (7, .int a7), (9, .int a9)] [.int s0, .long s1] w := by
  refine zm_i2l dX8_digest_162 ?_
  refine zm_ladd dX8_digest_163 ?_
  refine zm_lstore_n dX8_digest_164 rfl (Nat.le_of_ble_eq_true rfl) (ls' := [(1, .long (s1 + ((s0).toInt64))), (0, .ref 0), (3, .int a3), (4, .int a4), (5, .int a5), (6, .int a6), (7, .int a7), (9, .int a9)]) rfl ?_
  refine zm_iinc 7 dX8_digest_165 (x := a9) (v := (a9 + (1 : Int32))) rfl rfl (Nat.le_of_ble_eq_true rfl) (ls' := [(9, .int (a9 + (1 : Int32))), (1, .long (s1 + ((s0).toInt64))), (0, .ref 0), (3, .int a3), (4, .int a4), (5, .int a5), (6, .int a6), (7, .int a7)]) rfl ?_
  refine zm_goto 143 dX8_digest_168 (by decide) ?_
  refine zm_sub [2, 1, 3, 4, 5, 6, 7, 0] rfl ?_
  exact k
theorem gX8_digest_171 {d : Nat} {Q : Value → zm_S → Prop} {w : zm_S} {a1 : Int64} {a3 : Int32} {a4 : Int32} {a5 : Int32} {a6 : Int32} {a7 : Int32} {Q' : Value → zm_S → Prop} (hC : zm_C zd_H d mX8_likeliestOf [.ref 0, .int a7, .int (2 : Int32), .int (3 : Int32)] w Q') (k : ∀ (r : Int32) (u : zm_S), Q' (.int r) u → zm_T zd_H (d + 1) mX8_digest Q 184 [(0, .ref 0), (3, .int a3), (4, .int a4), (5, .int a5), (6, .int a6), (7, .int a7)] [.int r, .long ((31 : Int64) * a1)] u) : zm_T zd_H (d + 1) mX8_digest Q 171 [(0, .ref 0), (1, .long a1), (3, .int a3), (4, .int a4), (5, .int a5), (6, .int a6), (7, .int a7)] [] w := by
  refine zm_ldc2_w dX8_digest_171 kcX8_315 ?_
  refine zm_lload_n (x := a1) 1 dX8_digest_174 rfl rfl ?_
  refine zm_lmul dX8_digest_175 ?_
  refine zm_aload_n (x := 0) 0 dX8_digest_176 rfl rfl ?_
  refine zm_iload (x := a7) 6 dX8_digest_177 rfl ?_
  refine zm_iconst dX8_digest_179 (v := (2 : Int32)) (by decide) ?_
  refine zm_iconst dX8_digest_180 (v := (3 : Int32)) (by decide) ?_
  refine zm_callVi (as := [.int a7, .int (2 : Int32), .int (3 : Int32)]) (rest := [.long ((31 : Int64) * a1)]) dX8_digest_181 rfl mtX8_likeliestOf lkX8_293 zd_H0 (C := RX8) rfl rfl rfl (Nat.le_of_ble_eq_true rfl) hC rfl (fun r u hq => ?_)
  refine zm_sub [0, 2, 3, 4, 5, 6] rfl ?_
  exact k r u hq
theorem gX8_digest_184 {d : Nat} {Q : Value → zm_S → Prop} {w : zm_S} {a3 : Int32} {a4 : Int32} {a5 : Int32} {a6 : Int32} {a7 : Int32} {s0 : Int32} {s1 : Int64} (k : zm_T zd_H d mX8_digest Q 67 [(0, .ref 0), (1, .long (s1 + ((s0).toInt64))), (3, .int a3), (4, .int a4), (5, .int a5), (6, .int a6), (7, .int (a7 + (1 : Int32)))] [] w) : zm_T zd_H d mX8_digest Q 184 [(0, .ref 0), (3, .int a3), (4, .int a4), (5, .int a5), (6, .int a6), (7, .int a7)] [.int s0, .long s1] w := by
  refine zm_i2l dX8_digest_184 ?_
  refine zm_ladd dX8_digest_185 ?_
  refine zm_lstore_n dX8_digest_186 rfl (Nat.le_of_ble_eq_true rfl) (ls' := [(1, .long (s1 + ((s0).toInt64))), (0, .ref 0), (3, .int a3), (4, .int a4), (5, .int a5), (6, .int a6), (7, .int a7)]) rfl ?_
  refine zm_iinc 6 dX8_digest_187 (x := a7) (v := (a7 + (1 : Int32))) rfl rfl (Nat.le_of_ble_eq_true rfl) (ls' := [(7, .int (a7 + (1 : Int32))), (1, .long (s1 + ((s0).toInt64))), (0, .ref 0), (3, .int a3), (4, .int a4), (5, .int a5), (6, .int a6)]) rfl ?_
  refine zm_goto 67 dX8_digest_190 (by decide) ?_
  refine zm_sub [2, 1, 3, 4, 5, 6, 0] rfl ?_
  exact k
theorem gX8_digest_193 {d : Nat} {Q : Value → zm_S → Prop} {w : zm_S} {a1 : Int64} {a3 : Int32} {a4 : Int32} {a5 : Int32} (k : zm_T zd_H d mX8_digest Q 215 [(0, .ref 0), (1, .long (((31 : Int64) * (((31 : Int64) * a1) + ((a3).toInt64))) + ((a4).toInt64))), (5, .int a5), (7, .int (0 : Int32))] [] w) : zm_T zd_H d mX8_digest Q 193 [(0, .ref 0), (1, .long a1), (3, .int a3), (4, .int a4), (5, .int a5)] [] w := by
  refine zm_ldc2_w dX8_digest_193 kcX8_315 ?_
  refine zm_lload_n (x := a1) 1 dX8_digest_196 rfl rfl ?_
  refine zm_lmul dX8_digest_197 ?_
  refine zm_iload_n (x := a3) 2 dX8_digest_198 rfl rfl ?_
  refine zm_i2l dX8_digest_199 ?_
  refine zm_ladd dX8_digest_200 ?_
  refine zm_lstore_n dX8_digest_201 rfl (Nat.le_of_ble_eq_true rfl) (ls' := [(1, .long (((31 : Int64) * a1) + ((a3).toInt64))), (0, .ref 0), (3, .int a3), (4, .int a4), (5, .int a5)]) rfl ?_
  refine zm_ldc2_w dX8_digest_202 kcX8_315 ?_
  refine zm_lload_n (x := (((31 : Int64) * a1) + ((a3).toInt64))) 0 dX8_digest_205 rfl rfl ?_
  refine zm_lmul dX8_digest_206 ?_
  refine zm_iload (x := a4) 3 dX8_digest_207 rfl ?_
  refine zm_i2l dX8_digest_209 ?_
  refine zm_ladd dX8_digest_210 ?_
  refine zm_lstore_n dX8_digest_211 rfl (Nat.le_of_ble_eq_true rfl) (ls' := [(1, .long (((31 : Int64) * (((31 : Int64) * a1) + ((a3).toInt64))) + ((a4).toInt64))), (0, .ref 0), (3, .int a3), (4, .int a4), (5, .int a5)]) rfl ?_
  refine zm_iconst dX8_digest_212 (v := (0 : Int32)) (by decide) ?_
  refine zm_istore dX8_digest_213 (Nat.le_of_ble_eq_true rfl) (ls' := [(7, .int (0 : Int32)), (1, .long (((31 : Int64) * (((31 : Int64) * a1) + ((a3).toInt64))) + ((a4).toInt64))), (0, .ref 0), (3, .int a3), (4, .int a4), (5, .int a5)]) rfl ?_
  refine zm_sub [2, 1, 5, 0] rfl ?_
  exact k
theorem gX8_digest_215 {d : Nat} {Q : Value → zm_S → Prop} {w : zm_S} {a1 : Int64} {a5 : Int32} {a7 : Int32} {Q' : Value → zm_S → Prop} (hC : zm_C zd_H d mX8_n [.ref 0] w Q') (k : ∀ (r : Int32) (u : zm_S), Q' (.int r) u → zm_T zd_H (d + 1) mX8_digest Q 221 [(0, .ref 0), (1, .long a1), (5, .int a5), (7, .int a7)] [.int r, .int a7] u) : zm_T zd_H (d + 1) mX8_digest Q 215 [(0, .ref 0), (1, .long a1), (5, .int a5), (7, .int a7)] [] w := by
  refine zm_iload (x := a7) 3 dX8_digest_215 rfl ?_
  refine zm_aload_n (x := 0) 0 dX8_digest_217 rfl rfl ?_
  refine zm_callVi (as := []) (rest := [.int a7]) dX8_digest_218 rfl mtX8_n lkX8_111 zd_H0 (C := RX8) rfl rfl rfl (Nat.le_of_ble_eq_true rfl) hC rfl (fun r u hq => ?_)
  exact k r u hq
theorem gX8_digest_221 {d : Nat} {Q : Value → zm_S → Prop} {w : zm_S} {a1 : Int64} {a5 : Int32} {a7 : Int32} {s0 : Int32} {s1 : Int32} (kt : s0 ≤ s1 → zm_T zd_H d mX8_digest Q 244 [(0, .ref 0), (1, .long a1), (5, .int a5)] [] w) (kf : ¬ s0 ≤ s1 → zm_T zd_H d mX8_digest Q 224 [(0, .ref 0), (1, .long a1), (5, .int a5), (7, .int a7)] [] w) : zm_T zd_H d mX8_digest Q 221 [(0, .ref 0), (1, .long a1), (5, .int a5), (7, .int a7)] [.int s0, .int s1] w := by
  refine zm_icmp_ge 244 dX8_digest_221 (by decide) (fun h => ?_) (fun h => ?_)
  · refine zm_sub [0, 1, 2] rfl ?_
    exact kt h
  · exact kf h
theorem gX8_digest_224 {d : Nat} {Q : Value → zm_S → Prop} {w : zm_S} {a1 : Int64} {a5 : Int32} {a7 : Int32} (hi236 : vp_in a7 7) (hi237 : vp_in a7 7) (k : zm_T zd_H d mX8_digest Q 215 [(0, .ref 0), (1, .long a1), (5, .int a5), (7, .int (a7 + (1 : Int32)))] [] (zm_pi w 22 (a7).toNatClampNeg (w.1 16 (a7).toNatClampNeg))) : zm_T zd_H d mX8_digest Q 224 [(0, .ref 0), (1, .long a1), (5, .int a5), (7, .int a7)] [] w := by
  refine zm_aload_n (x := 0) 0 dX8_digest_224 rfl rfl ?_
  refine zm_getf (v := .ref 22) (j := 28) dX8_digest_225 clX8 flX8_73 (Nat.le_of_ble_eq_true rfl) zd_H0 rfl rfl ?_
  refine zm_iload (x := a7) 3 dX8_digest_228 rfl ?_
  refine zm_aload_n (x := 0) 0 dX8_digest_230 rfl rfl ?_
  refine zm_getf (v := .ref 16) (j := 20) dX8_digest_231 clX8 flX8_55 (Nat.le_of_ble_eq_true rfl) zd_H0 rfl rfl ?_
  refine zm_iload (x := a7) 3 dX8_digest_234 rfl ?_
  refine zm_iald dX8_digest_236 zd_H16 hi236 ?_
  refine zm_iast dX8_digest_237 zd_H22 hi237 ?_
  refine zm_iinc 3 dX8_digest_238 (x := a7) (v := (a7 + (1 : Int32))) rfl rfl (Nat.le_of_ble_eq_true rfl) (ls' := [(7, .int (a7 + (1 : Int32))), (0, .ref 0), (1, .long a1), (5, .int a5)]) rfl ?_
  refine zm_goto 215 dX8_digest_241 (by decide) ?_
  refine zm_sub [1, 2, 3, 0] rfl ?_
  exact k
theorem gX8_digest_244 {d : Nat} {Q : Value → zm_S → Prop} {w : zm_S} {a1 : Int64} {a5 : Int32} (k : zm_T zd_H d mX8_digest Q 247 [(0, .ref 0), (1, .long a1), (5, .int a5), (7, .int (0 : Int32))] [] w) : zm_T zd_H d mX8_digest Q 244 [(0, .ref 0), (1, .long a1), (5, .int a5)] [] w := by
  refine zm_iconst dX8_digest_244 (v := (0 : Int32)) (by decide) ?_
  refine zm_istore dX8_digest_245 (Nat.le_of_ble_eq_true rfl) (ls' := [(7, .int (0 : Int32)), (0, .ref 0), (1, .long a1), (5, .int a5)]) rfl ?_
  refine zm_sub [1, 2, 3, 0] rfl ?_
  exact k
theorem gX8_digest_247 {d : Nat} {Q : Value → zm_S → Prop} {w : zm_S} {a1 : Int64} {a5 : Int32} {a7 : Int32} {Q' : Value → zm_S → Prop} (hC : zm_C zd_H d mX8_n [.ref 0] w Q') (k : ∀ (r : Int32) (u : zm_S), Q' (.int r) u → zm_T zd_H (d + 1) mX8_digest Q 253 [(0, .ref 0), (1, .long a1), (5, .int a5), (7, .int a7)] [.int r, .int a7] u) : zm_T zd_H (d + 1) mX8_digest Q 247 [(0, .ref 0), (1, .long a1), (5, .int a5), (7, .int a7)] [] w := by
  refine zm_iload (x := a7) 3 dX8_digest_247 rfl ?_
  refine zm_aload_n (x := 0) 0 dX8_digest_249 rfl rfl ?_
  refine zm_callVi (as := []) (rest := [.int a7]) dX8_digest_250 rfl mtX8_n lkX8_111 zd_H0 (C := RX8) rfl rfl rfl (Nat.le_of_ble_eq_true rfl) hC rfl (fun r u hq => ?_)
  exact k r u hq
theorem gX8_digest_253 {d : Nat} {Q : Value → zm_S → Prop} {w : zm_S} {a1 : Int64} {a5 : Int32} {a7 : Int32} {s0 : Int32} {s1 : Int32} (kt : s0 ≤ s1 → zm_T zd_H d mX8_digest Q 373 [(0, .ref 0), (1, .long a1), (5, .int a5)] [] w) (kf : ¬ s0 ≤ s1 → zm_T zd_H d mX8_digest Q 256 [(0, .ref 0), (1, .long a1), (5, .int a5), (7, .int a7)] [] w) : zm_T zd_H d mX8_digest Q 253 [(0, .ref 0), (1, .long a1), (5, .int a5), (7, .int a7)] [.int s0, .int s1] w := by
  refine zm_icmp_ge 373 dX8_digest_253 (by decide) (fun h => ?_) (fun h => ?_)
  · refine zm_sub [0, 1, 2] rfl ?_
    exact kt h
  · exact kf h
theorem gX8_digest_256 {d : Nat} {Q : Value → zm_S → Prop} {w : zm_S} {a1 : Int64} {a5 : Int32} {a7 : Int32} {Q' : Value → zm_S → Prop} (hi267 : vp_in a7 7) (hC : zm_C zd_H d mX8_withoutOf [.ref 0, .int a7, .int (0 : Int32)] w Q') (k : ∀ (r : Int32) (u : zm_S), Q' (.int r) u → zm_T zd_H (d + 1) mX8_digest Q 283 [(0, .ref 0), (5, .int a5), (7, .int a7)] [.int r, .long ((31 : Int64) * (((31 : Int64) * a1) + (((w.1 22 (a7).toNatClampNeg)).toInt64)))] u) : zm_T zd_H (d + 1) mX8_digest Q 256 [(0, .ref 0), (1, .long a1), (5, .int a5), (7, .int a7)] [] w := by
  refine zm_ldc2_w dX8_digest_256 kcX8_315 ?_
  refine zm_lload_n (x := a1) 1 dX8_digest_259 rfl rfl ?_
  refine zm_lmul dX8_digest_260 ?_
  refine zm_aload_n (x := 0) 0 dX8_digest_261 rfl rfl ?_
  refine zm_getf (v := .ref 22) (j := 28) dX8_digest_262 clX8 flX8_73 (Nat.le_of_ble_eq_true rfl) zd_H0 rfl rfl ?_
  refine zm_iload (x := a7) 3 dX8_digest_265 rfl ?_
  refine zm_iald dX8_digest_267 zd_H22 hi267 ?_
  refine zm_i2l dX8_digest_268 ?_
  refine zm_ladd dX8_digest_269 ?_
  refine zm_lstore_n dX8_digest_270 rfl (Nat.le_of_ble_eq_true rfl) (ls' := [(1, .long (((31 : Int64) * a1) + (((w.1 22 (a7).toNatClampNeg)).toInt64))), (0, .ref 0), (5, .int a5), (7, .int a7)]) rfl ?_
  refine zm_ldc2_w dX8_digest_271 kcX8_315 ?_
  refine zm_lload_n (x := (((31 : Int64) * a1) + (((w.1 22 (a7).toNatClampNeg)).toInt64))) 0 dX8_digest_274 rfl rfl ?_
  refine zm_lmul dX8_digest_275 ?_
  refine zm_aload_n (x := 0) 1 dX8_digest_276 rfl rfl ?_
  refine zm_iload (x := a7) 3 dX8_digest_277 rfl ?_
  refine zm_iconst dX8_digest_279 (v := (0 : Int32)) (by decide) ?_
  refine zm_callVi (as := [.int a7, .int (0 : Int32)]) (rest := [.long ((31 : Int64) * (((31 : Int64) * a1) + (((w.1 22 (a7).toNatClampNeg)).toInt64)))]) dX8_digest_280 rfl mtX8_withoutOf lkX8_252 zd_H0 (C := RX8) rfl rfl rfl (Nat.le_of_ble_eq_true rfl) hC rfl (fun r u hq => ?_)
  refine zm_sub [1, 2, 3] rfl ?_
  exact k r u hq
theorem gX8_digest_283 {d : Nat} {Q : Value → zm_S → Prop} {w : zm_S} {a5 : Int32} {a7 : Int32} {s0 : Int32} {s1 : Int64} {Q' : Value → zm_S → Prop} (hC : zm_C zd_H d mX8_withoutOf [.ref 0, .int a7, .int (1 : Int32)] w Q') (k : ∀ (r : Int32) (u : zm_S), Q' (.int r) u → zm_T zd_H (d + 1) mX8_digest Q 298 [(0, .ref 0), (5, .int a5), (7, .int a7)] [.int r, .long ((31 : Int64) * (s1 + ((s0).toInt64)))] u) : zm_T zd_H (d + 1) mX8_digest Q 283 [(0, .ref 0), (5, .int a5), (7, .int a7)] [.int s0, .long s1] w := by
  refine zm_i2l dX8_digest_283 ?_
  refine zm_ladd dX8_digest_284 ?_
  refine zm_lstore_n dX8_digest_285 rfl (Nat.le_of_ble_eq_true rfl) (ls' := [(1, .long (s1 + ((s0).toInt64))), (0, .ref 0), (5, .int a5), (7, .int a7)]) rfl ?_
  refine zm_ldc2_w dX8_digest_286 kcX8_315 ?_
  refine zm_lload_n (x := (s1 + ((s0).toInt64))) 0 dX8_digest_289 rfl rfl ?_
  refine zm_lmul dX8_digest_290 ?_
  refine zm_aload_n (x := 0) 1 dX8_digest_291 rfl rfl ?_
  refine zm_iload (x := a7) 3 dX8_digest_292 rfl ?_
  refine zm_iconst dX8_digest_294 (v := (1 : Int32)) (by decide) ?_
  refine zm_callVi (as := [.int a7, .int (1 : Int32)]) (rest := [.long ((31 : Int64) * (s1 + ((s0).toInt64)))]) dX8_digest_295 rfl mtX8_withoutOf lkX8_252 zd_H0 (C := RX8) rfl rfl rfl (Nat.le_of_ble_eq_true rfl) hC rfl (fun r u hq => ?_)
  refine zm_sub [1, 2, 3] rfl ?_
  exact k r u hq
theorem gX8_digest_298 {d : Nat} {Q : Value → zm_S → Prop} {w : zm_S} {a5 : Int32} {a7 : Int32} {s0 : Int32} {s1 : Int64} {Q' : Value → zm_S → Prop} (hC : zm_C zd_H d mX8_deepOf [.ref 0, .int a7] w Q') (k : ∀ (r : Int32) (u : zm_S), Q' (.int r) u → zm_T zd_H (d + 1) mX8_digest Q 312 [(0, .ref 0), (5, .int a5), (7, .int a7)] [.int r, .long ((31 : Int64) * (s1 + ((s0).toInt64)))] u) : zm_T zd_H (d + 1) mX8_digest Q 298 [(0, .ref 0), (5, .int a5), (7, .int a7)] [.int s0, .long s1] w := by
  refine zm_i2l dX8_digest_298 ?_
  refine zm_ladd dX8_digest_299 ?_
  refine zm_lstore_n dX8_digest_300 rfl (Nat.le_of_ble_eq_true rfl) (ls' := [(1, .long (s1 + ((s0).toInt64))), (0, .ref 0), (5, .int a5), (7, .int a7)]) rfl ?_
  refine zm_ldc2_w dX8_digest_301 kcX8_315 ?_
  refine zm_lload_n (x := (s1 + ((s0).toInt64))) 0 dX8_digest_304 rfl rfl ?_
  refine zm_lmul dX8_digest_305 ?_
  refine zm_aload_n (x := 0) 1 dX8_digest_306 rfl rfl ?_
  refine zm_iload (x := a7) 3 dX8_digest_307 rfl ?_
  refine zm_callVi (as := [.int a7]) (rest := [.long ((31 : Int64) * (s1 + ((s0).toInt64)))]) dX8_digest_309 rfl mtX8_deepOf lkX8_273 zd_H0 (C := RX8) rfl rfl rfl (Nat.le_of_ble_eq_true rfl) hC rfl (fun r u hq => ?_)
  refine zm_sub [1, 2, 3] rfl ?_
  exact k r u hq
theorem gX8_digest_312 {d : Nat} {Q : Value → zm_S → Prop} {w : zm_S} {a5 : Int32} {a7 : Int32} {s0 : Int32} {s1 : Int64} {Q' : Value → zm_S → Prop} (hC : zm_C zd_H d mX8_n [.ref 0] w Q') (k : ∀ (r : Int32) (u : zm_S), Q' (.int r) u → zm_T zd_H (d + 1) mX8_digest Q 323 [(0, .ref 0), (1, .long (s1 + ((s0).toInt64))), (5, .int a5), (7, .int a7)] [.int r, .int (a7 + (1 : Int32))] u) : zm_T zd_H (d + 1) mX8_digest Q 312 [(0, .ref 0), (5, .int a5), (7, .int a7)] [.int s0, .long s1] w := by
  refine zm_i2l dX8_digest_312 ?_
  refine zm_ladd dX8_digest_313 ?_
  refine zm_lstore_n dX8_digest_314 rfl (Nat.le_of_ble_eq_true rfl) (ls' := [(1, .long (s1 + ((s0).toInt64))), (0, .ref 0), (5, .int a5), (7, .int a7)]) rfl ?_
  refine zm_iload (x := a7) 3 dX8_digest_315 rfl ?_
  refine zm_iconst dX8_digest_317 (v := (1 : Int32)) (by decide) ?_
  refine zm_iadd dX8_digest_318 ?_
  refine zm_aload_n (x := 0) 1 dX8_digest_319 rfl rfl ?_
  refine zm_callVi (as := []) (rest := [.int (a7 + (1 : Int32))]) dX8_digest_320 rfl mtX8_n lkX8_111 zd_H0 (C := RX8) rfl rfl rfl (Nat.le_of_ble_eq_true rfl) hC rfl (fun r u hq => ?_)
  refine zm_sub [1, 0, 2, 3] rfl ?_
  exact k r u hq
theorem gX8_digest_323 {d : Nat} {Q : Value → zm_S → Prop} {w : zm_S} {a1 : Int64} {a5 : Int32} {a7 : Int32} {s0 : Int32} {s1 : Int32} (hn323 : ¬ s0 = 0) (k : zm_T zd_H d mX8_digest Q 329 [(0, .ref 0), (1, .long a1), (5, .int a5), (7, .int a7), (8, .int (s1 - s1 / s0 * s0)), (9, .int (0 : Int32))] [] w) : zm_T zd_H d mX8_digest Q 323 [(0, .ref 0), (1, .long a1), (5, .int a5), (7, .int a7)] [.int s0, .int s1] w := by
  refine zm_irem dX8_digest_323 hn323 ?_
  refine zm_istore dX8_digest_324 (Nat.le_of_ble_eq_true rfl) (ls' := [(8, .int (s1 - s1 / s0 * s0)), (0, .ref 0), (1, .long a1), (5, .int a5), (7, .int a7)]) rfl ?_
  refine zm_iconst dX8_digest_326 (v := (0 : Int32)) (by decide) ?_
  refine zm_istore dX8_digest_327 (Nat.le_of_ble_eq_true rfl) (ls' := [(9, .int (0 : Int32)), (8, .int (s1 - s1 / s0 * s0)), (0, .ref 0), (1, .long a1), (5, .int a5), (7, .int a7)]) rfl ?_
  refine zm_sub [2, 3, 4, 5, 1, 0] rfl ?_
  exact k
theorem gX8_digest_329 {d : Nat} {Q : Value → zm_S → Prop} {w : zm_S} {a1 : Int64} {a5 : Int32} {a7 : Int32} {a8 : Int32} {a9 : Int32} (kt : (2 : Int32) ≤ a9 → zm_T zd_H d mX8_digest Q 367 [(0, .ref 0), (1, .long a1), (5, .int a5), (7, .int a7)] [] w) (kf : ¬ (2 : Int32) ≤ a9 → zm_T zd_H d mX8_digest Q 335 [(0, .ref 0), (1, .long a1), (5, .int a5), (7, .int a7), (8, .int a8), (9, .int a9)] [] w) : zm_T zd_H d mX8_digest Q 329 [(0, .ref 0), (1, .long a1), (5, .int a5), (7, .int a7), (8, .int a8), (9, .int a9)] [] w := by
  refine zm_iload (x := a9) 5 dX8_digest_329 rfl ?_
  refine zm_iconst dX8_digest_331 (v := (2 : Int32)) (by decide) ?_
  refine zm_icmp_ge 367 dX8_digest_332 (by decide) (fun h => ?_) (fun h => ?_)
  · refine zm_sub [0, 1, 2, 3] rfl ?_
    exact kt h
  · exact kf h
theorem gX8_digest_335 {d : Nat} {Q : Value → zm_S → Prop} {w : zm_S} {a1 : Int64} {a5 : Int32} {a7 : Int32} {a8 : Int32} {a9 : Int32} {Q' : Value → zm_S → Prop} (hC : zm_C zd_H d mX8_isNeeded [.ref 0, .int a7, .int a8, .int a9] w Q') (k : ∀ (r : Int32) (u : zm_S), Q' (.int r) u → zm_T zd_H (d + 1) mX8_digest Q 350 [(0, .ref 0), (5, .int a5), (7, .int a7), (8, .int a8), (9, .int a9)] [.int r, .long ((31 : Int64) * a1)] u) : zm_T zd_H (d + 1) mX8_digest Q 335 [(0, .ref 0), (1, .long a1), (5, .int a5), (7, .int a7), (8, .int a8), (9, .int a9)] [] w := by
  refine zm_ldc2_w dX8_digest_335 kcX8_315 ?_
  refine zm_lload_n (x := a1) 1 dX8_digest_338 rfl rfl ?_
  refine zm_lmul dX8_digest_339 ?_
  refine zm_aload_n (x := 0) 0 dX8_digest_340 rfl rfl ?_
  refine zm_iload (x := a7) 3 dX8_digest_341 rfl ?_
  refine zm_iload (x := a8) 4 dX8_digest_343 rfl ?_
  refine zm_iload (x := a9) 5 dX8_digest_345 rfl ?_
  refine zm_callVz (as := [.int a7, .int a8, .int a9]) (rest := [.long ((31 : Int64) * a1)]) dX8_digest_347 rfl mtX8_isNeeded lkX8_185 zd_H0 (C := RX8) rfl rfl rfl (Nat.le_of_ble_eq_true rfl) hC rfl (fun r u hq => ?_)
  refine zm_sub [0, 2, 3, 4, 5] rfl ?_
  exact k r u hq
theorem gX8_digest_350 {d : Nat} {Q : Value → zm_S → Prop} {w : zm_S} {a5 : Int32} {a7 : Int32} {a8 : Int32} {a9 : Int32} {s0 : Int32} {s1 : Int64} (kt : s0 = 0 → zm_T zd_H d mX8_digest Q 357 [(0, .ref 0), (5, .int a5), (7, .int a7), (8, .int a8), (9, .int a9)] [.long s1] w) (kf : ¬ s0 = 0 → zm_T zd_H d mX8_digest Q 353 [(0, .ref 0), (5, .int a5), (7, .int a7), (8, .int a8), (9, .int a9)] [.long s1] w) : zm_T zd_H d mX8_digest Q 350 [(0, .ref 0), (5, .int a5), (7, .int a7), (8, .int a8), (9, .int a9)] [.int s0, .long s1] w := by
  refine zm_if_eq 357 dX8_digest_350 (by decide) (fun h => ?_) (fun h => ?_)
  · exact kt h
  · exact kf h
theorem gX8_digest_353 {d : Nat} {Q : Value → zm_S → Prop} {w : zm_S} {a5 : Int32} {a7 : Int32} {a8 : Int32} {a9 : Int32} {s0 : Int64} (k : zm_T zd_H d mX8_digest Q 358 [(0, .ref 0), (5, .int a5), (7, .int a7), (8, .int a8), (9, .int a9)] [.int (1 : Int32), .long s0] w) : zm_T zd_H d mX8_digest Q 353 [(0, .ref 0), (5, .int a5), (7, .int a7), (8, .int a8), (9, .int a9)] [.long s0] w := by
  refine zm_iconst dX8_digest_353 (v := (1 : Int32)) (by decide) ?_
  refine zm_goto 358 dX8_digest_354 (by decide) ?_
  exact k
theorem gX8_digest_357 {d : Nat} {Q : Value → zm_S → Prop} {w : zm_S} {a5 : Int32} {a7 : Int32} {a8 : Int32} {a9 : Int32} {s0 : Int64} (k : zm_T zd_H d mX8_digest Q 358 [(0, .ref 0), (5, .int a5), (7, .int a7), (8, .int a8), (9, .int a9)] [.int (0 : Int32), .long s0] w) : zm_T zd_H d mX8_digest Q 357 [(0, .ref 0), (5, .int a5), (7, .int a7), (8, .int a8), (9, .int a9)] [.long s0] w := by
  refine zm_iconst dX8_digest_357 (v := (0 : Int32)) (by decide) ?_
  exact k
theorem gX8_digest_358 {d : Nat} {Q : Value → zm_S → Prop} {w : zm_S} {a5 : Int32} {a7 : Int32} {a8 : Int32} {a9 : Int32} {s0 : Int32} {s1 : Int64} (k : zm_T zd_H d mX8_digest Q 329 [(0, .ref 0), (1, .long (s1 + ((s0).toInt64))), (5, .int a5), (7, .int a7), (8, .int a8), (9, .int (a9 + (1 : Int32)))] [] w) : zm_T zd_H d mX8_digest Q 358 [(0, .ref 0), (5, .int a5), (7, .int a7), (8, .int a8), (9, .int a9)] [.int s0, .long s1] w := by
  refine zm_i2l dX8_digest_358 ?_
  refine zm_ladd dX8_digest_359 ?_
  refine zm_lstore_n dX8_digest_360 rfl (Nat.le_of_ble_eq_true rfl) (ls' := [(1, .long (s1 + ((s0).toInt64))), (0, .ref 0), (5, .int a5), (7, .int a7), (8, .int a8), (9, .int a9)]) rfl ?_
  refine zm_iinc 5 dX8_digest_361 (x := a9) (v := (a9 + (1 : Int32))) rfl rfl (Nat.le_of_ble_eq_true rfl) (ls' := [(9, .int (a9 + (1 : Int32))), (1, .long (s1 + ((s0).toInt64))), (0, .ref 0), (5, .int a5), (7, .int a7), (8, .int a8)]) rfl ?_
  refine zm_goto 329 dX8_digest_364 (by decide) ?_
  refine zm_sub [2, 1, 3, 4, 5, 0] rfl ?_
  exact k
theorem gX8_digest_367 {d : Nat} {Q : Value → zm_S → Prop} {w : zm_S} {a1 : Int64} {a5 : Int32} {a7 : Int32} (k : zm_T zd_H d mX8_digest Q 247 [(0, .ref 0), (1, .long a1), (5, .int a5), (7, .int (a7 + (1 : Int32)))] [] w) : zm_T zd_H d mX8_digest Q 367 [(0, .ref 0), (1, .long a1), (5, .int a5), (7, .int a7)] [] w := by
  refine zm_iinc 3 dX8_digest_367 (x := a7) (v := (a7 + (1 : Int32))) rfl rfl (Nat.le_of_ble_eq_true rfl) (ls' := [(7, .int (a7 + (1 : Int32))), (0, .ref 0), (1, .long a1), (5, .int a5)]) rfl ?_
  refine zm_goto 247 dX8_digest_370 (by decide) ?_
  refine zm_sub [1, 2, 3, 0] rfl ?_
  exact k
theorem gX8_digest_373 {d : Nat} {Q : Value → zm_S → Prop} {w : zm_S} {a1 : Int64} {a5 : Int32} (k : zm_T zd_H d mX8_digest Q 376 [(0, .ref 0), (1, .long a1), (5, .int a5), (7, .int (0 : Int32))] [] w) : zm_T zd_H d mX8_digest Q 373 [(0, .ref 0), (1, .long a1), (5, .int a5)] [] w := by
  refine zm_iconst dX8_digest_373 (v := (0 : Int32)) (by decide) ?_
  refine zm_istore dX8_digest_374 (Nat.le_of_ble_eq_true rfl) (ls' := [(7, .int (0 : Int32)), (0, .ref 0), (1, .long a1), (5, .int a5)]) rfl ?_
  refine zm_sub [1, 2, 3, 0] rfl ?_
  exact k
theorem gX8_digest_376 {d : Nat} {Q : Value → zm_S → Prop} {w : zm_S} {a1 : Int64} {a5 : Int32} {a7 : Int32} (kt : (4 : Int32) ≤ a7 → zm_T zd_H d mX8_digest Q 407 [(0, .ref 0), (1, .long a1), (5, .int a5)] [] w) (kf : ¬ (4 : Int32) ≤ a7 → zm_T zd_H d mX8_digest Q 382 [(0, .ref 0), (1, .long a1), (5, .int a5), (7, .int a7)] [] w) : zm_T zd_H d mX8_digest Q 376 [(0, .ref 0), (1, .long a1), (5, .int a5), (7, .int a7)] [] w := by
  refine zm_iload (x := a7) 3 dX8_digest_376 rfl ?_
  refine zm_iconst dX8_digest_378 (v := (4 : Int32)) (by decide) ?_
  refine zm_icmp_ge 407 dX8_digest_379 (by decide) (fun h => ?_) (fun h => ?_)
  · refine zm_sub [0, 1, 2] rfl ?_
    exact kt h
  · exact kf h
theorem gX8_digest_382 {d : Nat} {Q : Value → zm_S → Prop} {w : zm_S} {a1 : Int64} {a5 : Int32} {a7 : Int32} {Q' : Value → zm_S → Prop} (hn391 : ¬ (2 : Int32) = 0) (hn395 : ¬ (2 : Int32) = 0) (hC : zm_C zd_H d mX8_fitOf [.ref 0, .int (a7 / (2 : Int32)), .int (a7 - a7 / (2 : Int32) * (2 : Int32))] w Q') (k : ∀ (r : Int64) (u : zm_S), Q' (.long r) u → zm_T zd_H (d + 1) mX8_digest Q 399 [(0, .ref 0), (5, .int a5), (7, .int a7)] [.long r, .long ((31 : Int64) * a1)] u) : zm_T zd_H (d + 1) mX8_digest Q 382 [(0, .ref 0), (1, .long a1), (5, .int a5), (7, .int a7)] [] w := by
  refine zm_ldc2_w dX8_digest_382 kcX8_315 ?_
  refine zm_lload_n (x := a1) 1 dX8_digest_385 rfl rfl ?_
  refine zm_lmul dX8_digest_386 ?_
  refine zm_aload_n (x := 0) 0 dX8_digest_387 rfl rfl ?_
  refine zm_iload (x := a7) 3 dX8_digest_388 rfl ?_
  refine zm_iconst dX8_digest_390 (v := (2 : Int32)) (by decide) ?_
  refine zm_idiv dX8_digest_391 hn391 ?_
  refine zm_iload (x := a7) 3 dX8_digest_392 rfl ?_
  refine zm_iconst dX8_digest_394 (v := (2 : Int32)) (by decide) ?_
  refine zm_irem dX8_digest_395 hn395 ?_
  refine zm_callVl (as := [.int (a7 / (2 : Int32)), .int (a7 - a7 / (2 : Int32) * (2 : Int32))]) (rest := [.long ((31 : Int64) * a1)]) dX8_digest_396 rfl mtX8_fitOf lkX8_245 zd_H0 (C := RX8) rfl rfl rfl (Nat.le_of_ble_eq_true rfl) hC rfl (fun r u hq => ?_)
  refine zm_sub [0, 2, 3] rfl ?_
  exact k r u hq
theorem gX8_digest_399 {d : Nat} {Q : Value → zm_S → Prop} {w : zm_S} {a5 : Int32} {a7 : Int32} {s0 : Int64} {s1 : Int64} (k : zm_T zd_H d mX8_digest Q 376 [(0, .ref 0), (1, .long (s1 + s0)), (5, .int a5), (7, .int (a7 + (1 : Int32)))] [] w) : zm_T zd_H d mX8_digest Q 399 [(0, .ref 0), (5, .int a5), (7, .int a7)] [.long s0, .long s1] w := by
  refine zm_ladd dX8_digest_399 ?_
  refine zm_lstore_n dX8_digest_400 rfl (Nat.le_of_ble_eq_true rfl) (ls' := [(1, .long (s1 + s0)), (0, .ref 0), (5, .int a5), (7, .int a7)]) rfl ?_
  refine zm_iinc 3 dX8_digest_401 (x := a7) (v := (a7 + (1 : Int32))) rfl rfl (Nat.le_of_ble_eq_true rfl) (ls' := [(7, .int (a7 + (1 : Int32))), (1, .long (s1 + s0)), (0, .ref 0), (5, .int a5)]) rfl ?_
  refine zm_goto 376 dX8_digest_404 (by decide) ?_
  refine zm_sub [2, 1, 3, 0] rfl ?_
  exact k
theorem gX8_digest_407 {d : Nat} {Q : Value → zm_S → Prop} {w : zm_S} {a1 : Int64} {a5 : Int32} {Q' : Value → zm_S → Prop} (hC : zm_C zd_H d mX8_worstOf [.ref 0, .int (0 : Int32)] w Q') (k : ∀ (r : Int32) (u : zm_S), Q' (.int r) u → zm_T zd_H (d + 1) mX8_digest Q 427 [(0, .ref 0)] [.int r, .long ((31 : Int64) * (((31 : Int64) * a1) + ((a5).toInt64)))] u) : zm_T zd_H (d + 1) mX8_digest Q 407 [(0, .ref 0), (1, .long a1), (5, .int a5)] [] w := by
  refine zm_ldc2_w dX8_digest_407 kcX8_315 ?_
  refine zm_lload_n (x := a1) 1 dX8_digest_410 rfl rfl ?_
  refine zm_lmul dX8_digest_411 ?_
  refine zm_iload (x := a5) 2 dX8_digest_412 rfl ?_
  refine zm_i2l dX8_digest_414 ?_
  refine zm_ladd dX8_digest_415 ?_
  refine zm_lstore_n dX8_digest_416 rfl (Nat.le_of_ble_eq_true rfl) (ls' := [(1, .long (((31 : Int64) * a1) + ((a5).toInt64))), (0, .ref 0), (5, .int a5)]) rfl ?_
  refine zm_ldc2_w dX8_digest_417 kcX8_315 ?_
  refine zm_lload_n (x := (((31 : Int64) * a1) + ((a5).toInt64))) 0 dX8_digest_420 rfl rfl ?_
  refine zm_lmul dX8_digest_421 ?_
  refine zm_aload_n (x := 0) 1 dX8_digest_422 rfl rfl ?_
  refine zm_iconst dX8_digest_423 (v := (0 : Int32)) (by decide) ?_
  refine zm_callVi (as := [.int (0 : Int32)]) (rest := [.long ((31 : Int64) * (((31 : Int64) * a1) + ((a5).toInt64)))]) dX8_digest_424 rfl mtX8_worstOf lkX8_255 zd_H0 (C := RX8) rfl rfl rfl (Nat.le_of_ble_eq_true rfl) hC rfl (fun r u hq => ?_)
  refine zm_sub [1] rfl ?_
  exact k r u hq
theorem gX8_digest_427 {d : Nat} {Q : Value → zm_S → Prop} {w : zm_S} {s0 : Int32} {s1 : Int64} {Q' : Value → zm_S → Prop} (hC : zm_C zd_H d mX8_worstOf [.ref 0, .int (1 : Int32)] w Q') (k : ∀ (r : Int32) (u : zm_S), Q' (.int r) u → zm_T zd_H (d + 1) mX8_digest Q 440 [(0, .ref 0)] [.int r, .long ((31 : Int64) * (s1 + ((s0).toInt64)))] u) : zm_T zd_H (d + 1) mX8_digest Q 427 [(0, .ref 0)] [.int s0, .long s1] w := by
  refine zm_i2l dX8_digest_427 ?_
  refine zm_ladd dX8_digest_428 ?_
  refine zm_lstore_n dX8_digest_429 rfl (Nat.le_of_ble_eq_true rfl) (ls' := [(1, .long (s1 + ((s0).toInt64))), (0, .ref 0)]) rfl ?_
  refine zm_ldc2_w dX8_digest_430 kcX8_315 ?_
  refine zm_lload_n (x := (s1 + ((s0).toInt64))) 0 dX8_digest_433 rfl rfl ?_
  refine zm_lmul dX8_digest_434 ?_
  refine zm_aload_n (x := 0) 1 dX8_digest_435 rfl rfl ?_
  refine zm_iconst dX8_digest_436 (v := (1 : Int32)) (by decide) ?_
  refine zm_callVi (as := [.int (1 : Int32)]) (rest := [.long ((31 : Int64) * (s1 + ((s0).toInt64)))]) dX8_digest_437 rfl mtX8_worstOf lkX8_255 zd_H0 (C := RX8) rfl rfl rfl (Nat.le_of_ble_eq_true rfl) hC rfl (fun r u hq => ?_)
  refine zm_sub [1] rfl ?_
  exact k r u hq
theorem gX8_digest_440 {d : Nat} {Q : Value → zm_S → Prop} {w : zm_S} {s0 : Int32} {s1 : Int64} {Q' : Value → zm_S → Prop} (hC : zm_C zd_H d mX8_statesOf [.ref 0, .int (-1 : Int32)] w Q') (k : ∀ (r : Int32) (u : zm_S), Q' (.int r) u → zm_T zd_H (d + 1) mX8_digest Q 453 [(0, .ref 0)] [.int r, .long ((31 : Int64) * (s1 + ((s0).toInt64)))] u) : zm_T zd_H (d + 1) mX8_digest Q 440 [(0, .ref 0)] [.int s0, .long s1] w := by
  refine zm_i2l dX8_digest_440 ?_
  refine zm_ladd dX8_digest_441 ?_
  refine zm_lstore_n dX8_digest_442 rfl (Nat.le_of_ble_eq_true rfl) (ls' := [(1, .long (s1 + ((s0).toInt64))), (0, .ref 0)]) rfl ?_
  refine zm_ldc2_w dX8_digest_443 kcX8_315 ?_
  refine zm_lload_n (x := (s1 + ((s0).toInt64))) 0 dX8_digest_446 rfl rfl ?_
  refine zm_lmul dX8_digest_447 ?_
  refine zm_aload_n (x := 0) 1 dX8_digest_448 rfl rfl ?_
  refine zm_iconst dX8_digest_449 (v := (-1 : Int32)) (by decide) ?_
  refine zm_callVi (as := [.int (-1 : Int32)]) (rest := [.long ((31 : Int64) * (s1 + ((s0).toInt64)))]) dX8_digest_450 rfl mtX8_statesOf lkX8_264 zd_H0 (C := RX8) rfl rfl rfl (Nat.le_of_ble_eq_true rfl) hC rfl (fun r u hq => ?_)
  refine zm_sub [1] rfl ?_
  exact k r u hq
theorem gX8_digest_453 {d : Nat} {Q : Value → zm_S → Prop} {w : zm_S} {s0 : Int32} {s1 : Int64} {Q' : Value → zm_S → Prop} (hC : zm_C zd_H d mX8_pathsNow [.ref 0] w Q') (k : ∀ (r : Int32) (u : zm_S), Q' (.int r) u → zm_T zd_H (d + 1) mX8_digest Q 465 [(0, .ref 0)] [.int r, .long ((31 : Int64) * (s1 + ((s0).toInt64)))] u) : zm_T zd_H (d + 1) mX8_digest Q 453 [(0, .ref 0)] [.int s0, .long s1] w := by
  refine zm_i2l dX8_digest_453 ?_
  refine zm_ladd dX8_digest_454 ?_
  refine zm_lstore_n dX8_digest_455 rfl (Nat.le_of_ble_eq_true rfl) (ls' := [(1, .long (s1 + ((s0).toInt64))), (0, .ref 0)]) rfl ?_
  refine zm_ldc2_w dX8_digest_456 kcX8_315 ?_
  refine zm_lload_n (x := (s1 + ((s0).toInt64))) 0 dX8_digest_459 rfl rfl ?_
  refine zm_lmul dX8_digest_460 ?_
  refine zm_aload_n (x := 0) 1 dX8_digest_461 rfl rfl ?_
  refine zm_callVi (as := []) (rest := [.long ((31 : Int64) * (s1 + ((s0).toInt64)))]) dX8_digest_462 rfl mtX8_pathsNow lkX8_270 zd_H0 (C := RX8) rfl rfl rfl (Nat.le_of_ble_eq_true rfl) hC rfl (fun r u hq => ?_)
  refine zm_sub [1] rfl ?_
  exact k r u hq
theorem gX8_digest_465 {d : Nat} {Q : Value → zm_S → Prop} {w : zm_S} {s0 : Int32} {s1 : Int64} {Q' : Value → zm_S → Prop} (hC : zm_C zd_H d mX8_sureOf [.ref 0, .int (0 : Int32), .int (0 : Int32), .int (0 : Int32)] w Q') (k : ∀ (r : Int32) (u : zm_S), Q' (.int r) u → zm_T zd_H (d + 1) mX8_digest Q 480 [(0, .ref 0)] [.int r, .long ((31 : Int64) * (s1 + ((s0).toInt64)))] u) : zm_T zd_H (d + 1) mX8_digest Q 465 [(0, .ref 0)] [.int s0, .long s1] w := by
  refine zm_i2l dX8_digest_465 ?_
  refine zm_ladd dX8_digest_466 ?_
  refine zm_lstore_n dX8_digest_467 rfl (Nat.le_of_ble_eq_true rfl) (ls' := [(1, .long (s1 + ((s0).toInt64))), (0, .ref 0)]) rfl ?_
  refine zm_ldc2_w dX8_digest_468 kcX8_315 ?_
  refine zm_lload_n (x := (s1 + ((s0).toInt64))) 0 dX8_digest_471 rfl rfl ?_
  refine zm_lmul dX8_digest_472 ?_
  refine zm_aload_n (x := 0) 1 dX8_digest_473 rfl rfl ?_
  refine zm_iconst dX8_digest_474 (v := (0 : Int32)) (by decide) ?_
  refine zm_iconst dX8_digest_475 (v := (0 : Int32)) (by decide) ?_
  refine zm_iconst dX8_digest_476 (v := (0 : Int32)) (by decide) ?_
  refine zm_callVi (as := [.int (0 : Int32), .int (0 : Int32), .int (0 : Int32)]) (rest := [.long ((31 : Int64) * (s1 + ((s0).toInt64)))]) dX8_digest_477 rfl mtX8_sureOf lkX8_279 zd_H0 (C := RX8) rfl rfl rfl (Nat.le_of_ble_eq_true rfl) hC rfl (fun r u hq => ?_)
  refine zm_sub [1] rfl ?_
  exact k r u hq
theorem gX8_digest_480 {d : Nat} {Q : Value → zm_S → Prop} {w : zm_S} {s0 : Int32} {s1 : Int64} {Q' : Value → zm_S → Prop} (hC : zm_C zd_H d mX8_sureOf [.ref 0, .int (0 : Int32), .int (0 : Int32), .int (1 : Int32)] w Q') (k : ∀ (r : Int32) (u : zm_S), Q' (.int r) u → zm_T zd_H (d + 1) mX8_digest Q 495 [(0, .ref 0)] [.int r, .long ((31 : Int64) * (s1 + ((s0).toInt64)))] u) : zm_T zd_H (d + 1) mX8_digest Q 480 [(0, .ref 0)] [.int s0, .long s1] w := by
  refine zm_i2l dX8_digest_480 ?_
  refine zm_ladd dX8_digest_481 ?_
  refine zm_lstore_n dX8_digest_482 rfl (Nat.le_of_ble_eq_true rfl) (ls' := [(1, .long (s1 + ((s0).toInt64))), (0, .ref 0)]) rfl ?_
  refine zm_ldc2_w dX8_digest_483 kcX8_315 ?_
  refine zm_lload_n (x := (s1 + ((s0).toInt64))) 0 dX8_digest_486 rfl rfl ?_
  refine zm_lmul dX8_digest_487 ?_
  refine zm_aload_n (x := 0) 1 dX8_digest_488 rfl rfl ?_
  refine zm_iconst dX8_digest_489 (v := (0 : Int32)) (by decide) ?_
  refine zm_iconst dX8_digest_490 (v := (0 : Int32)) (by decide) ?_
  refine zm_iconst dX8_digest_491 (v := (1 : Int32)) (by decide) ?_
  refine zm_callVi (as := [.int (0 : Int32), .int (0 : Int32), .int (1 : Int32)]) (rest := [.long ((31 : Int64) * (s1 + ((s0).toInt64)))]) dX8_digest_492 rfl mtX8_sureOf lkX8_279 zd_H0 (C := RX8) rfl rfl rfl (Nat.le_of_ble_eq_true rfl) hC rfl (fun r u hq => ?_)
  refine zm_sub [1] rfl ?_
  exact k r u hq
theorem gX8_digest_495 {d : Nat} {Q : Value → zm_S → Prop} {w : zm_S} {s0 : Int32} {s1 : Int64} {Q' : Value → zm_S → Prop} (hC : zm_C zd_H d mX8_lessonsOf [.ref 0, .int (2 : Int32), .int (-1 : Int32)] w Q') (k : ∀ (r : Int32) (u : zm_S), Q' (.int r) u → zm_T zd_H (d + 1) mX8_digest Q 509 [] [.int r, .long ((31 : Int64) * (s1 + ((s0).toInt64)))] u) : zm_T zd_H (d + 1) mX8_digest Q 495 [(0, .ref 0)] [.int s0, .long s1] w := by
  refine zm_i2l dX8_digest_495 ?_
  refine zm_ladd dX8_digest_496 ?_
  refine zm_lstore_n dX8_digest_497 rfl (Nat.le_of_ble_eq_true rfl) (ls' := [(1, .long (s1 + ((s0).toInt64))), (0, .ref 0)]) rfl ?_
  refine zm_ldc2_w dX8_digest_498 kcX8_315 ?_
  refine zm_lload_n (x := (s1 + ((s0).toInt64))) 0 dX8_digest_501 rfl rfl ?_
  refine zm_lmul dX8_digest_502 ?_
  refine zm_aload_n (x := 0) 1 dX8_digest_503 rfl rfl ?_
  refine zm_iconst dX8_digest_504 (v := (2 : Int32)) (by decide) ?_
  refine zm_iconst dX8_digest_505 (v := (-1 : Int32)) (by decide) ?_
  refine zm_callVi (as := [.int (2 : Int32), .int (-1 : Int32)]) (rest := [.long ((31 : Int64) * (s1 + ((s0).toInt64)))]) dX8_digest_506 rfl mtX8_lessonsOf lkX8_307 zd_H0 (C := RX8) rfl rfl rfl (Nat.le_of_ble_eq_true rfl) hC rfl (fun r u hq => ?_)
  refine zm_sub [] rfl ?_
  exact k r u hq
theorem gX8_digest_509 {d : Nat} {Q : Value → zm_S → Prop} {w : zm_S} {s0 : Int32} {s1 : Int64} (k : Q (.long (s1 + ((s0).toInt64))) w) : zm_T zd_H d mX8_digest Q 509 [] [.int s0, .long s1] w := by
  refine zm_i2l dX8_digest_509 ?_
  refine zm_ladd dX8_digest_510 ?_
  exact zm_lreturn dX8_digest_511 rfl k
