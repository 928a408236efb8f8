theorem gX8_in_0 {d : Nat} {Q : Value → zm_S → Prop} {w : zm_S} {a0 : Int64} {a2 : Int64} {a4 : Int64} (kt : (lg_cmp a0 a2) < 0 → zm_T zd_H d mX8_in Q 17 [] [] w) (kf : ¬ (lg_cmp a0 a2) < 0 → zm_T zd_H d mX8_in Q 6 [(0, .long a0), (4, .long a4)] [] w) : zm_T zd_H d mX8_in Q 0 [(0, .long a0), (2, .long a2), (4, .long a4)] [] w := by
  refine zm_lload_n (x := a0) 0 dX8_in_0 rfl rfl ?_
  refine zm_lload_n (x := a2) 1 dX8_in_1 rfl rfl ?_
  refine zm_lcmp dX8_in_2 ?_
  refine zm_if_lt 17 dX8_in_3 (by decide) (fun h => ?_) (fun h => ?_)
  · refine zm_sub [] rfl ?_
    exact kt h
  · refine zm_sub [0, 2] rfl ?_
    exact kf h
theorem gX8_in_6 {d : Nat} {Q : Value → zm_S → Prop} {w : zm_S} {a0 : Int64} {a4 : Int64} (kt : 0 < (lg_cmp a0 a4) → zm_T zd_H d mX8_in Q 17 [] [] w) (kf : ¬ 0 < (lg_cmp a0 a4) → zm_T zd_H d mX8_in Q 13 [] [] w) : zm_T zd_H d mX8_in Q 6 [(0, .long a0), (4, .long a4)] [] w := by
  refine zm_lload_n (x := a0) 0 dX8_in_6 rfl rfl ?_
  refine zm_lload (x := a4) 1 dX8_in_7 rfl ?_
  refine zm_lcmp dX8_in_9 ?_
  refine zm_if_gt 17 dX8_in_10 (by decide) (fun h => ?_) (fun h => ?_)
  · refine zm_sub [] rfl ?_
    exact kt h
  · refine zm_sub [] rfl ?_
    exact kf h
theorem gX8_in_13 {d : Nat} {Q : Value → zm_S → Prop} {w : zm_S} (k : Q (.int (1 : Int32)) w) : zm_T zd_H d mX8_in Q 13 [] [] w := by
  refine zm_iconst dX8_in_13 (v := (1 : Int32)) (by decide) ?_
  refine zm_goto 18 dX8_in_14 (by decide) ?_
  exact zm_zreturn dX8_in_18 rfl (by decide) k
theorem gX8_in_17 {d : Nat} {Q : Value → zm_S → Prop} {w : zm_S} (k : Q (.int (0 : Int32)) w) : zm_T zd_H d mX8_in Q 17 [] [] w := by
  refine zm_iconst dX8_in_17 (v := (0 : Int32)) (by decide) ?_
  exact zm_zreturn dX8_in_18 rfl (by decide) k
theorem gX8_no_0 {d : Nat} {Q : Value → zm_S → Prop} {w : zm_S} {a0 : Int32} (k : Q (.long ((-9223372036854775808 : Int64) - ((a0).toInt64))) w) : zm_T zd_H d mX8_no Q 0 [(0, .int a0)] [] w := by
  refine zm_ldc2_w dX8_no_0 kcX8_76 ?_
  refine zm_iload_n (x := a0) 0 dX8_no_3 rfl rfl ?_
  refine zm_i2l dX8_no_4 ?_
  refine zm_lsub dX8_no_5 ?_
  exact zm_lreturn dX8_no_6 rfl k
theorem gX8_isTwo_0 {d : Nat} {Q : Value → zm_S → Prop} {w : zm_S} {a0 : Int32} {Q' : Value → zm_S → Prop} (hC : zm_C zd_H d mX8_in [.long ((a0).toInt64), .long (0 : Int64), .long (1 : Int64)] w Q') (k : ∀ (r : Int32) (u : zm_S), Q' (.int r) u → zm_T zd_H (d + 1) mX8_isTwo Q 7 [] [.int r] u) : zm_T zd_H (d + 1) mX8_isTwo Q 0 [(0, .int a0)] [] w := by
  refine zm_iload_n (x := a0) 0 dX8_isTwo_0 rfl rfl ?_
  refine zm_i2l dX8_isTwo_1 ?_
  refine zm_lconst dX8_isTwo_2 (v := (0 : Int64)) (by decide) ?_
  refine zm_lconst dX8_isTwo_3 (v := (1 : Int64)) (by decide) ?_
  refine zm_callSz (as := [.long ((a0).toInt64), .long (0 : Int64), .long (1 : Int64)]) (rest := []) dX8_isTwo_4 rfl mtX8_in lkX8_78 rfl (Nat.le_of_ble_eq_true rfl) hC rfl (fun r u hq => ?_)
  refine zm_sub [] rfl ?_
  exact k r u hq
theorem gX8_isTwo_7 {d : Nat} {Q : Value → zm_S → Prop} {w : zm_S} {s0 : Int32} (hz : s0 &&& 1 = s0) (k : Q (.int s0) w) : zm_T zd_H d mX8_isTwo Q 7 [] [.int s0] w := by
  exact zm_zreturn dX8_isTwo_7 rfl hz k
theorem gX8_isIn_0 {d : Nat} {Q : Value → zm_S → Prop} {w : zm_S} {a0 : Int32} {a1 : Int32} (kt : ¬ ((a0 >>> (a1 &&& 31)) &&& (1 : Int32)) = (1 : Int32) → zm_T zd_H d mX8_isIn Q 13 [] [] w) (kf : ((a0 >>> (a1 &&& 31)) &&& (1 : Int32)) = (1 : Int32) → zm_T zd_H d mX8_isIn Q 9 [] [] w) : zm_T zd_H d mX8_isIn Q 0 [(0, .int a0), (1, .int a1)] [] w := by
  refine zm_iload_n (x := a0) 0 dX8_isIn_0 rfl rfl ?_
  refine zm_iload_n (x := a1) 1 dX8_isIn_1 rfl rfl ?_
  refine zm_ishr dX8_isIn_2 ?_
  refine zm_iconst dX8_isIn_3 (v := (1 : Int32)) (by decide) ?_
  refine zm_iand dX8_isIn_4 ?_
  refine zm_iconst dX8_isIn_5 (v := (1 : Int32)) (by decide) ?_
  refine zm_icmp_ne 13 dX8_isIn_6 (by decide) (fun h => ?_) (fun h => ?_)
  · refine zm_sub [] rfl ?_
    exact kt h
  · refine zm_sub [] rfl ?_
    exact kf h
theorem gX8_isIn_9 {d : Nat} {Q : Value → zm_S → Prop} {w : zm_S} (k : Q (.int (1 : Int32)) w) : zm_T zd_H d mX8_isIn Q 9 [] [] w := by
  refine zm_iconst dX8_isIn_9 (v := (1 : Int32)) (by decide) ?_
  refine zm_goto 14 dX8_isIn_10 (by decide) ?_
  exact zm_zreturn dX8_isIn_14 rfl (by decide) k
theorem gX8_isIn_13 {d : Nat} {Q : Value → zm_S → Prop} {w : zm_S} (k : Q (.int (0 : Int32)) w) : zm_T zd_H d mX8_isIn Q 13 [] [] w := by
  refine zm_iconst dX8_isIn_13 (v := (0 : Int32)) (by decide) ?_
  exact zm_zreturn dX8_isIn_14 rfl (by decide) k
theorem gX8_ones_0 {d : Nat} {Q : Value → zm_S → Prop} {w : zm_S} {a0 : Int32} (k : zm_T zd_H d mX8_ones Q 4 [(1, .int (0 : Int32)), (2, .int a0)] [] w) : zm_T zd_H d mX8_ones Q 0 [(0, .int a0)] [] w := by
  refine zm_iconst dX8_ones_0 (v := (0 : Int32)) (by decide) ?_
  refine zm_istore_n dX8_ones_1 rfl (Nat.le_of_ble_eq_true rfl) (ls' := [(1, .int (0 : Int32)), (0, .int a0)]) rfl ?_
  refine zm_iload_n (x := a0) 1 dX8_ones_2 rfl rfl ?_
  refine zm_istore_n dX8_ones_3 rfl (Nat.le_of_ble_eq_true rfl) (ls' := [(2, .int a0), (1, .int (0 : Int32)), (0, .int a0)]) rfl ?_
  refine zm_sub [1, 0] rfl ?_
  exact k
theorem gX8_ones_4 {d : Nat} {Q : Value → zm_S → Prop} {w : zm_S} {a1 : Int32} {a2 : Int32} (kt : a2 = 0 → zm_T zd_H d mX8_ones Q 20 [(1, .int a1)] [] w) (kf : ¬ a2 = 0 → zm_T zd_H d mX8_ones Q 8 [(1, .int a1), (2, .int a2)] [] w) : zm_T zd_H d mX8_ones Q 4 [(1, .int a1), (2, .int a2)] [] w := by
  refine zm_iload_n (x := a2) 1 dX8_ones_4 rfl rfl ?_
  refine zm_if_eq 20 dX8_ones_5 (by decide) (fun h => ?_) (fun h => ?_)
  · refine zm_sub [0] rfl ?_
    exact kt h
  · exact kf h
theorem gX8_ones_8 {d : Nat} {Q : Value → zm_S → Prop} {w : zm_S} {a1 : Int32} {a2 : Int32} (k : zm_T zd_H d mX8_ones Q 4 [(1, .int (a1 + (1 : Int32))), (2, .int (a2 &&& (a2 - (1 : Int32))))] [] w) : zm_T zd_H d mX8_ones Q 8 [(1, .int a1), (2, .int a2)] [] w := by
  refine zm_iinc 0 dX8_ones_8 (x := a1) (v := (a1 + (1 : Int32))) rfl rfl (Nat.le_of_ble_eq_true rfl) (ls' := [(1, .int (a1 + (1 : Int32))), (2, .int a2)]) rfl ?_
  refine zm_iload_n (x := a2) 1 dX8_ones_11 rfl rfl ?_
  refine zm_iload_n (x := a2) 1 dX8_ones_12 rfl rfl ?_
  refine zm_iconst dX8_ones_13 (v := (1 : Int32)) (by decide) ?_
  refine zm_isub dX8_ones_14 ?_
  refine zm_iand dX8_ones_15 ?_
  refine zm_istore_n dX8_ones_16 rfl (Nat.le_of_ble_eq_true rfl) (ls' := [(2, .int (a2 &&& (a2 - (1 : Int32)))), (1, .int (a1 + (1 : Int32)))]) rfl ?_
  refine zm_goto 4 dX8_ones_17 (by decide) ?_
  refine zm_sub [1, 0] rfl ?_
  exact k
theorem gX8_ones_20 {d : Nat} {Q : Value → zm_S → Prop} {w : zm_S} {a1 : Int32} (k : Q (.int a1) w) : zm_T zd_H d mX8_ones Q 20 [(1, .int a1)] [] w := by
  refine zm_iload_n (x := a1) 0 dX8_ones_20 rfl rfl ?_
  exact zm_ireturn dX8_ones_21 rfl k
theorem gX8_met_0 {d : Nat} {Q : Value → zm_S → Prop} {w : zm_S} {a1 : Int32} (k : Q (.int ((-10 : Int32) - a1)) (zm_pi w 0 4 a1)) : zm_T zd_H d mX8_met Q 0 [(0, .ref 0), (1, .int a1)] [] w := by
  refine zm_aload_n (x := 0) 0 dX8_met_0 rfl rfl ?_
  refine zm_iload_n (x := a1) 1 dX8_met_1 rfl rfl ?_
  refine zm_putf (j := 4) (ty := .int) dX8_met_2 clX8 flX8_82 (Nat.le_of_ble_eq_true rfl) zd_H0 rfl rfl (by decide +kernel) rfl rfl ?_
  refine zm_bipush dX8_met_5 (v := (-10 : Int32)) (by decide) ?_
  refine zm_iload_n (x := a1) 1 dX8_met_7 rfl rfl ?_
  refine zm_isub dX8_met_8 ?_
  exact zm_ireturn dX8_met_9 rfl k
theorem gX8_isSheet_0 {d : Nat} {Q : Value → zm_S → Prop} {w : zm_S} {a0 : Int32} {Q' : Value → zm_S → Prop} (hC : zm_C zd_H d mX8_in [.long ((a0).toInt64), .long (0 : Int64), .long (3 : Int64)] w Q') (k : ∀ (r : Int32) (u : zm_S), Q' (.int r) u → zm_T zd_H (d + 1) mX8_isSheet Q 9 [] [.int r] u) : zm_T zd_H (d + 1) mX8_isSheet Q 0 [(0, .int a0)] [] w := by
  refine zm_iload_n (x := a0) 0 dX8_isSheet_0 rfl rfl ?_
  refine zm_i2l dX8_isSheet_1 ?_
  refine zm_lconst dX8_isSheet_2 (v := (0 : Int64)) (by decide) ?_
  refine zm_ldc2_w dX8_isSheet_3 kcX8_86 ?_
  refine zm_callSz (as := [.long ((a0).toInt64), .long (0 : Int64), .long (3 : Int64)]) (rest := []) dX8_isSheet_6 rfl mtX8_in lkX8_78 rfl (Nat.le_of_ble_eq_true rfl) hC rfl (fun r u hq => ?_)
  refine zm_sub [] rfl ?_
  exact k r u hq
theorem gX8_isSheet_9 {d : Nat} {Q : Value → zm_S → Prop} {w : zm_S} {s0 : Int32} (hz : s0 &&& 1 = s0) (k : Q (.int s0) w) : zm_T zd_H d mX8_isSheet Q 9 [] [.int s0] w := by
  exact zm_zreturn dX8_isSheet_9 rfl hz k
theorem gX8_sheet_0 {d : Nat} {Q : Value → zm_S → Prop} {w : zm_S} {a1 : Int32} {a2 : Int32} {a3 : Int32} {Q' : Value → zm_S → Prop} (hC : zm_C zd_H d mX8_isSheet [.int a1] w Q') (k : ∀ (r : Int32) (u : zm_S), Q' (.int r) u → zm_T zd_H (d + 1) mX8_sheet Q 4 [(0, .ref 0), (1, .int a1), (2, .int a2), (3, .int a3)] [.int r] u) : zm_T zd_H (d + 1) mX8_sheet Q 0 [(0, .ref 0), (1, .int a1), (2, .int a2), (3, .int a3)] [] w := by
  refine zm_iload_n (x := a1) 1 dX8_sheet_0 rfl rfl ?_
  refine zm_callSz (as := [.int a1]) (rest := []) dX8_sheet_1 rfl mtX8_isSheet lkX8_88 rfl (Nat.le_of_ble_eq_true rfl) hC rfl (fun r u hq => ?_)
  exact k r u hq
theorem gX8_sheet_4 {d : Nat} {Q : Value → zm_S → Prop} {w : zm_S} {a1 : Int32} {a2 : Int32} {a3 : Int32} {s0 : Int32} (kt : s0 = 0 → zm_T zd_H d mX8_sheet Q 25 [] [] w) (kf : ¬ s0 = 0 → zm_T zd_H d mX8_sheet Q 7 [(0, .ref 0), (1, .int a1), (2, .int a2), (3, .int a3)] [] w) : zm_T zd_H d mX8_sheet Q 4 [(0, .ref 0), (1, .int a1), (2, .int a2), (3, .int a3)] [.int s0] w := by
  refine zm_if_eq 25 dX8_sheet_4 (by decide) (fun h => ?_) (fun h => ?_)
  · refine zm_sub [] rfl ?_
    exact kt h
  · exact kf h
theorem gX8_sheet_7 {d : Nat} {Q : Value → zm_S → Prop} {w : zm_S} {a1 : Int32} {a2 : Int32} {a3 : Int32} {Q' : Value → zm_S → Prop} (hC : zm_C zd_H d mX8_in [.long ((a2).toInt64), .long (0 : Int64), .long (2 : Int64)] w Q') (k : ∀ (r : Int32) (u : zm_S), Q' (.int r) u → zm_T zd_H (d + 1) mX8_sheet Q 16 [(0, .ref 0), (1, .int a1), (2, .int a2), (3, .int a3)] [.int r] u) : zm_T zd_H (d + 1) mX8_sheet Q 7 [(0, .ref 0), (1, .int a1), (2, .int a2), (3, .int a3)] [] w := by
  refine zm_iload_n (x := a2) 2 dX8_sheet_7 rfl rfl ?_
  refine zm_i2l dX8_sheet_8 ?_
  refine zm_lconst dX8_sheet_9 (v := (0 : Int64)) (by decide) ?_
  refine zm_ldc2_w dX8_sheet_10 kcX8_92 ?_
  refine zm_callSz (as := [.long ((a2).toInt64), .long (0 : Int64), .long (2 : Int64)]) (rest := []) dX8_sheet_13 rfl mtX8_in lkX8_78 rfl (Nat.le_of_ble_eq_true rfl) hC rfl (fun r u hq => ?_)
  exact k r u hq
theorem gX8_sheet_16 {d : Nat} {Q : Value → zm_S → Prop} {w : zm_S} {a1 : Int32} {a2 : Int32} {a3 : Int32} {s0 : Int32} (kt : s0 = 0 → zm_T zd_H d mX8_sheet Q 25 [] [] w) (kf : ¬ s0 = 0 → zm_T zd_H d mX8_sheet Q 19 [(0, .ref 0), (1, .int a1), (2, .int a2), (3, .int a3)] [] w) : zm_T zd_H d mX8_sheet Q 16 [(0, .ref 0), (1, .int a1), (2, .int a2), (3, .int a3)] [.int s0] w := by
  refine zm_if_eq 25 dX8_sheet_16 (by decide) (fun h => ?_) (fun h => ?_)
  · refine zm_sub [] rfl ?_
    exact kt h
  · exact kf h
theorem gX8_sheet_19 {d : Nat} {Q : Value → zm_S → Prop} {w : zm_S} {a1 : Int32} {a2 : Int32} {a3 : Int32} (kt : a3 ≤ (60 : Int32) → zm_T zd_H d mX8_sheet Q 28 [(0, .ref 0), (1, .int a1), (2, .int a2), (3, .int a3)] [] w) (kf : ¬ a3 ≤ (60 : Int32) → zm_T zd_H d mX8_sheet Q 25 [] [] w) : zm_T zd_H d mX8_sheet Q 19 [(0, .ref 0), (1, .int a1), (2, .int a2), (3, .int a3)] [] w := by
  refine zm_iload_n (x := a3) 3 dX8_sheet_19 rfl rfl ?_
  refine zm_bipush dX8_sheet_20 (v := (60 : Int32)) (by decide) ?_
  refine zm_icmp_le 28 dX8_sheet_22 (by decide) (fun h => ?_) (fun h => ?_)
  · exact kt h
  · refine zm_sub [] rfl ?_
    exact kf h
theorem gX8_sheet_25 {d : Nat} {Q : Value → zm_S → Prop} {w : zm_S} (k : Q (.int (-2 : Int32)) w) : zm_T zd_H d mX8_sheet Q 25 [] [] w := by
  refine zm_bipush dX8_sheet_25 (v := (-2 : Int32)) (by decide) ?_
  exact zm_ireturn dX8_sheet_27 rfl k
theorem gX8_sheet_28 {d : Nat} {Q : Value → zm_S → Prop} {w : zm_S} {a1 : Int32} {a2 : Int32} {a3 : Int32} (kt : 0 ≤ a3 → zm_T zd_H d mX8_sheet Q 38 [(0, .ref 0), (1, .int a1), (2, .int a2), (3, .int a3)] [] w) (kf : ¬ 0 ≤ a3 → zm_T zd_H d mX8_sheet Q 32 [(0, .ref 0)] [] w) : zm_T zd_H d mX8_sheet Q 28 [(0, .ref 0), (1, .int a1), (2, .int a2), (3, .int a3)] [] w := by
  refine zm_iload_n (x := a3) 3 dX8_sheet_28 rfl rfl ?_
  refine zm_if_ge 38 dX8_sheet_29 (by decide) (fun h => ?_) (fun h => ?_)
  · exact kt h
  · refine zm_sub [0] rfl ?_
    exact kf h
theorem gX8_sheet_32 {d : Nat} {Q : Value → zm_S → Prop} {w : zm_S} {Q' : Value → zm_S → Prop} (hC : zm_C zd_H d mX8_met [.ref 0, .int (5 : Int32)] w Q') (k : ∀ (r : Int32) (u : zm_S), Q' (.int r) u → zm_T zd_H (d + 1) mX8_sheet Q 37 [] [.int r] u) : zm_T zd_H (d + 1) mX8_sheet Q 32 [(0, .ref 0)] [] w := by
  refine zm_aload_n (x := 0) 0 dX8_sheet_32 rfl rfl ?_
  refine zm_iconst dX8_sheet_33 (v := (5 : Int32)) (by decide) ?_
  refine zm_callVi (as := [.int (5 : Int32)]) (rest := []) dX8_sheet_34 rfl mtX8_met lkX8_94 zd_H0 (C := RX8) rfl rfl rfl (Nat.le_of_ble_eq_true rfl) hC rfl (fun r u hq => ?_)
  refine zm_sub [] rfl ?_
  exact k r u hq
theorem gX8_sheet_37 {d : Nat} {Q : Value → zm_S → Prop} {w : zm_S} {s0 : Int32} (k : Q (.int s0) w) : zm_T zd_H d mX8_sheet Q 37 [] [.int s0] w := by
  exact zm_ireturn dX8_sheet_37 rfl k
theorem gX8_sheet_38 {d : Nat} {Q : Value → zm_S → Prop} {w : zm_S} {a1 : Int32} {a2 : Int32} {a3 : Int32} (hi44 : vp_in a1 4) (hi51 : vp_in a1 4) (k : zm_T zd_H d mX8_sheet Q 55 [(0, .ref 0), (1, .int a1), (3, .int a3), (4, .int (0 : Int32))] [] (zm_pi (zm_pi w 1 (a1).toNatClampNeg a2) 2 (a1).toNatClampNeg a3)) : zm_T zd_H d mX8_sheet Q 38 [(0, .ref 0), (1, .int a1), (2, .int a2), (3, .int a3)] [] w := by
  refine zm_aload_n (x := 0) 0 dX8_sheet_38 rfl rfl ?_
  refine zm_getf (v := .ref 1) (j := 0) dX8_sheet_39 clX8 flX8_7 (Nat.le_of_ble_eq_true rfl) zd_H0 rfl rfl ?_
  refine zm_iload_n (x := a1) 1 dX8_sheet_42 rfl rfl ?_
  refine zm_iload_n (x := a2) 2 dX8_sheet_43 rfl rfl ?_
  refine zm_iast dX8_sheet_44 zd_H1 hi44 ?_
  refine zm_aload_n (x := 0) 0 dX8_sheet_45 rfl rfl ?_
  refine zm_getf (v := .ref 2) (j := 1) dX8_sheet_46 clX8 flX8_13 (Nat.le_of_ble_eq_true rfl) zd_H0 rfl rfl ?_
  refine zm_iload_n (x := a1) 1 dX8_sheet_49 rfl rfl ?_
  refine zm_iload_n (x := a3) 3 dX8_sheet_50 rfl rfl ?_
  refine zm_iast dX8_sheet_51 zd_H2 hi51 ?_
  refine zm_iconst dX8_sheet_52 (v := (0 : Int32)) (by decide) ?_
  refine zm_istore dX8_sheet_53 (Nat.le_of_ble_eq_true rfl) (ls' := [(4, .int (0 : Int32)), (0, .ref 0), (1, .int a1), (2, .int a2), (3, .int a3)]) rfl ?_
  refine zm_sub [1, 2, 4, 0] rfl ?_
  exact k
theorem gX8_sheet_55 {d : Nat} {Q : Value → zm_S → Prop} {w : zm_S} {a1 : Int32} {a3 : Int32} {a4 : Int32} (kt : a3 ≤ a4 → zm_T zd_H d mX8_sheet Q 80 [(3, .int a3)] [] w) (kf : ¬ a3 ≤ a4 → zm_T zd_H d mX8_sheet Q 61 [(0, .ref 0), (1, .int a1), (3, .int a3), (4, .int a4)] [] w) : zm_T zd_H d mX8_sheet Q 55 [(0, .ref 0), (1, .int a1), (3, .int a3), (4, .int a4)] [] w := by
  refine zm_iload (x := a4) 3 dX8_sheet_55 rfl ?_
  refine zm_iload_n (x := a3) 2 dX8_sheet_57 rfl rfl ?_
  refine zm_icmp_ge 80 dX8_sheet_58 (by decide) (fun h => ?_) (fun h => ?_)
  · refine zm_sub [2] rfl ?_
    exact kt h
  · exact kf h
theorem gX8_sheet_61 {d : Nat} {Q : Value → zm_S → Prop} {w : zm_S} {a1 : Int32} {a3 : Int32} {a4 : Int32} (hi73 : vp_in (((60 : Int32) * a1) + a4) 240) (k : zm_T zd_H d mX8_sheet Q 55 [(0, .ref 0), (1, .int a1), (3, .int a3), (4, .int (a4 + (1 : Int32)))] [] (zm_pi w 3 ((((60 : Int32) * a1) + a4)).toNatClampNeg (0 : Int32))) : zm_T zd_H d mX8_sheet Q 61 [(0, .ref 0), (1, .int a1), (3, .int a3), (4, .int a4)] [] w := by
  refine zm_aload_n (x := 0) 0 dX8_sheet_61 rfl rfl ?_
  refine zm_getf (v := .ref 3) (j := 2) dX8_sheet_62 clX8 flX8_16 (Nat.le_of_ble_eq_true rfl) zd_H0 rfl rfl ?_
  refine zm_bipush dX8_sheet_65 (v := (60 : Int32)) (by decide) ?_
  refine zm_iload_n (x := a1) 1 dX8_sheet_67 rfl rfl ?_
  refine zm_imul dX8_sheet_68 ?_
  refine zm_iload (x := a4) 3 dX8_sheet_69 rfl ?_
  refine zm_iadd dX8_sheet_71 ?_
  refine zm_iconst dX8_sheet_72 (v := (0 : Int32)) (by decide) ?_
  refine zm_iast dX8_sheet_73 zd_H3 hi73 ?_
  refine zm_iinc 3 dX8_sheet_74 (x := a4) (v := (a4 + (1 : Int32))) rfl rfl (Nat.le_of_ble_eq_true rfl) (ls' := [(4, .int (a4 + (1 : Int32))), (0, .ref 0), (1, .int a1), (3, .int a3)]) rfl ?_
  refine zm_goto 55 dX8_sheet_77 (by decide) ?_
  refine zm_sub [1, 2, 3, 0] rfl ?_
  exact k
theorem gX8_sheet_80 {d : Nat} {Q : Value → zm_S → Prop} {w : zm_S} {a3 : Int32} (k : Q (.int a3) w) : zm_T zd_H d mX8_sheet Q 80 [(3, .int a3)] [] w := by
  refine zm_iload_n (x := a3) 0 dX8_sheet_80 rfl rfl ?_
  exact zm_ireturn dX8_sheet_81 rfl k
theorem gX8_lose_0 {d : Nat} {Q : Value → zm_S → Prop} {w : zm_S} {a1 : Int32} {Q' : Value → zm_S → Prop} (hC : zm_C zd_H d mX8_isSheet [.int a1] w Q') (k : ∀ (r : Int32) (u : zm_S), Q' (.int r) u → zm_T zd_H (d + 1) mX8_lose Q 4 [(0, .ref 0), (1, .int a1)] [.int r] u) : zm_T zd_H (d + 1) mX8_lose Q 0 [(0, .ref 0), (1, .int a1)] [] w := by
  refine zm_iload_n (x := a1) 1 dX8_lose_0 rfl rfl ?_
  refine zm_callSz (as := [.int a1]) (rest := []) dX8_lose_1 rfl mtX8_isSheet lkX8_88 rfl (Nat.le_of_ble_eq_true rfl) hC rfl (fun r u hq => ?_)
  exact k r u hq
theorem gX8_lose_4 {d : Nat} {Q : Value → zm_S → Prop} {w : zm_S} {a1 : Int32} {s0 : Int32} (kt : ¬ s0 = 0 → zm_T zd_H d mX8_lose Q 10 [(0, .ref 0), (1, .int a1)] [] w) (kf : s0 = 0 → zm_T zd_H d mX8_lose Q 7 [] [] w) : zm_T zd_H d mX8_lose Q 4 [(0, .ref 0), (1, .int a1)] [.int s0] w := by
  refine zm_if_ne 10 dX8_lose_4 (by decide) (fun h => ?_) (fun h => ?_)
  · exact kt h
  · refine zm_sub [] rfl ?_
    exact kf h
theorem gX8_lose_7 {d : Nat} {Q : Value → zm_S → Prop} {w : zm_S} (k : Q (.int (-2 : Int32)) w) : zm_T zd_H d mX8_lose Q 7 [] [] w := by
  refine zm_bipush dX8_lose_7 (v := (-2 : Int32)) (by decide) ?_
  exact zm_ireturn dX8_lose_9 rfl k
theorem gX8_lose_10 {d : Nat} {Q : Value → zm_S → Prop} {w : zm_S} {a1 : Int32} (hi15 : vp_in a1 4) (kt : 0 ≤ (w.1 1 (a1).toNatClampNeg) → zm_T zd_H d mX8_lose Q 25 [(0, .ref 0), (1, .int a1)] [] w) (kf : ¬ 0 ≤ (w.1 1 (a1).toNatClampNeg) → zm_T zd_H d mX8_lose Q 19 [(0, .ref 0)] [] w) : zm_T zd_H d mX8_lose Q 10 [(0, .ref 0), (1, .int a1)] [] w := by
  refine zm_aload_n (x := 0) 0 dX8_lose_10 rfl rfl ?_
  refine zm_getf (v := .ref 1) (j := 0) dX8_lose_11 clX8 flX8_7 (Nat.le_of_ble_eq_true rfl) zd_H0 rfl rfl ?_
  refine zm_iload_n (x := a1) 1 dX8_lose_14 rfl rfl ?_
  refine zm_iald dX8_lose_15 zd_H1 hi15 ?_
  refine zm_if_ge 25 dX8_lose_16 (by decide) (fun h => ?_) (fun h => ?_)
  · exact kt h
  · refine zm_sub [0] rfl ?_
    exact kf h
theorem gX8_lose_19 {d : Nat} {Q : Value → zm_S → Prop} {w : zm_S} {Q' : Value → zm_S → Prop} (hC : zm_C zd_H d mX8_met [.ref 0, .int (1 : Int32)] w Q') (k : ∀ (r : Int32) (u : zm_S), Q' (.int r) u → zm_T zd_H (d + 1) mX8_lose Q 24 [] [.int r] u) : zm_T zd_H (d + 1) mX8_lose Q 19 [(0, .ref 0)] [] w := by
  refine zm_aload_n (x := 0) 0 dX8_lose_19 rfl rfl ?_
  refine zm_iconst dX8_lose_20 (v := (1 : Int32)) (by decide) ?_
  refine zm_callVi (as := [.int (1 : Int32)]) (rest := []) dX8_lose_21 rfl mtX8_met lkX8_94 zd_H0 (C := RX8) rfl rfl rfl (Nat.le_of_ble_eq_true rfl) hC rfl (fun r u hq => ?_)
  refine zm_sub [] rfl ?_
  exact k r u hq
theorem gX8_lose_24 {d : Nat} {Q : Value → zm_S → Prop} {w : zm_S} {s0 : Int32} (k : Q (.int s0) w) : zm_T zd_H d mX8_lose Q 24 [] [.int s0] w := by
  exact zm_ireturn dX8_lose_24 rfl k
theorem gX8_lose_25 {d : Nat} {Q : Value → zm_S → Prop} {w : zm_S} {a1 : Int32} (hi31 : vp_in a1 4) (hi37 : vp_in a1 4) (k : Q (.int (w.1 2 (a1).toNatClampNeg)) (zm_pi w 1 (a1).toNatClampNeg (-1 : Int32))) : zm_T zd_H d mX8_lose Q 25 [(0, .ref 0), (1, .int a1)] [] w := by
  refine zm_aload_n (x := 0) 0 dX8_lose_25 rfl rfl ?_
  refine zm_getf (v := .ref 1) (j := 0) dX8_lose_26 clX8 flX8_7 (Nat.le_of_ble_eq_true rfl) zd_H0 rfl rfl ?_
  refine zm_iload_n (x := a1) 1 dX8_lose_29 rfl rfl ?_
  refine zm_iconst dX8_lose_30 (v := (-1 : Int32)) (by decide) ?_
  refine zm_iast dX8_lose_31 zd_H1 hi31 ?_
  refine zm_aload_n (x := 0) 0 dX8_lose_32 rfl rfl ?_
  refine zm_getf (v := .ref 2) (j := 1) dX8_lose_33 clX8 flX8_13 (Nat.le_of_ble_eq_true rfl) zd_H0 rfl rfl ?_
  refine zm_iload_n (x := a1) 1 dX8_lose_36 rfl rfl ?_
  refine zm_iald dX8_lose_37 zd_H2 hi37 ?_
  exact zm_ireturn dX8_lose_38 rfl k
theorem gX8_lacks_0 {d : Nat} {Q : Value → zm_S → Prop} {w : zm_S} {a1 : Int32} {a2 : Int32} {a3 : Int32} (hi5 : vp_in a1 4) (kt : 0 ≤ (w.1 1 (a1).toNatClampNeg) → zm_T zd_H d mX8_lacks Q 15 [(0, .ref 0), (1, .int a1), (2, .int a2), (3, .int a3)] [] w) (kf : ¬ 0 ≤ (w.1 1 (a1).toNatClampNeg) → zm_T zd_H d mX8_lacks Q 9 [(0, .ref 0)] [] w) : zm_T zd_H d mX8_lacks Q 0 [(0, .ref 0), (1, .int a1), (2, .int a2), (3, .int a3)] [] w := by
  refine zm_aload_n (x := 0) 0 dX8_lacks_0 rfl rfl ?_
  refine zm_getf (v := .ref 1) (j := 0) dX8_lacks_1 clX8 flX8_7 (Nat.le_of_ble_eq_true rfl) zd_H0 rfl rfl ?_
  refine zm_iload_n (x := a1) 1 dX8_lacks_4 rfl rfl ?_
  refine zm_iald dX8_lacks_5 zd_H1 hi5 ?_
  refine zm_if_ge 15 dX8_lacks_6 (by decide) (fun h => ?_) (fun h => ?_)
  · exact kt h
  · refine zm_sub [0] rfl ?_
    exact kf h
theorem gX8_lacks_9 {d : Nat} {Q : Value → zm_S → Prop} {w : zm_S} {Q' : Value → zm_S → Prop} (hC : zm_C zd_H d mX8_met [.ref 0, .int (1 : Int32)] w Q') (k : ∀ (r : Int32) (u : zm_S), Q' (.int r) u → zm_T zd_H (d + 1) mX8_lacks Q 14 [] [.int r] u) : zm_T zd_H (d + 1) mX8_lacks Q 9 [(0, .ref 0)] [] w := by
  refine zm_aload_n (x := 0) 0 dX8_lacks_9 rfl rfl ?_
  refine zm_iconst dX8_lacks_10 (v := (1 : Int32)) (by decide) ?_
  refine zm_callVi (as := [.int (1 : Int32)]) (rest := []) dX8_lacks_11 rfl mtX8_met lkX8_94 zd_H0 (C := RX8) rfl rfl rfl (Nat.le_of_ble_eq_true rfl) hC rfl (fun r u hq => ?_)
  refine zm_sub [] rfl ?_
  exact k r u hq
theorem gX8_lacks_14 {d : Nat} {Q : Value → zm_S → Prop} {w : zm_S} {s0 : Int32} (k : Q (.int s0) w) : zm_T zd_H d mX8_lacks Q 14 [] [.int s0] w := by
  exact zm_ireturn dX8_lacks_14 rfl k
theorem gX8_lacks_15 {d : Nat} {Q : Value → zm_S → Prop} {w : zm_S} {a1 : Int32} {a2 : Int32} {a3 : Int32} (hi20 : vp_in a1 4) (kt : (w.1 1 (a1).toNatClampNeg) = a2 → zm_T zd_H d mX8_lacks Q 31 [(0, .ref 0), (1, .int a1), (3, .int a3)] [] w) (kf : ¬ (w.1 1 (a1).toNatClampNeg) = a2 → zm_T zd_H d mX8_lacks Q 25 [(0, .ref 0)] [] w) : zm_T zd_H d mX8_lacks Q 15 [(0, .ref 0), (1, .int a1), (2, .int a2), (3, .int a3)] [] w := by
  refine zm_aload_n (x := 0) 0 dX8_lacks_15 rfl rfl ?_
  refine zm_getf (v := .ref 1) (j := 0) dX8_lacks_16 clX8 flX8_7 (Nat.le_of_ble_eq_true rfl) zd_H0 rfl rfl ?_
  refine zm_iload_n (x := a1) 1 dX8_lacks_19 rfl rfl ?_
  refine zm_iald dX8_lacks_20 zd_H1 hi20 ?_
  refine zm_iload_n (x := a2) 2 dX8_lacks_21 rfl rfl ?_
  refine zm_icmp_eq 31 dX8_lacks_22 (by decide) (fun h => ?_) (fun h => ?_)
  · refine zm_sub [0, 1, 3] rfl ?_
    exact kt h
  · refine zm_sub [0] rfl ?_
    exact kf h
theorem gX8_lacks_25 {d : Nat} {Q : Value → zm_S → Prop} {w : zm_S} {Q' : Value → zm_S → Prop} (hC : zm_C zd_H d mX8_met [.ref 0, .int (3 : Int32)] w Q') (k : ∀ (r : Int32) (u : zm_S), Q' (.int r) u → zm_T zd_H (d + 1) mX8_lacks Q 30 [] [.int r] u) : zm_T zd_H (d + 1) mX8_lacks Q 25 [(0, .ref 0)] [] w := by
  refine zm_aload_n (x := 0) 0 dX8_lacks_25 rfl rfl ?_
  refine zm_iconst dX8_lacks_26 (v := (3 : Int32)) (by decide) ?_
  refine zm_callVi (as := [.int (3 : Int32)]) (rest := []) dX8_lacks_27 rfl mtX8_met lkX8_94 zd_H0 (C := RX8) rfl rfl rfl (Nat.le_of_ble_eq_true rfl) hC rfl (fun r u hq => ?_)
  refine zm_sub [] rfl ?_
  exact k r u hq
theorem gX8_lacks_30 {d : Nat} {Q : Value → zm_S → Prop} {w : zm_S} {s0 : Int32} (k : Q (.int s0) w) : zm_T zd_H d mX8_lacks Q 30 [] [.int s0] w := by
  exact zm_ireturn dX8_lacks_30 rfl k
theorem gX8_lacks_31 {d : Nat} {Q : Value → zm_S → Prop} {w : zm_S} {a1 : Int32} {a3 : Int32} {Q' : Value → zm_S → Prop} (hi39 : vp_in a1 4) (hC : zm_C zd_H d mX8_in [.long ((a3).toInt64), .long (0 : Int64), .long ((((w.1 2 (a1).toNatClampNeg) - (1 : Int32))).toInt64)] w Q') (k : ∀ (r : Int32) (u : zm_S), Q' (.int r) u → zm_T zd_H (d + 1) mX8_lacks Q 46 [(0, .ref 0)] [.int r] u) : zm_T zd_H (d + 1) mX8_lacks Q 31 [(0, .ref 0), (1, .int a1), (3, .int a3)] [] w := by
  refine zm_iload_n (x := a3) 2 dX8_lacks_31 rfl rfl ?_
  refine zm_i2l dX8_lacks_32 ?_
  refine zm_lconst dX8_lacks_33 (v := (0 : Int64)) (by decide) ?_
  refine zm_aload_n (x := 0) 0 dX8_lacks_34 rfl rfl ?_
  refine zm_getf (v := .ref 2) (j := 1) dX8_lacks_35 clX8 flX8_13 (Nat.le_of_ble_eq_true rfl) zd_H0 rfl rfl ?_
  refine zm_iload_n (x := a1) 1 dX8_lacks_38 rfl rfl ?_
  refine zm_iald dX8_lacks_39 zd_H2 hi39 ?_
  refine zm_iconst dX8_lacks_40 (v := (1 : Int32)) (by decide) ?_
  refine zm_isub dX8_lacks_41 ?_
  refine zm_i2l dX8_lacks_42 ?_
  refine zm_callSz (as := [.long ((a3).toInt64), .long (0 : Int64), .long ((((w.1 2 (a1).toNatClampNeg) - (1 : Int32))).toInt64)]) (rest := []) dX8_lacks_43 rfl mtX8_in lkX8_78 rfl (Nat.le_of_ble_eq_true rfl) hC rfl (fun r u hq => ?_)
  refine zm_sub [0] rfl ?_
  exact k r u hq
theorem gX8_lacks_46 {d : Nat} {Q : Value → zm_S → Prop} {w : zm_S} {s0 : Int32} (kt : s0 = 0 → zm_T zd_H d mX8_lacks Q 53 [(0, .ref 0)] [] w) (kf : ¬ s0 = 0 → zm_T zd_H d mX8_lacks Q 49 [] [] w) : zm_T zd_H d mX8_lacks Q 46 [(0, .ref 0)] [.int s0] w := by
  refine zm_if_eq 53 dX8_lacks_46 (by decide) (fun h => ?_) (fun h => ?_)
  · exact kt h
  · refine zm_sub [] rfl ?_
    exact kf h
theorem gX8_lacks_49 {d : Nat} {Q : Value → zm_S → Prop} {w : zm_S} (k : zm_T zd_H d mX8_lacks Q 58 [] [.int (0 : Int32)] w) : zm_T zd_H d mX8_lacks Q 49 [] [] w := by
  refine zm_iconst dX8_lacks_49 (v := (0 : Int32)) (by decide) ?_
  refine zm_goto 58 dX8_lacks_50 (by decide) ?_
  exact k
theorem gX8_lacks_53 {d : Nat} {Q : Value → zm_S → Prop} {w : zm_S} {Q' : Value → zm_S → Prop} (hC : zm_C zd_H d mX8_met [.ref 0, .int (2 : Int32)] w Q') (k : ∀ (r : Int32) (u : zm_S), Q' (.int r) u → zm_T zd_H (d + 1) mX8_lacks Q 58 [] [.int r] u) : zm_T zd_H (d + 1) mX8_lacks Q 53 [(0, .ref 0)] [] w := by
  refine zm_aload_n (x := 0) 0 dX8_lacks_53 rfl rfl ?_
  refine zm_iconst dX8_lacks_54 (v := (2 : Int32)) (by decide) ?_
  refine zm_callVi (as := [.int (2 : Int32)]) (rest := []) dX8_lacks_55 rfl mtX8_met lkX8_94 zd_H0 (C := RX8) rfl rfl rfl (Nat.le_of_ble_eq_true rfl) hC rfl (fun r u hq => ?_)
  refine zm_sub [] rfl ?_
  exact k r u hq
theorem gX8_lacks_58 {d : Nat} {Q : Value → zm_S → Prop} {w : zm_S} {s0 : Int32} (k : Q (.int s0) w) : zm_T zd_H d mX8_lacks Q 58 [] [.int s0] w := by
  exact zm_ireturn dX8_lacks_58 rfl k
theorem gX8_cut_0 {d : Nat} {Q : Value → zm_S → Prop} {w : zm_S} {a0 : Int32} {a1 : Int32} (kt : ¬ a0 = 0 → zm_T zd_H d mX8_cut Q 9 [(0, .int a0), (1, .int a1)] [] w) (kf : a0 = 0 → zm_T zd_H d mX8_cut Q 4 [(1, .int a1)] [] w) : zm_T zd_H d mX8_cut Q 0 [(0, .int a0), (1, .int a1)] [] w := by
  refine zm_iload_n (x := a0) 0 dX8_cut_0 rfl rfl ?_
  refine zm_if_ne 9 dX8_cut_1 (by decide) (fun h => ?_) (fun h => ?_)
  · exact kt h
  · refine zm_sub [1] rfl ?_
    exact kf h
theorem gX8_cut_4 {d : Nat} {Q : Value → zm_S → Prop} {w : zm_S} {a1 : Int32} (k : Q (.int ((a1).toInt8.toInt32)) w) : zm_T zd_H d mX8_cut Q 4 [(1, .int a1)] [] w := by
  refine zm_iload_n (x := a1) 0 dX8_cut_4 rfl rfl ?_
  refine zm_i2b dX8_cut_5 ?_
  refine zm_goto 20 dX8_cut_6 (by decide) ?_
  exact zm_ireturn dX8_cut_20 rfl k
theorem gX8_cut_9 {d : Nat} {Q : Value → zm_S → Prop} {w : zm_S} {a0 : Int32} {a1 : Int32} (kt : ¬ a0 = (1 : Int32) → zm_T zd_H d mX8_cut Q 19 [(1, .int a1)] [] w) (kf : a0 = (1 : Int32) → zm_T zd_H d mX8_cut Q 14 [(1, .int a1)] [] w) : zm_T zd_H d mX8_cut Q 9 [(0, .int a0), (1, .int a1)] [] w := by
  refine zm_iload_n (x := a0) 0 dX8_cut_9 rfl rfl ?_
  refine zm_iconst dX8_cut_10 (v := (1 : Int32)) (by decide) ?_
  refine zm_icmp_ne 19 dX8_cut_11 (by decide) (fun h => ?_) (fun h => ?_)
  · refine zm_sub [1] rfl ?_
    exact kt h
  · refine zm_sub [1] rfl ?_
    exact kf h
theorem gX8_cut_14 {d : Nat} {Q : Value → zm_S → Prop} {w : zm_S} {a1 : Int32} (k : Q (.int ((a1).toInt16.toInt32)) w) : zm_T zd_H d mX8_cut Q 14 [(1, .int a1)] [] w := by
  refine zm_iload_n (x := a1) 0 dX8_cut_14 rfl rfl ?_
  refine zm_i2s dX8_cut_15 ?_
  refine zm_goto 20 dX8_cut_16 (by decide) ?_
  exact zm_ireturn dX8_cut_20 rfl k
theorem gX8_cut_19 {d : Nat} {Q : Value → zm_S → Prop} {w : zm_S} {a1 : Int32} (k : Q (.int a1) w) : zm_T zd_H d mX8_cut Q 19 [(1, .int a1)] [] w := by
  refine zm_iload_n (x := a1) 0 dX8_cut_19 rfl rfl ?_
  exact zm_ireturn dX8_cut_20 rfl k
theorem gX8_lay_0 {d : Nat} {Q : Value → zm_S → Prop} {w : zm_S} {a1 : Int32} {a2 : Int32} {a3 : Int32} {a4 : Int32} {Q' : Value → zm_S → Prop} (hC : zm_C zd_H d mX8_isSheet [.int a1] w Q') (k : ∀ (r : Int32) (u : zm_S), Q' (.int r) u → zm_T zd_H (d + 1) mX8_lay Q 4 [(0, .ref 0), (1, .int a1), (2, .int a2), (3, .int a3), (4, .int a4)] [.int r] u) : zm_T zd_H (d + 1) mX8_lay Q 0 [(0, .ref 0), (1, .int a1), (2, .int a2), (3, .int a3), (4, .int a4)] [] w := by
  refine zm_iload_n (x := a1) 1 dX8_lay_0 rfl rfl ?_
  refine zm_callSz (as := [.int a1]) (rest := []) dX8_lay_1 rfl mtX8_isSheet lkX8_88 rfl (Nat.le_of_ble_eq_true rfl) hC rfl (fun r u hq => ?_)
  exact k r u hq
theorem gX8_lay_4 {d : Nat} {Q : Value → zm_S → Prop} {w : zm_S} {a1 : Int32} {a2 : Int32} {a3 : Int32} {a4 : Int32} {s0 : Int32} (kt : s0 = 0 → zm_T zd_H d mX8_lay Q 19 [] [] w) (kf : ¬ s0 = 0 → zm_T zd_H d mX8_lay Q 7 [(0, .ref 0), (1, .int a1), (2, .int a2), (3, .int a3), (4, .int a4)] [] w) : zm_T zd_H d mX8_lay Q 4 [(0, .ref 0), (1, .int a1), (2, .int a2), (3, .int a3), (4, .int a4)] [.int s0] w := by
  refine zm_if_eq 19 dX8_lay_4 (by decide) (fun h => ?_) (fun h => ?_)
  · refine zm_sub [] rfl ?_
    exact kt h
  · exact kf h
theorem gX8_lay_7 {d : Nat} {Q : Value → zm_S → Prop} {w : zm_S} {a1 : Int32} {a2 : Int32} {a3 : Int32} {a4 : Int32} {Q' : Value → zm_S → Prop} (hC : zm_C zd_H d mX8_in [.long ((a2).toInt64), .long (0 : Int64), .long (2 : Int64)] w Q') (k : ∀ (r : Int32) (u : zm_S), Q' (.int r) u → zm_T zd_H (d + 1) mX8_lay Q 16 [(0, .ref 0), (1, .int a1), (2, .int a2), (3, .int a3), (4, .int a4)] [.int r] u) : zm_T zd_H (d + 1) mX8_lay Q 7 [(0, .ref 0), (1, .int a1), (2, .int a2), (3, .int a3), (4, .int a4)] [] w := by
  refine zm_iload_n (x := a2) 2 dX8_lay_7 rfl rfl ?_
  refine zm_i2l dX8_lay_8 ?_
  refine zm_lconst dX8_lay_9 (v := (0 : Int64)) (by decide) ?_
  refine zm_ldc2_w dX8_lay_10 kcX8_92 ?_
  refine zm_callSz (as := [.long ((a2).toInt64), .long (0 : Int64), .long (2 : Int64)]) (rest := []) dX8_lay_13 rfl mtX8_in lkX8_78 rfl (Nat.le_of_ble_eq_true rfl) hC rfl (fun r u hq => ?_)
  exact k r u hq
theorem gX8_lay_16 {d : Nat} {Q : Value → zm_S → Prop} {w : zm_S} {a1 : Int32} {a2 : Int32} {a3 : Int32} {a4 : Int32} {s0 : Int32} (kt : ¬ s0 = 0 → zm_T zd_H d mX8_lay Q 22 [(0, .ref 0), (1, .int a1), (2, .int a2), (3, .int a3), (4, .int a4)] [] w) (kf : s0 = 0 → zm_T zd_H d mX8_lay Q 19 [] [] w) : zm_T zd_H d mX8_lay Q 16 [(0, .ref 0), (1, .int a1), (2, .int a2), (3, .int a3), (4, .int a4)] [.int s0] w := by
  refine zm_if_ne 22 dX8_lay_16 (by decide) (fun h => ?_) (fun h => ?_)
  · exact kt h
  · refine zm_sub [] rfl ?_
    exact kf h
theorem gX8_lay_19 {d : Nat} {Q : Value → zm_S → Prop} {w : zm_S} (k : Q (.int (-2 : Int32)) w) : zm_T zd_H d mX8_lay Q 19 [] [] w := by
  refine zm_bipush dX8_lay_19 (v := (-2 : Int32)) (by decide) ?_
  exact zm_ireturn dX8_lay_21 rfl k
theorem gX8_lay_22 {d : Nat} {Q : Value → zm_S → Prop} {w : zm_S} {a1 : Int32} {a2 : Int32} {a3 : Int32} {a4 : Int32} {Q' : Value → zm_S → Prop} (hC : zm_C zd_H d mX8_lacks [.ref 0, .int a1, .int a2, .int a3] w Q') (k : ∀ (r : Int32) (u : zm_S), Q' (.int r) u → zm_T zd_H (d + 1) mX8_lay Q 29 [(0, .ref 0), (1, .int a1), (2, .int a2), (3, .int a3), (4, .int a4)] [.int r] u) : zm_T zd_H (d + 1) mX8_lay Q 22 [(0, .ref 0), (1, .int a1), (2, .int a2), (3, .int a3), (4, .int a4)] [] w := by
  refine zm_aload_n (x := 0) 0 dX8_lay_22 rfl rfl ?_
  refine zm_iload_n (x := a1) 1 dX8_lay_23 rfl rfl ?_
  refine zm_iload_n (x := a2) 2 dX8_lay_24 rfl rfl ?_
  refine zm_iload_n (x := a3) 3 dX8_lay_25 rfl rfl ?_
  refine zm_callVi (as := [.int a1, .int a2, .int a3]) (rest := []) dX8_lay_26 rfl mtX8_lacks lkX8_98 zd_H0 (C := RX8) rfl rfl rfl (Nat.le_of_ble_eq_true rfl) hC rfl (fun r u hq => ?_)
  exact k r u hq
theorem gX8_lay_29 {d : Nat} {Q : Value → zm_S → Prop} {w : zm_S} {a1 : Int32} {a2 : Int32} {a3 : Int32} {a4 : Int32} {s0 : Int32} (kt : s0 = 0 → zm_T zd_H d mX8_lay Q 39 [(0, .ref 0), (1, .int a1), (2, .int a2), (3, .int a3), (4, .int a4)] [] w) (kf : ¬ s0 = 0 → zm_T zd_H d mX8_lay Q 36 [(5, .int s0)] [] w) : zm_T zd_H d mX8_lay Q 29 [(0, .ref 0), (1, .int a1), (2, .int a2), (3, .int a3), (4, .int a4)] [.int s0] w := by
  refine zm_istore dX8_lay_29 (Nat.le_of_ble_eq_true rfl) (ls' := [(5, .int s0), (0, .ref 0), (1, .int a1), (2, .int a2), (3, .int a3), (4, .int a4)]) rfl ?_
  refine zm_iload (x := s0) 0 dX8_lay_31 rfl ?_
  refine zm_if_eq 39 dX8_lay_33 (by decide) (fun h => ?_) (fun h => ?_)
  · refine zm_sub [1, 2, 3, 4, 5] rfl ?_
    exact kt h
  · refine zm_sub [0] rfl ?_
    exact kf h
theorem gX8_lay_36 {d : Nat} {Q : Value → zm_S → Prop} {w : zm_S} {a5 : Int32} (k : Q (.int a5) w) : zm_T zd_H d mX8_lay Q 36 [(5, .int a5)] [] w := by
  refine zm_iload (x := a5) 0 dX8_lay_36 rfl ?_
  exact zm_ireturn dX8_lay_38 rfl k
theorem gX8_lay_39 {d : Nat} {Q : Value → zm_S → Prop} {w : zm_S} {a1 : Int32} {a2 : Int32} {a3 : Int32} {a4 : Int32} {Q' : Value → zm_S → Prop} (hC : zm_C zd_H d mX8_cut [.int a2, .int a4] w Q') (k : ∀ (r : Int32) (u : zm_S), Q' (.int r) u → zm_T zd_H (d + 1) mX8_lay Q 55 [] [.int r, .int (((60 : Int32) * a1) + a3), .ref 3] u) : zm_T zd_H (d + 1) mX8_lay Q 39 [(0, .ref 0), (1, .int a1), (2, .int a2), (3, .int a3), (4, .int a4)] [] w := by
  refine zm_aload_n (x := 0) 0 dX8_lay_39 rfl rfl ?_
  refine zm_getf (v := .ref 3) (j := 2) dX8_lay_40 clX8 flX8_16 (Nat.le_of_ble_eq_true rfl) zd_H0 rfl rfl ?_
  refine zm_bipush dX8_lay_43 (v := (60 : Int32)) (by decide) ?_
  refine zm_iload_n (x := a1) 1 dX8_lay_45 rfl rfl ?_
  refine zm_imul dX8_lay_46 ?_
  refine zm_iload_n (x := a3) 3 dX8_lay_47 rfl rfl ?_
  refine zm_iadd dX8_lay_48 ?_
  refine zm_iload_n (x := a2) 2 dX8_lay_49 rfl rfl ?_
  refine zm_iload (x := a4) 4 dX8_lay_50 rfl ?_
  refine zm_callSi (as := [.int a2, .int a4]) (rest := [.int (((60 : Int32) * a1) + a3), .ref 3]) dX8_lay_52 rfl mtX8_cut lkX8_102 rfl (Nat.le_of_ble_eq_true rfl) hC rfl (fun r u hq => ?_)
  refine zm_sub [] rfl ?_
  exact k r u hq
theorem gX8_lay_55 {d : Nat} {Q : Value → zm_S → Prop} {w : zm_S} {s0 : Int32} {s1 : Int32} (hi55 : vp_in s1 240) (k : Q (.int (1 : Int32)) (zm_pi w 3 (s1).toNatClampNeg s0)) : zm_T zd_H d mX8_lay Q 55 [] [.int s0, .int s1, .ref 3] w := by
  refine zm_iast dX8_lay_55 zd_H3 hi55 ?_
  refine zm_iconst dX8_lay_56 (v := (1 : Int32)) (by decide) ?_
  exact zm_ireturn dX8_lay_57 rfl k
theorem gX8_get_0 {d : Nat} {Q : Value → zm_S → Prop} {w : zm_S} {a1 : Int32} {a2 : Int32} {a3 : Int32} {Q' : Value → zm_S → Prop} (hC : zm_C zd_H d mX8_isSheet [.int a1] w Q') (k : ∀ (r : Int32) (u : zm_S), Q' (.int r) u → zm_T zd_H (d + 1) mX8_get Q 4 [(0, .ref 0), (1, .int a1), (2, .int a2), (3, .int a3)] [.int r] u) : zm_T zd_H (d + 1) mX8_get Q 0 [(0, .ref 0), (1, .int a1), (2, .int a2), (3, .int a3)] [] w := by
  refine zm_iload_n (x := a1) 1 dX8_get_0 rfl rfl ?_
  refine zm_callSz (as := [.int a1]) (rest := []) dX8_get_1 rfl mtX8_isSheet lkX8_88 rfl (Nat.le_of_ble_eq_true rfl) hC rfl (fun r u hq => ?_)
  exact k r u hq
theorem gX8_get_4 {d : Nat} {Q : Value → zm_S → Prop} {w : zm_S} {a1 : Int32} {a2 : Int32} {a3 : Int32} {s0 : Int32} (kt : s0 = 0 → zm_T zd_H d mX8_get Q 29 [] [] w) (kf : ¬ s0 = 0 → zm_T zd_H d mX8_get Q 7 [(0, .ref 0), (1, .int a1), (2, .int a2), (3, .int a3)] [] w) : zm_T zd_H d mX8_get Q 4 [(0, .ref 0), (1, .int a1), (2, .int a2), (3, .int a3)] [.int s0] w := by
  refine zm_if_eq 29 dX8_get_4 (by decide) (fun h => ?_) (fun h => ?_)
  · refine zm_sub [] rfl ?_
    exact kt h
  · exact kf h
theorem gX8_get_7 {d : Nat} {Q : Value → zm_S → Prop} {w : zm_S} {a1 : Int32} {a2 : Int32} {a3 : Int32} {Q' : Value → zm_S → Prop} (hC : zm_C zd_H d mX8_in [.long ((a2).toInt64), .long (0 : Int64), .long (2 : Int64)] w Q') (k : ∀ (r : Int32) (u : zm_S), Q' (.int r) u → zm_T zd_H (d + 1) mX8_get Q 16 [(0, .ref 0), (1, .int a1), (2, .int a2), (3, .int a3)] [.int r] u) : zm_T zd_H (d + 1) mX8_get Q 7 [(0, .ref 0), (1, .int a1), (2, .int a2), (3, .int a3)] [] w := by
  refine zm_iload_n (x := a2) 2 dX8_get_7 rfl rfl ?_
  refine zm_i2l dX8_get_8 ?_
  refine zm_lconst dX8_get_9 (v := (0 : Int64)) (by decide) ?_
  refine zm_ldc2_w dX8_get_10 kcX8_92 ?_
  refine zm_callSz (as := [.long ((a2).toInt64), .long (0 : Int64), .long (2 : Int64)]) (rest := []) dX8_get_13 rfl mtX8_in lkX8_78 rfl (Nat.le_of_ble_eq_true rfl) hC rfl (fun r u hq => ?_)
  exact k r u hq
theorem gX8_get_16 {d : Nat} {Q : Value → zm_S → Prop} {w : zm_S} {a1 : Int32} {a2 : Int32} {a3 : Int32} {s0 : Int32} (kt : s0 = 0 → zm_T zd_H d mX8_get Q 29 [] [] w) (kf : ¬ s0 = 0 → zm_T zd_H d mX8_get Q 19 [(0, .ref 0), (1, .int a1), (2, .int a2), (3, .int a3)] [] w) : zm_T zd_H d mX8_get Q 16 [(0, .ref 0), (1, .int a1), (2, .int a2), (3, .int a3)] [.int s0] w := by
  refine zm_if_eq 29 dX8_get_16 (by decide) (fun h => ?_) (fun h => ?_)
  · refine zm_sub [] rfl ?_
    exact kt h
  · exact kf h
theorem gX8_get_19 {d : Nat} {Q : Value → zm_S → Prop} {w : zm_S} {a1 : Int32} {a2 : Int32} {a3 : Int32} {Q' : Value → zm_S → Prop} (hC : zm_C zd_H d mX8_lacks [.ref 0, .int a1, .int a2, .int a3] w Q') (k : ∀ (r : Int32) (u : zm_S), Q' (.int r) u → zm_T zd_H (d + 1) mX8_get Q 26 [(0, .ref 0), (1, .int a1), (3, .int a3)] [.int r] u) : zm_T zd_H (d + 1) mX8_get Q 19 [(0, .ref 0), (1, .int a1), (2, .int a2), (3, .int a3)] [] w := by
  refine zm_aload_n (x := 0) 0 dX8_get_19 rfl rfl ?_
  refine zm_iload_n (x := a1) 1 dX8_get_20 rfl rfl ?_
  refine zm_iload_n (x := a2) 2 dX8_get_21 rfl rfl ?_
  refine zm_iload_n (x := a3) 3 dX8_get_22 rfl rfl ?_
  refine zm_callVi (as := [.int a1, .int a2, .int a3]) (rest := []) dX8_get_23 rfl mtX8_lacks lkX8_98 zd_H0 (C := RX8) rfl rfl rfl (Nat.le_of_ble_eq_true rfl) hC rfl (fun r u hq => ?_)
  refine zm_sub [0, 1, 3] rfl ?_
  exact k r u hq
theorem gX8_get_26 {d : Nat} {Q : Value → zm_S → Prop} {w : zm_S} {a1 : Int32} {a3 : Int32} {s0 : Int32} (kt : s0 = 0 → zm_T zd_H d mX8_get Q 32 [(0, .ref 0), (1, .int a1), (3, .int a3)] [] w) (kf : ¬ s0 = 0 → zm_T zd_H d mX8_get Q 29 [] [] w) : zm_T zd_H d mX8_get Q 26 [(0, .ref 0), (1, .int a1), (3, .int a3)] [.int s0] w := by
  refine zm_if_eq 32 dX8_get_26 (by decide) (fun h => ?_) (fun h => ?_)
  · exact kt h
  · refine zm_sub [] rfl ?_
    exact kf h
theorem gX8_get_29 {d : Nat} {Q : Value → zm_S → Prop} {w : zm_S} (k : Q (.int (-2147483648 : Int32)) w) : zm_T zd_H d mX8_get Q 29 [] [] w := by
  refine zm_ldc dX8_get_29 kcX8_106 ?_
  exact zm_ireturn dX8_get_31 rfl k
theorem gX8_get_32 {d : Nat} {Q : Value → zm_S → Prop} {w : zm_S} {a1 : Int32} {a3 : Int32} (hi42 : vp_in (((60 : Int32) * a1) + a3) 240) (k : Q (.int (w.1 3 ((((60 : Int32) * a1) + a3)).toNatClampNeg)) w) : zm_T zd_H d mX8_get Q 32 [(0, .ref 0), (1, .int a1), (3, .int a3)] [] w := by
  refine zm_aload_n (x := 0) 0 dX8_get_32 rfl rfl ?_
  refine zm_getf (v := .ref 3) (j := 2) dX8_get_33 clX8 flX8_16 (Nat.le_of_ble_eq_true rfl) zd_H0 rfl rfl ?_
  refine zm_bipush dX8_get_36 (v := (60 : Int32)) (by decide) ?_
  refine zm_iload_n (x := a1) 1 dX8_get_38 rfl rfl ?_
  refine zm_imul dX8_get_39 ?_
  refine zm_iload_n (x := a3) 2 dX8_get_40 rfl rfl ?_
  refine zm_iadd dX8_get_41 ?_
  refine zm_iald dX8_get_42 zd_H3 hi42 ?_
  exact zm_ireturn dX8_get_43 rfl k
theorem gX8_copy_0 {d : Nat} {Q : Value → zm_S → Prop} {w : zm_S} {a1 : Int32} {a2 : Int32} {a3 : Int32} {a4 : Int32} {a5 : Int32} {Q' : Value → zm_S → Prop} (hC : zm_C zd_H d mX8_isSheet [.int a1] w Q') (k : ∀ (r : Int32) (u : zm_S), Q' (.int r) u → zm_T zd_H (d + 1) mX8_copy Q 4 [(0, .ref 0), (1, .int a1), (2, .int a2), (3, .int a3), (4, .int a4), (5, .int a5)] [.int r] u) : zm_T zd_H (d + 1) mX8_copy Q 0 [(0, .ref 0), (1, .int a1), (2, .int a2), (3, .int a3), (4, .int a4), (5, .int a5)] [] w := by
  refine zm_iload_n (x := a1) 1 dX8_copy_0 rfl rfl ?_
  refine zm_callSz (as := [.int a1]) (rest := []) dX8_copy_1 rfl mtX8_isSheet lkX8_88 rfl (Nat.le_of_ble_eq_true rfl) hC rfl (fun r u hq => ?_)
  exact k r u hq
theorem gX8_copy_4 {d : Nat} {Q : Value → zm_S → Prop} {w : zm_S} {a1 : Int32} {a2 : Int32} {a3 : Int32} {a4 : Int32} {a5 : Int32} {s0 : Int32} (kt : s0 = 0 → zm_T zd_H d mX8_copy Q 14 [] [] w) (kf : ¬ s0 = 0 → zm_T zd_H d mX8_copy Q 7 [(0, .ref 0), (1, .int a1), (2, .int a2), (3, .int a3), (4, .int a4), (5, .int a5)] [] w) : zm_T zd_H d mX8_copy Q 4 [(0, .ref 0), (1, .int a1), (2, .int a2), (3, .int a3), (4, .int a4), (5, .int a5)] [.int s0] w := by
  refine zm_if_eq 14 dX8_copy_4 (by decide) (fun h => ?_) (fun h => ?_)
  · refine zm_sub [] rfl ?_
    exact kt h
  · exact kf h
theorem gX8_copy_7 {d : Nat} {Q : Value → zm_S → Prop} {w : zm_S} {a1 : Int32} {a2 : Int32} {a3 : Int32} {a4 : Int32} {a5 : Int32} {Q' : Value → zm_S → Prop} (hC : zm_C zd_H d mX8_isSheet [.int a3] w Q') (k : ∀ (r : Int32) (u : zm_S), Q' (.int r) u → zm_T zd_H (d + 1) mX8_copy Q 11 [(0, .ref 0), (1, .int a1), (2, .int a2), (3, .int a3), (4, .int a4), (5, .int a5)] [.int r] u) : zm_T zd_H (d + 1) mX8_copy Q 7 [(0, .ref 0), (1, .int a1), (2, .int a2), (3, .int a3), (4, .int a4), (5, .int a5)] [] w := by
  refine zm_iload_n (x := a3) 3 dX8_copy_7 rfl rfl ?_
  refine zm_callSz (as := [.int a3]) (rest := []) dX8_copy_8 rfl mtX8_isSheet lkX8_88 rfl (Nat.le_of_ble_eq_true rfl) hC rfl (fun r u hq => ?_)
  exact k r u hq
theorem gX8_copy_11 {d : Nat} {Q : Value → zm_S → Prop} {w : zm_S} {a1 : Int32} {a2 : Int32} {a3 : Int32} {a4 : Int32} {a5 : Int32} {s0 : Int32} (kt : ¬ s0 = 0 → zm_T zd_H d mX8_copy Q 17 [(0, .ref 0), (1, .int a1), (2, .int a2), (3, .int a3), (4, .int a4), (5, .int a5)] [] w) (kf : s0 = 0 → zm_T zd_H d mX8_copy Q 14 [] [] w) : zm_T zd_H d mX8_copy Q 11 [(0, .ref 0), (1, .int a1), (2, .int a2), (3, .int a3), (4, .int a4), (5, .int a5)] [.int s0] w := by
  refine zm_if_ne 17 dX8_copy_11 (by decide) (fun h => ?_) (fun h => ?_)
  · exact kt h
  · refine zm_sub [] rfl ?_
    exact kf h
theorem gX8_copy_14 {d : Nat} {Q : Value → zm_S → Prop} {w : zm_S} (k : Q (.int (-2 : Int32)) w) : zm_T zd_H d mX8_copy Q 14 [] [] w := by
  refine zm_bipush dX8_copy_14 (v := (-2 : Int32)) (by decide) ?_
  exact zm_ireturn dX8_copy_16 rfl k
theorem gX8_copy_17 {d : Nat} {Q : Value → zm_S → Prop} {w : zm_S} {a1 : Int32} {a2 : Int32} {a3 : Int32} {a4 : Int32} {a5 : Int32} (hi22 : vp_in a1 4) (kt : (w.1 1 (a1).toNatClampNeg) < 0 → zm_T zd_H d mX8_copy Q 35 [(0, .ref 0)] [] w) (kf : ¬ (w.1 1 (a1).toNatClampNeg) < 0 → zm_T zd_H d mX8_copy Q 26 [(0, .ref 0), (1, .int a1), (2, .int a2), (3, .int a3), (4, .int a4), (5, .int a5)] [] w) : zm_T zd_H d mX8_copy Q 17 [(0, .ref 0), (1, .int a1), (2, .int a2), (3, .int a3), (4, .int a4), (5, .int a5)] [] w := by
  refine zm_aload_n (x := 0) 0 dX8_copy_17 rfl rfl ?_
  refine zm_getf (v := .ref 1) (j := 0) dX8_copy_18 clX8 flX8_7 (Nat.le_of_ble_eq_true rfl) zd_H0 rfl rfl ?_
  refine zm_iload_n (x := a1) 1 dX8_copy_21 rfl rfl ?_
  refine zm_iald dX8_copy_22 zd_H1 hi22 ?_
  refine zm_if_lt 35 dX8_copy_23 (by decide) (fun h => ?_) (fun h => ?_)
  · refine zm_sub [0] rfl ?_
    exact kt h
  · exact kf h
theorem gX8_copy_26 {d : Nat} {Q : Value → zm_S → Prop} {w : zm_S} {a1 : Int32} {a2 : Int32} {a3 : Int32} {a4 : Int32} {a5 : Int32} (hi31 : vp_in a3 4) (kt : 0 ≤ (w.1 1 (a3).toNatClampNeg) → zm_T zd_H d mX8_copy Q 41 [(0, .ref 0), (1, .int a1), (2, .int a2), (3, .int a3), (4, .int a4), (5, .int a5)] [] w) (kf : ¬ 0 ≤ (w.1 1 (a3).toNatClampNeg) → zm_T zd_H d mX8_copy Q 35 [(0, .ref 0)] [] w) : zm_T zd_H d mX8_copy Q 26 [(0, .ref 0), (1, .int a1), (2, .int a2), (3, .int a3), (4, .int a4), (5, .int a5)] [] w := by
  refine zm_aload_n (x := 0) 0 dX8_copy_26 rfl rfl ?_
  refine zm_getf (v := .ref 1) (j := 0) dX8_copy_27 clX8 flX8_7 (Nat.le_of_ble_eq_true rfl) zd_H0 rfl rfl ?_
  refine zm_iload_n (x := a3) 3 dX8_copy_30 rfl rfl ?_
  refine zm_iald dX8_copy_31 zd_H1 hi31 ?_
  refine zm_if_ge 41 dX8_copy_32 (by decide) (fun h => ?_) (fun h => ?_)
  · exact kt h
  · refine zm_sub [0] rfl ?_
    exact kf h
theorem gX8_copy_35 {d : Nat} {Q : Value → zm_S → Prop} {w : zm_S} {Q' : Value → zm_S → Prop} (hC : zm_C zd_H d mX8_met [.ref 0, .int (1 : Int32)] w Q') (k : ∀ (r : Int32) (u : zm_S), Q' (.int r) u → zm_T zd_H (d + 1) mX8_copy Q 40 [] [.int r] u) : zm_T zd_H (d + 1) mX8_copy Q 35 [(0, .ref 0)] [] w := by
  refine zm_aload_n (x := 0) 0 dX8_copy_35 rfl rfl ?_
  refine zm_iconst dX8_copy_36 (v := (1 : Int32)) (by decide) ?_
  refine zm_callVi (as := [.int (1 : Int32)]) (rest := []) dX8_copy_37 rfl mtX8_met lkX8_94 zd_H0 (C := RX8) rfl rfl rfl (Nat.le_of_ble_eq_true rfl) hC rfl (fun r u hq => ?_)
  refine zm_sub [] rfl ?_
  exact k r u hq
theorem gX8_copy_40 {d : Nat} {Q : Value → zm_S → Prop} {w : zm_S} {s0 : Int32} (k : Q (.int s0) w) : zm_T zd_H d mX8_copy Q 40 [] [.int s0] w := by
  exact zm_ireturn dX8_copy_40 rfl k
theorem gX8_copy_41 {d : Nat} {Q : Value → zm_S → Prop} {w : zm_S} {a1 : Int32} {a2 : Int32} {a3 : Int32} {a4 : Int32} {a5 : Int32} (hi46 : vp_in a1 4) (hi52 : vp_in a3 4) (kt : (w.1 1 (a1).toNatClampNeg) = (w.1 1 (a3).toNatClampNeg) → zm_T zd_H d mX8_copy Q 62 [(0, .ref 0), (1, .int a1), (2, .int a2), (3, .int a3), (4, .int a4), (5, .int a5)] [] w) (kf : ¬ (w.1 1 (a1).toNatClampNeg) = (w.1 1 (a3).toNatClampNeg) → zm_T zd_H d mX8_copy Q 56 [(0, .ref 0)] [] w) : zm_T zd_H d mX8_copy Q 41 [(0, .ref 0), (1, .int a1), (2, .int a2), (3, .int a3), (4, .int a4), (5, .int a5)] [] w := by
  refine zm_aload_n (x := 0) 0 dX8_copy_41 rfl rfl ?_
  refine zm_getf (v := .ref 1) (j := 0) dX8_copy_42 clX8 flX8_7 (Nat.le_of_ble_eq_true rfl) zd_H0 rfl rfl ?_
  refine zm_iload_n (x := a1) 1 dX8_copy_45 rfl rfl ?_
  refine zm_iald dX8_copy_46 zd_H1 hi46 ?_
  refine zm_aload_n (x := 0) 0 dX8_copy_47 rfl rfl ?_
  refine zm_getf (v := .ref 1) (j := 0) dX8_copy_48 clX8 flX8_7 (Nat.le_of_ble_eq_true rfl) zd_H0 rfl rfl ?_
  refine zm_iload_n (x := a3) 3 dX8_copy_51 rfl rfl ?_
  refine zm_iald dX8_copy_52 zd_H1 hi52 ?_
  refine zm_icmp_eq 62 dX8_copy_53 (by decide) (fun h => ?_) (fun h => ?_)
  · exact kt h
  · refine zm_sub [0] rfl ?_
    exact kf h
theorem gX8_copy_56 {d : Nat} {Q : Value → zm_S → Prop} {w : zm_S} {Q' : Value → zm_S → Prop} (hC : zm_C zd_H d mX8_met [.ref 0, .int (4 : Int32)] w Q') (k : ∀ (r : Int32) (u : zm_S), Q' (.int r) u → zm_T zd_H (d + 1) mX8_copy Q 61 [] [.int r] u) : zm_T zd_H (d + 1) mX8_copy Q 56 [(0, .ref 0)] [] w := by
  refine zm_aload_n (x := 0) 0 dX8_copy_56 rfl rfl ?_
  refine zm_iconst dX8_copy_57 (v := (4 : Int32)) (by decide) ?_
  refine zm_callVi (as := [.int (4 : Int32)]) (rest := []) dX8_copy_58 rfl mtX8_met lkX8_94 zd_H0 (C := RX8) rfl rfl rfl (Nat.le_of_ble_eq_true rfl) hC rfl (fun r u hq => ?_)
  refine zm_sub [] rfl ?_
  exact k r u hq
theorem gX8_copy_61 {d : Nat} {Q : Value → zm_S → Prop} {w : zm_S} {s0 : Int32} (k : Q (.int s0) w) : zm_T zd_H d mX8_copy Q 61 [] [.int s0] w := by
  exact zm_ireturn dX8_copy_61 rfl k
theorem gX8_copy_62 {d : Nat} {Q : Value → zm_S → Prop} {w : zm_S} {a1 : Int32} {a2 : Int32} {a3 : Int32} {a4 : Int32} {a5 : Int32} (kt : a2 < 0 → zm_T zd_H d mX8_copy Q 111 [(0, .ref 0)] [] w) (kf : ¬ a2 < 0 → zm_T zd_H d mX8_copy Q 66 [(0, .ref 0), (1, .int a1), (2, .int a2), (3, .int a3), (4, .int a4), (5, .int a5)] [] w) : zm_T zd_H d mX8_copy Q 62 [(0, .ref 0), (1, .int a1), (2, .int a2), (3, .int a3), (4, .int a4), (5, .int a5)] [] w := by
  refine zm_iload_n (x := a2) 2 dX8_copy_62 rfl rfl ?_
  refine zm_if_lt 111 dX8_copy_63 (by decide) (fun h => ?_) (fun h => ?_)
  · refine zm_sub [0] rfl ?_
    exact kt h
  · exact kf h
theorem gX8_copy_66 {d : Nat} {Q : Value → zm_S → Prop} {w : zm_S} {a1 : Int32} {a2 : Int32} {a3 : Int32} {a4 : Int32} {a5 : Int32} (kt : a4 < 0 → zm_T zd_H d mX8_copy Q 111 [(0, .ref 0)] [] w) (kf : ¬ a4 < 0 → zm_T zd_H d mX8_copy Q 71 [(0, .ref 0), (1, .int a1), (2, .int a2), (3, .int a3), (4, .int a4), (5, .int a5)] [] w) : zm_T zd_H d mX8_copy Q 66 [(0, .ref 0), (1, .int a1), (2, .int a2), (3, .int a3), (4, .int a4), (5, .int a5)] [] w := by
  refine zm_iload (x := a4) 4 dX8_copy_66 rfl ?_
  refine zm_if_lt 111 dX8_copy_68 (by decide) (fun h => ?_) (fun h => ?_)
  · refine zm_sub [0] rfl ?_
    exact kt h
  · exact kf h
theorem gX8_copy_71 {d : Nat} {Q : Value → zm_S → Prop} {w : zm_S} {a1 : Int32} {a2 : Int32} {a3 : Int32} {a4 : Int32} {a5 : Int32} (kt : a5 < 0 → zm_T zd_H d mX8_copy Q 111 [(0, .ref 0)] [] w) (kf : ¬ a5 < 0 → zm_T zd_H d mX8_copy Q 76 [(0, .ref 0), (1, .int a1), (2, .int a2), (3, .int a3), (4, .int a4), (5, .int a5)] [] w) : zm_T zd_H d mX8_copy Q 71 [(0, .ref 0), (1, .int a1), (2, .int a2), (3, .int a3), (4, .int a4), (5, .int a5)] [] w := by
  refine zm_iload (x := a5) 5 dX8_copy_71 rfl ?_
  refine zm_if_lt 111 dX8_copy_73 (by decide) (fun h => ?_) (fun h => ?_)
  · refine zm_sub [0] rfl ?_
    exact kt h
  · exact kf h
theorem gX8_copy_76 {d : Nat} {Q : Value → zm_S → Prop} {w : zm_S} {a1 : Int32} {a2 : Int32} {a3 : Int32} {a4 : Int32} {a5 : Int32} (hi87 : vp_in a1 4) (kt : 0 < (lg_cmp (((a2).toInt64) + ((a5).toInt64)) (((w.1 2 (a1).toNatClampNeg)).toInt64)) → zm_T zd_H d mX8_copy Q 111 [(0, .ref 0)] [] w) (kf : ¬ 0 < (lg_cmp (((a2).toInt64) + ((a5).toInt64)) (((w.1 2 (a1).toNatClampNeg)).toInt64)) → zm_T zd_H d mX8_copy Q 93 [(0, .ref 0), (1, .int a1), (2, .int a2), (3, .int a3), (4, .int a4), (5, .int a5)] [] w) : zm_T zd_H d mX8_copy Q 76 [(0, .ref 0), (1, .int a1), (2, .int a2), (3, .int a3), (4, .int a4), (5, .int a5)] [] w := by
  refine zm_iload_n (x := a2) 2 dX8_copy_76 rfl rfl ?_
  refine zm_i2l dX8_copy_77 ?_
  refine zm_iload (x := a5) 5 dX8_copy_78 rfl ?_
  refine zm_i2l dX8_copy_80 ?_
  refine zm_ladd dX8_copy_81 ?_
  refine zm_aload_n (x := 0) 0 dX8_copy_82 rfl rfl ?_
  refine zm_getf (v := .ref 2) (j := 1) dX8_copy_83 clX8 flX8_13 (Nat.le_of_ble_eq_true rfl) zd_H0 rfl rfl ?_
  refine zm_iload_n (x := a1) 1 dX8_copy_86 rfl rfl ?_
  refine zm_iald dX8_copy_87 zd_H2 hi87 ?_
  refine zm_i2l dX8_copy_88 ?_
  refine zm_lcmp dX8_copy_89 ?_
  refine zm_if_gt 111 dX8_copy_90 (by decide) (fun h => ?_) (fun h => ?_)
  · refine zm_sub [0] rfl ?_
    exact kt h
  · exact kf h
theorem gX8_copy_93 {d : Nat} {Q : Value → zm_S → Prop} {w : zm_S} {a1 : Int32} {a2 : Int32} {a3 : Int32} {a4 : Int32} {a5 : Int32} (hi105 : vp_in a3 4) (kt : (lg_cmp (((a4).toInt64) + ((a5).toInt64)) (((w.1 2 (a3).toNatClampNeg)).toInt64)) ≤ 0 → zm_T zd_H d mX8_copy Q 117 [(0, .ref 0), (1, .int a1), (2, .int a2), (3, .int a3), (4, .int a4), (5, .int a5)] [] w) (kf : ¬ (lg_cmp (((a4).toInt64) + ((a5).toInt64)) (((w.1 2 (a3).toNatClampNeg)).toInt64)) ≤ 0 → zm_T zd_H d mX8_copy Q 111 [(0, .ref 0)] [] w) : zm_T zd_H d mX8_copy Q 93 [(0, .ref 0), (1, .int a1), (2, .int a2), (3, .int a3), (4, .int a4), (5, .int a5)] [] w := by
  refine zm_iload (x := a4) 4 dX8_copy_93 rfl ?_
  refine zm_i2l dX8_copy_95 ?_
  refine zm_iload (x := a5) 5 dX8_copy_96 rfl ?_
  refine zm_i2l dX8_copy_98 ?_
  refine zm_ladd dX8_copy_99 ?_
  refine zm_aload_n (x := 0) 0 dX8_copy_100 rfl rfl ?_
  refine zm_getf (v := .ref 2) (j := 1) dX8_copy_101 clX8 flX8_13 (Nat.le_of_ble_eq_true rfl) zd_H0 rfl rfl ?_
  refine zm_iload_n (x := a3) 3 dX8_copy_104 rfl rfl ?_
  refine zm_iald dX8_copy_105 zd_H2 hi105 ?_
  refine zm_i2l dX8_copy_106 ?_
  refine zm_lcmp dX8_copy_107 ?_
  refine zm_if_le 117 dX8_copy_108 (by decide) (fun h => ?_) (fun h => ?_)
  · exact kt h
  · refine zm_sub [0] rfl ?_
    exact kf h
theorem gX8_copy_111 {d : Nat} {Q : Value → zm_S → Prop} {w : zm_S} {Q' : Value → zm_S → Prop} (hC : zm_C zd_H d mX8_met [.ref 0, .int (2 : Int32)] w Q') (k : ∀ (r : Int32) (u : zm_S), Q' (.int r) u → zm_T zd_H (d + 1) mX8_copy Q 116 [] [.int r] u) : zm_T zd_H (d + 1) mX8_copy Q 111 [(0, .ref 0)] [] w := by
  refine zm_aload_n (x := 0) 0 dX8_copy_111 rfl rfl ?_
  refine zm_iconst dX8_copy_112 (v := (2 : Int32)) (by decide) ?_
  refine zm_callVi (as := [.int (2 : Int32)]) (rest := []) dX8_copy_113 rfl mtX8_met lkX8_94 zd_H0 (C := RX8) rfl rfl rfl (Nat.le_of_ble_eq_true rfl) hC rfl (fun r u hq => ?_)
  refine zm_sub [] rfl ?_
  exact k r u hq
theorem gX8_copy_116 {d : Nat} {Q : Value → zm_S → Prop} {w : zm_S} {s0 : Int32} (k : Q (.int s0) w) : zm_T zd_H d mX8_copy Q 116 [] [.int s0] w := by
  exact zm_ireturn dX8_copy_116 rfl k
theorem gX8_copy_117 {d : Nat} {Q : Value → zm_S → Prop} {w : zm_S} {a1 : Int32} {a2 : Int32} {a3 : Int32} {a4 : Int32} {a5 : Int32} (k : zm_T zd_H d mX8_copy Q 120 [(0, .ref 0), (1, .int a1), (2, .int a2), (3, .int a3), (4, .int a4), (5, .int a5), (6, .int (0 : Int32))] [] w) : zm_T zd_H d mX8_copy Q 117 [(0, .ref 0), (1, .int a1), (2, .int a2), (3, .int a3), (4, .int a4), (5, .int a5)] [] w := by
  refine zm_iconst dX8_copy_117 (v := (0 : Int32)) (by decide) ?_
  refine zm_istore dX8_copy_118 (Nat.le_of_ble_eq_true rfl) (ls' := [(6, .int (0 : Int32)), (0, .ref 0), (1, .int a1), (2, .int a2), (3, .int a3), (4, .int a4), (5, .int a5)]) rfl ?_
  refine zm_sub [1, 2, 3, 4, 5, 6, 0] rfl ?_
  exact k
theorem gX8_copy_120 {d : Nat} {Q : Value → zm_S → Prop} {w : zm_S} {a1 : Int32} {a2 : Int32} {a3 : Int32} {a4 : Int32} {a5 : Int32} {a6 : Int32} (kt : a5 ≤ a6 → zm_T zd_H d mX8_copy Q 154 [(0, .ref 0), (3, .int a3), (4, .int a4), (5, .int a5)] [] w) (kf : ¬ a5 ≤ a6 → zm_T zd_H d mX8_copy Q 127 [(0, .ref 0), (1, .int a1), (2, .int a2), (3, .int a3), (4, .int a4), (5, .int a5), (6, .int a6)] [] w) : zm_T zd_H d mX8_copy Q 120 [(0, .ref 0), (1, .int a1), (2, .int a2), (3, .int a3), (4, .int a4), (5, .int a5), (6, .int a6)] [] w := by
  refine zm_iload (x := a6) 6 dX8_copy_120 rfl ?_
  refine zm_iload (x := a5) 5 dX8_copy_122 rfl ?_
  refine zm_icmp_ge 154 dX8_copy_124 (by decide) (fun h => ?_) (fun h => ?_)
  · refine zm_sub [0, 3, 4, 5] rfl ?_
    exact kt h
  · exact kf h
theorem gX8_copy_127 {d : Nat} {Q : Value → zm_S → Prop} {w : zm_S} {a1 : Int32} {a2 : Int32} {a3 : Int32} {a4 : Int32} {a5 : Int32} {a6 : Int32} (hi146 : vp_in ((((60 : Int32) * a1) + a2) + a6) 240) (hi147 : vp_in a6 60) (k : zm_T zd_H d mX8_copy Q 120 [(0, .ref 0), (1, .int a1), (2, .int a2), (3, .int a3), (4, .int a4), (5, .int a5), (6, .int (a6 + (1 : Int32)))] [] (zm_pi w 4 (a6).toNatClampNeg (w.1 3 (((((60 : Int32) * a1) + a2) + a6)).toNatClampNeg))) : zm_T zd_H d mX8_copy Q 127 [(0, .ref 0), (1, .int a1), (2, .int a2), (3, .int a3), (4, .int a4), (5, .int a5), (6, .int a6)] [] w := by
  refine zm_aload_n (x := 0) 0 dX8_copy_127 rfl rfl ?_
  refine zm_getf (v := .ref 4) (j := 3) dX8_copy_128 clX8 flX8_19 (Nat.le_of_ble_eq_true rfl) zd_H0 rfl rfl ?_
  refine zm_iload (x := a6) 6 dX8_copy_131 rfl ?_
  refine zm_aload_n (x := 0) 0 dX8_copy_133 rfl rfl ?_
  refine zm_getf (v := .ref 3) (j := 2) dX8_copy_134 clX8 flX8_16 (Nat.le_of_ble_eq_true rfl) zd_H0 rfl rfl ?_
  refine zm_bipush dX8_copy_137 (v := (60 : Int32)) (by decide) ?_
  refine zm_iload_n (x := a1) 1 dX8_copy_139 rfl rfl ?_
  refine zm_imul dX8_copy_140 ?_
  refine zm_iload_n (x := a2) 2 dX8_copy_141 rfl rfl ?_
  refine zm_iadd dX8_copy_142 ?_
  refine zm_iload (x := a6) 6 dX8_copy_143 rfl ?_
  refine zm_iadd dX8_copy_145 ?_
  refine zm_iald dX8_copy_146 zd_H3 hi146 ?_
  refine zm_iast dX8_copy_147 zd_H4 hi147 ?_
  refine zm_iinc 6 dX8_copy_148 (x := a6) (v := (a6 + (1 : Int32))) rfl rfl (Nat.le_of_ble_eq_true rfl) (ls' := [(6, .int (a6 + (1 : Int32))), (0, .ref 0), (1, .int a1), (2, .int a2), (3, .int a3), (4, .int a4), (5, .int a5)]) rfl ?_
  refine zm_goto 120 dX8_copy_151 (by decide) ?_
  refine zm_sub [1, 2, 3, 4, 5, 6, 0] rfl ?_
  exact k
theorem gX8_copy_154 {d : Nat} {Q : Value → zm_S → Prop} {w : zm_S} {a3 : Int32} {a4 : Int32} {a5 : Int32} (k : zm_T zd_H d mX8_copy Q 157 [(0, .ref 0), (3, .int a3), (4, .int a4), (5, .int a5), (6, .int (0 : Int32))] [] w) : zm_T zd_H d mX8_copy Q 154 [(0, .ref 0), (3, .int a3), (4, .int a4), (5, .int a5)] [] w := by
  refine zm_iconst dX8_copy_154 (v := (0 : Int32)) (by decide) ?_
  refine zm_istore dX8_copy_155 (Nat.le_of_ble_eq_true rfl) (ls' := [(6, .int (0 : Int32)), (0, .ref 0), (3, .int a3), (4, .int a4), (5, .int a5)]) rfl ?_
  refine zm_sub [1, 2, 3, 4, 0] rfl ?_
  exact k
theorem gX8_copy_157 {d : Nat} {Q : Value → zm_S → Prop} {w : zm_S} {a3 : Int32} {a4 : Int32} {a5 : Int32} {a6 : Int32} (kt : a5 ≤ a6 → zm_T zd_H d mX8_copy Q 192 [] [] w) (kf : ¬ a5 ≤ a6 → zm_T zd_H d mX8_copy Q 164 [(0, .ref 0), (3, .int a3), (4, .int a4), (5, .int a5), (6, .int a6)] [] w) : zm_T zd_H d mX8_copy Q 157 [(0, .ref 0), (3, .int a3), (4, .int a4), (5, .int a5), (6, .int a6)] [] w := by
  refine zm_iload (x := a6) 4 dX8_copy_157 rfl ?_
  refine zm_iload (x := a5) 3 dX8_copy_159 rfl ?_
  refine zm_icmp_ge 192 dX8_copy_161 (by decide) (fun h => ?_) (fun h => ?_)
  · refine zm_sub [] rfl ?_
    exact kt h
  · exact kf h
theorem gX8_copy_164 {d : Nat} {Q : Value → zm_S → Prop} {w : zm_S} {a3 : Int32} {a4 : Int32} {a5 : Int32} {a6 : Int32} (hi184 : vp_in a6 60) (hi185 : vp_in ((((60 : Int32) * a3) + a4) + a6) 240) (k : zm_T zd_H d mX8_copy Q 157 [(0, .ref 0), (3, .int a3), (4, .int a4), (5, .int a5), (6, .int (a6 + (1 : Int32)))] [] (zm_pi w 3 (((((60 : Int32) * a3) + a4) + a6)).toNatClampNeg (w.1 4 (a6).toNatClampNeg))) : zm_T zd_H d mX8_copy Q 164 [(0, .ref 0), (3, .int a3), (4, .int a4), (5, .int a5), (6, .int a6)] [] w := by
  refine zm_aload_n (x := 0) 0 dX8_copy_164 rfl rfl ?_
  refine zm_getf (v := .ref 3) (j := 2) dX8_copy_165 clX8 flX8_16 (Nat.le_of_ble_eq_true rfl) zd_H0 rfl rfl ?_
  refine zm_bipush dX8_copy_168 (v := (60 : Int32)) (by decide) ?_
  refine zm_iload_n (x := a3) 1 dX8_copy_170 rfl rfl ?_
  refine zm_imul dX8_copy_171 ?_
  refine zm_iload (x := a4) 2 dX8_copy_172 rfl ?_
  refine zm_iadd dX8_copy_174 ?_
  refine zm_iload (x := a6) 4 dX8_copy_175 rfl ?_
  refine zm_iadd dX8_copy_177 ?_
  refine zm_aload_n (x := 0) 0 dX8_copy_178 rfl rfl ?_
  refine zm_getf (v := .ref 4) (j := 3) dX8_copy_179 clX8 flX8_19 (Nat.le_of_ble_eq_true rfl) zd_H0 rfl rfl ?_
  refine zm_iload (x := a6) 4 dX8_copy_182 rfl ?_
  refine zm_iald dX8_copy_184 zd_H4 hi184 ?_
  refine zm_iast dX8_copy_185 zd_H3 hi185 ?_
  refine zm_iinc 4 dX8_copy_186 (x := a6) (v := (a6 + (1 : Int32))) rfl rfl (Nat.le_of_ble_eq_true rfl) (ls' := [(6, .int (a6 + (1 : Int32))), (0, .ref 0), (3, .int a3), (4, .int a4), (5, .int a5)]) rfl ?_
  refine zm_goto 157 dX8_copy_189 (by decide) ?_
  refine zm_sub [1, 2, 3, 4, 0] rfl ?_
  exact k
theorem gX8_copy_192 {d : Nat} {Q : Value → zm_S → Prop} {w : zm_S} (k : Q (.int (1 : Int32)) w) : zm_T zd_H d mX8_copy Q 192 [] [] w := by
  refine zm_iconst dX8_copy_192 (v := (1 : Int32)) (by decide) ?_
  exact zm_ireturn dX8_copy_193 rfl k
theorem gX8_isPupil_0 {d : Nat} {Q : Value → zm_S → Prop} {w : zm_S} {a0 : Int32} {Q' : Value → zm_S → Prop} (hC : zm_C zd_H d mX8_in [.long ((a0).toInt64), .long (0 : Int64), .long (11 : Int64)] w Q') (k : ∀ (r : Int32) (u : zm_S), Q' (.int r) u → zm_T zd_H (d + 1) mX8_isPupil Q 9 [] [.int r] u) : zm_T zd_H (d + 1) mX8_isPupil Q 0 [(0, .int a0)] [] w := by
  refine zm_iload_n (x := a0) 0 dX8_isPupil_0 rfl rfl ?_
  refine zm_i2l dX8_isPupil_1 ?_
  refine zm_lconst dX8_isPupil_2 (v := (0 : Int64)) (by decide) ?_
  refine zm_ldc2_w dX8_isPupil_3 kcX8_107 ?_
  refine zm_callSz (as := [.long ((a0).toInt64), .long (0 : Int64), .long (11 : Int64)]) (rest := []) dX8_isPupil_6 rfl mtX8_in lkX8_78 rfl (Nat.le_of_ble_eq_true rfl) hC rfl (fun r u hq => ?_)
  refine zm_sub [] rfl ?_
  exact k r u hq
theorem gX8_isPupil_9 {d : Nat} {Q : Value → zm_S → Prop} {w : zm_S} {s0 : Int32} (hz : s0 &&& 1 = s0) (k : Q (.int s0) w) : zm_T zd_H d mX8_isPupil Q 9 [] [.int s0] w := by
  exact zm_zreturn dX8_isPupil_9 rfl hz k
theorem gX8_isAny_0 {d : Nat} {Q : Value → zm_S → Prop} {w : zm_S} {a0 : Int32} {Q' : Value → zm_S → Prop} (hC : zm_C zd_H d mX8_in [.long ((a0).toInt64), .long (0 : Int64), .long (6 : Int64)] w Q') (k : ∀ (r : Int32) (u : zm_S), Q' (.int r) u → zm_T zd_H (d + 1) mX8_isAny Q 9 [] [.int r] u) : zm_T zd_H (d + 1) mX8_isAny Q 0 [(0, .int a0)] [] w := by
  refine zm_iload_n (x := a0) 0 dX8_isAny_0 rfl rfl ?_
  refine zm_i2l dX8_isAny_1 ?_
  refine zm_lconst dX8_isAny_2 (v := (0 : Int64)) (by decide) ?_
  refine zm_ldc2_w dX8_isAny_3 kcX8_109 ?_
  refine zm_callSz (as := [.long ((a0).toInt64), .long (0 : Int64), .long (6 : Int64)]) (rest := []) dX8_isAny_6 rfl mtX8_in lkX8_78 rfl (Nat.le_of_ble_eq_true rfl) hC rfl (fun r u hq => ?_)
  refine zm_sub [] rfl ?_
  exact k r u hq
theorem gX8_isAny_9 {d : Nat} {Q : Value → zm_S → Prop} {w : zm_S} {s0 : Int32} (hz : s0 &&& 1 = s0) (k : Q (.int s0) w) : zm_T zd_H d mX8_isAny Q 9 [] [.int s0] w := by
  exact zm_zreturn dX8_isAny_9 rfl hz k
theorem gX8_n_0 {d : Nat} {Q : Value → zm_S → Prop} {w : zm_S} (hi5 : vp_in (0 : Int32) 4) (k : Q (.int (w.1 5 ((0 : Int32)).toNatClampNeg)) w) : zm_T zd_H d mX8_n Q 0 [(0, .ref 0)] [] w := by
  refine zm_aload_n (x := 0) 0 dX8_n_0 rfl rfl ?_
  refine zm_getf (v := .ref 5) (j := 5) dX8_n_1 clX8 flX8_22 (Nat.le_of_ble_eq_true rfl) zd_H0 rfl rfl ?_
  refine zm_iconst dX8_n_4 (v := (0 : Int32)) (by decide) ?_
  refine zm_iald dX8_n_5 zd_H5 hi5 ?_
  exact zm_ireturn dX8_n_6 rfl k
theorem gX8_isQuestion_0 {d : Nat} {Q : Value → zm_S → Prop} {w : zm_S} {a1 : Int32} {Q' : Value → zm_S → Prop} (hC : zm_C zd_H d mX8_n [.ref 0] w Q') (k : ∀ (r : Int32) (u : zm_S), Q' (.int r) u → zm_T zd_H (d + 1) mX8_isQuestion Q 7 [] [.int r, .long (0 : Int64), .long ((a1).toInt64)] u) : zm_T zd_H (d + 1) mX8_isQuestion Q 0 [(0, .ref 0), (1, .int a1)] [] w := by
  refine zm_iload_n (x := a1) 1 dX8_isQuestion_0 rfl rfl ?_
  refine zm_i2l dX8_isQuestion_1 ?_
  refine zm_lconst dX8_isQuestion_2 (v := (0 : Int64)) (by decide) ?_
  refine zm_aload_n (x := 0) 0 dX8_isQuestion_3 rfl rfl ?_
  refine zm_callVi (as := []) (rest := [.long (0 : Int64), .long ((a1).toInt64)]) dX8_isQuestion_4 rfl mtX8_n lkX8_111 zd_H0 (C := RX8) rfl rfl rfl (Nat.le_of_ble_eq_true rfl) hC rfl (fun r u hq => ?_)
  refine zm_sub [] rfl ?_
  exact k r u hq
theorem gX8_isQuestion_7 {d : Nat} {Q : Value → zm_S → Prop} {w : zm_S} {s0 : Int32} {s1 : Int64} {s2 : Int64} {Q' : Value → zm_S → Prop} (hC : zm_C zd_H d mX8_in [.long s2, .long s1, .long (((s0 - (1 : Int32))).toInt64)] w Q') (k : ∀ (r : Int32) (u : zm_S), Q' (.int r) u → zm_T zd_H (d + 1) mX8_isQuestion Q 13 [] [.int r] u) : zm_T zd_H (d + 1) mX8_isQuestion Q 7 [] [.int s0, .long s1, .long s2] w := by
  refine zm_iconst dX8_isQuestion_7 (v := (1 : Int32)) (by decide) ?_
  refine zm_isub dX8_isQuestion_8 ?_
  refine zm_i2l dX8_isQuestion_9 ?_
  refine zm_callSz (as := [.long s2, .long s1, .long (((s0 - (1 : Int32))).toInt64)]) (rest := []) dX8_isQuestion_10 rfl mtX8_in lkX8_78 rfl (Nat.le_of_ble_eq_true rfl) hC rfl (fun r u hq => ?_)
  exact k r u hq
theorem gX8_isQuestion_13 {d : Nat} {Q : Value → zm_S → Prop} {w : zm_S} {s0 : Int32} (hz : s0 &&& 1 = s0) (k : Q (.int s0) w) : zm_T zd_H d mX8_isQuestion Q 13 [] [.int s0] w := by
  exact zm_zreturn dX8_isQuestion_13 rfl hz k
theorem gX8_whole_0 {d : Nat} {Q : Value → zm_S → Prop} {w : zm_S} {Q' : Value → zm_S → Prop} (hC : zm_C zd_H d mX8_n [.ref 0] w Q') (k : ∀ (r : Int32) (u : zm_S), Q' (.int r) u → zm_T zd_H (d + 1) mX8_whole Q 5 [] [.int r, .int (1 : Int32)] u) : zm_T zd_H (d + 1) mX8_whole Q 0 [(0, .ref 0)] [] w := by
  refine zm_iconst dX8_whole_0 (v := (1 : Int32)) (by decide) ?_
  refine zm_aload_n (x := 0) 0 dX8_whole_1 rfl rfl ?_
  refine zm_callVi (as := []) (rest := [.int (1 : Int32)]) dX8_whole_2 rfl mtX8_n lkX8_111 zd_H0 (C := RX8) rfl rfl rfl (Nat.le_of_ble_eq_true rfl) hC rfl (fun r u hq => ?_)
  refine zm_sub [] rfl ?_
  exact k r u hq
theorem gX8_whole_5 {d : Nat} {Q : Value → zm_S → Prop} {w : zm_S} {s0 : Int32} {s1 : Int32} (k : Q (.int ((s1 <<< (s0 &&& 31)) - (1 : Int32))) w) : zm_T zd_H d mX8_whole Q 5 [] [.int s0, .int s1] w := by
  refine zm_ishl dX8_whole_5 ?_
  refine zm_iconst dX8_whole_6 (v := (1 : Int32)) (by decide) ?_
  refine zm_isub dX8_whole_7 ?_
  exact zm_ireturn dX8_whole_8 rfl k
theorem gX8_high_0 {d : Nat} {Q : Value → zm_S → Prop} {w : zm_S} {a0 : Int32} (kt : ¬ a0 = 0 → zm_T zd_H d mX8_high Q 9 [(0, .int a0)] [] w) (kf : a0 = 0 → zm_T zd_H d mX8_high Q 4 [] [] w) : zm_T zd_H d mX8_high Q 0 [(0, .int a0)] [] w := by
  refine zm_iload_n (x := a0) 0 dX8_high_0 rfl rfl ?_
  refine zm_if_ne 9 dX8_high_1 (by decide) (fun h => ?_) (fun h => ?_)
  · exact kt h
  · refine zm_sub [] rfl ?_
    exact kf h
theorem gX8_high_4 {d : Nat} {Q : Value → zm_S → Prop} {w : zm_S} (k : Q (.int (7 : Int32)) w) : zm_T zd_H d mX8_high Q 4 [] [] w := by
  refine zm_bipush dX8_high_4 (v := (7 : Int32)) (by decide) ?_
  refine zm_goto 31 dX8_high_6 (by decide) ?_
  exact zm_ireturn dX8_high_31 rfl k
theorem gX8_high_9 {d : Nat} {Q : Value → zm_S → Prop} {w : zm_S} {a0 : Int32} (kt : ¬ a0 = (1 : Int32) → zm_T zd_H d mX8_high Q 20 [(0, .int a0)] [] w) (kf : a0 = (1 : Int32) → zm_T zd_H d mX8_high Q 14 [] [] w) : zm_T zd_H d mX8_high Q 9 [(0, .int a0)] [] w := by
  refine zm_iload_n (x := a0) 0 dX8_high_9 rfl rfl ?_
  refine zm_iconst dX8_high_10 (v := (1 : Int32)) (by decide) ?_
  refine zm_icmp_ne 20 dX8_high_11 (by decide) (fun h => ?_) (fun h => ?_)
  · exact kt h
  · refine zm_sub [] rfl ?_
    exact kf h
theorem gX8_high_14 {d : Nat} {Q : Value → zm_S → Prop} {w : zm_S} (k : Q (.int (999 : Int32)) w) : zm_T zd_H d mX8_high Q 14 [] [] w := by
  refine zm_sipush dX8_high_14 (v := (999 : Int32)) (by decide) ?_
  refine zm_goto 31 dX8_high_17 (by decide) ?_
  exact zm_ireturn dX8_high_31 rfl k
theorem gX8_high_20 {d : Nat} {Q : Value → zm_S → Prop} {w : zm_S} {a0 : Int32} (kt : ¬ a0 = (2 : Int32) → zm_T zd_H d mX8_high Q 30 [] [] w) (kf : a0 = (2 : Int32) → zm_T zd_H d mX8_high Q 25 [] [] w) : zm_T zd_H d mX8_high Q 20 [(0, .int a0)] [] w := by
  refine zm_iload_n (x := a0) 0 dX8_high_20 rfl rfl ?_
  refine zm_iconst dX8_high_21 (v := (2 : Int32)) (by decide) ?_
  refine zm_icmp_ne 30 dX8_high_22 (by decide) (fun h => ?_) (fun h => ?_)
  · refine zm_sub [] rfl ?_
    exact kt h
  · refine zm_sub [] rfl ?_
    exact kf h
theorem gX8_high_25 {d : Nat} {Q : Value → zm_S → Prop} {w : zm_S} (k : Q (.int (9 : Int32)) w) : zm_T zd_H d mX8_high Q 25 [] [] w := by
  refine zm_bipush dX8_high_25 (v := (9 : Int32)) (by decide) ?_
  refine zm_goto 31 dX8_high_27 (by decide) ?_
  exact zm_ireturn dX8_high_31 rfl k
theorem gX8_high_30 {d : Nat} {Q : Value → zm_S → Prop} {w : zm_S} (k : Q (.int (1 : Int32)) w) : zm_T zd_H d mX8_high Q 30 [] [] w := by
  refine zm_iconst dX8_high_30 (v := (1 : Int32)) (by decide) ?_
  exact zm_ireturn dX8_high_31 rfl k
theorem gX8_set_0 {d : Nat} {Q : Value → zm_S → Prop} {w : zm_S} {a1 : Int32} {a2 : Int32} {Q' : Value → zm_S → Prop} (hC : zm_C zd_H d mX8_in [.long ((a1).toInt64), .long (0 : Int64), .long (3 : Int64)] w Q') (k : ∀ (r : Int32) (u : zm_S), Q' (.int r) u → zm_T zd_H (d + 1) mX8_set Q 9 [(0, .ref 0), (1, .int a1), (2, .int a2)] [.int r] u) : zm_T zd_H (d + 1) mX8_set Q 0 [(0, .ref 0), (1, .int a1), (2, .int a2)] [] w := by
  refine zm_iload_n (x := a1) 1 dX8_set_0 rfl rfl ?_
  refine zm_i2l dX8_set_1 ?_
  refine zm_lconst dX8_set_2 (v := (0 : Int64)) (by decide) ?_
  refine zm_ldc2_w dX8_set_3 kcX8_86 ?_
  refine zm_callSz (as := [.long ((a1).toInt64), .long (0 : Int64), .long (3 : Int64)]) (rest := []) dX8_set_6 rfl mtX8_in lkX8_78 rfl (Nat.le_of_ble_eq_true rfl) hC rfl (fun r u hq => ?_)
  exact k r u hq
theorem gX8_set_9 {d : Nat} {Q : Value → zm_S → Prop} {w : zm_S} {a1 : Int32} {a2 : Int32} {s0 : Int32} (kt : s0 = 0 → zm_T zd_H d mX8_set Q 36 [] [] w) (kf : ¬ s0 = 0 → zm_T zd_H d mX8_set Q 12 [(0, .ref 0), (1, .int a1), (2, .int a2)] [] w) : zm_T zd_H d mX8_set Q 9 [(0, .ref 0), (1, .int a1), (2, .int a2)] [.int s0] w := by
  refine zm_if_eq 36 dX8_set_9 (by decide) (fun h => ?_) (fun h => ?_)
  · refine zm_sub [] rfl ?_
    exact kt h
  · exact kf h
theorem gX8_set_12 {d : Nat} {Q : Value → zm_S → Prop} {w : zm_S} {a1 : Int32} {a2 : Int32} (kt : ¬ a1 = 0 → zm_T zd_H d mX8_set Q 24 [(0, .ref 0), (1, .int a1), (2, .int a2)] [.long ((a2).toInt64)] w) (kf : a1 = 0 → zm_T zd_H d mX8_set Q 18 [(0, .ref 0), (1, .int a1), (2, .int a2)] [.long ((a2).toInt64)] w) : zm_T zd_H d mX8_set Q 12 [(0, .ref 0), (1, .int a1), (2, .int a2)] [] w := by
  refine zm_iload_n (x := a2) 2 dX8_set_12 rfl rfl ?_
  refine zm_i2l dX8_set_13 ?_
  refine zm_iload_n (x := a1) 1 dX8_set_14 rfl rfl ?_
  refine zm_if_ne 24 dX8_set_15 (by decide) (fun h => ?_) (fun h => ?_)
  · exact kt h
  · exact kf h
theorem gX8_set_18 {d : Nat} {Q : Value → zm_S → Prop} {w : zm_S} {a1 : Int32} {a2 : Int32} {s0 : Int64} (k : zm_T zd_H d mX8_set Q 25 [(0, .ref 0), (1, .int a1), (2, .int a2)] [.long (2 : Int64), .long s0] w) : zm_T zd_H d mX8_set Q 18 [(0, .ref 0), (1, .int a1), (2, .int a2)] [.long s0] w := by
  refine zm_ldc2_w dX8_set_18 kcX8_92 ?_
  refine zm_goto 25 dX8_set_21 (by decide) ?_
  exact k
theorem gX8_set_24 {d : Nat} {Q : Value → zm_S → Prop} {w : zm_S} {a1 : Int32} {a2 : Int32} {s0 : Int64} (k : zm_T zd_H d mX8_set Q 25 [(0, .ref 0), (1, .int a1), (2, .int a2)] [.long (0 : Int64), .long s0] w) : zm_T zd_H d mX8_set Q 24 [(0, .ref 0), (1, .int a1), (2, .int a2)] [.long s0] w := by
  refine zm_lconst dX8_set_24 (v := (0 : Int64)) (by decide) ?_
  exact k
theorem gX8_set_25 {d : Nat} {Q : Value → zm_S → Prop} {w : zm_S} {a1 : Int32} {a2 : Int32} {s0 : Int64} {s1 : Int64} {Q' : Value → zm_S → Prop} (hC : zm_C zd_H d mX8_high [.int a1] w Q') (k : ∀ (r : Int32) (u : zm_S), Q' (.int r) u → zm_T zd_H (d + 1) mX8_set Q 29 [(0, .ref 0), (1, .int a1), (2, .int a2)] [.int r, .long s0, .long s1] u) : zm_T zd_H (d + 1) mX8_set Q 25 [(0, .ref 0), (1, .int a1), (2, .int a2)] [.long s0, .long s1] w := by
  refine zm_iload_n (x := a1) 1 dX8_set_25 rfl rfl ?_
  refine zm_callSi (as := [.int a1]) (rest := [.long s0, .long s1]) dX8_set_26 rfl mtX8_high lkX8_115 rfl (Nat.le_of_ble_eq_true rfl) hC rfl (fun r u hq => ?_)
  exact k r u hq
theorem gX8_set_29 {d : Nat} {Q : Value → zm_S → Prop} {w : zm_S} {a1 : Int32} {a2 : Int32} {s0 : Int32} {s1 : Int64} {s2 : Int64} {Q' : Value → zm_S → Prop} (hC : zm_C zd_H d mX8_in [.long s2, .long s1, .long ((s0).toInt64)] w Q') (k : ∀ (r : Int32) (u : zm_S), Q' (.int r) u → zm_T zd_H (d + 1) mX8_set Q 33 [(0, .ref 0), (1, .int a1), (2, .int a2)] [.int r] u) : zm_T zd_H (d + 1) mX8_set Q 29 [(0, .ref 0), (1, .int a1), (2, .int a2)] [.int s0, .long s1, .long s2] w := by
  refine zm_i2l dX8_set_29 ?_
  refine zm_callSz (as := [.long s2, .long s1, .long ((s0).toInt64)]) (rest := []) dX8_set_30 rfl mtX8_in lkX8_78 rfl (Nat.le_of_ble_eq_true rfl) hC rfl (fun r u hq => ?_)
  exact k r u hq
theorem gX8_set_33 {d : Nat} {Q : Value → zm_S → Prop} {w : zm_S} {a1 : Int32} {a2 : Int32} {s0 : Int32} (kt : ¬ s0 = 0 → zm_T zd_H d mX8_set Q 39 [(0, .ref 0), (1, .int a1), (2, .int a2)] [] w) (kf : s0 = 0 → zm_T zd_H d mX8_set Q 36 [] [] w) : zm_T zd_H d mX8_set Q 33 [(0, .ref 0), (1, .int a1), (2, .int a2)] [.int s0] w := by
  refine zm_if_ne 39 dX8_set_33 (by decide) (fun h => ?_) (fun h => ?_)
  · exact kt h
  · refine zm_sub [] rfl ?_
    exact kf h
theorem gX8_set_36 {d : Nat} {Q : Value → zm_S → Prop} {w : zm_S} (k : Q (.int (-2 : Int32)) w) : zm_T zd_H d mX8_set Q 36 [] [] w := by
  refine zm_bipush dX8_set_36 (v := (-2 : Int32)) (by decide) ?_
  exact zm_ireturn dX8_set_38 rfl k
theorem gX8_set_39 {d : Nat} {Q : Value → zm_S → Prop} {w : zm_S} {a1 : Int32} {a2 : Int32} (hi44 : vp_in a1 4) (hi52 : vp_in a1 4) (k : Q (.int (w.1 5 (a1).toNatClampNeg)) (zm_pi w 5 (a1).toNatClampNeg a2)) : zm_T zd_H d mX8_set Q 39 [(0, .ref 0), (1, .int a1), (2, .int a2)] [] w := by
  refine zm_aload_n (x := 0) 0 dX8_set_39 rfl rfl ?_
  refine zm_getf (v := .ref 5) (j := 5) dX8_set_40 clX8 flX8_22 (Nat.le_of_ble_eq_true rfl) zd_H0 rfl rfl ?_
  refine zm_iload_n (x := a1) 1 dX8_set_43 rfl rfl ?_
  refine zm_iald dX8_set_44 zd_H5 hi44 ?_
  refine zm_istore_n dX8_set_45 rfl (Nat.le_of_ble_eq_true rfl) (ls' := [(3, .int (w.1 5 (a1).toNatClampNeg)), (0, .ref 0), (1, .int a1), (2, .int a2)]) rfl ?_
  refine zm_aload_n (x := 0) 1 dX8_set_46 rfl rfl ?_
  refine zm_getf (v := .ref 5) (j := 5) dX8_set_47 clX8 flX8_22 (Nat.le_of_ble_eq_true rfl) zd_H0 rfl rfl ?_
  refine zm_iload_n (x := a1) 2 dX8_set_50 rfl rfl ?_
  refine zm_iload_n (x := a2) 3 dX8_set_51 rfl rfl ?_
  refine zm_iast dX8_set_52 zd_H5 hi52 ?_
  refine zm_iload_n (x := (w.1 5 (a1).toNatClampNeg)) 0 dX8_set_53 rfl rfl ?_
  exact zm_ireturn dX8_set_54 rfl k
theorem gX8_isLate_0 {d : Nat} {Q : Value → zm_S → Prop} {w : zm_S} {a1 : Int32} (kt : ¬ (w.1 0 6) = 0 → zm_T zd_H d mX8_isLate Q 13 [(0, .ref 0)] [.long ((a1).toInt64)] w) (kf : (w.1 0 6) = 0 → zm_T zd_H d mX8_isLate Q 9 [] [.long ((a1).toInt64)] w) : zm_T zd_H d mX8_isLate Q 0 [(0, .ref 0), (1, .int a1)] [] w := by
  refine zm_iload_n (x := a1) 1 dX8_isLate_0 rfl rfl ?_
  refine zm_i2l dX8_isLate_1 ?_
  refine zm_aload_n (x := 0) 0 dX8_isLate_2 rfl rfl ?_
  refine zm_getf (v := .int (w.1 0 6)) (j := 6) dX8_isLate_3 clX8 flX8_118 (Nat.le_of_ble_eq_true rfl) zd_H0 rfl rfl ?_
  refine zm_if_ne 13 dX8_isLate_6 (by decide) (fun h => ?_) (fun h => ?_)
  · refine zm_sub [0] rfl ?_
    exact kt h
  · refine zm_sub [] rfl ?_
    exact kf h
theorem gX8_isLate_9 {d : Nat} {Q : Value → zm_S → Prop} {w : zm_S} {s0 : Int64} (k : zm_T zd_H d mX8_isLate Q 25 [] [.long (0 : Int64), .long s0] w) : zm_T zd_H d mX8_isLate Q 9 [] [.long s0] w := by
  refine zm_lconst dX8_isLate_9 (v := (0 : Int64)) (by decide) ?_
  refine zm_goto 25 dX8_isLate_10 (by decide) ?_
  exact k
theorem gX8_isLate_13 {d : Nat} {Q : Value → zm_S → Prop} {w : zm_S} {s0 : Int64} (hi23 : vp_in ((w.1 0 6) - (1 : Int32)) 160) (k : zm_T zd_H d mX8_isLate Q 25 [] [.long (((w.1 9 (((w.1 0 6) - (1 : Int32))).toNatClampNeg)).toInt64), .long s0] w) : zm_T zd_H d mX8_isLate Q 13 [(0, .ref 0)] [.long s0] w := by
  refine zm_aload_n (x := 0) 0 dX8_isLate_13 rfl rfl ?_
  refine zm_getf (v := .ref 9) (j := 10) dX8_isLate_14 clX8 flX8_34 (Nat.le_of_ble_eq_true rfl) zd_H0 rfl rfl ?_
  refine zm_aload_n (x := 0) 0 dX8_isLate_17 rfl rfl ?_
  refine zm_getf (v := .int (w.1 0 6)) (j := 6) dX8_isLate_18 clX8 flX8_118 (Nat.le_of_ble_eq_true rfl) zd_H0 rfl rfl ?_
  refine zm_iconst dX8_isLate_21 (v := (1 : Int32)) (by decide) ?_
  refine zm_isub dX8_isLate_22 ?_
  refine zm_iald dX8_isLate_23 zd_H9 hi23 ?_
  refine zm_i2l dX8_isLate_24 ?_
  refine zm_sub [] rfl ?_
  exact k
theorem gX8_isLate_25 {d : Nat} {Q : Value → zm_S → Prop} {w : zm_S} {s0 : Int64} {s1 : Int64} {Q' : Value → zm_S → Prop} (hC : zm_C zd_H d mX8_in [.long s1, .long s0, .long (999 : Int64)] w Q') (k : ∀ (r : Int32) (u : zm_S), Q' (.int r) u → zm_T zd_H (d + 1) mX8_isLate Q 31 [] [.int r] u) : zm_T zd_H (d + 1) mX8_isLate Q 25 [] [.long s0, .long s1] w := by
  refine zm_ldc2_w dX8_isLate_25 kcX8_121 ?_
  refine zm_callSz (as := [.long s1, .long s0, .long (999 : Int64)]) (rest := []) dX8_isLate_28 rfl mtX8_in lkX8_78 rfl (Nat.le_of_ble_eq_true rfl) hC rfl (fun r u hq => ?_)
  exact k r u hq
theorem gX8_isLate_31 {d : Nat} {Q : Value → zm_S → Prop} {w : zm_S} {s0 : Int32} (hz : s0 &&& 1 = s0) (k : Q (.int s0) w) : zm_T zd_H d mX8_isLate Q 31 [] [.int s0] w := by
  exact zm_zreturn dX8_isLate_31 rfl hz k
theorem gX8_answer_0 {d : Nat} {Q : Value → zm_S → Prop} {w : zm_S} {a1 : Int32} {a2 : Int32} {a3 : Int32} {a4 : Int32} {Q' : Value → zm_S → Prop} (hC : zm_C zd_H d mX8_isPupil [.int a1] w Q') (k : ∀ (r : Int32) (u : zm_S), Q' (.int r) u → zm_T zd_H (d + 1) mX8_answer Q 4 [(0, .ref 0), (1, .int a1), (2, .int a2), (3, .int a3), (4, .int a4)] [.int r] u) : zm_T zd_H (d + 1) mX8_answer Q 0 [(0, .ref 0), (1, .int a1), (2, .int a2), (3, .int a3), (4, .int a4)] [] w := by
  refine zm_iload_n (x := a1) 1 dX8_answer_0 rfl rfl ?_
  refine zm_callSz (as := [.int a1]) (rest := []) dX8_answer_1 rfl mtX8_isPupil lkX8_123 rfl (Nat.le_of_ble_eq_true rfl) hC rfl (fun r u hq => ?_)
  exact k r u hq
theorem gX8_answer_4 {d : Nat} {Q : Value → zm_S → Prop} {w : zm_S} {a1 : Int32} {a2 : Int32} {a3 : Int32} {a4 : Int32} {s0 : Int32} (kt : s0 = 0 → zm_T zd_H d mX8_answer Q 35 [] [] w) (kf : ¬ s0 = 0 → zm_T zd_H d mX8_answer Q 7 [(0, .ref 0), (1, .int a1), (2, .int a2), (3, .int a3), (4, .int a4)] [] w) : zm_T zd_H d mX8_answer Q 4 [(0, .ref 0), (1, .int a1), (2, .int a2), (3, .int a3), (4, .int a4)] [.int s0] w := by
  refine zm_if_eq 35 dX8_answer_4 (by decide) (fun h => ?_) (fun h => ?_)
  · refine zm_sub [] rfl ?_
    exact kt h
  · exact kf h
theorem gX8_answer_7 {d : Nat} {Q : Value → zm_S → Prop} {w : zm_S} {a1 : Int32} {a2 : Int32} {a3 : Int32} {a4 : Int32} {Q' : Value → zm_S → Prop} (hC : zm_C zd_H d mX8_isAny [.int a2] w Q') (k : ∀ (r : Int32) (u : zm_S), Q' (.int r) u → zm_T zd_H (d + 1) mX8_answer Q 11 [(0, .ref 0), (1, .int a1), (2, .int a2), (3, .int a3), (4, .int a4)] [.int r] u) : zm_T zd_H (d + 1) mX8_answer Q 7 [(0, .ref 0), (1, .int a1), (2, .int a2), (3, .int a3), (4, .int a4)] [] w := by
  refine zm_iload_n (x := a2) 2 dX8_answer_7 rfl rfl ?_
  refine zm_callSz (as := [.int a2]) (rest := []) dX8_answer_8 rfl mtX8_isAny lkX8_126 rfl (Nat.le_of_ble_eq_true rfl) hC rfl (fun r u hq => ?_)
  exact k r u hq
theorem gX8_answer_11 {d : Nat} {Q : Value → zm_S → Prop} {w : zm_S} {a1 : Int32} {a2 : Int32} {a3 : Int32} {a4 : Int32} {s0 : Int32} (kt : s0 = 0 → zm_T zd_H d mX8_answer Q 35 [] [] w) (kf : ¬ s0 = 0 → zm_T zd_H d mX8_answer Q 14 [(0, .ref 0), (1, .int a1), (2, .int a2), (3, .int a3), (4, .int a4)] [] w) : zm_T zd_H d mX8_answer Q 11 [(0, .ref 0), (1, .int a1), (2, .int a2), (3, .int a3), (4, .int a4)] [.int s0] w := by
  refine zm_if_eq 35 dX8_answer_11 (by decide) (fun h => ?_) (fun h => ?_)
  · refine zm_sub [] rfl ?_
    exact kt h
  · exact kf h
theorem gX8_answer_14 {d : Nat} {Q : Value → zm_S → Prop} {w : zm_S} {a1 : Int32} {a2 : Int32} {a3 : Int32} {a4 : Int32} {Q' : Value → zm_S → Prop} (hC : zm_C zd_H d mX8_in [.long ((a3).toInt64), .long (0 : Int64), .long (2 : Int64)] w Q') (k : ∀ (r : Int32) (u : zm_S), Q' (.int r) u → zm_T zd_H (d + 1) mX8_answer Q 23 [(0, .ref 0), (1, .int a1), (2, .int a2), (3, .int a3), (4, .int a4)] [.int r] u) : zm_T zd_H (d + 1) mX8_answer Q 14 [(0, .ref 0), (1, .int a1), (2, .int a2), (3, .int a3), (4, .int a4)] [] w := by
  refine zm_iload_n (x := a3) 3 dX8_answer_14 rfl rfl ?_
  refine zm_i2l dX8_answer_15 ?_
  refine zm_lconst dX8_answer_16 (v := (0 : Int64)) (by decide) ?_
  refine zm_ldc2_w dX8_answer_17 kcX8_92 ?_
  refine zm_callSz (as := [.long ((a3).toInt64), .long (0 : Int64), .long (2 : Int64)]) (rest := []) dX8_answer_20 rfl mtX8_in lkX8_78 rfl (Nat.le_of_ble_eq_true rfl) hC rfl (fun r u hq => ?_)
  exact k r u hq
theorem gX8_answer_23 {d : Nat} {Q : Value → zm_S → Prop} {w : zm_S} {a1 : Int32} {a2 : Int32} {a3 : Int32} {a4 : Int32} {s0 : Int32} (kt : s0 = 0 → zm_T zd_H d mX8_answer Q 35 [] [] w) (kf : ¬ s0 = 0 → zm_T zd_H d mX8_answer Q 26 [(0, .ref 0), (1, .int a1), (2, .int a2), (3, .int a3), (4, .int a4)] [] w) : zm_T zd_H d mX8_answer Q 23 [(0, .ref 0), (1, .int a1), (2, .int a2), (3, .int a3), (4, .int a4)] [.int s0] w := by
  refine zm_if_eq 35 dX8_answer_23 (by decide) (fun h => ?_) (fun h => ?_)
  · refine zm_sub [] rfl ?_
    exact kt h
  · exact kf h
theorem gX8_answer_26 {d : Nat} {Q : Value → zm_S → Prop} {w : zm_S} {a1 : Int32} {a2 : Int32} {a3 : Int32} {a4 : Int32} {Q' : Value → zm_S → Prop} (hC : zm_C zd_H d mX8_isLate [.ref 0, .int a4] w Q') (k : ∀ (r : Int32) (u : zm_S), Q' (.int r) u → zm_T zd_H (d + 1) mX8_answer Q 32 [(0, .ref 0), (1, .int a1), (2, .int a2), (3, .int a3), (4, .int a4)] [.int r] u) : zm_T zd_H (d + 1) mX8_answer Q 26 [(0, .ref 0), (1, .int a1), (2, .int a2), (3, .int a3), (4, .int a4)] [] w := by
  refine zm_aload_n (x := 0) 0 dX8_answer_26 rfl rfl ?_
  refine zm_iload (x := a4) 4 dX8_answer_27 rfl ?_
  refine zm_callVz (as := [.int a4]) (rest := []) dX8_answer_29 rfl mtX8_isLate lkX8_129 zd_H0 (C := RX8) rfl rfl rfl (Nat.le_of_ble_eq_true rfl) hC rfl (fun r u hq => ?_)
  exact k r u hq
theorem gX8_answer_32 {d : Nat} {Q : Value → zm_S → Prop} {w : zm_S} {a1 : Int32} {a2 : Int32} {a3 : Int32} {a4 : Int32} {s0 : Int32} (kt : ¬ s0 = 0 → zm_T zd_H d mX8_answer Q 38 [(0, .ref 0), (1, .int a1), (2, .int a2), (3, .int a3), (4, .int a4)] [] w) (kf : s0 = 0 → zm_T zd_H d mX8_answer Q 35 [] [] w) : zm_T zd_H d mX8_answer Q 32 [(0, .ref 0), (1, .int a1), (2, .int a2), (3, .int a3), (4, .int a4)] [.int s0] w := by
  refine zm_if_ne 38 dX8_answer_32 (by decide) (fun h => ?_) (fun h => ?_)
  · exact kt h
  · refine zm_sub [] rfl ?_
    exact kf h
theorem gX8_answer_35 {d : Nat} {Q : Value → zm_S → Prop} {w : zm_S} (k : Q (.int (-2 : Int32)) w) : zm_T zd_H d mX8_answer Q 35 [] [] w := by
  refine zm_bipush dX8_answer_35 (v := (-2 : Int32)) (by decide) ?_
  exact zm_ireturn dX8_answer_37 rfl k
theorem gX8_answer_38 {d : Nat} {Q : Value → zm_S → Prop} {w : zm_S} {a1 : Int32} {a2 : Int32} {a3 : Int32} {a4 : Int32} (kt : ¬ (w.1 0 6) = (160 : Int32) → zm_T zd_H d mX8_answer Q 51 [(0, .ref 0), (1, .int a1), (2, .int a2), (3, .int a3), (4, .int a4)] [] w) (kf : (w.1 0 6) = (160 : Int32) → zm_T zd_H d mX8_answer Q 48 [] [] w) : zm_T zd_H d mX8_answer Q 38 [(0, .ref 0), (1, .int a1), (2, .int a2), (3, .int a3), (4, .int a4)] [] w := by
  refine zm_aload_n (x := 0) 0 dX8_answer_38 rfl rfl ?_
  refine zm_getf (v := .int (w.1 0 6)) (j := 6) dX8_answer_39 clX8 flX8_118 (Nat.le_of_ble_eq_true rfl) zd_H0 rfl rfl ?_
  refine zm_sipush dX8_answer_42 (v := (160 : Int32)) (by decide) ?_
  refine zm_icmp_ne 51 dX8_answer_45 (by decide) (fun h => ?_) (fun h => ?_)
  · exact kt h
  · refine zm_sub [] rfl ?_
    exact kf h
theorem gX8_answer_48 {d : Nat} {Q : Value → zm_S → Prop} {w : zm_S} (k : Q (.int (-4 : Int32)) w) : zm_T zd_H d mX8_answer Q 48 [] [] w := by
  refine zm_bipush dX8_answer_48 (v := (-4 : Int32)) (by decide) ?_
  exact zm_ireturn dX8_answer_50 rfl k
theorem gX8_answer_51 {d : Nat} {Q : Value → zm_S → Prop} {w : zm_S} {a1 : Int32} {a2 : Int32} {a3 : Int32} {a4 : Int32} (hi60 : vp_in (w.1 0 6) 160) (hi70 : vp_in (w.1 0 6) 160) (hi80 : vp_in (w.1 0 6) 160) (hi91 : vp_in (w.1 0 6) 160) (k : Q (.int ((w.1 0 6) + (1 : Int32))) (zm_pi (zm_pi (zm_pi (zm_pi (zm_pi w 6 ((w.1 0 6)).toNatClampNeg a1) 7 ((w.1 0 6)).toNatClampNeg a2) 8 ((w.1 0 6)).toNatClampNeg a3) 9 ((w.1 0 6)).toNatClampNeg a4) 0 6 ((w.1 0 6) + (1 : Int32)))) : zm_T zd_H d mX8_answer Q 51 [(0, .ref 0), (1, .int a1), (2, .int a2), (3, .int a3), (4, .int a4)] [] w := by
  refine zm_aload_n (x := 0) 0 dX8_answer_51 rfl rfl ?_
  refine zm_getf (v := .ref 6) (j := 7) dX8_answer_52 clX8 flX8_25 (Nat.le_of_ble_eq_true rfl) zd_H0 rfl rfl ?_
  refine zm_aload_n (x := 0) 0 dX8_answer_55 rfl rfl ?_
  refine zm_getf (v := .int (w.1 0 6)) (j := 6) dX8_answer_56 clX8 flX8_118 (Nat.le_of_ble_eq_true rfl) zd_H0 rfl rfl ?_
  refine zm_iload_n (x := a1) 1 dX8_answer_59 rfl rfl ?_
  refine zm_iast dX8_answer_60 zd_H6 hi60 ?_
  refine zm_aload_n (x := 0) 0 dX8_answer_61 rfl rfl ?_
  refine zm_getf (v := .ref 7) (j := 8) dX8_answer_62 clX8 flX8_28 (Nat.le_of_ble_eq_true rfl) zd_H0 rfl rfl ?_
  refine zm_aload_n (x := 0) 0 dX8_answer_65 rfl rfl ?_
  refine zm_getf (v := .int (w.1 0 6)) (j := 6) dX8_answer_66 clX8 flX8_118 (Nat.le_of_ble_eq_true rfl) zd_H0 rfl rfl ?_
  refine zm_iload_n (x := a2) 2 dX8_answer_69 rfl rfl ?_
  refine zm_iast dX8_answer_70 zd_H7 hi70 ?_
  refine zm_aload_n (x := 0) 0 dX8_answer_71 rfl rfl ?_
  refine zm_getf (v := .ref 8) (j := 9) dX8_answer_72 clX8 flX8_31 (Nat.le_of_ble_eq_true rfl) zd_H0 rfl rfl ?_
  refine zm_aload_n (x := 0) 0 dX8_answer_75 rfl rfl ?_
  refine zm_getf (v := .int (w.1 0 6)) (j := 6) dX8_answer_76 clX8 flX8_118 (Nat.le_of_ble_eq_true rfl) zd_H0 rfl rfl ?_
  refine zm_iload_n (x := a3) 3 dX8_answer_79 rfl rfl ?_
  refine zm_iast dX8_answer_80 zd_H8 hi80 ?_
  refine zm_aload_n (x := 0) 0 dX8_answer_81 rfl rfl ?_
  refine zm_getf (v := .ref 9) (j := 10) dX8_answer_82 clX8 flX8_34 (Nat.le_of_ble_eq_true rfl) zd_H0 rfl rfl ?_
  refine zm_aload_n (x := 0) 0 dX8_answer_85 rfl rfl ?_
  refine zm_getf (v := .int (w.1 0 6)) (j := 6) dX8_answer_86 clX8 flX8_118 (Nat.le_of_ble_eq_true rfl) zd_H0 rfl rfl ?_
  refine zm_iload (x := a4) 4 dX8_answer_89 rfl ?_
  refine zm_iast dX8_answer_91 zd_H9 hi91 ?_
  refine zm_aload_n (x := 0) 0 dX8_answer_92 rfl rfl ?_
  refine zm_dup dX8_answer_93 rfl ?_
  refine zm_getf (v := .int (w.1 0 6)) (j := 6) dX8_answer_94 clX8 flX8_118 (Nat.le_of_ble_eq_true rfl) zd_H0 rfl rfl ?_
  refine zm_iconst dX8_answer_97 (v := (1 : Int32)) (by decide) ?_
  refine zm_iadd dX8_answer_98 ?_
  refine zm_putf (j := 6) (ty := .int) dX8_answer_99 clX8 flX8_118 (Nat.le_of_ble_eq_true rfl) zd_H0 rfl rfl (by decide +kernel) rfl rfl ?_
  refine zm_aload_n (x := 0) 0 dX8_answer_102 rfl rfl ?_
  refine zm_getf (v := .int ((w.1 0 6) + (1 : Int32))) (j := 6) dX8_answer_103 clX8 flX8_118 (Nat.le_of_ble_eq_true rfl) zd_H0 rfl rfl ?_
  exact zm_ireturn dX8_answer_106 rfl k
theorem gX8_read_0 {d : Nat} {Q : Value → zm_S → Prop} {w : zm_S} {a1 : Int32} {a2 : Int32} {a3 : Int32} {Q' : Value → zm_S → Prop} (hC : zm_C zd_H d mX8_isSheet [.int a1] w Q') (k : ∀ (r : Int32) (u : zm_S), Q' (.int r) u → zm_T zd_H (d + 1) mX8_read Q 4 [(0, .ref 0), (1, .int a1), (2, .int a2), (3, .int a3)] [.int r] u) : zm_T zd_H (d + 1) mX8_read Q 0 [(0, .ref 0), (1, .int a1), (2, .int a2), (3, .int a3)] [] w := by
  refine zm_iload_n (x := a1) 1 dX8_read_0 rfl rfl ?_
  refine zm_callSz (as := [.int a1]) (rest := []) dX8_read_1 rfl mtX8_isSheet lkX8_88 rfl (Nat.le_of_ble_eq_true rfl) hC rfl (fun r u hq => ?_)
  exact k r u hq
theorem gX8_read_4 {d : Nat} {Q : Value → zm_S → Prop} {w : zm_S} {a1 : Int32} {a2 : Int32} {a3 : Int32} {s0 : Int32} (kt : s0 = 0 → zm_T zd_H d mX8_read Q 22 [] [] w) (kf : ¬ s0 = 0 → zm_T zd_H d mX8_read Q 7 [(0, .ref 0), (1, .int a1), (2, .int a2), (3, .int a3)] [] w) : zm_T zd_H d mX8_read Q 4 [(0, .ref 0), (1, .int a1), (2, .int a2), (3, .int a3)] [.int s0] w := by
  refine zm_if_eq 22 dX8_read_4 (by decide) (fun h => ?_) (fun h => ?_)
  · refine zm_sub [] rfl ?_
    exact kt h
  · exact kf h
theorem gX8_read_7 {d : Nat} {Q : Value → zm_S → Prop} {w : zm_S} {a1 : Int32} {a2 : Int32} {a3 : Int32} {Q' : Value → zm_S → Prop} (hC : zm_C zd_H d mX8_isPupil [.int a2] w Q') (k : ∀ (r : Int32) (u : zm_S), Q' (.int r) u → zm_T zd_H (d + 1) mX8_read Q 11 [(0, .ref 0), (1, .int a1), (2, .int a2), (3, .int a3)] [.int r] u) : zm_T zd_H (d + 1) mX8_read Q 7 [(0, .ref 0), (1, .int a1), (2, .int a2), (3, .int a3)] [] w := by
  refine zm_iload_n (x := a2) 2 dX8_read_7 rfl rfl ?_
  refine zm_callSz (as := [.int a2]) (rest := []) dX8_read_8 rfl mtX8_isPupil lkX8_123 rfl (Nat.le_of_ble_eq_true rfl) hC rfl (fun r u hq => ?_)
  exact k r u hq
theorem gX8_read_11 {d : Nat} {Q : Value → zm_S → Prop} {w : zm_S} {a1 : Int32} {a2 : Int32} {a3 : Int32} {s0 : Int32} (kt : s0 = 0 → zm_T zd_H d mX8_read Q 22 [] [] w) (kf : ¬ s0 = 0 → zm_T zd_H d mX8_read Q 14 [(0, .ref 0), (1, .int a1), (2, .int a2), (3, .int a3)] [] w) : zm_T zd_H d mX8_read Q 11 [(0, .ref 0), (1, .int a1), (2, .int a2), (3, .int a3)] [.int s0] w := by
  refine zm_if_eq 22 dX8_read_11 (by decide) (fun h => ?_) (fun h => ?_)
  · refine zm_sub [] rfl ?_
    exact kt h
  · exact kf h
theorem gX8_read_14 {d : Nat} {Q : Value → zm_S → Prop} {w : zm_S} {a1 : Int32} {a2 : Int32} {a3 : Int32} {Q' : Value → zm_S → Prop} (hC : zm_C zd_H d mX8_isLate [.ref 0, .int a3] w Q') (k : ∀ (r : Int32) (u : zm_S), Q' (.int r) u → zm_T zd_H (d + 1) mX8_read Q 19 [(0, .ref 0), (1, .int a1), (2, .int a2), (3, .int a3)] [.int r] u) : zm_T zd_H (d + 1) mX8_read Q 14 [(0, .ref 0), (1, .int a1), (2, .int a2), (3, .int a3)] [] w := by
  refine zm_aload_n (x := 0) 0 dX8_read_14 rfl rfl ?_
  refine zm_iload_n (x := a3) 3 dX8_read_15 rfl rfl ?_
  refine zm_callVz (as := [.int a3]) (rest := []) dX8_read_16 rfl mtX8_isLate lkX8_129 zd_H0 (C := RX8) rfl rfl rfl (Nat.le_of_ble_eq_true rfl) hC rfl (fun r u hq => ?_)
  exact k r u hq
theorem gX8_read_19 {d : Nat} {Q : Value → zm_S → Prop} {w : zm_S} {a1 : Int32} {a2 : Int32} {a3 : Int32} {s0 : Int32} (kt : ¬ s0 = 0 → zm_T zd_H d mX8_read Q 25 [(0, .ref 0), (1, .int a1), (2, .int a2), (3, .int a3)] [] w) (kf : s0 = 0 → zm_T zd_H d mX8_read Q 22 [] [] w) : zm_T zd_H d mX8_read Q 19 [(0, .ref 0), (1, .int a1), (2, .int a2), (3, .int a3)] [.int s0] w := by
  refine zm_if_ne 25 dX8_read_19 (by decide) (fun h => ?_) (fun h => ?_)
  · exact kt h
  · refine zm_sub [] rfl ?_
    exact kf h
theorem gX8_read_22 {d : Nat} {Q : Value → zm_S → Prop} {w : zm_S} (k : Q (.int (-2 : Int32)) w) : zm_T zd_H d mX8_read Q 22 [] [] w := by
  refine zm_bipush dX8_read_22 (v := (-2 : Int32)) (by decide) ?_
  exact zm_ireturn dX8_read_24 rfl k
theorem gX8_read_25 {d : Nat} {Q : Value → zm_S → Prop} {w : zm_S} {a1 : Int32} {a2 : Int32} {a3 : Int32} (hi30 : vp_in a1 4) (kt : 0 ≤ (w.1 1 (a1).toNatClampNeg) → zm_T zd_H d mX8_read Q 40 [(0, .ref 0), (1, .int a1), (2, .int a2), (3, .int a3)] [] w) (kf : ¬ 0 ≤ (w.1 1 (a1).toNatClampNeg) → zm_T zd_H d mX8_read Q 34 [(0, .ref 0)] [] w) : zm_T zd_H d mX8_read Q 25 [(0, .ref 0), (1, .int a1), (2, .int a2), (3, .int a3)] [] w := by
  refine zm_aload_n (x := 0) 0 dX8_read_25 rfl rfl ?_
  refine zm_getf (v := .ref 1) (j := 0) dX8_read_26 clX8 flX8_7 (Nat.le_of_ble_eq_true rfl) zd_H0 rfl rfl ?_
  refine zm_iload_n (x := a1) 1 dX8_read_29 rfl rfl ?_
  refine zm_iald dX8_read_30 zd_H1 hi30 ?_
  refine zm_if_ge 40 dX8_read_31 (by decide) (fun h => ?_) (fun h => ?_)
  · exact kt h
  · refine zm_sub [0] rfl ?_
    exact kf h
theorem gX8_read_34 {d : Nat} {Q : Value → zm_S → Prop} {w : zm_S} {Q' : Value → zm_S → Prop} (hC : zm_C zd_H d mX8_met [.ref 0, .int (1 : Int32)] w Q') (k : ∀ (r : Int32) (u : zm_S), Q' (.int r) u → zm_T zd_H (d + 1) mX8_read Q 39 [] [.int r] u) : zm_T zd_H (d + 1) mX8_read Q 34 [(0, .ref 0)] [] w := by
  refine zm_aload_n (x := 0) 0 dX8_read_34 rfl rfl ?_
  refine zm_iconst dX8_read_35 (v := (1 : Int32)) (by decide) ?_
  refine zm_callVi (as := [.int (1 : Int32)]) (rest := []) dX8_read_36 rfl mtX8_met lkX8_94 zd_H0 (C := RX8) rfl rfl rfl (Nat.le_of_ble_eq_true rfl) hC rfl (fun r u hq => ?_)
  refine zm_sub [] rfl ?_
  exact k r u hq
theorem gX8_read_39 {d : Nat} {Q : Value → zm_S → Prop} {w : zm_S} {s0 : Int32} (k : Q (.int s0) w) : zm_T zd_H d mX8_read Q 39 [] [.int s0] w := by
  exact zm_ireturn dX8_read_39 rfl k
theorem gX8_read_40 {d : Nat} {Q : Value → zm_S → Prop} {w : zm_S} {a1 : Int32} {a2 : Int32} {a3 : Int32} (k : zm_T zd_H d mX8_read Q 43 [(0, .ref 0), (1, .int a1), (2, .int a2), (3, .int a3), (4, .int (0 : Int32))] [] w) : zm_T zd_H d mX8_read Q 40 [(0, .ref 0), (1, .int a1), (2, .int a2), (3, .int a3)] [] w := by
  refine zm_iconst dX8_read_40 (v := (0 : Int32)) (by decide) ?_
  refine zm_istore dX8_read_41 (Nat.le_of_ble_eq_true rfl) (ls' := [(4, .int (0 : Int32)), (0, .ref 0), (1, .int a1), (2, .int a2), (3, .int a3)]) rfl ?_
  refine zm_sub [1, 2, 3, 4, 0] rfl ?_
  exact k
theorem gX8_read_43 {d : Nat} {Q : Value → zm_S → Prop} {w : zm_S} {a1 : Int32} {a2 : Int32} {a3 : Int32} {a4 : Int32} (hi50 : vp_in a1 4) (kt : (w.1 2 (a1).toNatClampNeg) ≤ a4 → zm_T zd_H d mX8_read Q 83 [(4, .int a4)] [] w) (kf : ¬ (w.1 2 (a1).toNatClampNeg) ≤ a4 → zm_T zd_H d mX8_read Q 54 [(0, .ref 0), (1, .int a1), (2, .int a2), (3, .int a3), (4, .int a4)] [] w) : zm_T zd_H d mX8_read Q 43 [(0, .ref 0), (1, .int a1), (2, .int a2), (3, .int a3), (4, .int a4)] [] w := by
  refine zm_iload (x := a4) 4 dX8_read_43 rfl ?_
  refine zm_aload_n (x := 0) 0 dX8_read_45 rfl rfl ?_
  refine zm_getf (v := .ref 2) (j := 1) dX8_read_46 clX8 flX8_13 (Nat.le_of_ble_eq_true rfl) zd_H0 rfl rfl ?_
  refine zm_iload_n (x := a1) 1 dX8_read_49 rfl rfl ?_
  refine zm_iald dX8_read_50 zd_H2 hi50 ?_
  refine zm_icmp_ge 83 dX8_read_51 (by decide) (fun h => ?_) (fun h => ?_)
  · refine zm_sub [4] rfl ?_
    exact kt h
  · exact kf h
theorem gX8_read_54 {d : Nat} {Q : Value → zm_S → Prop} {w : zm_S} {a1 : Int32} {a2 : Int32} {a3 : Int32} {a4 : Int32} {Q' : Value → zm_S → Prop} (hi69 : vp_in (((60 : Int32) * a1) + a4) 240) (hC : zm_C zd_H d mX8_answer [.ref 0, .int a2, .int a4, .int (w.1 3 ((((60 : Int32) * a1) + a4)).toNatClampNeg), .int a3] w Q') (k : ∀ (r : Int32) (u : zm_S), Q' (.int r) u → zm_T zd_H (d + 1) mX8_read Q 74 [(0, .ref 0), (1, .int a1), (2, .int a2), (3, .int a3), (4, .int a4)] [.int r] u) : zm_T zd_H (d + 1) mX8_read Q 54 [(0, .ref 0), (1, .int a1), (2, .int a2), (3, .int a3), (4, .int a4)] [] w := by
  refine zm_aload_n (x := 0) 0 dX8_read_54 rfl rfl ?_
  refine zm_iload_n (x := a2) 2 dX8_read_55 rfl rfl ?_
  refine zm_iload (x := a4) 4 dX8_read_56 rfl ?_
  refine zm_aload_n (x := 0) 0 dX8_read_58 rfl rfl ?_
  refine zm_getf (v := .ref 3) (j := 2) dX8_read_59 clX8 flX8_16 (Nat.le_of_ble_eq_true rfl) zd_H0 rfl rfl ?_
  refine zm_bipush dX8_read_62 (v := (60 : Int32)) (by decide) ?_
  refine zm_iload_n (x := a1) 1 dX8_read_64 rfl rfl ?_
  refine zm_imul dX8_read_65 ?_
  refine zm_iload (x := a4) 4 dX8_read_66 rfl ?_
  refine zm_iadd dX8_read_68 ?_
  refine zm_iald dX8_read_69 zd_H3 hi69 ?_
  refine zm_iload_n (x := a3) 3 dX8_read_70 rfl rfl ?_
  refine zm_callVi (as := [.int a2, .int a4, .int (w.1 3 ((((60 : Int32) * a1) + a4)).toNatClampNeg), .int a3]) (rest := []) dX8_read_71 rfl mtX8_answer lkX8_132 zd_H0 (C := RX8) rfl rfl rfl (Nat.le_of_ble_eq_true rfl) hC rfl (fun r u hq => ?_)
  exact k r u hq
theorem gX8_read_74 {d : Nat} {Q : Value → zm_S → Prop} {w : zm_S} {a1 : Int32} {a2 : Int32} {a3 : Int32} {a4 : Int32} {s0 : Int32} (kt : s0 < 0 → zm_T zd_H d mX8_read Q 83 [(4, .int a4)] [] w) (kf : ¬ s0 < 0 → zm_T zd_H d mX8_read Q 77 [(0, .ref 0), (1, .int a1), (2, .int a2), (3, .int a3), (4, .int a4)] [] w) : zm_T zd_H d mX8_read Q 74 [(0, .ref 0), (1, .int a1), (2, .int a2), (3, .int a3), (4, .int a4)] [.int s0] w := by
  refine zm_if_lt 83 dX8_read_74 (by decide) (fun h => ?_) (fun h => ?_)
  · refine zm_sub [4] rfl ?_
    exact kt h
  · exact kf h
theorem gX8_read_77 {d : Nat} {Q : Value → zm_S → Prop} {w : zm_S} {a1 : Int32} {a2 : Int32} {a3 : Int32} {a4 : Int32} (k : zm_T zd_H d mX8_read Q 43 [(0, .ref 0), (1, .int a1), (2, .int a2), (3, .int a3), (4, .int (a4 + (1 : Int32)))] [] w) : zm_T zd_H d mX8_read Q 77 [(0, .ref 0), (1, .int a1), (2, .int a2), (3, .int a3), (4, .int a4)] [] w := by
  refine zm_iinc 4 dX8_read_77 (x := a4) (v := (a4 + (1 : Int32))) rfl rfl (Nat.le_of_ble_eq_true rfl) (ls' := [(4, .int (a4 + (1 : Int32))), (0, .ref 0), (1, .int a1), (2, .int a2), (3, .int a3)]) rfl ?_
  refine zm_goto 43 dX8_read_80 (by decide) ?_
  refine zm_sub [1, 2, 3, 4, 0] rfl ?_
  exact k
theorem gX8_read_83 {d : Nat} {Q : Value → zm_S → Prop} {w : zm_S} {a4 : Int32} (k : Q (.int a4) w) : zm_T zd_H d mX8_read Q 83 [(4, .int a4)] [] w := by
  refine zm_iload (x := a4) 0 dX8_read_83 rfl ?_
  exact zm_ireturn dX8_read_85 rfl k
theorem gX8_findSays_0 {d : Nat} {Q : Value → zm_S → Prop} {w : zm_S} (k : zm_T zd_H d mX8_findSays Q 2 [(0, .ref 0), (1, .int (0 : Int32))] [] w) : zm_T zd_H d mX8_findSays Q 0 [(0, .ref 0)] [] w := by
  refine zm_iconst dX8_findSays_0 (v := (0 : Int32)) (by decide) ?_
  refine zm_istore_n dX8_findSays_1 rfl (Nat.le_of_ble_eq_true rfl) (ls' := [(1, .int (0 : Int32)), (0, .ref 0)]) rfl ?_
  refine zm_sub [1, 0] rfl ?_
  exact k
theorem gX8_findSays_2 {d : Nat} {Q : Value → zm_S → Prop} {w : zm_S} {a1 : Int32} (kt : (84 : Int32) ≤ a1 → zm_T zd_H d mX8_findSays Q 21 [(0, .ref 0)] [] w) (kf : ¬ (84 : Int32) ≤ a1 → zm_T zd_H d mX8_findSays Q 8 [(0, .ref 0), (1, .int a1)] [] w) : zm_T zd_H d mX8_findSays Q 2 [(0, .ref 0), (1, .int a1)] [] w := by
  refine zm_iload_n (x := a1) 1 dX8_findSays_2 rfl rfl ?_
  refine zm_bipush dX8_findSays_3 (v := (84 : Int32)) (by decide) ?_
  refine zm_icmp_ge 21 dX8_findSays_5 (by decide) (fun h => ?_) (fun h => ?_)
  · refine zm_sub [0] rfl ?_
    exact kt h
  · exact kf h
theorem gX8_findSays_8 {d : Nat} {Q : Value → zm_S → Prop} {w : zm_S} {a1 : Int32} (hi14 : vp_in a1 84) (k : zm_T zd_H d mX8_findSays Q 2 [(0, .ref 0), (1, .int (a1 + (1 : Int32)))] [] (zm_pi w 10 (a1).toNatClampNeg (2 : Int32))) : zm_T zd_H d mX8_findSays Q 8 [(0, .ref 0), (1, .int a1)] [] w := by
  refine zm_aload_n (x := 0) 0 dX8_findSays_8 rfl rfl ?_
  refine zm_getf (v := .ref 10) (j := 11) dX8_findSays_9 clX8 flX8_37 (Nat.le_of_ble_eq_true rfl) zd_H0 rfl rfl ?_
  refine zm_iload_n (x := a1) 1 dX8_findSays_12 rfl rfl ?_
  refine zm_iconst dX8_findSays_13 (v := (2 : Int32)) (by decide) ?_
  refine zm_iast dX8_findSays_14 zd_H10 hi14 ?_
  refine zm_iinc 1 dX8_findSays_15 (x := a1) (v := (a1 + (1 : Int32))) rfl rfl (Nat.le_of_ble_eq_true rfl) (ls' := [(1, .int (a1 + (1 : Int32))), (0, .ref 0)]) rfl ?_
  refine zm_goto 2 dX8_findSays_18 (by decide) ?_
  refine zm_sub [1, 0] rfl ?_
  exact k
theorem gX8_findSays_21 {d : Nat} {Q : Value → zm_S → Prop} {w : zm_S} (k : zm_T zd_H d mX8_findSays Q 23 [(0, .ref 0), (1, .int (0 : Int32))] [] w) : zm_T zd_H d mX8_findSays Q 21 [(0, .ref 0)] [] w := by
  refine zm_iconst dX8_findSays_21 (v := (0 : Int32)) (by decide) ?_
  refine zm_istore_n dX8_findSays_22 rfl (Nat.le_of_ble_eq_true rfl) (ls' := [(1, .int (0 : Int32)), (0, .ref 0)]) rfl ?_
  refine zm_sub [1, 0] rfl ?_
  exact k
theorem gX8_findSays_23 {d : Nat} {Q : Value → zm_S → Prop} {w : zm_S} {a1 : Int32} (kt : (w.1 0 6) ≤ a1 → zm_T zd_H d mX8_findSays Q 90 [] [] w) (kf : ¬ (w.1 0 6) ≤ a1 → zm_T zd_H d mX8_findSays Q 31 [(0, .ref 0), (1, .int a1)] [] w) : zm_T zd_H d mX8_findSays Q 23 [(0, .ref 0), (1, .int a1)] [] w := by
  refine zm_iload_n (x := a1) 1 dX8_findSays_23 rfl rfl ?_
  refine zm_aload_n (x := 0) 0 dX8_findSays_24 rfl rfl ?_
  refine zm_getf (v := .int (w.1 0 6)) (j := 6) dX8_findSays_25 clX8 flX8_118 (Nat.le_of_ble_eq_true rfl) zd_H0 rfl rfl ?_
  refine zm_icmp_ge 90 dX8_findSays_28 (by decide) (fun h => ?_) (fun h => ?_)
  · refine zm_sub [] rfl ?_
    exact kt h
  · exact kf h
theorem gX8_findSays_31 {d : Nat} {Q : Value → zm_S → Prop} {w : zm_S} {a1 : Int32} (hi38 : vp_in a1 160) (hi45 : vp_in a1 160) (hi58 : vp_in a1 160) (hi64 : vp_in (1 : Int32) 4) (kt : (w.1 5 ((1 : Int32)).toNatClampNeg) < (w.1 9 (a1).toNatClampNeg) → zm_T zd_H d mX8_findSays Q 77 [(0, .ref 0), (1, .int a1), (2, .int (((7 : Int32) * (w.1 6 (a1).toNatClampNeg)) + (w.1 7 (a1).toNatClampNeg)))] [.int (((7 : Int32) * (w.1 6 (a1).toNatClampNeg)) + (w.1 7 (a1).toNatClampNeg)), .ref 10] w) (kf : ¬ (w.1 5 ((1 : Int32)).toNatClampNeg) < (w.1 9 (a1).toNatClampNeg) → zm_T zd_H d mX8_findSays Q 68 [(0, .ref 0), (1, .int a1)] [.int (((7 : Int32) * (w.1 6 (a1).toNatClampNeg)) + (w.1 7 (a1).toNatClampNeg)), .ref 10] w) : zm_T zd_H d mX8_findSays Q 31 [(0, .ref 0), (1, .int a1)] [] w := by
  refine zm_bipush dX8_findSays_31 (v := (7 : Int32)) (by decide) ?_
  refine zm_aload_n (x := 0) 0 dX8_findSays_33 rfl rfl ?_
  refine zm_getf (v := .ref 6) (j := 7) dX8_findSays_34 clX8 flX8_25 (Nat.le_of_ble_eq_true rfl) zd_H0 rfl rfl ?_
  refine zm_iload_n (x := a1) 1 dX8_findSays_37 rfl rfl ?_
  refine zm_iald dX8_findSays_38 zd_H6 hi38 ?_
  refine zm_imul dX8_findSays_39 ?_
  refine zm_aload_n (x := 0) 0 dX8_findSays_40 rfl rfl ?_
  refine zm_getf (v := .ref 7) (j := 8) dX8_findSays_41 clX8 flX8_28 (Nat.le_of_ble_eq_true rfl) zd_H0 rfl rfl ?_
  refine zm_iload_n (x := a1) 1 dX8_findSays_44 rfl rfl ?_
  refine zm_iald dX8_findSays_45 zd_H7 hi45 ?_
  refine zm_iadd dX8_findSays_46 ?_
  refine zm_istore_n dX8_findSays_47 rfl (Nat.le_of_ble_eq_true rfl) (ls' := [(2, .int (((7 : Int32) * (w.1 6 (a1).toNatClampNeg)) + (w.1 7 (a1).toNatClampNeg))), (0, .ref 0), (1, .int a1)]) rfl ?_
  refine zm_aload_n (x := 0) 1 dX8_findSays_48 rfl rfl ?_
  refine zm_getf (v := .ref 10) (j := 11) dX8_findSays_49 clX8 flX8_37 (Nat.le_of_ble_eq_true rfl) zd_H0 rfl rfl ?_
  refine zm_iload_n (x := (((7 : Int32) * (w.1 6 (a1).toNatClampNeg)) + (w.1 7 (a1).toNatClampNeg))) 0 dX8_findSays_52 rfl rfl ?_
  refine zm_aload_n (x := 0) 1 dX8_findSays_53 rfl rfl ?_
  refine zm_getf (v := .ref 9) (j := 10) dX8_findSays_54 clX8 flX8_34 (Nat.le_of_ble_eq_true rfl) zd_H0 rfl rfl ?_
  refine zm_iload_n (x := a1) 2 dX8_findSays_57 rfl rfl ?_
  refine zm_iald dX8_findSays_58 zd_H9 hi58 ?_
  refine zm_aload_n (x := 0) 1 dX8_findSays_59 rfl rfl ?_
  refine zm_getf (v := .ref 5) (j := 5) dX8_findSays_60 clX8 flX8_22 (Nat.le_of_ble_eq_true rfl) zd_H0 rfl rfl ?_
  refine zm_iconst dX8_findSays_63 (v := (1 : Int32)) (by decide) ?_
  refine zm_iald dX8_findSays_64 zd_H5 hi64 ?_
  refine zm_icmp_gt 77 dX8_findSays_65 (by decide) (fun h => ?_) (fun h => ?_)
  · refine zm_sub [1, 2, 0] rfl ?_
    exact kt h
  · refine zm_sub [1, 2] rfl ?_
    exact kf h
theorem gX8_findSays_68 {d : Nat} {Q : Value → zm_S → Prop} {w : zm_S} {a1 : Int32} {s0 : Int32} (hi73 : vp_in a1 160) (k : zm_T zd_H d mX8_findSays Q 83 [(0, .ref 0), (1, .int a1)] [.int (w.1 8 (a1).toNatClampNeg), .int s0, .ref 10] w) : zm_T zd_H d mX8_findSays Q 68 [(0, .ref 0), (1, .int a1)] [.int s0, .ref 10] w := by
  refine zm_aload_n (x := 0) 0 dX8_findSays_68 rfl rfl ?_
  refine zm_getf (v := .ref 8) (j := 9) dX8_findSays_69 clX8 flX8_31 (Nat.le_of_ble_eq_true rfl) zd_H0 rfl rfl ?_
  refine zm_iload_n (x := a1) 1 dX8_findSays_72 rfl rfl ?_
  refine zm_iald dX8_findSays_73 zd_H8 hi73 ?_
  refine zm_goto 83 dX8_findSays_74 (by decide) ?_
  exact k
theorem gX8_findSays_77 {d : Nat} {Q : Value → zm_S → Prop} {w : zm_S} {a1 : Int32} {a2 : Int32} {s0 : Int32} (hi82 : vp_in a2 84) (k : zm_T zd_H d mX8_findSays Q 83 [(0, .ref 0), (1, .int a1)] [.int (w.1 10 (a2).toNatClampNeg), .int s0, .ref 10] w) : zm_T zd_H d mX8_findSays Q 77 [(0, .ref 0), (1, .int a1), (2, .int a2)] [.int s0, .ref 10] w := by
  refine zm_aload_n (x := 0) 0 dX8_findSays_77 rfl rfl ?_
  refine zm_getf (v := .ref 10) (j := 11) dX8_findSays_78 clX8 flX8_37 (Nat.le_of_ble_eq_true rfl) zd_H0 rfl rfl ?_
  refine zm_iload_n (x := a2) 2 dX8_findSays_81 rfl rfl ?_
  refine zm_iald dX8_findSays_82 zd_H10 hi82 ?_
  refine zm_sub [0, 1] rfl ?_
  exact k
theorem gX8_findSays_83 {d : Nat} {Q : Value → zm_S → Prop} {w : zm_S} {a1 : Int32} {s0 : Int32} {s1 : Int32} (hi83 : vp_in s1 84) (k : zm_T zd_H d mX8_findSays Q 23 [(0, .ref 0), (1, .int (a1 + (1 : Int32)))] [] (zm_pi w 10 (s1).toNatClampNeg s0)) : zm_T zd_H d mX8_findSays Q 83 [(0, .ref 0), (1, .int a1)] [.int s0, .int s1, .ref 10] w := by
  refine zm_iast dX8_findSays_83 zd_H10 hi83 ?_
  refine zm_iinc 1 dX8_findSays_84 (x := a1) (v := (a1 + (1 : Int32))) rfl rfl (Nat.le_of_ble_eq_true rfl) (ls' := [(1, .int (a1 + (1 : Int32))), (0, .ref 0)]) rfl ?_
  refine zm_goto 23 dX8_findSays_87 (by decide) ?_
  refine zm_sub [1, 0] rfl ?_
  exact k
theorem gX8_findSays_90 {d : Nat} {Q : Value → zm_S → Prop} {w : zm_S} (k : Q .null w) : zm_T zd_H d mX8_findSays Q 90 [] [] w := by
  exact zm_return dX8_findSays_90 rfl k
theorem gX8_said_0 {d : Nat} {Q : Value → zm_S → Prop} {w : zm_S} {a1 : Int32} {a2 : Int32} {Q' : Value → zm_S → Prop} (hC : zm_C zd_H d mX8_isPupil [.int a1] w Q') (k : ∀ (r : Int32) (u : zm_S), Q' (.int r) u → zm_T zd_H (d + 1) mX8_said Q 4 [(0, .ref 0), (1, .int a1), (2, .int a2)] [.int r] u) : zm_T zd_H (d + 1) mX8_said Q 0 [(0, .ref 0), (1, .int a1), (2, .int a2)] [] w := by
  refine zm_iload_n (x := a1) 1 dX8_said_0 rfl rfl ?_
  refine zm_callSz (as := [.int a1]) (rest := []) dX8_said_1 rfl mtX8_isPupil lkX8_123 rfl (Nat.le_of_ble_eq_true rfl) hC rfl (fun r u hq => ?_)
  exact k r u hq
theorem gX8_said_4 {d : Nat} {Q : Value → zm_S → Prop} {w : zm_S} {a1 : Int32} {a2 : Int32} {s0 : Int32} (kt : s0 = 0 → zm_T zd_H d mX8_said Q 14 [] [] w) (kf : ¬ s0 = 0 → zm_T zd_H d mX8_said Q 7 [(0, .ref 0), (1, .int a1), (2, .int a2)] [] w) : zm_T zd_H d mX8_said Q 4 [(0, .ref 0), (1, .int a1), (2, .int a2)] [.int s0] w := by
  refine zm_if_eq 14 dX8_said_4 (by decide) (fun h => ?_) (fun h => ?_)
  · refine zm_sub [] rfl ?_
    exact kt h
  · exact kf h
theorem gX8_said_7 {d : Nat} {Q : Value → zm_S → Prop} {w : zm_S} {a1 : Int32} {a2 : Int32} {Q' : Value → zm_S → Prop} (hC : zm_C zd_H d mX8_isAny [.int a2] w Q') (k : ∀ (r : Int32) (u : zm_S), Q' (.int r) u → zm_T zd_H (d + 1) mX8_said Q 11 [(0, .ref 0), (1, .int a1), (2, .int a2)] [.int r] u) : zm_T zd_H (d + 1) mX8_said Q 7 [(0, .ref 0), (1, .int a1), (2, .int a2)] [] w := by
  refine zm_iload_n (x := a2) 2 dX8_said_7 rfl rfl ?_
  refine zm_callSz (as := [.int a2]) (rest := []) dX8_said_8 rfl mtX8_isAny lkX8_126 rfl (Nat.le_of_ble_eq_true rfl) hC rfl (fun r u hq => ?_)
  exact k r u hq
theorem gX8_said_11 {d : Nat} {Q : Value → zm_S → Prop} {w : zm_S} {a1 : Int32} {a2 : Int32} {s0 : Int32} (kt : ¬ s0 = 0 → zm_T zd_H d mX8_said Q 17 [(0, .ref 0), (1, .int a1), (2, .int a2)] [] w) (kf : s0 = 0 → zm_T zd_H d mX8_said Q 14 [] [] w) : zm_T zd_H d mX8_said Q 11 [(0, .ref 0), (1, .int a1), (2, .int a2)] [.int s0] w := by
  refine zm_if_ne 17 dX8_said_11 (by decide) (fun h => ?_) (fun h => ?_)
  · exact kt h
  · refine zm_sub [] rfl ?_
    exact kf h
theorem gX8_said_14 {d : Nat} {Q : Value → zm_S → Prop} {w : zm_S} (k : Q (.int (-2 : Int32)) w) : zm_T zd_H d mX8_said Q 14 [] [] w := by
  refine zm_bipush dX8_said_14 (v := (-2 : Int32)) (by decide) ?_
  exact zm_ireturn dX8_said_16 rfl k
theorem gX8_said_17 {d : Nat} {Q : Value → zm_S → Prop} {w : zm_S} {a1 : Int32} {a2 : Int32} {Q' : Value → zm_S → Prop} (hC : zm_C zd_H d mX8_findSays [.ref 0] w Q') (k : ∀ (u : zm_S), Q' .null u → zm_T zd_H (d + 1) mX8_said Q 21 [(0, .ref 0), (1, .int a1), (2, .int a2)] [] u) : zm_T zd_H (d + 1) mX8_said Q 17 [(0, .ref 0), (1, .int a1), (2, .int a2)] [] w := by
  refine zm_aload_n (x := 0) 0 dX8_said_17 rfl rfl ?_
  refine zm_callVv (as := []) (rest := []) dX8_said_18 rfl mtX8_findSays lkX8_136 zd_H0 (C := RX8) rfl rfl rfl (Nat.le_of_ble_eq_true rfl) hC rfl (fun u hq => ?_)
  exact k u hq
theorem gX8_said_21 {d : Nat} {Q : Value → zm_S → Prop} {w : zm_S} {a1 : Int32} {a2 : Int32} (hi31 : vp_in (((7 : Int32) * a1) + a2) 84) (k : Q (.int (w.1 10 ((((7 : Int32) * a1) + a2)).toNatClampNeg)) w) : zm_T zd_H d mX8_said Q 21 [(0, .ref 0), (1, .int a1), (2, .int a2)] [] w := by
  refine zm_aload_n (x := 0) 0 dX8_said_21 rfl rfl ?_
  refine zm_getf (v := .ref 10) (j := 11) dX8_said_22 clX8 flX8_37 (Nat.le_of_ble_eq_true rfl) zd_H0 rfl rfl ?_
  refine zm_bipush dX8_said_25 (v := (7 : Int32)) (by decide) ?_
  refine zm_iload_n (x := a1) 1 dX8_said_27 rfl rfl ?_
  refine zm_imul dX8_said_28 ?_
  refine zm_iload_n (x := a2) 2 dX8_said_29 rfl rfl ?_
  refine zm_iadd dX8_said_30 ?_
  refine zm_iald dX8_said_31 zd_H10 hi31 ?_
  exact zm_ireturn dX8_said_32 rfl k
theorem gX8_bits_0 {d : Nat} {Q : Value → zm_S → Prop} {w : zm_S} {a1 : Int32} {a2 : Int32} (k : zm_T zd_H d mX8_bits Q 5 [(0, .ref 0), (1, .int a1), (2, .int a2), (3, .int (0 : Int32)), (4, .int (0 : Int32))] [] w) : zm_T zd_H d mX8_bits Q 0 [(0, .ref 0), (1, .int a1), (2, .int a2)] [] w := by
  refine zm_iconst dX8_bits_0 (v := (0 : Int32)) (by decide) ?_
  refine zm_istore_n dX8_bits_1 rfl (Nat.le_of_ble_eq_true rfl) (ls' := [(3, .int (0 : Int32)), (0, .ref 0), (1, .int a1), (2, .int a2)]) rfl ?_
  refine zm_iconst dX8_bits_2 (v := (0 : Int32)) (by decide) ?_
  refine zm_istore dX8_bits_3 (Nat.le_of_ble_eq_true rfl) (ls' := [(4, .int (0 : Int32)), (3, .int (0 : Int32)), (0, .ref 0), (1, .int a1), (2, .int a2)]) rfl ?_
  refine zm_sub [2, 3, 4, 1, 0] rfl ?_
  exact k
theorem gX8_bits_5 {d : Nat} {Q : Value → zm_S → Prop} {w : zm_S} {a1 : Int32} {a2 : Int32} {a3 : Int32} {a4 : Int32} {Q' : Value → zm_S → Prop} (hC : zm_C zd_H d mX8_n [.ref 0] w Q') (k : ∀ (r : Int32) (u : zm_S), Q' (.int r) u → zm_T zd_H (d + 1) mX8_bits Q 11 [(0, .ref 0), (1, .int a1), (2, .int a2), (3, .int a3), (4, .int a4)] [.int r, .int a4] u) : zm_T zd_H (d + 1) mX8_bits Q 5 [(0, .ref 0), (1, .int a1), (2, .int a2), (3, .int a3), (4, .int a4)] [] w := by
  refine zm_iload (x := a4) 4 dX8_bits_5 rfl ?_
  refine zm_aload_n (x := 0) 0 dX8_bits_7 rfl rfl ?_
  refine zm_callVi (as := []) (rest := [.int a4]) dX8_bits_8 rfl mtX8_n lkX8_111 zd_H0 (C := RX8) rfl rfl rfl (Nat.le_of_ble_eq_true rfl) hC rfl (fun r u hq => ?_)
  exact k r u hq
theorem gX8_bits_11 {d : Nat} {Q : Value → zm_S → Prop} {w : zm_S} {a1 : Int32} {a2 : Int32} {a3 : Int32} {a4 : Int32} {s0 : Int32} {s1 : Int32} (kt : s0 ≤ s1 → zm_T zd_H d mX8_bits Q 47 [(3, .int a3)] [] w) (kf : ¬ s0 ≤ s1 → zm_T zd_H d mX8_bits Q 14 [(0, .ref 0), (1, .int a1), (2, .int a2), (3, .int a3), (4, .int a4)] [] w) : zm_T zd_H d mX8_bits Q 11 [(0, .ref 0), (1, .int a1), (2, .int a2), (3, .int a3), (4, .int a4)] [.int s0, .int s1] w := by
  refine zm_icmp_ge 47 dX8_bits_11 (by decide) (fun h => ?_) (fun h => ?_)
  · refine zm_sub [3] rfl ?_
    exact kt h
  · exact kf h
theorem gX8_bits_14 {d : Nat} {Q : Value → zm_S → Prop} {w : zm_S} {a1 : Int32} {a2 : Int32} {a3 : Int32} {a4 : Int32} (hi26 : vp_in (((7 : Int32) * a1) + a4) 84) (kt : ¬ (w.1 10 ((((7 : Int32) * a1) + a4)).toNatClampNeg) = a2 → zm_T zd_H d mX8_bits Q 38 [(0, .ref 0), (1, .int a1), (2, .int a2), (4, .int a4)] [.int a3] w) (kf : (w.1 10 ((((7 : Int32) * a1) + a4)).toNatClampNeg) = a2 → zm_T zd_H d mX8_bits Q 31 [(0, .ref 0), (1, .int a1), (2, .int a2), (4, .int a4)] [.int a3] w) : zm_T zd_H d mX8_bits Q 14 [(0, .ref 0), (1, .int a1), (2, .int a2), (3, .int a3), (4, .int a4)] [] w := by
  refine zm_iload_n (x := a3) 3 dX8_bits_14 rfl rfl ?_
  refine zm_aload_n (x := 0) 0 dX8_bits_15 rfl rfl ?_
  refine zm_getf (v := .ref 10) (j := 11) dX8_bits_16 clX8 flX8_37 (Nat.le_of_ble_eq_true rfl) zd_H0 rfl rfl ?_
  refine zm_bipush dX8_bits_19 (v := (7 : Int32)) (by decide) ?_
  refine zm_iload_n (x := a1) 1 dX8_bits_21 rfl rfl ?_
  refine zm_imul dX8_bits_22 ?_
  refine zm_iload (x := a4) 4 dX8_bits_23 rfl ?_
  refine zm_iadd dX8_bits_25 ?_
  refine zm_iald dX8_bits_26 zd_H10 hi26 ?_
  refine zm_iload_n (x := a2) 2 dX8_bits_27 rfl rfl ?_
  refine zm_icmp_ne 38 dX8_bits_28 (by decide) (fun h => ?_) (fun h => ?_)
  · refine zm_sub [0, 1, 2, 4] rfl ?_
    exact kt h
  · refine zm_sub [0, 1, 2, 4] rfl ?_
    exact kf h
theorem gX8_bits_31 {d : Nat} {Q : Value → zm_S → Prop} {w : zm_S} {a1 : Int32} {a2 : Int32} {a4 : Int32} {s0 : Int32} (k : zm_T zd_H d mX8_bits Q 39 [(0, .ref 0), (1, .int a1), (2, .int a2), (4, .int a4)] [.int ((1 : Int32) <<< (a4 &&& 31)), .int s0] w) : zm_T zd_H d mX8_bits Q 31 [(0, .ref 0), (1, .int a1), (2, .int a2), (4, .int a4)] [.int s0] w := by
  refine zm_iconst dX8_bits_31 (v := (1 : Int32)) (by decide) ?_
  refine zm_iload (x := a4) 3 dX8_bits_32 rfl ?_
  refine zm_ishl dX8_bits_34 ?_
  refine zm_goto 39 dX8_bits_35 (by decide) ?_
  exact k
theorem gX8_bits_38 {d : Nat} {Q : Value → zm_S → Prop} {w : zm_S} {a1 : Int32} {a2 : Int32} {a4 : Int32} {s0 : Int32} (k : zm_T zd_H d mX8_bits Q 39 [(0, .ref 0), (1, .int a1), (2, .int a2), (4, .int a4)] [.int (0 : Int32), .int s0] w) : zm_T zd_H d mX8_bits Q 38 [(0, .ref 0), (1, .int a1), (2, .int a2), (4, .int a4)] [.int s0] w := by
  refine zm_iconst dX8_bits_38 (v := (0 : Int32)) (by decide) ?_
  exact k
theorem gX8_bits_39 {d : Nat} {Q : Value → zm_S → Prop} {w : zm_S} {a1 : Int32} {a2 : Int32} {a4 : Int32} {s0 : Int32} {s1 : Int32} (k : zm_T zd_H d mX8_bits Q 5 [(0, .ref 0), (1, .int a1), (2, .int a2), (3, .int (s1 ||| s0)), (4, .int (a4 + (1 : Int32)))] [] w) : zm_T zd_H d mX8_bits Q 39 [(0, .ref 0), (1, .int a1), (2, .int a2), (4, .int a4)] [.int s0, .int s1] w := by
  refine zm_ior dX8_bits_39 ?_
  refine zm_istore_n dX8_bits_40 rfl (Nat.le_of_ble_eq_true rfl) (ls' := [(3, .int (s1 ||| s0)), (0, .ref 0), (1, .int a1), (2, .int a2), (4, .int a4)]) rfl ?_
  refine zm_iinc 4 dX8_bits_41 (x := a4) (v := (a4 + (1 : Int32))) rfl rfl (Nat.le_of_ble_eq_true rfl) (ls' := [(4, .int (a4 + (1 : Int32))), (3, .int (s1 ||| s0)), (0, .ref 0), (1, .int a1), (2, .int a2)]) rfl ?_
  refine zm_goto 5 dX8_bits_44 (by decide) ?_
  refine zm_sub [2, 3, 4, 1, 0] rfl ?_
  exact k
theorem gX8_bits_47 {d : Nat} {Q : Value → zm_S → Prop} {w : zm_S} {a3 : Int32} (k : Q (.int a3) w) : zm_T zd_H d mX8_bits Q 47 [(3, .int a3)] [] w := by
  refine zm_iload_n (x := a3) 0 dX8_bits_47 rfl rfl ?_
  exact zm_ireturn dX8_bits_48 rfl k
theorem gX8_type_0 {d : Nat} {Q : Value → zm_S → Prop} {w : zm_S} {a1 : Int32} {Q' : Value → zm_S → Prop} (hC : zm_C zd_H d mX8_in [.long ((a1).toInt64), .long (0 : Int64), .long (255 : Int64)] w Q') (k : ∀ (r : Int32) (u : zm_S), Q' (.int r) u → zm_T zd_H (d + 1) mX8_type Q 9 [(0, .ref 0), (1, .int a1)] [.int r] u) : zm_T zd_H (d + 1) mX8_type Q 0 [(0, .ref 0), (1, .int a1)] [] w := by
  refine zm_iload_n (x := a1) 1 dX8_type_0 rfl rfl ?_
  refine zm_i2l dX8_type_1 ?_
  refine zm_lconst dX8_type_2 (v := (0 : Int64)) (by decide) ?_
  refine zm_ldc2_w dX8_type_3 kcX8_139 ?_
  refine zm_callSz (as := [.long ((a1).toInt64), .long (0 : Int64), .long (255 : Int64)]) (rest := []) dX8_type_6 rfl mtX8_in lkX8_78 rfl (Nat.le_of_ble_eq_true rfl) hC rfl (fun r u hq => ?_)
  exact k r u hq
theorem gX8_type_9 {d : Nat} {Q : Value → zm_S → Prop} {w : zm_S} {a1 : Int32} {s0 : Int32} (kt : ¬ s0 = 0 → zm_T zd_H d mX8_type Q 15 [(0, .ref 0), (1, .int a1)] [] w) (kf : s0 = 0 → zm_T zd_H d mX8_type Q 12 [] [] w) : zm_T zd_H d mX8_type Q 9 [(0, .ref 0), (1, .int a1)] [.int s0] w := by
  refine zm_if_ne 15 dX8_type_9 (by decide) (fun h => ?_) (fun h => ?_)
  · exact kt h
  · refine zm_sub [] rfl ?_
    exact kf h
theorem gX8_type_12 {d : Nat} {Q : Value → zm_S → Prop} {w : zm_S} (k : Q (.int (-2 : Int32)) w) : zm_T zd_H d mX8_type Q 12 [] [] w := by
  refine zm_bipush dX8_type_12 (v := (-2 : Int32)) (by decide) ?_
  exact zm_ireturn dX8_type_14 rfl k
theorem gX8_type_15 {d : Nat} {Q : Value → zm_S → Prop} {w : zm_S} {a1 : Int32} (kt : ¬ (w.1 0 13) = (60 : Int32) → zm_T zd_H d mX8_type Q 27 [(0, .ref 0), (1, .int a1)] [] w) (kf : (w.1 0 13) = (60 : Int32) → zm_T zd_H d mX8_type Q 24 [] [] w) : zm_T zd_H d mX8_type Q 15 [(0, .ref 0), (1, .int a1)] [] w := by
  refine zm_aload_n (x := 0) 0 dX8_type_15 rfl rfl ?_
  refine zm_getf (v := .int (w.1 0 13)) (j := 13) dX8_type_16 clX8 flX8_141 (Nat.le_of_ble_eq_true rfl) zd_H0 rfl rfl ?_
  refine zm_bipush dX8_type_19 (v := (60 : Int32)) (by decide) ?_
  refine zm_icmp_ne 27 dX8_type_21 (by decide) (fun h => ?_) (fun h => ?_)
  · exact kt h
  · refine zm_sub [] rfl ?_
    exact kf h
theorem gX8_type_24 {d : Nat} {Q : Value → zm_S → Prop} {w : zm_S} (k : Q (.int (-4 : Int32)) w) : zm_T zd_H d mX8_type Q 24 [] [] w := by
  refine zm_bipush dX8_type_24 (v := (-4 : Int32)) (by decide) ?_
  exact zm_ireturn dX8_type_26 rfl k
theorem gX8_type_27 {d : Nat} {Q : Value → zm_S → Prop} {w : zm_S} {a1 : Int32} (hi36 : vp_in (w.1 0 13) 60) (k : Q (.int ((w.1 0 13) + (1 : Int32))) (zm_pi (zm_pi w 11 ((w.1 0 13)).toNatClampNeg a1) 0 13 ((w.1 0 13) + (1 : Int32)))) : zm_T zd_H d mX8_type Q 27 [(0, .ref 0), (1, .int a1)] [] w := by
  refine zm_aload_n (x := 0) 0 dX8_type_27 rfl rfl ?_
  refine zm_getf (v := .ref 11) (j := 12) dX8_type_28 clX8 flX8_40 (Nat.le_of_ble_eq_true rfl) zd_H0 rfl rfl ?_
  refine zm_aload_n (x := 0) 0 dX8_type_31 rfl rfl ?_
  refine zm_getf (v := .int (w.1 0 13)) (j := 13) dX8_type_32 clX8 flX8_141 (Nat.le_of_ble_eq_true rfl) zd_H0 rfl rfl ?_
  refine zm_iload_n (x := a1) 1 dX8_type_35 rfl rfl ?_
  refine zm_iast dX8_type_36 zd_H11 hi36 ?_
  refine zm_aload_n (x := 0) 0 dX8_type_37 rfl rfl ?_
  refine zm_dup dX8_type_38 rfl ?_
  refine zm_getf (v := .int (w.1 0 13)) (j := 13) dX8_type_39 clX8 flX8_141 (Nat.le_of_ble_eq_true rfl) zd_H0 rfl rfl ?_
  refine zm_iconst dX8_type_42 (v := (1 : Int32)) (by decide) ?_
  refine zm_iadd dX8_type_43 ?_
  refine zm_putf (j := 13) (ty := .int) dX8_type_44 clX8 flX8_141 (Nat.le_of_ble_eq_true rfl) zd_H0 rfl rfl (by decide +kernel) rfl rfl ?_
  refine zm_aload_n (x := 0) 0 dX8_type_47 rfl rfl ?_
  refine zm_getf (v := .int ((w.1 0 13) + (1 : Int32))) (j := 13) dX8_type_48 clX8 flX8_141 (Nat.le_of_ble_eq_true rfl) zd_H0 rfl rfl ?_
  exact zm_ireturn dX8_type_51 rfl k
theorem gX8_wipe_0 {d : Nat} {Q : Value → zm_S → Prop} {w : zm_S} (k : Q (.int (w.1 0 13)) (zm_pi w 0 13 (0 : Int32))) : zm_T zd_H d mX8_wipe Q 0 [(0, .ref 0)] [] w := by
  refine zm_aload_n (x := 0) 0 dX8_wipe_0 rfl rfl ?_
  refine zm_getf (v := .int (w.1 0 13)) (j := 13) dX8_wipe_1 clX8 flX8_141 (Nat.le_of_ble_eq_true rfl) zd_H0 rfl rfl ?_
  refine zm_istore_n dX8_wipe_4 rfl (Nat.le_of_ble_eq_true rfl) (ls' := [(1, .int (w.1 0 13)), (0, .ref 0)]) rfl ?_
  refine zm_aload_n (x := 0) 1 dX8_wipe_5 rfl rfl ?_
  refine zm_iconst dX8_wipe_6 (v := (0 : Int32)) (by decide) ?_
  refine zm_putf (j := 13) (ty := .int) dX8_wipe_7 clX8 flX8_141 (Nat.le_of_ble_eq_true rfl) zd_H0 rfl rfl (by decide +kernel) rfl rfl ?_
  refine zm_iload_n (x := (w.1 0 13)) 0 dX8_wipe_10 rfl rfl ?_
  exact zm_ireturn dX8_wipe_11 rfl k
theorem gX8_here_0 {d : Nat} {Q : Value → zm_S → Prop} {w : zm_S} (kt : (w.1 0 13) ≤ (w.1 0 14) → zm_T zd_H d mX8_here Q 23 [] [] w) (kf : ¬ (w.1 0 13) ≤ (w.1 0 14) → zm_T zd_H d mX8_here Q 11 [(0, .ref 0)] [] w) : zm_T zd_H d mX8_here Q 0 [(0, .ref 0)] [] w := by
  refine zm_aload_n (x := 0) 0 dX8_here_0 rfl rfl ?_
  refine zm_getf (v := .int (w.1 0 14)) (j := 14) dX8_here_1 clX8 flX8_144 (Nat.le_of_ble_eq_true rfl) zd_H0 rfl rfl ?_
  refine zm_aload_n (x := 0) 0 dX8_here_4 rfl rfl ?_
  refine zm_getf (v := .int (w.1 0 13)) (j := 13) dX8_here_5 clX8 flX8_141 (Nat.le_of_ble_eq_true rfl) zd_H0 rfl rfl ?_
  refine zm_icmp_ge 23 dX8_here_8 (by decide) (fun h => ?_) (fun h => ?_)
  · refine zm_sub [] rfl ?_
    exact kt h
  · exact kf h
theorem gX8_here_11 {d : Nat} {Q : Value → zm_S → Prop} {w : zm_S} (hi19 : vp_in (w.1 0 14) 60) (k : Q (.int (w.1 11 ((w.1 0 14)).toNatClampNeg)) w) : zm_T zd_H d mX8_here Q 11 [(0, .ref 0)] [] w := by
  refine zm_aload_n (x := 0) 0 dX8_here_11 rfl rfl ?_
  refine zm_getf (v := .ref 11) (j := 12) dX8_here_12 clX8 flX8_40 (Nat.le_of_ble_eq_true rfl) zd_H0 rfl rfl ?_
  refine zm_aload_n (x := 0) 0 dX8_here_15 rfl rfl ?_
  refine zm_getf (v := .int (w.1 0 14)) (j := 14) dX8_here_16 clX8 flX8_144 (Nat.le_of_ble_eq_true rfl) zd_H0 rfl rfl ?_
  refine zm_iald dX8_here_19 zd_H11 hi19 ?_
  refine zm_goto 24 dX8_here_20 (by decide) ?_
  exact zm_ireturn dX8_here_24 rfl k
theorem gX8_here_23 {d : Nat} {Q : Value → zm_S → Prop} {w : zm_S} (k : Q (.int (-1 : Int32)) w) : zm_T zd_H d mX8_here Q 23 [] [] w := by
  refine zm_iconst dX8_here_23 (v := (-1 : Int32)) (by decide) ?_
  exact zm_ireturn dX8_here_24 rfl k
theorem gX8_clears_0 {d : Nat} {Q : Value → zm_S → Prop} {w : zm_S} (k : zm_T zd_H d mX8_clears Q 7 [(0, .ref 0), (1, .int (0 : Int32))] [] (zm_pi w 0 15 (0 : Int32))) : zm_T zd_H d mX8_clears Q 0 [(0, .ref 0)] [] w := by
  refine zm_aload_n (x := 0) 0 dX8_clears_0 rfl rfl ?_
  refine zm_iconst dX8_clears_1 (v := (0 : Int32)) (by decide) ?_
  refine zm_putf (j := 15) (ty := .int) dX8_clears_2 clX8 flX8_147 (Nat.le_of_ble_eq_true rfl) zd_H0 rfl rfl (by decide +kernel) rfl rfl ?_
  refine zm_iconst dX8_clears_5 (v := (0 : Int32)) (by decide) ?_
  refine zm_istore_n dX8_clears_6 rfl (Nat.le_of_ble_eq_true rfl) (ls' := [(1, .int (0 : Int32)), (0, .ref 0)]) rfl ?_
  refine zm_sub [1, 0] rfl ?_
  exact k
theorem gX8_clears_7 {d : Nat} {Q : Value → zm_S → Prop} {w : zm_S} {a1 : Int32} (kt : (7 : Int32) ≤ a1 → zm_T zd_H d mX8_clears Q 26 [] [] w) (kf : ¬ (7 : Int32) ≤ a1 → zm_T zd_H d mX8_clears Q 13 [(0, .ref 0), (1, .int a1)] [] w) : zm_T zd_H d mX8_clears Q 7 [(0, .ref 0), (1, .int a1)] [] w := by
  refine zm_iload_n (x := a1) 1 dX8_clears_7 rfl rfl ?_
  refine zm_bipush dX8_clears_8 (v := (7 : Int32)) (by decide) ?_
  refine zm_icmp_ge 26 dX8_clears_10 (by decide) (fun h => ?_) (fun h => ?_)
  · refine zm_sub [] rfl ?_
    exact kt h
  · exact kf h
theorem gX8_clears_13 {d : Nat} {Q : Value → zm_S → Prop} {w : zm_S} {a1 : Int32} (hi19 : vp_in a1 7) (k : zm_T zd_H d mX8_clears Q 7 [(0, .ref 0), (1, .int (a1 + (1 : Int32)))] [] (zm_pi w 12 (a1).toNatClampNeg (0 : Int32))) : zm_T zd_H d mX8_clears Q 13 [(0, .ref 0), (1, .int a1)] [] w := by
  refine zm_aload_n (x := 0) 0 dX8_clears_13 rfl rfl ?_
  refine zm_getf (v := .ref 12) (j := 16) dX8_clears_14 clX8 flX8_43 (Nat.le_of_ble_eq_true rfl) zd_H0 rfl rfl ?_
  refine zm_iload_n (x := a1) 1 dX8_clears_17 rfl rfl ?_
  refine zm_iconst dX8_clears_18 (v := (0 : Int32)) (by decide) ?_
  refine zm_iast dX8_clears_19 zd_H12 hi19 ?_
  refine zm_iinc 1 dX8_clears_20 (x := a1) (v := (a1 + (1 : Int32))) rfl rfl (Nat.le_of_ble_eq_true rfl) (ls' := [(1, .int (a1 + (1 : Int32))), (0, .ref 0)]) rfl ?_
  refine zm_goto 7 dX8_clears_23 (by decide) ?_
  refine zm_sub [1, 0] rfl ?_
  exact k
theorem gX8_clears_26 {d : Nat} {Q : Value → zm_S → Prop} {w : zm_S} (k : Q .null w) : zm_T zd_H d mX8_clears Q 26 [] [] w := by
  exact zm_return dX8_clears_26 rfl k
theorem gX8_takes_0 {d : Nat} {Q : Value → zm_S → Prop} {w : zm_S} {a1 : Int32} {Q' : Value → zm_S → Prop} (hC : zm_C zd_H d mX8_here [.ref 0] w Q') (k : ∀ (r : Int32) (u : zm_S), Q' (.int r) u → zm_T zd_H (d + 1) mX8_takes Q 4 [(0, .ref 0), (1, .int a1)] [.int r] u) : zm_T zd_H (d + 1) mX8_takes Q 0 [(0, .ref 0), (1, .int a1)] [] w := by
  refine zm_aload_n (x := 0) 0 dX8_takes_0 rfl rfl ?_
  refine zm_callVi (as := []) (rest := []) dX8_takes_1 rfl mtX8_here lkX8_150 zd_H0 (C := RX8) rfl rfl rfl (Nat.le_of_ble_eq_true rfl) hC rfl (fun r u hq => ?_)
  exact k r u hq
theorem gX8_takes_4 {d : Nat} {Q : Value → zm_S → Prop} {w : zm_S} {a1 : Int32} {s0 : Int32} (kt : s0 = a1 → zm_T zd_H d mX8_takes Q 10 [(0, .ref 0)] [] w) (kf : ¬ s0 = a1 → zm_T zd_H d mX8_takes Q 8 [] [] w) : zm_T zd_H d mX8_takes Q 4 [(0, .ref 0), (1, .int a1)] [.int s0] w := by
  refine zm_iload_n (x := a1) 1 dX8_takes_4 rfl rfl ?_
  refine zm_icmp_eq 10 dX8_takes_5 (by decide) (fun h => ?_) (fun h => ?_)
  · refine zm_sub [0] rfl ?_
    exact kt h
  · refine zm_sub [] rfl ?_
    exact kf h
theorem gX8_takes_8 {d : Nat} {Q : Value → zm_S → Prop} {w : zm_S} (k : Q (.int (0 : Int32)) w) : zm_T zd_H d mX8_takes Q 8 [] [] w := by
  refine zm_iconst dX8_takes_8 (v := (0 : Int32)) (by decide) ?_
  exact zm_zreturn dX8_takes_9 rfl (by decide) k
theorem gX8_takes_10 {d : Nat} {Q : Value → zm_S → Prop} {w : zm_S} (k : Q (.int (1 : Int32)) (zm_pi w 0 14 ((w.1 0 14) + (1 : Int32)))) : zm_T zd_H d mX8_takes Q 10 [(0, .ref 0)] [] w := by
  refine zm_aload_n (x := 0) 0 dX8_takes_10 rfl rfl ?_
  refine zm_dup dX8_takes_11 rfl ?_
  refine zm_getf (v := .int (w.1 0 14)) (j := 14) dX8_takes_12 clX8 flX8_144 (Nat.le_of_ble_eq_true rfl) zd_H0 rfl rfl ?_
  refine zm_iconst dX8_takes_15 (v := (1 : Int32)) (by decide) ?_
  refine zm_iadd dX8_takes_16 ?_
  refine zm_putf (j := 14) (ty := .int) dX8_takes_17 clX8 flX8_144 (Nat.le_of_ble_eq_true rfl) zd_H0 rfl rfl (by decide +kernel) rfl rfl ?_
  refine zm_iconst dX8_takes_20 (v := (1 : Int32)) (by decide) ?_
  exact zm_zreturn dX8_takes_21 rfl (by decide) k
theorem gX8_ahead_0 {d : Nat} {Q : Value → zm_S → Prop} {w : zm_S} {a1 : Int32} (k : zm_T zd_H d mX8_ahead Q 4 [(0, .ref 0), (2, .int a1), (3, .int (0 : Int32))] [] w) : zm_T zd_H d mX8_ahead Q 0 [(0, .ref 0), (1, .int a1)] [] w := by
  refine zm_iload_n (x := a1) 1 dX8_ahead_0 rfl rfl ?_
  refine zm_istore_n dX8_ahead_1 rfl (Nat.le_of_ble_eq_true rfl) (ls' := [(2, .int a1), (0, .ref 0), (1, .int a1)]) rfl ?_
  refine zm_iconst dX8_ahead_2 (v := (0 : Int32)) (by decide) ?_
  refine zm_istore_n dX8_ahead_3 rfl (Nat.le_of_ble_eq_true rfl) (ls' := [(3, .int (0 : Int32)), (2, .int a1), (0, .ref 0), (1, .int a1)]) rfl ?_
  refine zm_sub [2, 1, 0] rfl ?_
  exact k
theorem gX8_ahead_4 {d : Nat} {Q : Value → zm_S → Prop} {w : zm_S} {a2 : Int32} {a3 : Int32} (kt : (7 : Int32) ≤ a3 → zm_T zd_H d mX8_ahead Q 55 [(2, .int a2)] [] w) (kf : ¬ (7 : Int32) ≤ a3 → zm_T zd_H d mX8_ahead Q 10 [(0, .ref 0), (2, .int a2), (3, .int a3)] [] w) : zm_T zd_H d mX8_ahead Q 4 [(0, .ref 0), (2, .int a2), (3, .int a3)] [] w := by
  refine zm_iload_n (x := a3) 2 dX8_ahead_4 rfl rfl ?_
  refine zm_bipush dX8_ahead_5 (v := (7 : Int32)) (by decide) ?_
  refine zm_icmp_ge 55 dX8_ahead_7 (by decide) (fun h => ?_) (fun h => ?_)
  · refine zm_sub [1] rfl ?_
    exact kt h
  · exact kf h
theorem gX8_ahead_10 {d : Nat} {Q : Value → zm_S → Prop} {w : zm_S} {a2 : Int32} {a3 : Int32} (k : zm_T zd_H d mX8_ahead Q 13 [(0, .ref 0), (2, .int a2), (3, .int a3), (4, .int (0 : Int32))] [] w) : zm_T zd_H d mX8_ahead Q 10 [(0, .ref 0), (2, .int a2), (3, .int a3)] [] w := by
  refine zm_iconst dX8_ahead_10 (v := (0 : Int32)) (by decide) ?_
  refine zm_istore dX8_ahead_11 (Nat.le_of_ble_eq_true rfl) (ls' := [(4, .int (0 : Int32)), (0, .ref 0), (2, .int a2), (3, .int a3)]) rfl ?_
  refine zm_sub [1, 2, 3, 0] rfl ?_
  exact k
theorem gX8_ahead_13 {d : Nat} {Q : Value → zm_S → Prop} {w : zm_S} {a2 : Int32} {a3 : Int32} {a4 : Int32} (kt : (7 : Int32) ≤ a4 → zm_T zd_H d mX8_ahead Q 49 [(0, .ref 0), (2, .int a2), (3, .int a3)] [] w) (kf : ¬ (7 : Int32) ≤ a4 → zm_T zd_H d mX8_ahead Q 20 [(0, .ref 0), (2, .int a2), (3, .int a3), (4, .int a4)] [] w) : zm_T zd_H d mX8_ahead Q 13 [(0, .ref 0), (2, .int a2), (3, .int a3), (4, .int a4)] [] w := by
  refine zm_iload (x := a4) 3 dX8_ahead_13 rfl ?_
  refine zm_bipush dX8_ahead_15 (v := (7 : Int32)) (by decide) ?_
  refine zm_icmp_ge 49 dX8_ahead_17 (by decide) (fun h => ?_) (fun h => ?_)
  · refine zm_sub [0, 1, 2] rfl ?_
    exact kt h
  · exact kf h
theorem gX8_ahead_20 {d : Nat} {Q : Value → zm_S → Prop} {w : zm_S} {a2 : Int32} {a3 : Int32} {a4 : Int32} {Q' : Value → zm_S → Prop} (hC : zm_C zd_H d mX8_isIn [.int a2, .int a4] w Q') (k : ∀ (r : Int32) (u : zm_S), Q' (.int r) u → zm_T zd_H (d + 1) mX8_ahead Q 27 [(0, .ref 0), (3, .int a3), (4, .int a4)] [.int r, .int a2] u) : zm_T zd_H (d + 1) mX8_ahead Q 20 [(0, .ref 0), (2, .int a2), (3, .int a3), (4, .int a4)] [] w := by
  refine zm_iload_n (x := a2) 1 dX8_ahead_20 rfl rfl ?_
  refine zm_iload_n (x := a2) 1 dX8_ahead_21 rfl rfl ?_
  refine zm_iload (x := a4) 3 dX8_ahead_22 rfl ?_
  refine zm_callSz (as := [.int a2, .int a4]) (rest := [.int a2]) dX8_ahead_24 rfl mtX8_isIn lkX8_153 rfl (Nat.le_of_ble_eq_true rfl) hC rfl (fun r u hq => ?_)
  refine zm_sub [0, 2, 3] rfl ?_
  exact k r u hq
theorem gX8_ahead_27 {d : Nat} {Q : Value → zm_S → Prop} {w : zm_S} {a3 : Int32} {a4 : Int32} {s0 : Int32} {s1 : Int32} (kt : s0 = 0 → zm_T zd_H d mX8_ahead Q 40 [(0, .ref 0), (3, .int a3), (4, .int a4)] [.int s1] w) (kf : ¬ s0 = 0 → zm_T zd_H d mX8_ahead Q 30 [(0, .ref 0), (3, .int a3), (4, .int a4)] [.int s1] w) : zm_T zd_H d mX8_ahead Q 27 [(0, .ref 0), (3, .int a3), (4, .int a4)] [.int s0, .int s1] w := by
  refine zm_if_eq 40 dX8_ahead_27 (by decide) (fun h => ?_) (fun h => ?_)
  · exact kt h
  · exact kf h
theorem gX8_ahead_30 {d : Nat} {Q : Value → zm_S → Prop} {w : zm_S} {a3 : Int32} {a4 : Int32} {s0 : Int32} (hi36 : vp_in a4 7) (k : zm_T zd_H d mX8_ahead Q 41 [(0, .ref 0), (3, .int a3), (4, .int a4)] [.int (w.1 12 (a4).toNatClampNeg), .int s0] w) : zm_T zd_H d mX8_ahead Q 30 [(0, .ref 0), (3, .int a3), (4, .int a4)] [.int s0] w := by
  refine zm_aload_n (x := 0) 0 dX8_ahead_30 rfl rfl ?_
  refine zm_getf (v := .ref 12) (j := 16) dX8_ahead_31 clX8 flX8_43 (Nat.le_of_ble_eq_true rfl) zd_H0 rfl rfl ?_
  refine zm_iload (x := a4) 2 dX8_ahead_34 rfl ?_
  refine zm_iald dX8_ahead_36 zd_H12 hi36 ?_
  refine zm_goto 41 dX8_ahead_37 (by decide) ?_
  exact k
theorem gX8_ahead_40 {d : Nat} {Q : Value → zm_S → Prop} {w : zm_S} {a3 : Int32} {a4 : Int32} {s0 : Int32} (k : zm_T zd_H d mX8_ahead Q 41 [(0, .ref 0), (3, .int a3), (4, .int a4)] [.int (0 : Int32), .int s0] w) : zm_T zd_H d mX8_ahead Q 40 [(0, .ref 0), (3, .int a3), (4, .int a4)] [.int s0] w := by
  refine zm_iconst dX8_ahead_40 (v := (0 : Int32)) (by decide) ?_
  exact k
theorem gX8_ahead_41 {d : Nat} {Q : Value → zm_S → Prop} {w : zm_S} {a3 : Int32} {a4 : Int32} {s0 : Int32} {s1 : Int32} (k : zm_T zd_H d mX8_ahead Q 13 [(0, .ref 0), (2, .int (s1 ||| s0)), (3, .int a3), (4, .int (a4 + (1 : Int32)))] [] w) : zm_T zd_H d mX8_ahead Q 41 [(0, .ref 0), (3, .int a3), (4, .int a4)] [.int s0, .int s1] w := by
  refine zm_ior dX8_ahead_41 ?_
  refine zm_istore_n dX8_ahead_42 rfl (Nat.le_of_ble_eq_true rfl) (ls' := [(2, .int (s1 ||| s0)), (0, .ref 0), (3, .int a3), (4, .int a4)]) rfl ?_
  refine zm_iinc 3 dX8_ahead_43 (x := a4) (v := (a4 + (1 : Int32))) rfl rfl (Nat.le_of_ble_eq_true rfl) (ls' := [(4, .int (a4 + (1 : Int32))), (2, .int (s1 ||| s0)), (0, .ref 0), (3, .int a3)]) rfl ?_
  refine zm_goto 13 dX8_ahead_46 (by decide) ?_
  refine zm_sub [2, 1, 3, 0] rfl ?_
  exact k
theorem gX8_ahead_49 {d : Nat} {Q : Value → zm_S → Prop} {w : zm_S} {a2 : Int32} {a3 : Int32} (k : zm_T zd_H d mX8_ahead Q 4 [(0, .ref 0), (2, .int a2), (3, .int (a3 + (1 : Int32)))] [] w) : zm_T zd_H d mX8_ahead Q 49 [(0, .ref 0), (2, .int a2), (3, .int a3)] [] w := by
  refine zm_iinc 2 dX8_ahead_49 (x := a3) (v := (a3 + (1 : Int32))) rfl rfl (Nat.le_of_ble_eq_true rfl) (ls' := [(3, .int (a3 + (1 : Int32))), (0, .ref 0), (2, .int a2)]) rfl ?_
  refine zm_goto 4 dX8_ahead_52 (by decide) ?_
  refine zm_sub [1, 2, 0] rfl ?_
  exact k
theorem gX8_ahead_55 {d : Nat} {Q : Value → zm_S → Prop} {w : zm_S} {a2 : Int32} (k : Q (.int a2) w) : zm_T zd_H d mX8_ahead Q 55 [(2, .int a2)] [] w := by
  refine zm_iload_n (x := a2) 0 dX8_ahead_55 rfl rfl ?_
  exact zm_ireturn dX8_ahead_56 rfl k
theorem gX8_readsPart_0 {d : Nat} {Q : Value → zm_S → Prop} {w : zm_S} {Q' : Value → zm_S → Prop} (hC : zm_C zd_H d mX8_here [.ref 0] w Q') (k : ∀ (r : Int32) (u : zm_S), Q' (.int r) u → zm_T zd_H (d + 1) mX8_readsPart Q 4 [(0, .ref 0)] [.int r] u) : zm_T zd_H (d + 1) mX8_readsPart Q 0 [(0, .ref 0)] [] w := by
  refine zm_aload_n (x := 0) 0 dX8_readsPart_0 rfl rfl ?_
  refine zm_callVi (as := []) (rest := []) dX8_readsPart_1 rfl mtX8_here lkX8_150 zd_H0 (C := RX8) rfl rfl rfl (Nat.le_of_ble_eq_true rfl) hC rfl (fun r u hq => ?_)
  exact k r u hq
theorem gX8_readsPart_4 {d : Nat} {Q : Value → zm_S → Prop} {w : zm_S} {s0 : Int32} {Q' : Value → zm_S → Prop} (hC : zm_C zd_H d mX8_isAny [.int (s0 - (97 : Int32))] w Q') (k : ∀ (r : Int32) (u : zm_S), Q' (.int r) u → zm_T zd_H (d + 1) mX8_readsPart Q 12 [(0, .ref 0), (1, .int (s0 - (97 : Int32)))] [.int r] u) : zm_T zd_H (d + 1) mX8_readsPart Q 4 [(0, .ref 0)] [.int s0] w := by
  refine zm_bipush dX8_readsPart_4 (v := (97 : Int32)) (by decide) ?_
  refine zm_isub dX8_readsPart_6 ?_
  refine zm_istore_n dX8_readsPart_7 rfl (Nat.le_of_ble_eq_true rfl) (ls' := [(1, .int (s0 - (97 : Int32))), (0, .ref 0)]) rfl ?_
  refine zm_iload_n (x := (s0 - (97 : Int32))) 0 dX8_readsPart_8 rfl rfl ?_
  refine zm_callSz (as := [.int (s0 - (97 : Int32))]) (rest := []) dX8_readsPart_9 rfl mtX8_isAny lkX8_126 rfl (Nat.le_of_ble_eq_true rfl) hC rfl (fun r u hq => ?_)
  refine zm_sub [1, 0] rfl ?_
  exact k r u hq
theorem gX8_readsPart_12 {d : Nat} {Q : Value → zm_S → Prop} {w : zm_S} {a1 : Int32} {s0 : Int32} (kt : ¬ s0 = 0 → zm_T zd_H d mX8_readsPart Q 17 [(0, .ref 0), (1, .int a1)] [] w) (kf : s0 = 0 → zm_T zd_H d mX8_readsPart Q 15 [] [] w) : zm_T zd_H d mX8_readsPart Q 12 [(0, .ref 0), (1, .int a1)] [.int s0] w := by
  refine zm_if_ne 17 dX8_readsPart_12 (by decide) (fun h => ?_) (fun h => ?_)
  · exact kt h
  · refine zm_sub [] rfl ?_
    exact kf h
theorem gX8_readsPart_15 {d : Nat} {Q : Value → zm_S → Prop} {w : zm_S} (k : Q (.int (0 : Int32)) w) : zm_T zd_H d mX8_readsPart Q 15 [] [] w := by
  refine zm_iconst dX8_readsPart_15 (v := (0 : Int32)) (by decide) ?_
  exact zm_zreturn dX8_readsPart_16 rfl (by decide) k
theorem gX8_readsPart_17 {d : Nat} {Q : Value → zm_S → Prop} {w : zm_S} {a1 : Int32} {Q' : Value → zm_S → Prop} (hC : zm_C zd_H d mX8_takes [.ref 0, .int (60 : Int32)] (zm_pi w 0 14 ((w.1 0 14) + (1 : Int32))) Q') (k : ∀ (r : Int32) (u : zm_S), Q' (.int r) u → zm_T zd_H (d + 1) mX8_readsPart Q 33 [(0, .ref 0), (1, .int a1)] [.int r] u) : zm_T zd_H (d + 1) mX8_readsPart Q 17 [(0, .ref 0), (1, .int a1)] [] w := by
  refine zm_aload_n (x := 0) 0 dX8_readsPart_17 rfl rfl ?_
  refine zm_dup dX8_readsPart_18 rfl ?_
  refine zm_getf (v := .int (w.1 0 14)) (j := 14) dX8_readsPart_19 clX8 flX8_144 (Nat.le_of_ble_eq_true rfl) zd_H0 rfl rfl ?_
  refine zm_iconst dX8_readsPart_22 (v := (1 : Int32)) (by decide) ?_
  refine zm_iadd dX8_readsPart_23 ?_
  refine zm_putf (j := 14) (ty := .int) dX8_readsPart_24 clX8 flX8_144 (Nat.le_of_ble_eq_true rfl) zd_H0 rfl rfl (by decide +kernel) rfl rfl ?_
  refine zm_aload_n (x := 0) 0 dX8_readsPart_27 rfl rfl ?_
  refine zm_bipush dX8_readsPart_28 (v := (60 : Int32)) (by decide) ?_
  refine zm_callVz (as := [.int (60 : Int32)]) (rest := []) dX8_readsPart_30 rfl mtX8_takes lkX8_157 zd_H0 (C := RX8) rfl rfl rfl (Nat.le_of_ble_eq_true rfl) hC rfl (fun r u hq => ?_)
  exact k r u hq
theorem gX8_readsPart_33 {d : Nat} {Q : Value → zm_S → Prop} {w : zm_S} {a1 : Int32} {s0 : Int32} (kt : ¬ s0 = 0 → zm_T zd_H d mX8_readsPart Q 38 [(0, .ref 0), (1, .int a1)] [] w) (kf : s0 = 0 → zm_T zd_H d mX8_readsPart Q 36 [] [] w) : zm_T zd_H d mX8_readsPart Q 33 [(0, .ref 0), (1, .int a1)] [.int s0] w := by
  refine zm_if_ne 38 dX8_readsPart_33 (by decide) (fun h => ?_) (fun h => ?_)
  · exact kt h
  · refine zm_sub [] rfl ?_
    exact kf h
theorem gX8_readsPart_36 {d : Nat} {Q : Value → zm_S → Prop} {w : zm_S} (k : Q (.int (0 : Int32)) w) : zm_T zd_H d mX8_readsPart Q 36 [] [] w := by
  refine zm_iconst dX8_readsPart_36 (v := (0 : Int32)) (by decide) ?_
  exact zm_zreturn dX8_readsPart_37 rfl (by decide) k
theorem gX8_readsPart_38 {d : Nat} {Q : Value → zm_S → Prop} {w : zm_S} {a1 : Int32} {Q' : Value → zm_S → Prop} (hC : zm_C zd_H d mX8_here [.ref 0] w Q') (k : ∀ (r : Int32) (u : zm_S), Q' (.int r) u → zm_T zd_H (d + 1) mX8_readsPart Q 42 [(0, .ref 0), (1, .int a1)] [.int r] u) : zm_T zd_H (d + 1) mX8_readsPart Q 38 [(0, .ref 0), (1, .int a1)] [] w := by
  refine zm_aload_n (x := 0) 0 dX8_readsPart_38 rfl rfl ?_
  refine zm_callVi (as := []) (rest := []) dX8_readsPart_39 rfl mtX8_here lkX8_150 zd_H0 (C := RX8) rfl rfl rfl (Nat.le_of_ble_eq_true rfl) hC rfl (fun r u hq => ?_)
  exact k r u hq
theorem gX8_readsPart_42 {d : Nat} {Q : Value → zm_S → Prop} {w : zm_S} {a1 : Int32} {s0 : Int32} {Q' : Value → zm_S → Prop} (hC : zm_C zd_H d mX8_isAny [.int (s0 - (97 : Int32))] w Q') (k : ∀ (r : Int32) (u : zm_S), Q' (.int r) u → zm_T zd_H (d + 1) mX8_readsPart Q 50 [(0, .ref 0), (1, .int a1), (2, .int (s0 - (97 : Int32)))] [.int r] u) : zm_T zd_H (d + 1) mX8_readsPart Q 42 [(0, .ref 0), (1, .int a1)] [.int s0] w := by
  refine zm_bipush dX8_readsPart_42 (v := (97 : Int32)) (by decide) ?_
  refine zm_isub dX8_readsPart_44 ?_
  refine zm_istore_n dX8_readsPart_45 rfl (Nat.le_of_ble_eq_true rfl) (ls' := [(2, .int (s0 - (97 : Int32))), (0, .ref 0), (1, .int a1)]) rfl ?_
  refine zm_iload_n (x := (s0 - (97 : Int32))) 0 dX8_readsPart_46 rfl rfl ?_
  refine zm_callSz (as := [.int (s0 - (97 : Int32))]) (rest := []) dX8_readsPart_47 rfl mtX8_isAny lkX8_126 rfl (Nat.le_of_ble_eq_true rfl) hC rfl (fun r u hq => ?_)
  refine zm_sub [1, 2, 0] rfl ?_
  exact k r u hq
theorem gX8_readsPart_50 {d : Nat} {Q : Value → zm_S → Prop} {w : zm_S} {a1 : Int32} {a2 : Int32} {s0 : Int32} (kt : s0 = 0 → zm_T zd_H d mX8_readsPart Q 67 [] [] w) (kf : ¬ s0 = 0 → zm_T zd_H d mX8_readsPart Q 53 [(0, .ref 0), (1, .int a1), (2, .int a2)] [] w) : zm_T zd_H d mX8_readsPart Q 50 [(0, .ref 0), (1, .int a1), (2, .int a2)] [.int s0] w := by
  refine zm_if_eq 67 dX8_readsPart_50 (by decide) (fun h => ?_) (fun h => ?_)
  · refine zm_sub [] rfl ?_
    exact kt h
  · exact kf h
theorem gX8_readsPart_53 {d : Nat} {Q : Value → zm_S → Prop} {w : zm_S} {a1 : Int32} {a2 : Int32} {Q' : Value → zm_S → Prop} (hC : zm_C zd_H d mX8_ahead [.ref 0, .int ((1 : Int32) <<< (a1 &&& 31))] w Q') (k : ∀ (r : Int32) (u : zm_S), Q' (.int r) u → zm_T zd_H (d + 1) mX8_readsPart Q 60 [(0, .ref 0), (1, .int a1), (2, .int a2)] [.int r] u) : zm_T zd_H (d + 1) mX8_readsPart Q 53 [(0, .ref 0), (1, .int a1), (2, .int a2)] [] w := by
  refine zm_aload_n (x := 0) 0 dX8_readsPart_53 rfl rfl ?_
  refine zm_iconst dX8_readsPart_54 (v := (1 : Int32)) (by decide) ?_
  refine zm_iload_n (x := a1) 1 dX8_readsPart_55 rfl rfl ?_
  refine zm_ishl dX8_readsPart_56 ?_
  refine zm_callVi (as := [.int ((1 : Int32) <<< (a1 &&& 31))]) (rest := []) dX8_readsPart_57 rfl mtX8_ahead lkX8_160 zd_H0 (C := RX8) rfl rfl rfl (Nat.le_of_ble_eq_true rfl) hC rfl (fun r u hq => ?_)
  exact k r u hq
theorem gX8_readsPart_60 {d : Nat} {Q : Value → zm_S → Prop} {w : zm_S} {a1 : Int32} {a2 : Int32} {s0 : Int32} {Q' : Value → zm_S → Prop} (hC : zm_C zd_H d mX8_isIn [.int s0, .int a2] w Q') (k : ∀ (r : Int32) (u : zm_S), Q' (.int r) u → zm_T zd_H (d + 1) mX8_readsPart Q 64 [(0, .ref 0), (1, .int a1), (2, .int a2)] [.int r] u) : zm_T zd_H (d + 1) mX8_readsPart Q 60 [(0, .ref 0), (1, .int a1), (2, .int a2)] [.int s0] w := by
  refine zm_iload_n (x := a2) 2 dX8_readsPart_60 rfl rfl ?_
  refine zm_callSz (as := [.int s0, .int a2]) (rest := []) dX8_readsPart_61 rfl mtX8_isIn lkX8_153 rfl (Nat.le_of_ble_eq_true rfl) hC rfl (fun r u hq => ?_)
  exact k r u hq
theorem gX8_readsPart_64 {d : Nat} {Q : Value → zm_S → Prop} {w : zm_S} {a1 : Int32} {a2 : Int32} {s0 : Int32} (kt : s0 = 0 → zm_T zd_H d mX8_readsPart Q 69 [(0, .ref 0), (1, .int a1), (2, .int a2)] [] w) (kf : ¬ s0 = 0 → zm_T zd_H d mX8_readsPart Q 67 [] [] w) : zm_T zd_H d mX8_readsPart Q 64 [(0, .ref 0), (1, .int a1), (2, .int a2)] [.int s0] w := by
  refine zm_if_eq 69 dX8_readsPart_64 (by decide) (fun h => ?_) (fun h => ?_)
  · exact kt h
  · refine zm_sub [] rfl ?_
    exact kf h
theorem gX8_readsPart_67 {d : Nat} {Q : Value → zm_S → Prop} {w : zm_S} (k : Q (.int (0 : Int32)) w) : zm_T zd_H d mX8_readsPart Q 67 [] [] w := by
  refine zm_iconst dX8_readsPart_67 (v := (0 : Int32)) (by decide) ?_
  exact zm_zreturn dX8_readsPart_68 rfl (by decide) k
theorem gX8_readsPart_69 {d : Nat} {Q : Value → zm_S → Prop} {w : zm_S} {a1 : Int32} {a2 : Int32} (hi85 : vp_in a2 7) (hi90 : vp_in a2 7) (k : Q (.int (1 : Int32)) (zm_pi (zm_pi (zm_pi w 0 14 ((w.1 0 14) + (1 : Int32))) 12 (a2).toNatClampNeg ((w.1 12 (a2).toNatClampNeg) ||| ((1 : Int32) <<< (a1 &&& 31)))) 0 15 ((w.1 0 15) + (1 : Int32)))) : zm_T zd_H d mX8_readsPart Q 69 [(0, .ref 0), (1, .int a1), (2, .int a2)] [] w := by
  refine zm_aload_n (x := 0) 0 dX8_readsPart_69 rfl rfl ?_
  refine zm_dup dX8_readsPart_70 rfl ?_
  refine zm_getf (v := .int (w.1 0 14)) (j := 14) dX8_readsPart_71 clX8 flX8_144 (Nat.le_of_ble_eq_true rfl) zd_H0 rfl rfl ?_
  refine zm_iconst dX8_readsPart_74 (v := (1 : Int32)) (by decide) ?_
  refine zm_iadd dX8_readsPart_75 ?_
  refine zm_putf (j := 14) (ty := .int) dX8_readsPart_76 clX8 flX8_144 (Nat.le_of_ble_eq_true rfl) zd_H0 rfl rfl (by decide +kernel) rfl rfl ?_
  refine zm_aload_n (x := 0) 0 dX8_readsPart_79 rfl rfl ?_
  refine zm_getf (v := .ref 12) (j := 16) dX8_readsPart_80 clX8 flX8_43 (Nat.le_of_ble_eq_true rfl) zd_H0 rfl rfl ?_
  refine zm_iload_n (x := a2) 2 dX8_readsPart_83 rfl rfl ?_
  refine zm_dup2 dX8_readsPart_84 rfl rfl ?_
  refine zm_iald dX8_readsPart_85 zd_H12 hi85 ?_
  refine zm_iconst dX8_readsPart_86 (v := (1 : Int32)) (by decide) ?_
  refine zm_iload_n (x := a1) 1 dX8_readsPart_87 rfl rfl ?_
  refine zm_ishl dX8_readsPart_88 ?_
  refine zm_ior dX8_readsPart_89 ?_
  refine zm_iast dX8_readsPart_90 zd_H12 hi90 ?_
  refine zm_aload_n (x := 0) 0 dX8_readsPart_91 rfl rfl ?_
  refine zm_dup dX8_readsPart_92 rfl ?_
  refine zm_getf (v := .int (w.1 0 15)) (j := 15) dX8_readsPart_93 clX8 flX8_147 (Nat.le_of_ble_eq_true rfl) zd_H0 rfl rfl ?_
  refine zm_iconst dX8_readsPart_96 (v := (1 : Int32)) (by decide) ?_
  refine zm_iadd dX8_readsPart_97 ?_
  refine zm_putf (j := 15) (ty := .int) dX8_readsPart_98 clX8 flX8_147 (Nat.le_of_ble_eq_true rfl) zd_H0 rfl rfl (by decide +kernel) rfl rfl ?_
  refine zm_iconst dX8_readsPart_101 (v := (1 : Int32)) (by decide) ?_
  exact zm_zreturn dX8_readsPart_102 rfl (by decide) k
theorem gX8_reads_0 {d : Nat} {Q : Value → zm_S → Prop} {w : zm_S} {Q' : Value → zm_S → Prop} (hC : zm_C zd_H d mX8_clears [.ref 0] (zm_pi w 0 14 (0 : Int32)) Q') (k : ∀ (u : zm_S), Q' .null u → zm_T zd_H (d + 1) mX8_reads Q 9 [(0, .ref 0)] [] u) : zm_T zd_H (d + 1) mX8_reads Q 0 [(0, .ref 0)] [] w := by
  refine zm_aload_n (x := 0) 0 dX8_reads_0 rfl rfl ?_
  refine zm_iconst dX8_reads_1 (v := (0 : Int32)) (by decide) ?_
  refine zm_putf (j := 14) (ty := .int) dX8_reads_2 clX8 flX8_144 (Nat.le_of_ble_eq_true rfl) zd_H0 rfl rfl (by decide +kernel) rfl rfl ?_
  refine zm_aload_n (x := 0) 0 dX8_reads_5 rfl rfl ?_
  refine zm_callVv (as := []) (rest := []) dX8_reads_6 rfl mtX8_clears lkX8_163 zd_H0 (C := RX8) rfl rfl rfl (Nat.le_of_ble_eq_true rfl) hC rfl (fun u hq => ?_)
  exact k u hq
theorem gX8_reads_9 {d : Nat} {Q : Value → zm_S → Prop} {w : zm_S} (kt : (w.1 0 13) ≤ 0 → zm_T zd_H d mX8_reads Q 20 [(0, .ref 0)] [] w) (kf : ¬ (w.1 0 13) ≤ 0 → zm_T zd_H d mX8_reads Q 16 [(0, .ref 0)] [] w) : zm_T zd_H d mX8_reads Q 9 [(0, .ref 0)] [] w := by
  refine zm_aload_n (x := 0) 0 dX8_reads_9 rfl rfl ?_
  refine zm_getf (v := .int (w.1 0 13)) (j := 13) dX8_reads_10 clX8 flX8_141 (Nat.le_of_ble_eq_true rfl) zd_H0 rfl rfl ?_
  refine zm_if_le 20 dX8_reads_13 (by decide) (fun h => ?_) (fun h => ?_)
  · exact kt h
  · exact kf h
theorem gX8_reads_16 {d : Nat} {Q : Value → zm_S → Prop} {w : zm_S} (k : zm_T zd_H d mX8_reads Q 21 [(0, .ref 0)] [.int (1 : Int32)] w) : zm_T zd_H d mX8_reads Q 16 [(0, .ref 0)] [] w := by
  refine zm_iconst dX8_reads_16 (v := (1 : Int32)) (by decide) ?_
  refine zm_goto 21 dX8_reads_17 (by decide) ?_
  exact k
theorem gX8_reads_20 {d : Nat} {Q : Value → zm_S → Prop} {w : zm_S} (k : zm_T zd_H d mX8_reads Q 21 [(0, .ref 0)] [.int (0 : Int32)] w) : zm_T zd_H d mX8_reads Q 20 [(0, .ref 0)] [] w := by
  refine zm_iconst dX8_reads_20 (v := (0 : Int32)) (by decide) ?_
  exact k
theorem gX8_reads_21 {d : Nat} {Q : Value → zm_S → Prop} {w : zm_S} {s0 : Int32} (k : zm_T zd_H d mX8_reads Q 22 [(0, .ref 0), (1, .int s0)] [] w) : zm_T zd_H d mX8_reads Q 21 [(0, .ref 0)] [.int s0] w := by
  refine zm_istore_n dX8_reads_21 rfl (Nat.le_of_ble_eq_true rfl) (ls' := [(1, .int s0), (0, .ref 0)]) rfl ?_
  refine zm_sub [1, 0] rfl ?_
  exact k
theorem gX8_reads_22 {d : Nat} {Q : Value → zm_S → Prop} {w : zm_S} {a1 : Int32} (kt : a1 = 0 → zm_T zd_H d mX8_reads Q 81 [] [] w) (kf : ¬ a1 = 0 → zm_T zd_H d mX8_reads Q 26 [(0, .ref 0)] [] w) : zm_T zd_H d mX8_reads Q 22 [(0, .ref 0), (1, .int a1)] [] w := by
  refine zm_iload_n (x := a1) 1 dX8_reads_22 rfl rfl ?_
  refine zm_if_eq 81 dX8_reads_23 (by decide) (fun h => ?_) (fun h => ?_)
  · refine zm_sub [] rfl ?_
    exact kt h
  · refine zm_sub [0] rfl ?_
    exact kf h
theorem gX8_reads_26 {d : Nat} {Q : Value → zm_S → Prop} {w : zm_S} {Q' : Value → zm_S → Prop} (hC : zm_C zd_H d mX8_readsPart [.ref 0] w Q') (k : ∀ (r : Int32) (u : zm_S), Q' (.int r) u → zm_T zd_H (d + 1) mX8_reads Q 30 [(0, .ref 0)] [.int r] u) : zm_T zd_H (d + 1) mX8_reads Q 26 [(0, .ref 0)] [] w := by
  refine zm_aload_n (x := 0) 0 dX8_reads_26 rfl rfl ?_
  refine zm_callVz (as := []) (rest := []) dX8_reads_27 rfl mtX8_readsPart lkX8_166 zd_H0 (C := RX8) rfl rfl rfl (Nat.le_of_ble_eq_true rfl) hC rfl (fun r u hq => ?_)
  exact k r u hq
theorem gX8_reads_30 {d : Nat} {Q : Value → zm_S → Prop} {w : zm_S} {s0 : Int32} (kt : ¬ s0 = 0 → zm_T zd_H d mX8_reads Q 42 [(0, .ref 0)] [] w) (kf : s0 = 0 → zm_T zd_H d mX8_reads Q 33 [(0, .ref 0)] [] w) : zm_T zd_H d mX8_reads Q 30 [(0, .ref 0)] [.int s0] w := by
  refine zm_if_ne 42 dX8_reads_30 (by decide) (fun h => ?_) (fun h => ?_)
  · exact kt h
  · exact kf h
theorem gX8_reads_33 {d : Nat} {Q : Value → zm_S → Prop} {w : zm_S} {Q' : Value → zm_S → Prop} (hC : zm_C zd_H d mX8_clears [.ref 0] w Q') (k : ∀ (u : zm_S), Q' .null u → zm_T zd_H (d + 1) mX8_reads Q 37 [(0, .ref 0)] [] u) : zm_T zd_H (d + 1) mX8_reads Q 33 [(0, .ref 0)] [] w := by
  refine zm_aload_n (x := 0) 0 dX8_reads_33 rfl rfl ?_
  refine zm_callVv (as := []) (rest := []) dX8_reads_34 rfl mtX8_clears lkX8_163 zd_H0 (C := RX8) rfl rfl rfl (Nat.le_of_ble_eq_true rfl) hC rfl (fun u hq => ?_)
  exact k u hq
theorem gX8_reads_37 {d : Nat} {Q : Value → zm_S → Prop} {w : zm_S} (k : Q (.int (w.1 0 14)) w) : zm_T zd_H d mX8_reads Q 37 [(0, .ref 0)] [] w := by
  refine zm_aload_n (x := 0) 0 dX8_reads_37 rfl rfl ?_
  refine zm_getf (v := .int (w.1 0 14)) (j := 14) dX8_reads_38 clX8 flX8_144 (Nat.le_of_ble_eq_true rfl) zd_H0 rfl rfl ?_
  exact zm_ireturn dX8_reads_41 rfl k
theorem gX8_reads_42 {d : Nat} {Q : Value → zm_S → Prop} {w : zm_S} (kt : (w.1 0 13) ≤ (w.1 0 14) → zm_T zd_H d mX8_reads Q 57 [(0, .ref 0)] [] w) (kf : ¬ (w.1 0 13) ≤ (w.1 0 14) → zm_T zd_H d mX8_reads Q 53 [(0, .ref 0)] [] w) : zm_T zd_H d mX8_reads Q 42 [(0, .ref 0)] [] w := by
  refine zm_aload_n (x := 0) 0 dX8_reads_42 rfl rfl ?_
  refine zm_getf (v := .int (w.1 0 14)) (j := 14) dX8_reads_43 clX8 flX8_144 (Nat.le_of_ble_eq_true rfl) zd_H0 rfl rfl ?_
  refine zm_aload_n (x := 0) 0 dX8_reads_46 rfl rfl ?_
  refine zm_getf (v := .int (w.1 0 13)) (j := 13) dX8_reads_47 clX8 flX8_141 (Nat.le_of_ble_eq_true rfl) zd_H0 rfl rfl ?_
  refine zm_icmp_ge 57 dX8_reads_50 (by decide) (fun h => ?_) (fun h => ?_)
  · exact kt h
  · exact kf h
theorem gX8_reads_53 {d : Nat} {Q : Value → zm_S → Prop} {w : zm_S} (k : zm_T zd_H d mX8_reads Q 58 [(0, .ref 0)] [.int (1 : Int32)] w) : zm_T zd_H d mX8_reads Q 53 [(0, .ref 0)] [] w := by
  refine zm_iconst dX8_reads_53 (v := (1 : Int32)) (by decide) ?_
  refine zm_goto 58 dX8_reads_54 (by decide) ?_
  exact k
theorem gX8_reads_57 {d : Nat} {Q : Value → zm_S → Prop} {w : zm_S} (k : zm_T zd_H d mX8_reads Q 58 [(0, .ref 0)] [.int (0 : Int32)] w) : zm_T zd_H d mX8_reads Q 57 [(0, .ref 0)] [] w := by
  refine zm_iconst dX8_reads_57 (v := (0 : Int32)) (by decide) ?_
  exact k
theorem gX8_reads_58 {d : Nat} {Q : Value → zm_S → Prop} {w : zm_S} {s0 : Int32} (kt : s0 = 0 → zm_T zd_H d mX8_reads Q 22 [(0, .ref 0), (1, .int s0)] [] w) (kf : ¬ s0 = 0 → zm_T zd_H d mX8_reads Q 63 [(0, .ref 0), (1, .int s0)] [] w) : zm_T zd_H d mX8_reads Q 58 [(0, .ref 0)] [.int s0] w := by
  refine zm_istore_n dX8_reads_58 rfl (Nat.le_of_ble_eq_true rfl) (ls' := [(1, .int s0), (0, .ref 0)]) rfl ?_
  refine zm_iload_n (x := s0) 0 dX8_reads_59 rfl rfl ?_
  refine zm_if_eq 22 dX8_reads_60 (by decide) (fun h => ?_) (fun h => ?_)
  · refine zm_sub [1, 0] rfl ?_
    exact kt h
  · refine zm_sub [1, 0] rfl ?_
    exact kf h
theorem gX8_reads_63 {d : Nat} {Q : Value → zm_S → Prop} {w : zm_S} {a1 : Int32} {Q' : Value → zm_S → Prop} (hC : zm_C zd_H d mX8_takes [.ref 0, .int (59 : Int32)] w Q') (k : ∀ (r : Int32) (u : zm_S), Q' (.int r) u → zm_T zd_H (d + 1) mX8_reads Q 69 [(0, .ref 0), (1, .int a1)] [.int r] u) : zm_T zd_H (d + 1) mX8_reads Q 63 [(0, .ref 0), (1, .int a1)] [] w := by
  refine zm_aload_n (x := 0) 0 dX8_reads_63 rfl rfl ?_
  refine zm_bipush dX8_reads_64 (v := (59 : Int32)) (by decide) ?_
  refine zm_callVz (as := [.int (59 : Int32)]) (rest := []) dX8_reads_66 rfl mtX8_takes lkX8_157 zd_H0 (C := RX8) rfl rfl rfl (Nat.le_of_ble_eq_true rfl) hC rfl (fun r u hq => ?_)
  exact k r u hq
theorem gX8_reads_69 {d : Nat} {Q : Value → zm_S → Prop} {w : zm_S} {a1 : Int32} {s0 : Int32} (kt : ¬ s0 = 0 → zm_T zd_H d mX8_reads Q 22 [(0, .ref 0), (1, .int a1)] [] w) (kf : s0 = 0 → zm_T zd_H d mX8_reads Q 72 [(0, .ref 0)] [] w) : zm_T zd_H d mX8_reads Q 69 [(0, .ref 0), (1, .int a1)] [.int s0] w := by
  refine zm_if_ne 22 dX8_reads_69 (by decide) (fun h => ?_) (fun h => ?_)
  · exact kt h
  · refine zm_sub [0] rfl ?_
    exact kf h
theorem gX8_reads_72 {d : Nat} {Q : Value → zm_S → Prop} {w : zm_S} {Q' : Value → zm_S → Prop} (hC : zm_C zd_H d mX8_clears [.ref 0] w Q') (k : ∀ (u : zm_S), Q' .null u → zm_T zd_H (d + 1) mX8_reads Q 76 [(0, .ref 0)] [] u) : zm_T zd_H (d + 1) mX8_reads Q 72 [(0, .ref 0)] [] w := by
  refine zm_aload_n (x := 0) 0 dX8_reads_72 rfl rfl ?_
  refine zm_callVv (as := []) (rest := []) dX8_reads_73 rfl mtX8_clears lkX8_163 zd_H0 (C := RX8) rfl rfl rfl (Nat.le_of_ble_eq_true rfl) hC rfl (fun u hq => ?_)
  exact k u hq
theorem gX8_reads_76 {d : Nat} {Q : Value → zm_S → Prop} {w : zm_S} (k : Q (.int (w.1 0 14)) w) : zm_T zd_H d mX8_reads Q 76 [(0, .ref 0)] [] w := by
  refine zm_aload_n (x := 0) 0 dX8_reads_76 rfl rfl ?_
  refine zm_getf (v := .int (w.1 0 14)) (j := 14) dX8_reads_77 clX8 flX8_144 (Nat.le_of_ble_eq_true rfl) zd_H0 rfl rfl ?_
  exact zm_ireturn dX8_reads_80 rfl k
theorem gX8_reads_81 {d : Nat} {Q : Value → zm_S → Prop} {w : zm_S} (k : Q (.int (-1 : Int32)) w) : zm_T zd_H d mX8_reads Q 81 [] [] w := by
  refine zm_iconst dX8_reads_81 (v := (-1 : Int32)) (by decide) ?_
  exact zm_ireturn dX8_reads_82 rfl k
